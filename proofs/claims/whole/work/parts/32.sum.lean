/-! sums over a range; over a queue that holds each once -/
def sm (f : Nat → Nat) : Nat → Nat
  | 0 => 0
  | n + 1 => sm f n + f n
theorem sm_congr {f g : Nat → Nat} : ∀ (n : Nat), (∀ i, i < n → f i = g i) → sm f n = sm g n
  | 0, _ => rfl
  | n + 1, h => by rw [sm, sm, sm_congr n (fun i hi => h i (by omega)), h n (by omega)]
theorem sm_zero {f : Nat → Nat} : ∀ (n : Nat), (∀ i, i < n → f i = 0) → sm f n = 0
  | 0, _ => rfl
  | n + 1, h => by rw [sm, sm_zero n (fun i hi => h i (by omega)), h n (by omega)]
theorem sm_add {f g : Nat → Nat} : ∀ (n : Nat), sm (fun i => f i + g i) n = sm f n + sm g n
  | 0 => rfl
  | n + 1 => by rw [sm, sm, sm, sm_add n]; omega
theorem sm_mulr {f : Nat → Nat} {c : Nat} : ∀ (n : Nat), sm (fun i => f i * c) n = sm f n * c
  | 0 => by simp [sm]
  | n + 1 => by rw [sm, sm, sm_mulr n, Nat.add_mul]
theorem sm_mull {f : Nat → Nat} {c : Nat} : ∀ (n : Nat), sm (fun i => c * f i) n = c * sm f n
  | 0 => by simp [sm]
  | n + 1 => by rw [sm, sm, sm_mull n, Nat.mul_add]
theorem sm_le {f g : Nat → Nat} : ∀ (n : Nat), (∀ i, i < n → f i ≤ g i) → sm f n ≤ sm g n
  | 0, _ => Nat.le_refl _
  | n + 1, h => by
    rw [sm, sm]
    exact Nat.add_le_add (sm_le n (fun i hi => h i (by omega))) (h n (by omega))
theorem sm_swap {f : Nat → Nat → Nat} {B : Nat} : ∀ (A : Nat), sm (fun i => sm (fun j => f i j) B) A = sm (fun j => sm (fun i => f i j) A) B
  | 0 => (sm_zero B (fun _ _ => rfl)).symm
  | A + 1 => by
    rw [sm, sm_swap A, ← sm_add]
    rfl
theorem sm_one {c x : Nat} : ∀ (M : Nat), x < M → sm (fun S => if S = x then c else 0) M = c
  | 0, h => absurd h (by omega)
  | M + 1, h => by
    rw [sm]
    by_cases e : M = x
    · rw [if_pos e, sm_zero M (fun i hi => if_neg (by omega)), Nat.zero_add]
    · rw [if_neg e, sm_one M (by omega)]; rfl
theorem sm_at {f : Nat → Nat} {x : Nat} (M : Nat) (h : x < M) : f x ≤ sm f M := by
  have := sm_le (f := fun S => if S = x then f x else 0) (g := f) M (fun i _ => by
    by_cases e : i = x
    · subst e; rw [if_pos rfl]; exact Nat.le_refl _
    · rw [if_neg e]; exact Nat.zero_le _)
  rw [sm_one M h] at this
  exact this
/-- a sum over places that hold each number once is a sum over the numbers that they hold -/
theorem sm_img {g qd : Nat → Nat} {M : Nat} : ∀ (n : Nat) (p : Nat → Bool), (∀ i, i < n → qd i < M) → (∀ i j, i < j → j < n → qd i ≠ qd j) → (∀ S, S < M → (p S = true ↔ ∃ i, i < n ∧ qd i = S)) → sm (fun i => g (qd i)) n = sm (fun S => if p S = true then g S else 0) M
  | 0, p, _, _, hp => (sm_zero M (fun S hS => if_neg (fun q => by obtain ⟨i, hi, -⟩ := (hp S hS).mp q; omega))).symm
  | n + 1, p, h1, h2, hp => by
    have hx := h1 n (by omega)
    rw [sm, sm_img (g := g) n (fun S => p S && !decide (S = qd n)) (fun i hi => h1 i (by omega)) (fun i j hij hj => h2 i j hij (by omega)) (fun S hS => by
      constructor
      · intro q
        have q' : p S = true ∧ ¬ S = qd n := by simpa using q
        obtain ⟨i, hi, e⟩ := (hp S hS).mp q'.1
        refine ⟨i, ?_, e⟩
        have : i ≠ n := fun z => q'.2 (by rw [← z, e])
        omega
      · rintro ⟨i, hi, e⟩
        have a1 := (hp S hS).mpr ⟨i, by omega, e⟩
        have a2 : ¬ S = qd n := fun z => h2 i n hi (by omega) (e.trans z)
        simp [a1, a2])]
    have e3 : sm (fun S => if p S = true then g S else 0) M = sm (fun S => (if (p S && !decide (S = qd n)) = true then g S else 0) + if S = qd n then g (qd n) else 0) M := sm_congr M (fun S hS => by
      by_cases e : S = qd n
      · subst e
        have a1 := (hp _ hS).mpr ⟨n, by omega, rfl⟩
        simp [a1]
      · simp [e])
    rw [e3, sm_add, sm_one M hx]
theorem sm_queue {g qd : Nat → Nat} {n M : Nat} (h1 : ∀ i, i < n → qd i < M) (h2 : ∀ i j, i < j → j < n → qd i ≠ qd j) (h3 : ∀ S, S < M → (∀ i, i < n → qd i ≠ S) → g S = 0) : sm (fun i => g (qd i)) n = sm g M := by
  have hp : ∀ S, S < M → (((List.range n).any (fun i => qd i == S)) = true ↔ ∃ i, i < n ∧ qd i = S) := fun S _ => by simp [List.any_eq_true]
  rw [sm_img n (fun S => (List.range n).any (fun i => qd i == S)) h1 h2 hp]
  refine sm_congr M (fun S hS => ?_)
  by_cases c : ((List.range n).any (fun i => qd i == S)) = true
  · rw [if_pos c]
  · rw [if_neg c, h3 S hS (fun i hi e => c ((hp S hS).mpr ⟨i, hi, e⟩))]
/-! words at random, in numbers -/
/-- what set S gives to set T by one letter more -/
def giv (nx : Nat → Nat → Nat) (k : Nat) (s : Nat → Nat) (S T : Nat) : Nat := sm (fun l => if nx S l = T then s l else 0) k
def wch (nx : Nat → Nat → Nat) (k : Nat) (s : Nat → Nat) (M S0 : Nat) : Nat → Nat → Nat
  | 0, S => if S = S0 then 1 else 0
  | t + 1, T => if T = 0 then 0 else sm (fun S => wch nx k s M S0 t S * giv nx k s S T) M
theorem giv_sum {nx : Nat → Nat → Nat} {k M S : Nat} {s : Nat → Nat} (hx : ∀ l, l < k → nx S l < M) : sm (fun T => giv nx k s S T) M = sm s k := by
  unfold giv
  rw [sm_swap M]
  refine sm_congr k (fun l hl => ?_)
  have e : sm (fun T => if nx S l = T then s l else 0) M = sm (fun T => if T = nx S l then s l else 0) M := sm_congr M (fun T _ => by
    by_cases c : nx S l = T
    · rw [if_pos c, if_pos c.symm]
    · rw [if_neg c, if_neg (fun q => c q.symm)])
  rw [e, sm_one M (hx l hl)]
theorem wch_total {nx : Nat → Nat → Nat} {k M S0 : Nat} {s : Nat → Nat} (hS0 : S0 < M) (hx : ∀ S l, S < M → l < k → nx S l < M) : ∀ t, sm (wch nx k s M S0 t) M ≤ sm s k ^ t
  | 0 => by
    have e : sm (wch nx k s M S0 0) M = sm (fun S => if S = S0 then 1 else 0) M := rfl
    rw [e, sm_one M hS0, Nat.pow_zero]
    exact Nat.le_refl _
  | t + 1 => by
    have h1 : sm (wch nx k s M S0 (t + 1)) M ≤ sm (fun T => sm (fun S => wch nx k s M S0 t S * giv nx k s S T) M) M := sm_le M (fun T _ => by
      show (if T = 0 then 0 else _) ≤ _
      by_cases c : T = 0
      · rw [if_pos c]; exact Nat.zero_le _
      · rw [if_neg c]; exact Nat.le_refl _)
    rw [sm_swap M] at h1
    have h2 : sm (fun S => sm (fun T => wch nx k s M S0 t S * giv nx k s S T) M) M = sm (fun S => wch nx k s M S0 t S * sm s k) M := sm_congr M (fun S hS => by rw [sm_mull, giv_sum (fun l hl => hx S l hS hl)])
    rw [h2, sm_mulr] at h1
    rw [Nat.pow_succ]
    exact Nat.le_trans h1 (Nat.mul_le_mul_right _ (wch_total hS0 hx t))
theorem wch_bound {nx : Nat → Nat → Nat} {k M S0 t S : Nat} {s : Nat → Nat} (hS0 : S0 < M) (hx : ∀ S l, S < M → l < k → nx S l < M) (hk : k ≤ 4) (hs : ∀ l, l < k → s l ≤ 5) (ht : t ≤ 12) (hS : S < M) : wch nx k s M S0 t S < 2 ^ 63 := by
  have h1 := sm_at (f := wch nx k s M S0 t) M hS
  have h2 := wch_total (s := s) hS0 hx t
  have h3 : sm s k ≤ 20 := by
    have a := sm_le (f := s) (g := fun _ => 5) k hs
    have b : ∀ k, sm (fun _ => 5) k = 5 * k := fun k => by
      induction k with
      | zero => rfl
      | succ k ih => rw [sm, ih]; omega
    rw [b] at a
    omega
  have h4 : sm s k ^ t ≤ 20 ^ t := Nat.pow_le_pow_left h3 t
  have h5 : 20 ^ t ≤ 20 ^ 12 := Nat.pow_le_pow_right (by omega) ht
  have h6 : (20 : Nat) ^ 12 < 2 ^ 63 := by decide
  omega
