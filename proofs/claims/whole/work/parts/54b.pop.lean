/-! a set that goes by a pair's word loses a state at least -/
def cbt (S : Nat) : Nat → Nat
  | 0 => 0
  | m + 1 => cbt S m + (if S.testBit m = true then 1 else 0)
theorem cbt_pop : ∀ x, x < 4096 → cbt x 12 = pop x := dec64 (by decide +kernel)
theorem or_has {A t : Nat} (h : A.testBit t = true) : A ||| 2 ^ t = A := by
  apply Nat.eq_of_testBit_eq
  intro i
  rw [Nat.testBit_or, Nat.testBit_two_pow]
  by_cases c : t = i
  · subst c; rw [h]; simp
  · simp [c]
theorem im_le {φ : Nat → Nat} {S : Nat} : ∀ m, (∀ q, S.testBit q = true → φ q < 12) → orf (fun q => 2 ^ φ q) S m < 4096 ∧ pop (orf (fun q => 2 ^ φ q) S m) ≤ cbt S m
  | 0, _ => ⟨by show 0 < 4096; omega, by show pop 0 ≤ 0; decide⟩
  | m + 1, h => by
    obtain ⟨a, b⟩ := im_le (φ := φ) (S := S) m h
    rw [orf, cbt]
    by_cases hb : S.testBit m = true
    · rw [if_pos hb, if_pos hb]
      have h1 := pop_or1 _ a (φ m) (h m hb)
      have h2 : 2 ^ φ m < 2 ^ 12 := Nat.pow_lt_pow_right (by decide) (h m hb)
      exact ⟨Nat.or_lt_two_pow (n := 12) a h2, by omega⟩
    · rw [if_neg hb, if_neg hb, Nat.or_zero]
      exact ⟨a, by omega⟩
theorem im_lt {φ : Nat → Nat} {S p q : Nat} (hpq : p < q) (hp : S.testBit p = true) (hq : S.testBit q = true) (e : φ p = φ q) (h : ∀ q, S.testBit q = true → φ q < 12) : ∀ m, q < m → pop (orf (fun q => 2 ^ φ q) S m) + 1 ≤ cbt S m
  | 0, hm => absurd hm (by omega)
  | m + 1, hm => by
    obtain ⟨a, b⟩ := im_le (φ := φ) (S := S) m h
    rw [orf, cbt]
    by_cases c : q = m
    · subst c
      have : (orf (fun q => 2 ^ φ q) S q).testBit (φ q) = true := orf_bit.mpr ⟨p, hpq, hp, by show (2 ^ φ p).testBit (φ q) = true; rw [e, Nat.testBit_two_pow]; exact decide_eq_true rfl⟩
      rw [if_pos hq, if_pos hq, or_has this]
      omega
    · have ih := im_lt hpq hp hq e h m (by omega)
      by_cases hb : S.testBit m = true
      · rw [if_pos hb, if_pos hb]
        have h1 := pop_or1 _ a (φ m) (h m hb)
        omega
      · rw [if_neg hb, if_neg hb, Nat.or_zero]
        omega
theorem stp_orf {n S l : Nat} {mv : Nat → Int32} (h : stp n mv S l ≠ 0) : stp n mv S l = orf (fun q => mt mv q l) S n := by
  unfold stp at h ⊢
  by_cases z : orf (fun q => mt mv q l) S n < 4096
  · rw [if_pos z]
  · exact absurd (if_neg z) h
theorem merge_pop {n k S p q d : Nat} {mv : Nat → Int32} {c : Nat → Nat} (hn : n ≤ 12) (hm : MV n k mv) (hS : S < 2 ^ n) (hp : S.testBit p = true) (hq : S.testBit q = true) (hpq : p ≠ q) (hd : exa mv k d p q) (hw : WRD (stp n mv) one k (2 ^ p ||| 2 ^ q) d c) (hpos : 0 < stw (stp n mv) c S d) : pop (stw (stp n mv) c S d) < pop S := by
  have h12 : 2 ^ n ≤ 2 ^ 12 := Nat.pow_le_pow_right (by decide) hn
  obtain ⟨X, hX0, hX⟩ := hw
  have hlt : ∀ x, S.testBit x = true → x < n := fun x hb => by
    rcases Nat.lt_or_ge x n with z | z
    · exact z
    · have := Nat.ge_two_pow_of_testBit hb
      have : 2 ^ n ≤ 2 ^ x := Nat.pow_le_pow_right (by decide) z
      omega
  have hne : ∀ i, i ≤ d → stw (stp n mv) c S i ≠ 0 := fun i hi e => by
    have := stw_0 e (d - i)
    rw [show i + (d - i) = d by omega] at this
    omega
  have key : ∀ i, i ≤ d → ∃ φ : Nat → Nat, (∀ x, S.testBit x = true → φ x < n) ∧ (∀ t, (stw (stp n mv) c S i).testBit t = true ↔ ∃ x, S.testBit x = true ∧ φ x = t) ∧ X i = 2 ^ φ p ||| 2 ^ φ q := by
    intro i
    induction i with
    | zero => exact fun _ => ⟨fun x => x, hlt, fun t => ⟨fun h => ⟨t, h, rfl⟩, fun ⟨x, h, e⟩ => by subst e; exact h⟩, hX0⟩
    | succ i ih =>
      intro hi
      obtain ⟨φ, h1, h2, h3⟩ := ih (by omega)
      obtain ⟨x1, x2, x3, x4, x5⟩ := hX i (by omega)
      have hT := hne i (by omega)
      have hT' : stp n mv (stw (stp n mv) c S i) (c i) ≠ 0 := by
        have := hne (i + 1) hi
        rw [stw, if_neg hT] at this
        exact this
      have es : stw (stp n mv) c S (i + 1) = stp n mv (stw (stp n mv) c S i) (c i) := by rw [stw, if_neg hT]
      have hmiss : ∀ x, S.testBit x = true → mv (φ x * 4 + c i) ≠ -1 := fun x hx z => hT' (stp_miss (h1 x hx) ((h2 _).mpr ⟨x, hx, rfl⟩) z)
      have eo : stp n mv (stw (stp n mv) c S i) (c i) = orf (fun q => mt mv q (c i)) (stw (stp n mv) c S i) n := stp_orf hT'
      have hmt : ∀ x, S.testBit x = true → mt mv (φ x) (c i) = 2 ^ tg mv (φ x) (c i) := fun x hx => mt_t (by have := (tg_of hn hm (h1 x hx) x1 (hmiss x hx)).1; omega) (tg_of hn hm (h1 x hx) x1 (hmiss x hx)).2
      refine ⟨fun x => tg mv (φ x) (c i), fun x hx => (tg_of hn hm (h1 x hx) x1 (hmiss x hx)).1, fun t => ?_, ?_⟩
      · rw [es, eo, orf_bit]
        constructor
        · rintro ⟨y, hy, e1, e2⟩
          obtain ⟨x, hx, e3⟩ := (h2 y).mp e1
          subst e3
          have e2' : (mt mv (φ x) (c i)).testBit t = true := e2
          rw [hmt x hx, Nat.testBit_two_pow, decide_eq_true_iff] at e2'
          exact ⟨x, hx, e2'⟩
        · rintro ⟨x, hx, e⟩
          refine ⟨φ x, h1 x hx, (h2 _).mpr ⟨x, hx, rfl⟩, ?_⟩
          show (mt mv (φ x) (c i)).testBit t = true
          rw [hmt x hx, Nat.testBit_two_pow]
          exact decide_eq_true e
      · rw [← x2, h3]
        exact stp_pair hn hm (h1 p hp) (h1 q hq) x1 (hmiss p hp) (hmiss q hq)
  obtain ⟨φ, h1, h2, h3⟩ := key d (Nat.le_refl _)
  have hd0 : 0 < d := by
    rcases Nat.eq_zero_or_pos d with z | z
    · subst z
      exact absurd (of_decide_eq_true hd.1 : p = q) hpq
    · exact z
  have e : φ p = φ q := by
    obtain ⟨-, -, -, x4, -⟩ := hX (d - 1) (by omega)
    rw [show d - 1 + 1 = d by omega, Nat.sub_self, h3] at x4
    have x4' : one (2 ^ φ p ||| 2 ^ φ q) = true := x4
    exact (pair_one _ (by have := h1 p hp; omega) _ (by have := h1 q hq; omega)).mp (of_decide_eq_true x4')
  have et : stw (stp n mv) c S d = orf (fun x => 2 ^ φ x) S 12 := by
    apply Nat.eq_of_testBit_eq
    intro t
    have hiff : (stw (stp n mv) c S d).testBit t = true ↔ (orf (fun x => 2 ^ φ x) S 12).testBit t = true := by
      rw [h2, orf_bit]
      constructor
      · rintro ⟨x, hx, e3⟩
        refine ⟨x, by have := hlt x hx; omega, hx, ?_⟩
        show (2 ^ φ x).testBit t = true
        rw [Nat.testBit_two_pow]; exact decide_eq_true e3
      · rintro ⟨x, -, hx, e3⟩
        have e3' : (2 ^ φ x).testBit t = true := e3
        rw [Nat.testBit_two_pow, decide_eq_true_iff] at e3'
        exact ⟨x, hx, e3'⟩
    cases z : (orf (fun x => 2 ^ φ x) S 12).testBit t
    · cases y : (stw (stp n mv) c S d).testBit t
      · rfl
      · rw [hiff.mp y] at z; cases z
    · exact hiff.mpr z
  have h12' : ∀ x, S.testBit x = true → φ x < 12 := fun x hx => by have := h1 x hx; omega
  have a1 := hlt p hp
  have a2 := hlt q hq
  rw [et, ← cbt_pop S (by omega)]
  rcases Nat.lt_or_gt_of_ne hpq with z | z
  · exact im_lt z hp hq e h12' 12 (by omega)
  · exact im_lt z hq hp e.symm h12' 12 (by omega)
