/-! the cheapest: what holds of sums, keys and settled sets, as numbers -/
def stl (b : BS) (s : Nat) : Prop := ∃ i, i < b.2.1 ∧ b.1 i = s
theorem stl_inb {b : BS} {s : Nat} : inb b s = true ↔ stl b s := inb_iff
def DI (S cur B : Nat) (b : BS) (K : Nat → Prop) (sm : Nat → Nat) : Prop :=
  (∀ x, K x → sm (x % 4096) ≠ 0 ∧ sm (x % 4096) ≤ x / 4096 + 1 ∧ cur ≤ x / 4096 ∧ (stl b (x % 4096) → sm (x % 4096) < x / 4096 + 1)) ∧
  (∀ s, sm s ≠ 0 → ¬ stl b s → K ((sm s - 1) * 4096 + s)) ∧
  (∀ i, i < b.2.1 → sm (b.1 i) ≠ 0 ∧ sm (b.1 i) ≤ cur + 1) ∧
  (∀ i j, i < j → j < b.2.1 → b.1 i ≠ b.1 j) ∧
  (∀ s, sm s ≠ 0 → 0 < s ∧ s < 4096 ∧ sm s ≤ B + 1 ∧ b.2.2.1 s < 4096 ∧ b.2.2.2 s < 4 ∧ 0 < b.2.2.1 s * 4 + b.2.2.2 s) ∧
  (b.2.2.1 S = 0 ∧ sm S ≠ 0 ∧ (0 < b.2.1 → b.1 0 = S)) ∧
  ∀ s, sm s ≠ 0 → s ≠ S → ∃ j, j < b.2.1 ∧ b.1 j = b.2.2.1 s ∧ ∀ i, i < b.2.1 → b.1 i = s → j < i
/-- one more settled -/
def bstl (b : BS) (s : Nat) : BS := (fun i => if i = b.2.1 then s else b.1 i, b.2.1 + 1, b.2.2.1, b.2.2.2)
/-- come to from another, by a letter -/
def bset (b : BS) (T S l : Nat) : BS := (b.1, b.2.1, fun X => if X = T then S else b.2.2.1 X, fun X => if X = T then l else b.2.2.2 X)
def sset (sm : Nat → Nat) (T v : Nat) : Nat → Nat := fun X => if X = T then v else sm X
theorem bstl_old {b : BS} {s i : Nat} (h : i < b.2.1) : (bstl b s).1 i = b.1 i := if_neg (by omega)
theorem bstl_new {b : BS} {s : Nat} : (bstl b s).1 b.2.1 = s := if_pos rfl
theorem bstl_stl {b : BS} {s X : Nat} : stl (bstl b s) X ↔ stl b X ∨ X = s := by
  constructor
  · rintro ⟨i, hi, e⟩
    have hi : i < b.2.1 + 1 := hi
    by_cases c : i = b.2.1
    · subst c; rw [bstl_new] at e; exact Or.inr e.symm
    · rw [bstl_old (by omega)] at e; exact Or.inl ⟨i, by omega, e⟩
  · rintro (⟨i, hi, e⟩ | e)
    · exact ⟨i, Nat.lt_succ_of_lt hi, by rw [bstl_old hi]; exact e⟩
    · exact ⟨b.2.1, Nat.lt_succ_self _, by rw [bstl_new]; exact e.symm⟩
section DIJ
variable {S cur B m : Nat} {b : BS} {K : Nat → Prop} {sm : Nat → Nat}
theorem DI.cnt (h : DI S cur B b K sm) : b.2.1 ≤ 4095 := fb_holes 4095 b.2.1 (fun i => b.1 i - 1) (fun i hi => by have := h.2.2.2.2.1 _ (h.2.2.1 i hi).1; omega) (fun i j hij hj => by
  have h1 := h.2.2.2.2.1 _ (h.2.2.1 i (by omega)).1
  have h2 := h.2.2.2.2.1 _ (h.2.2.1 j hj).1
  have h3 := h.2.2.2.1 i j hij hj
  omega)
theorem DI.start (h0 : 0 < S) (h1 : S < 4096) : DI S 0 0 (fun _ => 0, 0, fun _ => 0, fun _ => 1) (fun x => x = S) (fun s => if s = S then 1 else 0) := by
  have hs : ∀ s, (if s = S then 1 else 0) ≠ 0 → s = S := fun s h => by
    by_cases c : s = S
    · exact c
    · rw [if_neg c] at h; exact absurd rfl h
  have hno : ∀ s, ¬ stl ((fun _ => 0, 0, fun _ => 0, fun _ => 1) : BS) s := fun s h => by
    obtain ⟨i, hi, -⟩ := h
    have : i < 0 := hi
    omega
  refine ⟨fun x hx => ?_, fun s hs' _ => ?_, fun i hi => absurd hi (by show ¬ i < 0; omega), fun i j _ hj => absurd hj (by show ¬ j < 0; omega), fun s hs' => ?_, ⟨rfl, by show (if S = S then 1 else 0) ≠ 0; rw [if_pos rfl]; decide, fun z => absurd z (by show ¬ 0 < 0; omega)⟩, fun s hs' hne => absurd (hs s hs') hne⟩
  · have hx : x = S := hx
    have e : x % 4096 = S := by omega
    show (if x % 4096 = S then 1 else 0) ≠ 0 ∧ (if x % 4096 = S then 1 else 0) ≤ x / 4096 + 1 ∧ 0 ≤ x / 4096 ∧ (_ → (if x % 4096 = S then 1 else 0) < x / 4096 + 1)
    rw [if_pos e]
    exact ⟨by decide, by omega, by omega, fun z => absurd z (hno _)⟩
  · have e := hs s hs'
    show ((if s = S then 1 else 0) - 1) * 4096 + s = S
    rw [if_pos e]; omega
  · have e := hs s hs'
    show 0 < s ∧ s < 4096 ∧ (if s = S then 1 else 0) ≤ 0 + 1 ∧ 0 < 4096 ∧ 1 < 4 ∧ 0 < 0 * 4 + 1
    rw [if_pos e]
    omega
/-- the least key: its set is settled and it is stale, or it is settled now -/
theorem DI.key (h : DI S cur B b K sm) {x : Nat} (hx : K x) (hmin : ∀ y, K y → x ≤ y) : (sm (x % 4096) ≠ 0 ∧ 0 < x % 4096 ∧ x % 4096 < 4096) ∧ ((x / 4096 = sm (x % 4096) - 1 ∧ ¬ stl b (x % 4096)) ∨ (x / 4096 ≠ sm (x % 4096) - 1 ∧ stl b (x % 4096))) := by
  obtain ⟨d1, d2, d3, d4, d5, d6, d7⟩ := h
  obtain ⟨a1, a2, a3, a4⟩ := d1 x hx
  have a5 := d5 _ a1
  refine ⟨⟨a1, a5.1, a5.2.1⟩, ?_⟩
  by_cases c : stl b (x % 4096)
  · have := a4 c
    exact Or.inr ⟨by omega, c⟩
  · have := hmin _ (d2 _ a1 c)
    exact Or.inl ⟨by omega, c⟩
theorem DI.stale (h : DI S cur B b K sm) {x : Nat} (hst : stl b (x % 4096)) : DI S cur B b (fun y => K y ∧ y ≠ x) sm := by
  obtain ⟨d1, d2, d3, d4, d5, d6, d7⟩ := h
  refine ⟨fun y hy => d1 y hy.1, fun s hs hn => ⟨d2 s hs hn, fun e => ?_⟩, d3, d4, d5, d6, d7⟩
  have a := d5 s hs
  have : x % 4096 = s := by rw [← e]; omega
  rw [this] at hst
  exact hn hst
theorem DI.settle (h : DI S cur B b K sm) {x : Nat} (hx : K x) (hmin : ∀ y, K y → x ≤ y) (hv : x / 4096 = sm (x % 4096) - 1) (hns : ¬ stl b (x % 4096)) : DI S (x / 4096) B (bstl b (x % 4096)) (fun y => K y ∧ y ≠ x) sm := by
  obtain ⟨d1, d2, d3, d4, d5, d6, d7⟩ := h
  obtain ⟨a1, a2, a3, a4⟩ := d1 x hx
  have a5 := d5 _ a1
  generalize hs : x % 4096 = s at *
  refine ⟨fun y hy => ?_, fun t ht hn => ⟨d2 t ht (fun z => hn (bstl_stl.mpr (Or.inl z))), fun e => ?_⟩, fun i hi => ?_, fun i j hij hj => ?_, fun t ht => d5 t ht, ⟨d6.1, d6.2.1, fun _ => ?_⟩, fun t ht hne => ?_⟩
  · obtain ⟨b1, b2, b3, b4⟩ := d1 y hy.1
    have := hmin y hy.1
    refine ⟨b1, b2, by omega, fun z => ?_⟩
    rcases bstl_stl.mp z with z | z
    · exact b4 z
    · have hne := hy.2
      rw [z] at b2 ⊢
      omega
  · have a := d5 t ht
    have : x % 4096 = t := by rw [← e]; omega
    exact hn (bstl_stl.mpr (Or.inr (by omega)))
  · have hi : i < b.2.1 + 1 := hi
    by_cases c : i = b.2.1
    · subst c; rw [bstl_new]; exact ⟨a1, by omega⟩
    · rw [bstl_old (by omega)]
      have := d3 i (by omega)
      exact ⟨this.1, by omega⟩
  · have hj : j < b.2.1 + 1 := hj
    rw [bstl_old (show i < b.2.1 by omega)]
    by_cases c : j = b.2.1
    · subst c; rw [bstl_new]; exact fun e => hns ⟨i, by omega, e⟩
    · rw [bstl_old (by omega)]; exact d4 i j hij (by omega)
  · rcases Nat.eq_zero_or_pos b.2.1 with z | z
    · have : s = S := Classical.byContradiction fun c => by
        obtain ⟨j, hj, -⟩ := d7 s a1 c
        omega
      show (if 0 = b.2.1 then s else b.1 0) = S
      rw [if_pos z.symm]; exact this
    · rw [bstl_old z]; exact d6.2.2 z
  · obtain ⟨j, hj, e1, e2⟩ := d7 t ht hne
    refine ⟨j, Nat.lt_succ_of_lt hj, by rw [bstl_old hj]; exact e1, fun i hi e => ?_⟩
    have hi : i < b.2.1 + 1 := hi
    by_cases c : i = b.2.1
    · omega
    · rw [bstl_old (by omega)] at e; exact e2 i (by omega) e
theorem DI.up (h : DI S cur B b K sm) {B' : Nat} (hB : B ≤ B') : DI S cur B' b K sm := by
  obtain ⟨d1, d2, d3, d4, d5, d6, d7⟩ := h
  exact ⟨d1, d2, d3, d4, fun s hs => by have := d5 s hs; exact ⟨this.1, this.2.1, by omega, this.2.2.2⟩, d6, d7⟩
/-- a set that gets a lower sum isn't settled, and has no such key -/
theorem DI.fresh (h : DI S cur B b K sm) {to w : Nat} (hw : cur < w) (hc : sm to = 0 ∨ w + 1 < sm to) : ¬ stl b to ∧ (to < 4096 → ¬ K (w * 4096 + to)) := by
  obtain ⟨d1, d2, d3, d4, d5, d6, d7⟩ := h
  refine ⟨?_, fun h4 hk => ?_⟩
  · rintro ⟨i, hi, e⟩
    have := d3 i hi
    rw [e] at this
    omega
  · obtain ⟨a1, a2, -⟩ := d1 _ hk
    have e1 : (w * 4096 + to) % 4096 = to := by omega
    have e2 : (w * 4096 + to) / 4096 = w := by omega
    rw [e1] at a1 a2
    rw [e2] at a2
    omega
theorem DI.push (h : DI S cur B b K sm) {to w now l : Nat} (hc0 : 0 < b.2.1) (hnow : b.1 (b.2.1 - 1) = now) (ht0 : 0 < to) (ht : to < 4096) (hl : l < 4) (hw : cur < w) (hwB : w ≤ B) (hc : sm to = 0 ∨ w + 1 < sm to) : DI S cur B (bset b to now l) (fun y => K y ∨ y = w * 4096 + to) (sset sm to (w + 1)) := by
  obtain ⟨hns, -⟩ := h.fresh hw hc
  obtain ⟨d1, d2, d3, d4, d5, d6, d7⟩ := h
  have e1 : (w * 4096 + to) % 4096 = to := by omega
  have e2 : (w * 4096 + to) / 4096 = w := by omega
  have hn5 := d5 _ (d3 (b.2.1 - 1) (by omega)).1
  rw [hnow] at hn5
  have hstl : ∀ s, stl (bset b to now l) s ↔ stl b s := fun s => Iff.rfl
  have sto : sset sm to (w + 1) to = w + 1 := if_pos rfl
  have sne : ∀ s, s ≠ to → sset sm to (w + 1) s = sm s := fun s z => if_neg z
  have hSt : S ≠ to := fun z => hns ⟨0, hc0, (d6.2.2 hc0).trans z⟩
  have hq : ∀ i, i < b.2.1 → b.1 i ≠ to := fun i hi z => hns ⟨i, hi, z⟩
  refine ⟨fun y hy => ?_, fun s hs hn => ?_, fun i hi => ?_, d4, fun s hs => ?_, ⟨?_, ?_, d6.2.2⟩, fun s hs hne => ?_⟩
  · rcases hy with hy | hy
    · obtain ⟨a1, a2, a3, a4⟩ := d1 y hy
      by_cases c : y % 4096 = to
      · rw [c, sto]
        rw [c] at a1 a2
        exact ⟨by omega, by omega, a3, fun z => absurd z hns⟩
      · rw [sne _ c]; exact ⟨a1, a2, a3, a4⟩
    · rw [hy, e1, e2, sto]
      exact ⟨by omega, by omega, by omega, fun z => absurd z hns⟩
  · by_cases c : s = to
    · subst c
      rw [sto]
      exact Or.inr (by omega)
    · rw [sne s c] at hs ⊢
      exact Or.inl (d2 s hs hn)
  · show sset sm to (w + 1) (b.1 i) ≠ 0 ∧ sset sm to (w + 1) (b.1 i) ≤ cur + 1
    rw [sne _ (hq i hi)]
    exact d3 i hi
  · show 0 < s ∧ s < 4096 ∧ sset sm to (w + 1) s ≤ B + 1 ∧ (if s = to then now else b.2.2.1 s) < 4096 ∧ (if s = to then l else b.2.2.2 s) < 4 ∧ 0 < (if s = to then now else b.2.2.1 s) * 4 + (if s = to then l else b.2.2.2 s)
    by_cases c : s = to
    · subst c
      rw [if_pos rfl, if_pos rfl, sto]
      omega
    · rw [if_neg c, if_neg c, sne s c]
      rw [sne s c] at hs
      exact d5 s hs
  · show (if S = to then now else b.2.2.1 S) = 0
    rw [if_neg hSt]; exact d6.1
  · rw [sne S hSt]; exact d6.2.1
  · by_cases c : s = to
    · refine ⟨b.2.1 - 1, by show b.2.1 - 1 < b.2.1; omega, ?_, fun i hi e => absurd (e.trans c) (hq i hi)⟩
      show b.1 (b.2.1 - 1) = if s = to then now else b.2.2.1 s
      rw [if_pos c]; exact hnow
    · rw [sne s c] at hs
      obtain ⟨j, hj, e3, e4⟩ := d7 s hs hne
      refine ⟨j, hj, ?_, e4⟩
      show b.1 j = if s = to then now else b.2.2.1 s
      rw [if_neg c]; exact e3
/-- all that were come to, the settled ones ahead: as a queue of sets -/
theorem DI.all (h : DI S cur B b K sm) (hc0 : 0 < b.2.1) : ∃ b2 : BS, BOK b2 ∧ (∀ s, inb b2 s = true ↔ sm s ≠ 0) ∧ b2.2.2.1 = b.2.2.1 ∧ b2.2.2.2 = b.2.2.2 ∧ b2.1 0 = S := by
  obtain ⟨d1, d2, d3, d4, d5, d6, d7⟩ := h
  have key : ∀ N, ∃ (q : Nat → Nat) (n : Nat), b.2.1 ≤ n ∧ (∀ i, i < b.2.1 → q i = b.1 i) ∧ (∀ i j, i < j → j < n → q i ≠ q j) ∧ (∀ i, i < n → sm (q i) ≠ 0) ∧ ∀ s, s < N → sm s ≠ 0 → ∃ i, i < n ∧ q i = s := by
    intro N
    induction N with
    | zero => exact ⟨b.1, b.2.1, Nat.le_refl _, fun _ _ => rfl, d4, fun i hi => (d3 i hi).1, fun s hs => absurd hs (by omega)⟩
    | succ N ih =>
      obtain ⟨q, n, h1, h2, h3, h4, h5⟩ := ih
      by_cases c : sm N = 0 ∨ ∃ i, i < n ∧ q i = N
      · refine ⟨q, n, h1, h2, h3, h4, fun s hs hne => ?_⟩
        by_cases e : s = N
        · subst e; exact c.resolve_left hne
        · exact h5 s (by omega) hne
      · have c1 : sm N ≠ 0 := fun z => c (Or.inl z)
        have c2 : ∀ i, i < n → q i ≠ N := fun i hi z => c (Or.inr ⟨i, hi, z⟩)
        have old : ∀ i, i < n → (if i = n then N else q i) = q i := fun i hi => if_neg (by omega)
        have new : (if n = n then N else q n) = N := if_pos rfl
        refine ⟨fun i => if i = n then N else q i, n + 1, by omega, fun i hi => (old i (by omega)).trans (h2 i hi), fun i j hij hj => ?_, fun i hi => ?_, fun s hs hne => ?_⟩
        · show (if i = n then N else q i) ≠ (if j = n then N else q j)
          rw [old i (by omega)]
          by_cases e : j = n
          · rw [if_pos e]; exact c2 i (by omega)
          · rw [if_neg e]; exact h3 i j hij (by omega)
        · show sm (if i = n then N else q i) ≠ 0
          by_cases e : i = n
          · rw [if_pos e]; exact c1
          · rw [if_neg e]; exact h4 i (by omega)
        · by_cases e : s = N
          · exact ⟨n, Nat.lt_succ_self n, by show (if n = n then N else q n) = s; rw [new, e]⟩
          · obtain ⟨i, hi, e2⟩ := h5 s (by omega) hne
            exact ⟨i, by omega, (old i hi).trans e2⟩
  obtain ⟨q, n, h1, h2, h3, h4, h5⟩ := key 4096
  have q0 : q 0 = S := (h2 0 hc0).trans (d6.2.2 hc0)
  refine ⟨(q, n, b.2.2.1, b.2.2.2), ⟨fun i hi => ?_, h3, fun i h0 hi => ?_, by show 0 < n; omega, ?_⟩, fun s => ?_, rfl, rfl, q0⟩
  · have hi : i < n := hi
    have := d5 _ (h4 i hi)
    exact ⟨this.1, this.2.1, this.2.2.2.1, this.2.2.2.2.1, this.2.2.2.2.2⟩
  · have hi : i < n := hi
    have hne : q i ≠ S := fun z => h3 0 i h0 hi (q0.trans z.symm)
    obtain ⟨j, hj, e1, e2⟩ := d7 _ (h4 i hi) hne
    refine ⟨j, ?_, (h2 j hj).trans e1⟩
    rcases Nat.lt_or_ge i b.2.1 with z | z
    · exact e2 i z (h2 i z).symm
    · omega
  · show b.2.2.1 (q 0) = 0
    rw [q0]; exact d6.1
  · rw [inb_iff]
    constructor
    · rintro ⟨i, hi, e⟩
      have := h4 i hi
      have e : q i = s := e
      rw [e] at this
      exact this
    · exact fun hs => h5 s (d5 s hs).2.1 hs
end DIJ
