/-! a heap of unlike keys, as a number's own function -/
def sg (i j x : Nat) : Nat := if x = i then j else if x = j then i else x
theorem sg_sg {i j x : Nat} : sg i j (sg i j x) = x := by
  unfold sg
  by_cases a : x = i
  · subst a
    rw [if_pos rfl]
    by_cases b : j = x
    · subst b; rw [if_pos rfl]
    · rw [if_neg b, if_pos rfl]
  · rw [if_neg a]
    by_cases b : x = j
    · subst b; rw [if_pos rfl, if_pos rfl]
    · rw [if_neg b, if_neg a, if_neg b]
theorem sg_lt {i j x m : Nat} (hi : i < m) (hj : j < m) (hx : x < m) : sg i j x < m := by
  unfold sg
  by_cases a : x = i
  · rw [if_pos a]; exact hj
  · rw [if_neg a]
    by_cases b : x = j
    · rw [if_pos b]; exact hi
    · rw [if_neg b]; exact hx
theorem sg_l {i j : Nat} : sg i j i = j := if_pos rfl
theorem sg_r {i j : Nat} : sg i j j = i := by
  unfold sg
  by_cases a : j = i
  · rw [if_pos a]; exact a
  · rw [if_neg a, if_pos rfl]
theorem sg_n {i j x : Nat} (a : x ≠ i) (b : x ≠ j) : sg i j x = x := by unfold sg; rw [if_neg a, if_neg b]
def swp (A : Nat → Nat) (i j : Nat) : Nat → Nat := fun x => A (sg i j x)
theorem swp_l {A : Nat → Nat} {i j : Nat} : swp A i j i = A j := congrArg A sg_l
theorem swp_r {A : Nat → Nat} {i j : Nat} : swp A i j j = A i := congrArg A sg_r
theorem swp_n {A : Nat → Nat} {i j x : Nat} (a : x ≠ i) (b : x ≠ j) : swp A i j x = A x := congrArg A (sg_n a b)
def CT (A : Nat → Nat) (m x : Nat) : Prop := ∃ i, i < m ∧ A i = x
def IJ (A : Nat → Nat) (m : Nat) : Prop := ∀ i j, i < m → j < m → A i = A j → i = j
def HO (A : Nat → Nat) (m : Nat) : Prop := ∀ i, 0 < i → i < m → A ((i - 1) / 2) ≤ A i
def HP (A : Nat → Nat) (m : Nat) (K : Nat → Prop) : Prop := HO A m ∧ IJ A m ∧ ∀ x, K x ↔ CT A m x
theorem swp_ct {A : Nat → Nat} {m i j x : Nat} (hi : i < m) (hj : j < m) : CT (swp A i j) m x ↔ CT A m x := by
  constructor
  · rintro ⟨y, hy, e⟩; exact ⟨sg i j y, sg_lt hi hj hy, e⟩
  · rintro ⟨y, hy, e⟩; exact ⟨sg i j y, sg_lt hi hj hy, (congrArg A sg_sg).trans e⟩
theorem swp_ij {A : Nat → Nat} {m i j : Nat} (hi : i < m) (hj : j < m) (h : IJ A m) : IJ (swp A i j) m := fun x y hx hy e => by
  have := h _ _ (sg_lt hi hj hx) (sg_lt hi hj hy) e
  have := congrArg (sg i j) this
  rw [sg_sg, sg_sg] at this
  exact this
/-- rising from p -/
def SU (A : Nat → Nat) (m p : Nat) : Prop := (∀ i, 0 < i → i < m → i ≠ p → A ((i - 1) / 2) ≤ A i) ∧ (0 < p → ∀ i, 0 < i → i < m → (i - 1) / 2 = p → A ((p - 1) / 2) ≤ A i)
theorem SU.stop {A : Nat → Nat} {m p : Nat} (h : SU A m p) (hp : p = 0 ∨ A ((p - 1) / 2) ≤ A p) : HO A m := fun i h0 hi => by
  by_cases c : i = p
  · subst c; exact hp.resolve_left (by omega)
  · exact h.1 i h0 hi c
theorem SU.step {A : Nat → Nat} {m p : Nat} (h : SU A m p) (h0 : 0 < p) (hp : p < m) (hl : A p < A ((p - 1) / 2)) : SU (swp A p ((p - 1) / 2)) m ((p - 1) / 2) := by
  have hu : (p - 1) / 2 < p := by omega
  obtain ⟨h1, h2⟩ := h
  have h2 := h2 h0
  generalize hu' : (p - 1) / 2 = u at *
  refine ⟨fun i i0 im iu => ?_, fun u0 i i0 im iw => ?_⟩
  · by_cases c : i = p
    · subst c
      rw [hu', swp_r, swp_l]; omega
    · rw [swp_n c iu]
      by_cases d : (i - 1) / 2 = p
      · rw [d, swp_l]; exact h2 i i0 im d
      · by_cases e : (i - 1) / 2 = u
        · have := h1 i i0 im c
          rw [e] at this
          rw [e, swp_r]; omega
        · rw [swp_n d e]; exact h1 i i0 im c
  · have g := h1 u u0 (by omega) (by omega)
    rw [swp_n (by omega) (by omega)]
    by_cases c : i = p
    · subst c; rw [swp_l]; exact g
    · rw [swp_n c (by omega)]
      have := h1 i i0 im c
      rw [iw] at this
      omega
/-- sinking from p -/
def SD (A : Nat → Nat) (m p : Nat) : Prop := (∀ i, 0 < i → i < m → (i - 1) / 2 ≠ p → A ((i - 1) / 2) ≤ A i) ∧ (0 < p → ∀ i, 0 < i → i < m → (i - 1) / 2 = p → A ((p - 1) / 2) ≤ A i)
theorem SD.stop {A : Nat → Nat} {m p : Nat} (h : SD A m p) (hp : ∀ i, 0 < i → i < m → (i - 1) / 2 = p → A p ≤ A i) : HO A m := fun i h0 hi => by
  by_cases c : (i - 1) / 2 = p
  · rw [c]; exact hp i h0 hi c
  · exact h.1 i h0 hi c
theorem SD.step {A : Nat → Nat} {m p c : Nat} (h : SD A m p) (hc0 : 0 < c) (hcm : c < m) (hcp : (c - 1) / 2 = p) (hl : A c < A p) (hm : ∀ i, 0 < i → i < m → (i - 1) / 2 = p → A c ≤ A i) : SD (swp A p c) m c := by
  obtain ⟨h1, h2⟩ := h
  refine ⟨fun i i0 im iw => ?_, fun c0 i i0 im iw => ?_⟩
  · by_cases d : (i - 1) / 2 = p
    · rw [d, swp_l]
      by_cases e : i = c
      · subst e; rw [swp_r]; omega
      · rw [swp_n (by omega) e]; exact hm i i0 im d
    · rw [swp_n d iw]
      by_cases e : i = p
      · subst e
        rw [swp_l]
        exact h2 i0 c hc0 hcm hcp
      · have ec : i ≠ c := fun z => d (by rw [z]; exact hcp)
        rw [swp_n e ec]
        exact h1 i i0 im d
  · rw [hcp, swp_l, swp_n (by omega) (by omega)]
    have := h1 i i0 im (by omega)
    rw [iw] at this
    exact this
theorem HO.min {A : Nat → Nat} {m : Nat} (h : HO A m) : ∀ (N i : Nat), i < N → i < m → A 0 ≤ A i
  | 0, _, hN, _ => absurd hN (by omega)
  | N + 1, i, hN, hi => by
    rcases Nat.eq_zero_or_pos i with z | z
    · subst z; exact Nat.le_refl _
    · have := h i z hi
      have := HO.min h N ((i - 1) / 2) (by omega) (by omega)
      omega
/-- a key behind all -/
def psh (A : Nat → Nat) (m x : Nat) : Nat → Nat := fun i => if i = m then x else A i
theorem psh_n {A : Nat → Nat} {m x i : Nat} (h : i ≠ m) : psh A m x i = A i := if_neg h
theorem psh_m {A : Nat → Nat} {m x : Nat} : psh A m x m = x := if_pos rfl
theorem psh_su {A : Nat → Nat} {m x : Nat} (h : HO A m) : SU (psh A m x) (m + 1) m := ⟨fun i h0 hi hn => by
  rw [psh_n (by omega), psh_n hn]; exact h i h0 (by omega), fun _ i h0 hi e => by omega⟩
theorem psh_ij {A : Nat → Nat} {m x : Nat} (h : IJ A m) (hx : ¬ CT A m x) : IJ (psh A m x) (m + 1) := fun i j hi hj e => by
  by_cases a : i = m
  · by_cases b : j = m
    · omega
    · subst a
      rw [psh_m, psh_n b] at e
      exact absurd ⟨j, by omega, e.symm⟩ hx
  · by_cases b : j = m
    · subst b
      rw [psh_m, psh_n a] at e
      exact absurd ⟨i, by omega, e⟩ hx
    · rw [psh_n a, psh_n b] at e
      exact h i j (by omega) (by omega) e
theorem psh_ct {A : Nat → Nat} {m x y : Nat} : CT (psh A m x) (m + 1) y ↔ CT A m y ∨ y = x := by
  constructor
  · rintro ⟨i, hi, e⟩
    by_cases a : i = m
    · subst a; rw [psh_m] at e; exact Or.inr e.symm
    · rw [psh_n a] at e; exact Or.inl ⟨i, by omega, e⟩
  · rintro (⟨i, hi, e⟩ | e)
    · exact ⟨i, by omega, by rw [psh_n (by omega)]; exact e⟩
    · exact ⟨m, Nat.lt_succ_self m, by rw [psh_m]; exact e.symm⟩
/-- the last key put ahead of all, the first one taken -/
def pul (A : Nat → Nat) (m : Nat) : Nat → Nat := fun i => if i = 0 then A m else A i
theorem pul_n {A : Nat → Nat} {m i : Nat} (h : i ≠ 0) : pul A m i = A i := if_neg h
theorem pul_0 {A : Nat → Nat} {m : Nat} : pul A m 0 = A m := if_pos rfl
theorem pul_sd {A : Nat → Nat} {m : Nat} (h : HO A (m + 1)) : SD (pul A m) m 0 := ⟨fun i h0 hi hn => by
  rw [pul_n hn, pul_n (by omega)]; exact h i h0 (by omega), fun z => absurd z (by omega)⟩
theorem pul_ij {A : Nat → Nat} {m : Nat} (h : IJ A (m + 1)) : IJ (pul A m) m := fun i j hi hj e => by
  by_cases a : i = 0
  · by_cases b : j = 0
    · omega
    · subst a
      rw [pul_0, pul_n b] at e
      have := h _ _ (Nat.lt_succ_self m) (by omega) e
      omega
  · by_cases b : j = 0
    · subst b
      rw [pul_0, pul_n a] at e
      have := h _ _ (by omega) (Nat.lt_succ_self m) e
      omega
    · rw [pul_n a, pul_n b] at e
      exact h i j (by omega) (by omega) e
theorem pul_ct {A : Nat → Nat} {m y : Nat} (h : IJ A (m + 1)) : CT (pul A m) m y ↔ CT A (m + 1) y ∧ y ≠ A 0 := by
  constructor
  · rintro ⟨i, hi, e⟩
    by_cases a : i = 0
    · subst a
      rw [pul_0] at e
      refine ⟨⟨m, Nat.lt_succ_self m, e⟩, fun z => ?_⟩
      have := h _ _ (Nat.lt_succ_self m) (by omega) (e.trans z)
      omega
    · rw [pul_n a] at e
      refine ⟨⟨i, by omega, e⟩, fun z => ?_⟩
      have := h _ _ (show i < m + 1 by omega) (Nat.succ_pos m) (e.trans z)
      omega
  · rintro ⟨⟨i, hi, e⟩, hne⟩
    by_cases a : i = m
    · subst a
      have h0 : 0 < i := by
        rcases Nat.eq_zero_or_pos i with z | z
        · subst z; exact absurd e.symm hne
        · exact z
      exact ⟨0, h0, by rw [pul_0]; exact e⟩
    · have h0 : i ≠ 0 := fun z => hne (by rw [z] at e; exact e.symm)
      exact ⟨i, by omega, by rw [pul_n h0]; exact e⟩
