/-! which of two words comes first, by class and reference -/
def ahd (d e : Nat) (c c' : Nat → Nat) : Prop := d < e ∨ (d = e ∧ ∃ i, i < d ∧ (∀ x, x < i → c x = c' x) ∧ c i < c' i)
theorem ahd_at {d i : Nat} {c c' : Nat → Nat} (hi : i < d) (h : ∀ x, x < i → c x = c' x) (hne : c i ≠ c' i) : ahd d d c c' ↔ c i < c' i := by
  constructor
  · rintro (y | ⟨-, t, ht, h1, h2⟩)
    · omega
    · rcases Nat.lt_trichotomy t i with y | y | y
      · have := h t y; omega
      · subst y; exact h2
      · exact absurd (h1 i y) hne
  · exact fun y => Or.inr ⟨rfl, i, hi, h, y⟩
theorem ahd_eq {d : Nat} {c c' : Nat → Nat} (h : ∀ x, x < d → c x = c' x) : ¬ ahd d d c c' := by
  rintro (y | ⟨-, t, ht, h1, h2⟩)
  · omega
  · have := h t ht; omega
section AHD
variable {d e : Nat} {c c' : Nat → Nat} {row row' : Nat → Int32} {Q : Int32 → Prop}
theorem sp_ahead (hd : d ≤ 600) (he : e ≤ 600) (hr : ∀ i, i < d → c i < 4 ∧ row i = nI (c i)) (hr' : ∀ i, i < e → c' i < 4 ∧ row' i = nI (c' i)) (h1 : ahd d e c c' → Q (nI 1)) (h0 : ¬ ahd d e c c' → Q (nI 0)) : wp_X10_isAheadOf (nI d) row (nI e) row' Q := by
  unfold wp_X10_isAheadOf
  refine b_eq (by omega) (by omega) (fun y => ?_) (fun y => b_le (by omega) (by omega) (fun z => h0 ?_) (fun z => h1 (Or.inl (by omega))))
  · subst y
    refine pk_loop (fun f i (_ : Unit) => L_X10_isAheadOf_30 (nI d) row (nI d) row' Q f (nI i)) (fun i _ => ∀ x, x < i → c x = c' x) d 0 () (Nat.zero_le _) (fun x hx => by omega) ?_ ?_
    · rintro f _ hx
      show L_X10_isAheadOf_30 (nI d) row (nI d) row' Q (f + 1) (nI d)
      unfold L_X10_isAheadOf_30
      exact b_T (nI_le (Nat.le_refl _) (by omega)) (h0 (ahd_eq hx))
    · rintro f i _ hi hx ih
      show L_X10_isAheadOf_30 (nI d) row (nI d) row' Q (f + 1) (nI i)
      unfold L_X10_isAheadOf_30
      have r1 := hr i hi
      have r2 := hr' i hi
      refine b_F (nI_ge hi (by omega)) (sp_at hi hd (sp_at hi hd ?_))
      rw [r1.2, r2.2, nI_1']
      refine b_eq (by omega) (by omega) (fun y => ih () (fun x hx2 => ?_)) (fun y => ?_)
      · by_cases z : x = i
        · subst z; exact y
        · exact hx x (by omega)
      · unfold J_X10_isAheadOf_51
        refine sp_at hi hd (sp_at hi hd ?_)
        rw [r1.2, r2.2]
        exact b_le (by omega) (by omega) (fun z => h0 (fun w => by have := (ahd_at hi hx y).mp w; omega)) (fun z => h1 ((ahd_at hi hx y).mpr (by omega)))
  · rintro (w | ⟨w, -⟩)
    · omega
    · exact y w
theorem sp_better {a1 a2 a3 a4 : Int32} (hd : d ≤ 100) (he : e ≤ 100) (hr : ∀ i, i < d → c i < 4 ∧ row i = nI (c i)) (hr' : ∀ i, i < e → c' i < 4 ∧ row' i = nI (c' i)) (h1 : ahd d e c c' → Q (nI 1)) (h0 : ¬ ahd d e c c' → Q (nI 0)) : wp_X12_isBetter a1 a2 a3 a4 row row' (nI d) (nI e) Q := by
  unfold wp_X12_isBetter
  refine b_eq (by omega) (by omega) (fun y => ?_) (fun y => b_F (nI_m1 (by omega)) (b_le (by omega) (by omega) (fun z => h0 ?_) (fun z => h1 (Or.inl (by omega)))))
  · subst y
    refine pk_loop (fun f i (_ : Unit) => L_X12_isBetter_23 row row' (nI d) Q f (nI i)) (fun i _ => ∀ x, x < i → c x = c' x) d 0 () (Nat.zero_le _) (fun x hx => by omega) ?_ ?_
    · rintro f _ hx
      show L_X12_isBetter_23 row row' (nI d) Q (f + 1) (nI d)
      unfold L_X12_isBetter_23
      exact b_T (nI_le (Nat.le_refl _) (by omega)) (h0 (ahd_eq hx))
    · rintro f i _ hi hx ih
      show L_X12_isBetter_23 row row' (nI d) Q (f + 1) (nI i)
      unfold L_X12_isBetter_23
      have r1 := hr i hi
      have r2 := hr' i hi
      rw [nI_clamp (by omega), r1.2, r2.2, nI_1']
      refine b_F (nI_ge hi (by omega)) ⟨vin (by omega) (by omega), vin (by omega) (by omega), b_eq (by omega) (by omega) (fun y => ih () (fun x hx2 => ?_)) (fun y => ?_)⟩
      · by_cases z : x = i
        · subst z; exact y
        · exact hx x (by omega)
      · unfold J_X12_isBetter_43
        rw [nI_clamp (by omega), r1.2, r2.2]
        exact ⟨vin (by omega) (by omega), vin (by omega) (by omega), b_le (by omega) (by omega) (fun z => h0 (fun w => by have := (ahd_at hi hx y).mp w; omega)) (fun z => h1 ((ahd_at hi hx y).mpr (by omega)))⟩
  · rintro (w | ⟨w, -⟩)
    · omega
    · exact y w
theorem sp_betterN {a1 a2 a3 a4 : Int32} (hd : d ≤ 100) (h1 : Q (nI 1)) : wp_X12_isBetter a1 a2 a3 a4 row row' (nI d) (-1) Q := by
  unfold wp_X12_isBetter
  exact b_F (nI_m1 (by omega)) (b_T rfl h1)
theorem sp_copy {wl : Int32} {Q : Int32 → (Nat → Int32) → Prop} (hd : d ≤ 600) (hr : ∀ i, i < d → row' i = nI (c i)) (h : ∀ row2, (∀ i, i < d → row2 i = nI (c i)) → Q (nI d) row2) : wp_X10_copy wl row (nI d) row' Q := by
  unfold wp_X10_copy
  refine sp_resize hd ?_
  refine pk_loop (fun f i (s : Nat → Int32) => L_X10_copy_10 (nI d) (nI d) row' Q f (nI i) s) (fun i s => ∀ x, x < i → s x = nI (c x)) d 0 row (Nat.zero_le _) (fun x hx => by omega) ?_ ?_
  · rintro f s hs
    show L_X10_copy_10 (nI d) (nI d) row' Q (f + 1) (nI d) s
    unfold L_X10_copy_10
    exact b_T (nI_le (Nat.le_refl _) (by omega)) (h s hs)
  · rintro f i s hi hs ih
    show L_X10_copy_10 (nI d) (nI d) row' Q (f + 1) (nI i) s
    unfold L_X10_copy_10
    refine b_F (nI_ge hi (by omega)) (sp_at hi hd (sp_put hi hd ?_))
    rw [nI_1', hr i hi]
    refine ih _ (fun x hx => ?_)
    by_cases z : x = i
    · subst z; exact pk_us
    · rw [pk_un z]; exact hs x (by omega)
end AHD
theorem sp_goesByPair {n k j S d : Nat} {mv st mo pw : Nat → Int32} {a1 a2 a3 a4 : Int32} {c : Nat → Nat} {Q : Int32 → Prop} (hn : n ≤ 12) (hk : k ≤ 4) (hj : j < 6) (hst : st j = nI n) (hr : RMv n k j mo mv) (hm : MV n k mv) (hS : S < 2 ^ n) (hd : d ≤ 100) (hw : ∀ i, i < d → c i < k ∧ pw i = nI (c i)) (h : Q (nI (stw (stp n mv) c S d))) : wp_X12_goesByPair a1 a2 a3 a4 st mo pw (nI j) (nI S) (nI d) Q := by
  have h12 : 2 ^ n ≤ 2 ^ 12 := Nat.pow_le_pow_right (by decide) hn
  unfold wp_X12_goesByPair
  refine pk_loop (fun f i (s : Int32) => L_X12_goesByPair_6 a1 a2 a3 a4 st mo pw (nI j) (nI d) Q f s (nI i)) (fun i s => s = nI (stw (stp n mv) c S i) ∧ stw (stp n mv) c S i < 2 ^ n) d 0 (nI S) (Nat.zero_le _) ⟨rfl, hS⟩ ?_ ?_
  · rintro f s ⟨rfl, -⟩
    show L_X12_goesByPair_6 a1 a2 a3 a4 st mo pw (nI j) (nI d) Q (f + 1) _ (nI d)
    unfold L_X12_goesByPair_6
    exact b_T (nI_le (Nat.le_refl _) (by omega)) h
  · rintro f i s hi ⟨rfl, hlt⟩ ih
    show L_X12_goesByPair_6 a1 a2 a3 a4 st mo pw (nI j) (nI d) Q (f + 1) _ (nI i)
    unfold L_X12_goesByPair_6
    refine b_F (nI_ge hi (by omega)) (b_le (by omega) (by omega) (fun y => ?_) (fun y => ⟨vin (by omega) (by omega), ?_⟩))
    · have z : stw (stp n mv) c S i = 0 := by omega
      have := stw_0 z (d - i)
      rw [show i + (d - i) = d by omega] at this
      rw [this] at h
      rw [z]; exact h
    · have hwi := hw i hi
      rw [nI_clamp (by omega), hwi.2, nI_1']
      refine sp_next hn hk hj hst hr hm hwi.1 (by omega) (ih _ ⟨?_, ?_⟩)
      · show _ = nI (if stw (stp n mv) c S i = 0 then 0 else _)
        rw [if_neg (by omega)]
      · show (if stw (stp n mv) c S i = 0 then 0 else _) < _
        rw [if_neg (by omega)]
        exact stp_lt2 hm hn hwi.1
