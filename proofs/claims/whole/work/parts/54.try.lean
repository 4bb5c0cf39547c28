/-! greedy: one pair tried by the class -/
theorem WRD.uniq {nx : Nat → Nat → Nat} {w : Nat → Bool} {k S d : Nat} {c c' : Nat → Nat} (h : WRD nx w k S d c) (h' : WRD nx w k S d c') : ∀ i, i < d → c i = c' i := by
  obtain ⟨X, hX0, hX⟩ := h
  obtain ⟨Y, hY0, hY⟩ := h'
  have key : ∀ i, i ≤ d → X i = Y i ∧ ∀ t, t < i → c t = c' t := by
    intro i
    induction i with
    | zero => exact fun _ => ⟨hX0.trans hY0.symm, fun t ht => by omega⟩
    | succ i ih =>
      intro hi
      obtain ⟨e1, e2⟩ := ih (by omega)
      obtain ⟨x1, x2, x3, x4, x5⟩ := hX i (by omega)
      obtain ⟨y1, y2, y3, y4, y5⟩ := hY i (by omega)
      have ec : c i = c' i := by
        rcases Nat.lt_trichotomy (c i) (c' i) with z | z | z
        · have := y5 (c i) z (by rw [← e1, x2]; exact x3)
          rw [← e1, x2, x4] at this; cases this
        · exact z
        · have := x5 (c' i) z (by rw [e1, y2]; exact y3)
          rw [e1, y2, y4] at this; cases this
      refine ⟨by rw [← x2, ← y2, e1, ec], fun t ht => ?_⟩
      by_cases z : t = i
      · subst z; exact ec
      · exact e2 t (by omega)
  exact fun i hi => (key d (Nat.le_refl _)).2 i hi
theorem stw_congr {nx : Nat → Nat → Nat} {c c' : Nat → Nat} {S : Nat} : ∀ (d : Nat), (∀ i, i < d → c i = c' i) → stw nx c S d = stw nx c' S d
  | 0, _ => rfl
  | d + 1, h => by
    show (if stw nx c S d = 0 then 0 else nx (stw nx c S d) (c d)) = (if stw nx c' S d = 0 then 0 else nx (stw nx c' S d) (c' d))
    rw [stw_congr d (fun i hi => h i (by omega)), h d (by omega)]
section TRZ
variable {n k j S q : Nat} {mv st lc mo : Nat → Int32} {a1 a2 a3 : Int32}
/-- the reference at a pair whose word is c: not taken -/
theorem r85_no {d : Nat} {c : Nat → Nat} {x3 : Int32} {bw pw : Nat → Int32} {R : Int32 → Int32 → Int32 → (Nat → Int32) → (Nat → Int32) → (Nat → Int32) → (Nat → Int32) → (Nat → Int32) → (Nat → Int32) → Prop} {qd : Int32} {qu f b z : Nat → Int32} (hn : n ≤ 12) (hk : k ≤ 4) (hj : j < 6) (hst : st j = nI n) (hr : RMv n k j mo mv) (hm : MV n k mv) (hS : S < 2 ^ n) (hd : d ≤ 67) (hw : ∀ i, i < d → c i < k ∧ pw i = nI (c i))
    (hno : stw (stp n mv) c S d = 0 ∨ ∃ e c', e ≤ 67 ∧ x3 = nI e ∧ (∀ i, i < e → c' i < k ∧ bw i = nI (c' i)) ∧ ¬ ahd d e c c') (hR : R x3 (nI (q + 1)) qd qu f b z pw bw) : J_X12_bestPair_85 a1 a2 a3 st mo (nI j) (nI S) R x3 (nI q) qd qu f b z pw bw (nI d) := by
  have h12 : 2 ^ n ≤ 2 ^ 12 := Nat.pow_le_pow_right (by decide) hn
  unfold J_X12_bestPair_85 J_X12_bestPair_147
  rw [nI_1']
  have hlt : stw (stp n mv) c S d < 2 ^ n := by
    cases d with
    | zero => exact hS
    | succ d =>
      show (if stw (stp n mv) c S d = 0 then 0 else _) < _
      by_cases y : stw (stp n mv) c S d = 0
      · rw [if_pos y]; exact Nat.two_pow_pos n
      · rw [if_neg y]; exact stp_lt2 hm hn (hw d (by omega)).1
  refine b_F (nI_m1 (by omega)) (sp_goesByPair hn hk hj hst hr hm hS (by omega) hw (b_le (by omega) (by omega) (fun _ => hR) (fun y => ?_)))
  rcases hno with y0 | ⟨e, c', e1, e2, e3, e4⟩
  · omega
  · rw [e2] at hR ⊢
    exact sp_better (by omega) (by omega) (fun i hi => ⟨by have := (hw i hi).1; omega, (hw i hi).2⟩) (fun i hi => ⟨by have := (e3 i hi).1; omega, (e3 i hi).2⟩) (fun w => absurd w e4) (fun _ => b_T rfl hR)
theorem r85_yes {d : Nat} {c : Nat → Nat} {x3 : Int32} {bw pw : Nat → Int32} {R : Int32 → Int32 → Int32 → (Nat → Int32) → (Nat → Int32) → (Nat → Int32) → (Nat → Int32) → (Nat → Int32) → (Nat → Int32) → Prop} {qd : Int32} {qu f b z : Nat → Int32} (hn : n ≤ 12) (hk : k ≤ 4) (hj : j < 6) (hst : st j = nI n) (hr : RMv n k j mo mv) (hm : MV n k mv) (hS : S < 2 ^ n) (hd : d ≤ 67) (hw : ∀ i, i < d → c i < k ∧ pw i = nI (c i))
    (hpos : 0 < stw (stp n mv) c S d) (hlt : stw (stp n mv) c S d < 2 ^ n) (hyes : x3 = -1 ∨ ∃ e c', e ≤ 67 ∧ x3 = nI e ∧ (∀ i, i < e → c' i < k ∧ bw i = nI (c' i)) ∧ ahd d e c c') (hR : R (nI d) (nI (q + 1)) qd qu f b z pw (fun i => if i < d then nI (c i) else bw i)) : J_X12_bestPair_85 a1 a2 a3 st mo (nI j) (nI S) R x3 (nI q) qd qu f b z pw bw (nI d) := by
  have h12 : 2 ^ n ≤ 2 ^ 12 := Nat.pow_le_pow_right (by decide) hn
  unfold J_X12_bestPair_85
  have copy : ∃ g, L_X12_bestPair_120 qd qu f b z pw (nI d) (nI q) (nI d) R g (nI 0) bw := by
    refine pk_loop (fun g i (s : Nat → Int32) => L_X12_bestPair_120 qd qu f b z pw (nI d) (nI q) (nI d) R g (nI i) s) (fun i s => s = fun x => if x < i then nI (c x) else bw x) d 0 bw (Nat.zero_le _) (by funext x; simp) ?_ ?_
    · rintro g s rfl
      show L_X12_bestPair_120 qd qu f b z pw (nI d) (nI q) (nI d) R (g + 1) (nI d) _
      unfold L_X12_bestPair_120 J_X12_bestPair_147
      rw [nI_1']
      exact b_T (nI_le (Nat.le_refl _) (by omega)) hR
    · rintro g i s hi rfl ih
      show L_X12_bestPair_120 qd qu f b z pw (nI d) (nI q) (nI d) R (g + 1) (nI i) _
      unfold L_X12_bestPair_120
      rw [nI_1', nI_clamp (by omega), (hw i hi).2]
      refine b_F (nI_ge hi (by omega)) ⟨vin (by omega) (by omega), vin (by omega) (by omega), ih _ ?_⟩
      funext x
      by_cases h1 : x = i
      · subst h1; rw [pk_us, if_pos (by omega)]
      · rw [pk_un h1]
        by_cases h2 : x < i
        · rw [if_pos h2, if_pos (by omega)]
        · rw [if_neg h2, if_neg (by omega)]
  refine b_F (nI_m1 (by omega)) (sp_goesByPair hn hk hj hst hr hm hS (by omega) hw (b_F (nI_ge hpos (by omega)) ?_))
  rcases hyes with y | ⟨e, c', e1, e2, e3, e4⟩
  · rw [y]
    exact sp_betterN (by omega) (b_F ne10 copy)
  · rw [e2]
    exact sp_better (by omega) (by omega) (fun i hi => ⟨by have := (hw i hi).1; omega, (hw i hi).2⟩) (fun i hi => ⟨by have := (e3 i hi).1; omega, (e3 i hi).2⟩) (fun _ => b_F ne10 copy) (fun w => absurd e4 w)
end TRZ
