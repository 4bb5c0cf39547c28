/-! chance and chances -/
section RCH
variable {n k j S t : Nat} {mv sh : Nat → Int32} {s : Nat → Nat} {st le mo sr : Nat → Int32} {a b c d : Int32}
theorem sp_all {x2 : Int32} {Q : Int64 → Prop} (hk : k ≤ 4) (ht : t ≤ 12) (hs : ∀ l, l < k → s l ≤ 5 ∧ sh l = nI (s l)) (h : Q (lN (sm s k ^ t))) : wp_X0_all x2 (nI k) sh (nI t) Q := by
  unfold wp_X0_all
  refine pk_loop (fun f l (u : Int64) => L_X0_all_5 x2 (nI k) sh (nI t) Q f u (nI l)) (fun l u => u = lN (sm s l)) k 0 (lN 0) (Nat.zero_le _) rfl ?_ ?_
  · rintro f u rfl
    show L_X0_all_5 x2 (nI k) sh (nI t) Q (f + 1) _ (nI k)
    unfold L_X0_all_5
    refine b_T (nI_le (Nat.le_refl _) (by omega)) ?_
    unfold J_X0_all_30
    refine pk_loop (fun f l (u : Int64) => L_X0_all_36 (nI t) (lN (sm s k)) Q f u (nI l)) (fun l u => u = lN (sm s k ^ l)) t 0 (lN 1) (Nat.zero_le _) rfl ?_ ?_
    · rintro f u rfl
      show L_X0_all_36 (nI t) (lN (sm s k)) Q (f + 1) _ (nI t)
      unfold L_X0_all_36
      exact b_T (nI_le (Nat.le_refl _) (by omega)) h
    · rintro f l u hl rfl ih
      show L_X0_all_36 (nI t) (lN (sm s k)) Q (f + 1) _ (nI l)
      unfold L_X0_all_36
      rw [nI_1']
      exact b_F (nI_ge hl (by omega)) (ih _ (by rw [lN_mul, Nat.pow_succ]))
  · rintro f l u hl rfl ih
    show L_X0_all_5 x2 (nI k) sh (nI t) Q (f + 1) _ (nI l)
    unfold L_X0_all_5 wp_X4_shareOf
    rw [nI_1']
    refine b_F (nI_ge hl (by omega)) (sp_hasLetter1 hk hl (b_F ne10 ⟨vin (by omega) (by omega), ih _ ?_⟩))
    rw [nI_clamp (by omega), (hs l hl).2, nI_l (by have := (hs l hl).1; omega), lN_add, sm]
theorem sp_rAll {Q : Int64 → Prop} (hk : k ≤ 4) (hj : j < 6) (hle : le j = nI k) (ht : t ≤ 12) (hs : ∀ l, l < k → s l ≤ 5 ∧ sr (4 * j + l) = nI (s l)) (h : Q (lN (sm s k ^ t))) : ∃ n, L_X12_chances_24 le sr (nI j) (nI t) Q n (lN 0) (nI 0) := by
  refine pk_loop (fun f l (u : Int64) => L_X12_chances_24 le sr (nI j) (nI t) Q f u (nI l)) (fun l u => u = lN (sm s l)) k 0 (lN 0) (Nat.zero_le _) rfl ?_ ?_
  · rintro f u rfl
    show L_X12_chances_24 le sr (nI j) (nI t) Q (f + 1) _ (nI k)
    unfold L_X12_chances_24
    refine ⟨vin hj (by omega), ?_⟩
    rw [nI_clamp (by omega), hle]
    refine b_T (nI_le (Nat.le_refl _) (by omega)) ?_
    unfold J_X12_chances_56
    refine pk_loop (fun f l (u : Int64) => L_X12_chances_62 (nI t) (lN (sm s k)) Q f u (nI l)) (fun l u => u = lN (sm s k ^ l)) t 0 (lN 1) (Nat.zero_le _) rfl ?_ ?_
    · rintro f u rfl
      show L_X12_chances_62 (nI t) (lN (sm s k)) Q (f + 1) _ (nI t)
      unfold L_X12_chances_62
      exact b_T (nI_le (Nat.le_refl _) (by omega)) h
    · rintro f l u hl rfl ih
      show L_X12_chances_62 (nI t) (lN (sm s k)) Q (f + 1) _ (nI l)
      unfold L_X12_chances_62
      rw [nI_1']
      exact b_F (nI_ge hl (by omega)) (ih _ (by rw [lN_mul, Nat.pow_succ]))
  · rintro f l u hl rfl ih
    show L_X12_chances_24 le sr (nI j) (nI t) Q (f + 1) _ (nI l)
    unfold L_X12_chances_24
    refine ⟨vin hj (by omega), ?_⟩
    rw [nI_clamp (by omega), hle, pk_mul, nI_add, nI_1', nI_clamp (by omega), (hs l hl).2, nI_l (by have := (hs l hl).1; omega), lN_add]
    exact b_F (nI_ge hl (by omega)) ⟨vin (by omega) (by omega), ih _ rfl⟩
end RCH
theorem sp_isTime {x : Int32} {Q : Int32 → Prop} (h1 : ∀ t, t ≤ 12 → x = nI t → Q (nI 1)) (h0 : (x < nI 0 ∨ nI 12 < x) → Q (nI 0)) : wp_X12_isTime x Q := by
  unfold wp_X12_isTime
  refine sp_in (fun c => ⟨Or.inl rfl, h0 c⟩) (fun c1 c2 => ⟨Or.inr rfl, ?_⟩)
  obtain ⟨t, ht, rfl⟩ := nI_of (x := x) c1
  have : t ≤ 12 := by
    have : ¬ 12 < t := fun q => c2 (nI_lt q ht)
    omega
  exact h1 t this rfl
section PCH
variable {N : Nat} {n k : Nat → Nat} {mv li pr sh : Nat → Nat → Int32} {ma : Int32} {st le mo lt pc sr : Nat → Int32} {j : Nat}
variable {made sl size wl2 qd hp x2 x3 : Int32} {mch : Nat → Option Nat} {low high from_ queue : Nat → Int32} {now next worth worthN : Nat → Int64}
theorem pr_chance (h : RSt N n k mv li pr sh ma st le mo lt pc sr) (hj : j < N) (hz : TZ low high) : wp_X11_chance_s made mch sl low high from_ size queue now next (nI (n j)) (nI (k j)) (mv j) (sh j) (nI j) x2 x3 (fun r sl low high from_ size queue now next => TZ low high ∧ wp_X12_chance ma wl2 qd hp st le mo sr worth worthN (nI j) x2 x3 (fun r2 _ _ => r = r2)) := by
  obtain ⟨⟨⟨g1, g2, g3, g4⟩, g5, g6, g7, g8⟩, s1, s2, s3, s4, s5⟩ := h.2.2 j hj
  have hN := h.1
  have hs' : ∀ l, l < k j → (sh j l).toNatClampNeg ≤ 5 ∧ sh j l = nI (sh j l).toNatClampNeg := fun l hl => by
    obtain ⟨v, hv, e⟩ := g8 l hl
    rw [e, nI_clamp (by omega)]
    exact ⟨hv, rfl⟩
  obtain ⟨s, hs⟩ : ∃ s : Nat → Nat, ∀ l, l < k j → s l ≤ 5 ∧ sh j l = nI (s l) := ⟨fun l => (sh j l).toNatClampNeg, hs'⟩
  unfold wp_X11_chance_s
  refine sp_hasSet g2 (fun S hS hS2 e => ?_) (fun hno => ?_)
  · subst e
    have bad : (x3 < nI 0 ∨ nI 12 < x3) → wp_X12_chance ma wl2 qd hp st le mo sr worth worthN (nI j) (nI S) x3 (fun r2 _ _ => (-2 : Int64) = r2) := fun c => by
      unfold wp_X12_chance
      exact rT1 h hj hS hS2 (b_F ne10 (sp_isTime (fun t ht e => by
        subst e
        rcases c with c | c
        · exact absurd c (nI_nlt0 (by omega))
        · exact absurd c (nI_nlt ht (by omega))) (fun _ => b_nF rfl rfl)))
    refine b_F ne10 (b_if (fun c => ⟨hz, bad (Or.inl c)⟩) (fun c1 => b_if (fun c2 => ?_) (fun c2 => ⟨hz, bad (Or.inr (Int32.not_le.mp c2))⟩)))
    obtain ⟨t, ht, rfl⟩ := nI_of (x := x3) c1
    have ht2 := (nI_leI ht (by omega)).mp c2
    refine sp_right g2 g4 g5 hz hS hS2 ht2 (fun l hl => hs l hl) (fun low' high' z f q a b hz' => ⟨hz', ?_⟩)
    unfold wp_X12_chance
    refine rT1 h hj hS hS2 (b_F ne10 (sp_isTime (fun t2 _ e => b_nT ne10 ⟨vin (by omega) (by omega), ?_⟩) (fun c => absurd c (fun q => q.elim c1 (nI_nlt ht2 (by omega))))))
    rw [nI_clamp (by omega), s1, nI_shl1 (by omega)]
    exact sp_rChance g2 g4 (by omega) s1 s2 s3 g5 (fun l hl => ⟨(hs l hl).1, (s5 l hl).2.trans (hs l hl).2⟩) hS hS2 ht2 (fun _ _ => rfl)
  · refine b_T rfl ⟨hz, ?_⟩
    unfold wp_X12_chance
    exact rT0 h hj hno (b_T rfl rfl)
theorem pr_chances (h : RSt N n k mv li pr sh ma st le mo lt pc sr) (hj : j < N) : wp_X11_chances_s made mch (nI (n j)) (nI (k j)) (sh j) (nI j) x2 (fun r => wp_X12_chances ma wl2 qd hp le sr (nI j) x2 (fun r2 => r = r2)) := by
  obtain ⟨⟨⟨g1, g2, g3, g4⟩, g5, g6, g7, g8⟩, s1, s2, s3, s4, s5⟩ := h.2.2 j hj
  have hN := h.1
  have hs' : ∀ l, l < k j → (sh j l).toNatClampNeg ≤ 5 ∧ sh j l = nI (sh j l).toNatClampNeg := fun l hl => by
    obtain ⟨v, hv, e⟩ := g8 l hl
    rw [e, nI_clamp (by omega)]
    exact ⟨hv, rfl⟩
  obtain ⟨s, hs⟩ : ∃ s : Nat → Nat, ∀ l, l < k j → s l ≤ 5 ∧ sh j l = nI (s l) := ⟨fun l => (sh j l).toNatClampNeg, hs'⟩
  unfold wp_X11_chances_s
  have bad : (x2 < nI 0 ∨ nI 12 < x2) → wp_X12_chances ma wl2 qd hp le sr (nI j) x2 (fun r2 => (-2 : Int64) = r2) := fun c => by
    unfold wp_X12_chances
    exact rM1 h hj (b_F ne10 (sp_isTime (fun t ht e => by
      subst e
      rcases c with c | c
      · exact absurd c (nI_nlt0 (by omega))
      · exact absurd c (nI_nlt ht (by omega))) (fun _ => b_nF rfl rfl)))
  refine b_if (fun c => bad (Or.inl c)) (fun c1 => b_if (fun c2 => ?_) (fun c2 => bad (Or.inr (Int32.not_le.mp c2))))
  obtain ⟨t, ht, rfl⟩ := nI_of (x := x2) c1
  have ht2 := (nI_leI ht (by omega)).mp c2
  refine sp_all (s := s) g4 ht2 (fun l hl => hs l hl) ?_
  unfold wp_X12_chances
  refine rM1 h hj (b_F ne10 (sp_isTime (fun t2 _ e => b_nT ne10 ?_) (fun c => absurd c (fun q => q.elim c1 (nI_nlt ht2 (by omega))))))
  exact sp_rAll g4 (by omega) s2 ht2 (fun l hl => ⟨(hs l hl).1, (s5 l hl).2.trans (hs l hl).2⟩) rfl
end PCH
