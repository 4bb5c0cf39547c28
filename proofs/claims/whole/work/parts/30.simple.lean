/-! the rest of the small calls -/
section PR
variable {N : Nat} {n k : Nat → Nat} {mv li pr sh : Nat → Nat → Int32} {ma : Int32} {st le mo lt pc sr : Nat → Int32} {j : Nat}
variable {made wl wl2 qd hp x1 x2 x3 x4 : Int32} {mch : Nat → Option Nat} {row word : Nat → Int32}
theorem pr_ring_f (h : RSt N n k mv li pr sh ma st le mo lt pc sr) (hno : ¬ (N < 6 ∧ ∃ a, 2 ≤ a ∧ a ≤ 12 ∧ x1 = nI a)) : wp_X11_ring_f (nI N) mch x1 (fun r made' mch' => made' = nI N ∧ mch' = mch ∧ wp_X12_ring ma wl2 qd hp st le mo lt pc sr x1 (fun r2 ma' st' le' mo' lt' pc' sr' => r = r2 ∧ RSt N n k mv li pr sh ma' st' le' mo' lt' pc' sr')) := by
  have hN6 := h.1
  have bad : (x1 < nI 2 ∨ nI 12 < x1) → wp_X12_ring ma wl2 qd hp st le mo lt pc sr x1 (fun r2 ma' st' le' mo' lt' pc' sr' => -2 = r2 ∧ RSt N n k mv li pr sh ma' st' le' mo' lt' pc' sr') := fun c => by
    unfold wp_X12_ring
    exact sp_in (fun _ => b_nF rfl ⟨rfl, h⟩) (fun c1 c2 => absurd c (fun q => q.elim c1 c2))
  unfold wp_X11_ring_f
  refine b_if (fun c => ⟨rfl, rfl, bad (Or.inl c)⟩) (fun c1 => b_if (fun c2 => ?_) (fun c2 => ⟨rfl, rfl, bad (Or.inr ?_)⟩))
  · obtain ⟨a, ha, ha2, rfl⟩ := lt1 c1 (by omega) (by omega)
    have a12 := (nI_leI ha2 (by omega)).mp c2
    have e6 : ¬ N < 6 := fun q => hno ⟨q, a, ha, a12, rfl⟩
    have e6 : N = 6 := by omega
    refine b_F (nI_nlt (by omega) (by omega)) ⟨rfl, rfl, ?_⟩
    unfold wp_X12_ring
    refine sp_in (fun q => absurd q (fun q => q.elim c1 (nI_nlt a12 (by omega)))) (fun _ _ => b_nT ne10 ?_)
    unfold wp_X12_begins
    have hma := h.2.1
    refine b_nF (by rw [hma, e6]) ?_
    refine ⟨1, ?_⟩
    unfold L_X12_ring_22
    exact b_F (nI_ge (by omega) (by omega)) (b_T (by decide) ⟨rfl, h⟩)
  · rw [Int32.lt_iff_toInt_lt]
    rw [Int32.le_iff_toInt_le] at c2
    omega
/-- one machine told anew -/
theorem RSt.set {mv' li' pr' sh' mo' lt' pc' sr' : Nat → Int32} (h : RSt N n k mv li pr sh ma st le mo lt pc sr) (hj : j < N) (ho : OKM (n j) (k j) mv' li' pr' sh')
    (e3 : ∀ i, ¬ (48 * j ≤ i ∧ i < 48 * j + 48) → mo' i = mo i) (e4 : ∀ i, ¬ (12 * j ≤ i ∧ i < 12 * j + 12) → lt' i = lt i) (e5 : ∀ i, ¬ (4 * j ≤ i ∧ i < 4 * j + 4) → pc' i = pc i ∧ sr' i = sr i)
    (f1 : RMv (n j) (k j) j mo' mv') (f2 : ∀ q, q < n j → lt' (12 * j + q) = li' q) (f3 : ∀ l, l < k j → pc' (4 * j + l) = pr' l ∧ sr' (4 * j + l) = sh' l) :
    RSt N n k (va_up mv j mv') (va_up li j li') (va_up pr j pr') (va_up sh j sh') ma st le mo' lt' pc' sr' := by
  refine ⟨h.1, h.2.1, fun i hi => ?_⟩
  obtain ⟨g1, g2, g3, g4, g5, g6⟩ := h.2.2 i hi
  by_cases c : i = j
  · subst c
    simp only [va_up, if_true]
    exact ⟨ho, g2, g3, f1, f2, f3⟩
  · obtain ⟨⟨b1, b2, b3, b4⟩, -⟩ := id g1
    simp only [va_up, if_neg c]
    refine ⟨g1, g2, g3, fun q l hq hl => ?_, fun q hq => ?_, fun l hl => ?_⟩
    · rw [e3 _ (by omega)]; exact g4 q l hq hl
    · rw [e4 _ (by omega)]; exact g5 q hq
    · rw [(e5 _ (by omega)).1, (e5 _ (by omega)).2]; exact g6 l hl
theorem up_self {α : Type} (f : Nat → α) (i : Nat) : va_up f i (f i) = f := by
  funext a
  unfold va_up
  by_cases c : a = i
  · rw [if_pos c, c]
  · rw [if_neg c]
theorem pr_move (h : RSt N n k mv li pr sh ma st le mo lt pc sr) (hj : j < N) : wp_X11_move_s made mch (nI (n j)) (nI (k j)) (mv j) (nI j) x2 x3 x4 (fun r mv' => wp_X12_move ma wl2 qd hp st le mo (nI j) x2 x3 x4 (fun r2 mo' => r = r2 ∧ RSt N n k (va_up mv j mv') li pr sh ma st le mo' lt pc sr)) := by
  obtain ⟨⟨⟨g1, g2, g3, g4⟩, g5, g6, g7, g8⟩, s1, s2, s3, s4, s5⟩ := h.2.2 j hj
  have hN := h.1
  have hsame : RSt N n k (va_up mv j (mv j)) li pr sh ma st le mo lt pc sr := by rw [up_self]; exact h
  unfold wp_X11_move_s
  refine sp_hasState g2 (fun q hq e => b_F ne10 ?_) (fun hno => b_T rfl ?_)
  · subst e
    refine sp_hasLetter g4 (fun l hl e => b_F ne10 ?_) (fun hno => b_T rfl ?_)
    · subst e
      have good : (x4 = -1 ∨ ∃ t, t < n j ∧ x4 = nI t) → J_X11_move_s_49 (nI (n j)) (nI (k j)) (nI q) (nI l) x4 (fun r mv' => wp_X12_move ma wl2 qd hp st le mo (nI j) (nI q) (nI l) x4 (fun r2 mo' => r = r2 ∧ RSt N n k (va_up mv j mv') li pr sh ma st le mo' lt pc sr)) (mv j) := fun hx => by
        unfold J_X11_move_s_49
        refine sp_target g2 g4 hq hl (sp_lead g2 g4 hq hl hx ?_)
        unfold wp_X12_move
        have fin : J_X12_move_37 (nI j) (nI q) (nI l) x4 (fun r2 mo' => mv j (q * 4 + l) = r2 ∧ RSt N n k (va_up mv j (upd (mv j) (q * 4 + l) x4)) li pr sh ma st le mo' lt pc sr) mo := by
          unfold J_X12_move_37
          rw [pk_mul, pk_mul, nI_add, nI_add, nI_clamp (by omega)]
          refine ⟨vin (by omega) (by omega), vin (by omega) (by omega), (s3 q l hq hl).symm, ?_⟩
          have := h.set (mv' := upd (mv j) (q * 4 + l) x4) (li' := li j) (pr' := pr j) (sh' := sh j) (mo' := upd mo (48 * j + 4 * q + l) x4) (lt' := lt) (pc' := pc) (sr' := sr) hj ⟨⟨g1, g2, g3, g4⟩, fun q2 l2 hq2 hl2 => ?_, g6, g7, g8⟩ (fun i hi => pk_un (by omega)) (fun _ _ => rfl) (fun _ _ => ⟨rfl, rfl⟩) (fun q2 l2 hq2 hl2 => ?_) s4 s5
          · rw [up_self, up_self, up_self] at this
            exact this
          · by_cases c : q2 * 4 + l2 = q * 4 + l
            · rw [c, pk_us]; exact hx
            · rw [pk_un c]; exact g5 q2 l2 hq2 hl2
          · by_cases c : q2 * 4 + l2 = q * 4 + l
            · rw [show 48 * j + 4 * q2 + l2 = 48 * j + 4 * q + l by omega, c, pk_us, pk_us]
            · rw [pk_un c, pk_un (by omega)]; exact s3 q2 l2 hq2 hl2
        refine rS1 h hj hq (b_F ne10 (rL1 h hj hl (b_F ne10 ?_)))
        rcases hx with e | ⟨t, ht, e⟩
        · exact b_T e fin
        · subst e
          exact b_F (nI_m1 (by omega)) (rS1 h hj ht (b_nT ne10 fin))
      refine b_if (fun c => good (Or.inl c)) (fun c => sp_hasState g2 (fun t ht e => b_nT ne10 (good (Or.inr ⟨t, ht, e⟩))) (fun hno => b_nF rfl ?_))
      unfold wp_X12_move
      exact rS1 h hj hq (b_F ne10 (rL1 h hj hl (b_F ne10 (b_F c (rS0 h hj hno (b_nF rfl ⟨rfl, hsame⟩))))))
    · unfold wp_X12_move
      exact rS1 h hj hq (b_F ne10 (rL0 h hj hno (b_T rfl ⟨rfl, hsame⟩)))
  · unfold wp_X12_move
    exact rS0 h hj hno (b_T rfl ⟨rfl, hsame⟩)
theorem pr_light (h : RSt N n k mv li pr sh ma st le mo lt pc sr) (hj : j < N) : wp_X11_light_s made mch (nI (n j)) (nI (k j)) (li j) (nI j) x2 x3 (fun r li' => wp_X12_light ma wl2 qd hp st lt (nI j) x2 x3 (fun r2 lt' => r = r2 ∧ RSt N n k mv (va_up li j li') pr sh ma st le mo lt' pc sr)) := by
  obtain ⟨⟨⟨g1, g2, g3, g4⟩, g5, g6, g7, g8⟩, s1, s2, s3, s4, s5⟩ := h.2.2 j hj
  have hN := h.1
  have hsame : RSt N n k mv (va_up li j (li j)) pr sh ma st le mo lt pc sr := by rw [up_self]; exact h
  unfold wp_X11_light_s
  refine sp_hasState g2 (fun q hq e => b_F ne10 ?_) (fun hno => b_T rfl ?_)
  · subst e
    have bad : (x3 < nI 0 ∨ nI 3 < x3) → wp_X12_light ma wl2 qd hp st lt (nI j) (nI q) x3 (fun r2 lt' => -2 = r2 ∧ RSt N n k mv (va_up li j (li j)) pr sh ma st le mo lt' pc sr) := fun c => by
      unfold wp_X12_light
      exact rS1 h hj hq (b_F ne10 (sp_in (fun _ => b_nF rfl ⟨rfl, hsame⟩) (fun c1 c2 => absurd c (fun q => q.elim c1 c2))))
    refine b_if (fun c => bad (Or.inl c)) (fun c1 => b_if (fun c2 => ?_) (fun c2 => bad (Or.inr (Int32.not_le.mp c2))))
    obtain ⟨v, hv, rfl⟩ := nI_of (x := x3) c1
    have hv3 := (nI_leI hv (by omega)).mp c2
    unfold wp_X4_putLight wp_X4_lightOf
    refine sp_hasState1 g2 hq (b_F ne10 ⟨vin (by omega) (by omega), sp_hasState1 g2 hq (b_F ne10 ⟨vin (by omega) (by omega), ?_⟩)⟩)
    rw [nI_clamp (by omega)]
    unfold wp_X12_light
    refine rS1 h hj hq (b_F ne10 (sp_in (fun c => absurd c (fun q => q.elim c1 (Int32.not_lt.mpr c2))) (fun _ _ => b_nT ne10 ?_)))
    rw [pk_mul, nI_add, nI_clamp (by omega)]
    refine ⟨vin (by omega) (by omega), vin (by omega) (by omega), (s4 q hq).symm, ?_⟩
    have := h.set (mv' := mv j) (li' := upd (li j) q (nI v)) (pr' := pr j) (sh' := sh j) (mo' := mo) (lt' := upd lt (12 * j + q) (nI v)) (pc' := pc) (sr' := sr) hj ⟨⟨g1, g2, g3, g4⟩, g5, fun q2 hq2 => ?_, g7, g8⟩ (fun _ _ => rfl) (fun i hi => pk_un (by omega)) (fun _ _ => ⟨rfl, rfl⟩) s3 (fun q2 hq2 => ?_) s5
    · rw [up_self, up_self, up_self] at this
      exact this
    · by_cases c : q2 = q
      · subst c; exact ⟨v, hv3, pk_us⟩
      · rw [pk_un c]; exact g6 q2 hq2
    · by_cases c : q2 = q
      · subst c; rw [pk_us, pk_us]
      · rw [pk_un c, pk_un (by omega)]; exact s4 q2 hq2
  · unfold wp_X12_light
    exact rS0 h hj hno (b_T rfl ⟨rfl, hsame⟩)
theorem pr_price (h : RSt N n k mv li pr sh ma st le mo lt pc sr) (hj : j < N) : wp_X11_price_s made mch (nI (n j)) (nI (k j)) (pr j) (nI j) x2 x3 (fun r pr' => wp_X12_price ma wl2 qd hp le pc (nI j) x2 x3 (fun r2 pc' => r = r2 ∧ RSt N n k mv li (va_up pr j pr') sh ma st le mo lt pc' sr)) := by
  obtain ⟨⟨⟨g1, g2, g3, g4⟩, g5, g6, g7, g8⟩, s1, s2, s3, s4, s5⟩ := h.2.2 j hj
  have hN := h.1
  have hsame : RSt N n k mv li (va_up pr j (pr j)) sh ma st le mo lt pc sr := by rw [up_self]; exact h
  unfold wp_X11_price_s
  refine sp_hasLetter g4 (fun q hq e => b_F ne10 ?_) (fun hno => b_T rfl ?_)
  · subst e
    have bad : (x3 < nI 1 ∨ nI 20 < x3) → wp_X12_price ma wl2 qd hp le pc (nI j) (nI q) x3 (fun r2 pc' => -2 = r2 ∧ RSt N n k mv li (va_up pr j (pr j)) sh ma st le mo lt pc' sr) := fun c => by
      unfold wp_X12_price
      exact rL1 h hj hq (b_F ne10 (sp_in (fun _ => b_nF rfl ⟨rfl, hsame⟩) (fun c1 c2 => absurd c (fun q => q.elim c1 c2))))
    refine b_if (fun c => bad (Or.inl c)) (fun c1 => b_if (fun c2 => ?_) (fun c2 => bad (Or.inr (Int32.not_le.mp c2))))
    obtain ⟨v, hv0, hv, rfl⟩ := lt1 c1 (by omega) (by omega)
    have hv3 := (nI_leI hv (by omega)).mp c2
    unfold wp_X4_putPrice wp_X4_priceOf
    refine sp_hasLetter1 g4 hq (b_F ne10 ⟨vin (by omega) (by omega), sp_hasLetter1 g4 hq (b_F ne10 ⟨vin (by omega) (by omega), ?_⟩)⟩)
    rw [nI_clamp (by omega)]
    unfold wp_X12_price
    refine rL1 h hj hq (b_F ne10 (sp_in (fun c => absurd c (fun q => q.elim c1 (Int32.not_lt.mpr c2))) (fun _ _ => b_nT ne10 ?_)))
    rw [pk_mul, nI_add, nI_clamp (by omega)]
    refine ⟨vin (by omega) (by omega), vin (by omega) (by omega), (s5 q hq).1.symm, ?_⟩
    have := h.set (mv' := mv j) (li' := li j) (pr' := upd (pr j) q (nI v)) (sh' := sh j) (mo' := mo) (lt' := lt) (pc' := upd pc (4 * j + q) (nI v)) (sr' := sr) hj ⟨⟨g1, g2, g3, g4⟩, g5, g6, fun q2 hq2 => ?_, g8⟩ (fun _ _ => rfl) (fun _ _ => rfl) (fun i hi => ⟨pk_un (by omega), rfl⟩) s3 s4 (fun q2 hq2 => ⟨?_, (s5 q2 hq2).2⟩)
    · rw [up_self, up_self, up_self] at this
      exact this
    · by_cases c : q2 = q
      · subst c; exact ⟨v, hv0, hv3, pk_us⟩
      · rw [pk_un c]; exact g7 q2 hq2
    · by_cases c : q2 = q
      · subst c; rw [pk_us, pk_us]
      · rw [pk_un c, pk_un (by omega)]; exact (s5 q2 hq2).1
  · unfold wp_X12_price
    exact rL0 h hj hno (b_T rfl ⟨rfl, hsame⟩)
theorem pr_share (h : RSt N n k mv li pr sh ma st le mo lt pc sr) (hj : j < N) : wp_X11_share_s made mch (nI (n j)) (nI (k j)) (sh j) (nI j) x2 x3 (fun r sh' => wp_X12_share ma wl2 qd hp le sr (nI j) x2 x3 (fun r2 sr' => r = r2 ∧ RSt N n k mv li pr (va_up sh j sh') ma st le mo lt pc sr')) := by
  obtain ⟨⟨⟨g1, g2, g3, g4⟩, g5, g6, g7, g8⟩, s1, s2, s3, s4, s5⟩ := h.2.2 j hj
  have hN := h.1
  have hsame : RSt N n k mv li pr (va_up sh j (sh j)) ma st le mo lt pc sr := by rw [up_self]; exact h
  unfold wp_X11_share_s
  refine sp_hasLetter g4 (fun q hq e => b_F ne10 ?_) (fun hno => b_T rfl ?_)
  · subst e
    have bad : (x3 < nI 0 ∨ nI 5 < x3) → wp_X12_share ma wl2 qd hp le sr (nI j) (nI q) x3 (fun r2 sr' => -2 = r2 ∧ RSt N n k mv li pr (va_up sh j (sh j)) ma st le mo lt pc sr') := fun c => by
      unfold wp_X12_share
      exact rL1 h hj hq (b_F ne10 (sp_in (fun _ => b_nF rfl ⟨rfl, hsame⟩) (fun c1 c2 => absurd c (fun q => q.elim c1 c2))))
    refine b_if (fun c => bad (Or.inl c)) (fun c1 => b_if (fun c2 => ?_) (fun c2 => bad (Or.inr (Int32.not_le.mp c2))))
    obtain ⟨v, hv, rfl⟩ := nI_of (x := x3) c1
    have hv3 := (nI_leI hv (by omega)).mp c2
    unfold wp_X4_putShare wp_X4_shareOf
    refine sp_hasLetter1 g4 hq (b_F ne10 ⟨vin (by omega) (by omega), sp_hasLetter1 g4 hq (b_F ne10 ⟨vin (by omega) (by omega), ?_⟩)⟩)
    rw [nI_clamp (by omega)]
    unfold wp_X12_share
    refine rL1 h hj hq (b_F ne10 (sp_in (fun c => absurd c (fun q => q.elim c1 (Int32.not_lt.mpr c2))) (fun _ _ => b_nT ne10 ?_)))
    rw [pk_mul, nI_add, nI_clamp (by omega)]
    refine ⟨vin (by omega) (by omega), vin (by omega) (by omega), (s5 q hq).2.symm, ?_⟩
    have := h.set (mv' := mv j) (li' := li j) (pr' := pr j) (sh' := upd (sh j) q (nI v)) (mo' := mo) (lt' := lt) (pc' := pc) (sr' := upd sr (4 * j + q) (nI v)) hj ⟨⟨g1, g2, g3, g4⟩, g5, g6, g7, fun q2 hq2 => ?_⟩ (fun _ _ => rfl) (fun _ _ => rfl) (fun i hi => ⟨rfl, pk_un (by omega)⟩) s3 s4 (fun q2 hq2 => ⟨(s5 q2 hq2).1, ?_⟩)
    · rw [up_self, up_self, up_self] at this
      exact this
    · by_cases c : q2 = q
      · subst c; exact ⟨v, hv3, pk_us⟩
      · rw [pk_un c]; exact g8 q2 hq2
    · by_cases c : q2 = q
      · subst c; rw [pk_us, pk_us]
      · rw [pk_un c, pk_un (by omega)]; exact (s5 q2 hq2).2
  · unfold wp_X12_share
    exact rL0 h hj hno (b_T rfl ⟨rfl, hsame⟩)
theorem pr_moveOf (h : RSt N n k mv li pr sh ma st le mo lt pc sr) (hj : j < N) : wp_X11_moveOf_s made mch (nI (n j)) (nI (k j)) (mv j) (nI j) x2 x3 (fun r => wp_X12_moveOf ma wl2 qd hp st le mo (nI j) x2 x3 (fun r2 => r = r2)) := by
  obtain ⟨⟨⟨g1, g2, g3, g4⟩, g5, g6, g7, g8⟩, s1, s2, s3, s4, s5⟩ := h.2.2 j hj
  have hN := h.1
  unfold wp_X11_moveOf_s
  refine sp_hasState g2 (fun q hq e => b_F ne10 ?_) (fun hno => b_T rfl ?_)
  · subst e
    refine sp_hasLetter g4 (fun l hl e => b_nT ne10 ?_) (fun hno => b_nF rfl ?_)
    · subst e
      refine sp_target g2 g4 hq hl ?_
      unfold wp_X12_moveOf
      refine rS1 h hj hq (b_F ne10 (rL1 h hj hl (b_F ne10 ?_)))
      rw [pk_mul, pk_mul, nI_add, nI_add, nI_clamp (by omega)]
      exact ⟨vin (by omega) (by omega), (s3 q l hq hl).symm⟩
    · unfold wp_X12_moveOf
      exact rS1 h hj hq (b_F ne10 (rL0 h hj hno (b_T rfl rfl)))
  · unfold wp_X12_moveOf
    exact rS0 h hj hno (b_T rfl rfl)
/-- whether no move is missing -/
def WH (n k : Nat) (m : Nat → Int32) : Prop := ∀ q l, q < n → l < k → ¬ m (q * 4 + l) = -1
theorem sp_isWhole {a b : Nat} {m : Nat → Int32} {Q : Int32 → Prop} (ha : a ≤ 12) (hb : b ≤ 4) (h1 : WH a b m → Q (nI 1)) (h0 : ¬ WH a b m → Q (nI 0)) : wp_X4_isWhole (nI a) (nI b) m Q := by
  unfold wp_X4_isWhole
  refine pk_loop (fun f i (_ : Unit) => L_X4_isWhole_2 (nI a) (nI b) m Q f (nI i)) (fun i _ => ∀ q l, q < i → l < b → ¬ m (q * 4 + l) = -1) a 0 () (Nat.zero_le _) (fun q l hq => absurd hq (by omega)) ?_ ?_
  · rintro f _ hs
    show L_X4_isWhole_2 (nI a) (nI b) m Q (f + 1) (nI a)
    unfold L_X4_isWhole_2
    exact b_T (nI_le (Nat.le_refl _) (by omega)) (h1 hs)
  · rintro f i _ hi hs ih
    show L_X4_isWhole_2 (nI a) (nI b) m Q (f + 1) (nI i)
    unfold L_X4_isWhole_2
    refine b_F (nI_ge hi (by omega)) ?_
    refine pk_loop (fun f2 l (_ : Unit) => L_X4_isWhole_12 (nI a) (nI b) m (nI i) (L_X4_isWhole_2 (nI a) (nI b) m Q f) Q f2 (nI l)) (fun l _ => ∀ l2, l2 < l → ¬ m (i * 4 + l2) = -1) b 0 () (Nat.zero_le _) (fun l hl => absurd hl (by omega)) ?_ ?_
    · rintro f2 _ hs2
      show L_X4_isWhole_12 (nI a) (nI b) m (nI i) (L_X4_isWhole_2 (nI a) (nI b) m Q f) Q (f2 + 1) (nI b)
      unfold L_X4_isWhole_12
      refine b_T (nI_le (Nat.le_refl _) (by omega)) ?_
      unfold J_X4_isWhole_38
      rw [nI_1']
      refine ih () (fun q l hq hl => ?_)
      by_cases c : q = i
      · subst c; exact hs2 l hl
      · exact hs q l (by omega) hl
    · rintro f2 l _ hl hs2 ih2
      show L_X4_isWhole_12 (nI a) (nI b) m (nI i) (L_X4_isWhole_2 (nI a) (nI b) m Q f) Q (f2 + 1) (nI l)
      unfold L_X4_isWhole_12
      refine b_F (nI_ge hl (by omega)) (sp_target ha hb hi hl (b_nif (fun c => ?_) (fun c => h0 (fun w => w i l hi hl c))))
      rw [nI_1']
      refine ih2 () (fun l2 hl2 => ?_)
      by_cases e : l2 = l
      · subst e; exact c
      · exact hs2 l2 (by omega)
theorem sp_rWhole {a b jj : Nat} {a1 a2 a3 a4 : Int32} {m : Nat → Int32} {Q : Int32 → Prop} (hj6 : jj < 6) (ha : a ≤ 12) (hb : b ≤ 4) (hs : st jj = nI a) (hl : le jj = nI b) (hr : RMv a b jj mo m) (h1 : WH a b m → Q (nI 1)) (h0 : ¬ WH a b m → Q (nI 0)) : wp_X12_isWhole a1 a2 a3 a4 st le mo (nI jj) Q := by
  unfold wp_X12_isWhole
  refine pk_loop (fun f i (s : Int32) => L_X12_isWhole_4 st le mo (nI jj) Q f s (nI i)) (fun i s => (s = nI 1 ∧ ∀ q l, q < i → l < b → ¬ m (q * 4 + l) = -1) ∨ (s = nI 0 ∧ ¬ WH a b m)) a 0 (nI 1) (Nat.zero_le _) (Or.inl ⟨rfl, fun q l hq => absurd hq (by omega)⟩) ?_ ?_
  · rintro f s hs2
    show L_X12_isWhole_4 st le mo (nI jj) Q (f + 1) s (nI a)
    unfold L_X12_isWhole_4
    rw [nI_clamp (by omega), hs]
    refine ⟨vin hj6 (by omega), b_T (nI_le (Nat.le_refl _) (by omega)) ?_⟩
    rcases hs2 with ⟨rfl, e⟩ | ⟨rfl, e⟩
    · exact ⟨Or.inr rfl, h1 e⟩
    · exact ⟨Or.inl rfl, h0 e⟩
  · rintro f i s hi hs2 ih
    show L_X12_isWhole_4 st le mo (nI jj) Q (f + 1) s (nI i)
    unfold L_X12_isWhole_4
    rw [nI_clamp (by omega), hs]
    refine ⟨vin hj6 (by omega), b_F (nI_ge hi (by omega)) ?_⟩
    refine pk_loop (fun f2 l (s : Int32) => L_X12_isWhole_17 le mo (nI jj) (nI i) (L_X12_isWhole_4 st le mo (nI jj) Q f) f2 s (nI l)) (fun l s => (s = nI 1 ∧ (∀ q l, q < i → l < b → ¬ m (q * 4 + l) = -1) ∧ ∀ l2, l2 < l → ¬ m (i * 4 + l2) = -1) ∨ (s = nI 0 ∧ ¬ WH a b m)) b 0 s (Nat.zero_le _) (hs2.elim (fun z => Or.inl ⟨z.1, z.2, fun l hl => absurd hl (by omega)⟩) Or.inr) ?_ ?_
    · rintro f2 s hs3
      show L_X12_isWhole_17 le mo (nI jj) (nI i) (L_X12_isWhole_4 st le mo (nI jj) Q f) (f2 + 1) s (nI b)
      unfold L_X12_isWhole_17
      rw [nI_clamp (by omega), hl]
      refine ⟨vin hj6 (by omega), b_T (nI_le (Nat.le_refl _) (by omega)) ?_⟩
      unfold J_X12_isWhole_60
      rw [nI_1']
      refine ih _ (hs3.elim (fun z => Or.inl ⟨z.1, fun q l hq hl => ?_⟩) Or.inr)
      by_cases c : q = i
      · subst c; exact z.2.2 l hl
      · exact z.2.1 q l (by omega) hl
    · rintro f2 l s hlb hs3 ih2
      show L_X12_isWhole_17 le mo (nI jj) (nI i) (L_X12_isWhole_4 st le mo (nI jj) Q f) (f2 + 1) s (nI l)
      unfold L_X12_isWhole_17
      rw [nI_clamp (by omega), hl]
      refine ⟨vin hj6 (by omega), b_F (nI_ge hlb (by omega)) ?_⟩
      rcases hs3 with ⟨rfl, e1, e2⟩ | ⟨rfl, e⟩
      · refine b_F ne10 ?_
        rw [pk_mul, pk_mul, nI_add, nI_add, nI_clamp (by omega), hr i l hi hlb]
        refine ⟨vin (by omega) (by omega), b_if (fun c => ?_) (fun c => ?_)⟩
        · unfold J_X12_isWhole_52 J_X12_isWhole_53
          rw [nI_1']
          exact ih2 _ (Or.inr ⟨rfl, fun w => w i l hi hlb c⟩)
        · unfold J_X12_isWhole_53
          rw [nI_1']
          refine ih2 _ (Or.inl ⟨rfl, e1, fun l2 hl2 => ?_⟩)
          by_cases z : l2 = l
          · subst z; exact c
          · exact e2 l2 (by omega)
      · refine b_T rfl ?_
        unfold J_X12_isWhole_52 J_X12_isWhole_53
        rw [nI_1']
        exact ih2 _ (Or.inr ⟨rfl, e⟩)
/-- what about answers: states, letters, whether whole -/
theorem pr_fact (h : RSt N n k mv li pr sh ma st le mo lt pc sr) (hj : j < N) {v : Nat} (hv : v ≤ 2) {Q : Int32 → Prop} (hq : ∀ r, (∀ Q2 : Int32 → Prop, Q2 r → wp_X12_aboutOf ma wl2 qd hp st le mo (nI j) (nI v) Q2) → Q r) : wp_X11_fact (nI (n j)) (nI (k j)) (mv j) (nI v) Q := by
  obtain ⟨⟨⟨g1, g2, g3, g4⟩, g5, g6, g7, g8⟩, s1, s2, s3, s4, s5⟩ := h.2.2 j hj
  have hN := h.1
  unfold wp_X11_fact
  rcases (show v = 0 ∨ v = 1 ∨ v = 2 by omega) with e | e | e
  · subst e
    refine b_nF rfl (hq _ (fun Q2 h2 => ?_))
    unfold wp_X12_aboutOf
    rw [nI_clamp (by omega), s1]
    exact b_nF rfl ⟨vin (by omega) (by omega), h2⟩
  · subst e
    refine b_nT (by decide) (b_nF rfl (hq _ (fun Q2 h2 => ?_)))
    unfold wp_X12_aboutOf
    rw [nI_clamp (n := j) (by omega), s2]
    exact b_nT (by decide) (b_nF rfl ⟨vin (by omega) (by omega), h2⟩)
  · subst e
    refine b_nT (by decide) (b_nT (by decide) (sp_isWhole g2 g4 (fun w => b_F ne10 (hq _ (fun Q2 h2 => ?_))) (fun w => b_T rfl (hq _ (fun Q2 h2 => ?_)))))
    · unfold wp_X12_aboutOf
      exact b_nT (by decide) (b_nT (by decide) (sp_rWhole (by omega) g2 g4 s1 s2 s3 (fun _ => b_F ne10 h2) (fun w2 => absurd w w2)))
    · unfold wp_X12_aboutOf
      exact b_nT (by decide) (b_nT (by decide) (sp_rWhole (by omega) g2 g4 s1 s2 s3 (fun w2 => absurd w2 w) (fun _ => b_T rfl h2)))
theorem pr_about (h : RSt N n k mv li pr sh ma st le mo lt pc sr) (hj : j < N) : wp_X11_about_s made mch (nI (n j)) (nI (k j)) (mv j) (nI j) x2 (fun r => wp_X12_about ma wl2 qd hp st le mo (nI j) x2 (fun r2 => r = r2)) := by
  unfold wp_X11_about_s
  have bad : (x2 < nI 0 ∨ nI 2 < x2) → wp_X12_about ma wl2 qd hp st le mo (nI j) x2 (fun r2 => -2 = r2) := fun c => by
    unfold wp_X12_about
    exact rM1 h hj (b_F ne10 (sp_in (fun _ => b_T rfl rfl) (fun c1 c2 => absurd c (fun q => q.elim c1 c2))))
  refine b_if (fun c => bad (Or.inl c)) (fun c1 => b_if (fun c2 => ?_) (fun c2 => bad (Or.inr (Int32.not_le.mp c2))))
  obtain ⟨v, hv, rfl⟩ := nI_of (x := x2) c1
  have hv2 := (nI_leI hv (by omega)).mp c2
  refine pr_fact (wl2 := wl2) (qd := qd) (hp := hp) h hj hv2 (fun r hr => ?_)
  unfold wp_X12_about
  exact rM1 h hj (b_F ne10 (sp_in (fun c => absurd c (fun q => q.elim c1 (Int32.not_lt.mpr c2))) (fun _ _ => b_F ne10 (hr _ rfl))))
theorem pr_empty (hw : WD wl row wl2 word) : wp_X11_empty made wl (fun r wl' => wp_X12_empty ma wl2 qd hp (fun r2 wl2' => r = r2 ∧ WD wl' row wl2' word)) := by
  obtain ⟨L, wd, w1, rfl, rfl, w4⟩ := hw
  unfold wp_X11_empty wp_X10_clear wp_X12_empty
  exact ⟨rfl, 0, wd, by omega, rfl, rfl, fun i hi => absurd hi (by omega)⟩
theorem pr_letter (hw : WD wl row wl2 word) : wp_X11_letter made wl row x1 (fun r wl' row' => wp_X12_letter ma wl2 qd hp word x1 (fun r2 wl2' word' => r = r2 ∧ WD wl' row' wl2' word')) := by
  have hw0 := hw
  obtain ⟨L, wd, w1, rfl, rfl, w4⟩ := hw
  unfold wp_X11_letter
  have bad : (x1 < nI 0 ∨ nI 3 < x1) → wp_X12_letter ma (nI L) qd hp word x1 (fun r2 wl2' word' => -2 = r2 ∧ WD (nI L) row wl2' word') := fun c => by
    unfold wp_X12_letter
    exact sp_in (fun _ => b_nF rfl ⟨rfl, hw0⟩) (fun c1 c2 => absurd c (fun q => q.elim c1 c2))
  refine b_if (fun c => bad (Or.inl c)) (fun c1 => ?_)
  obtain ⟨v, hv, rfl⟩ := nI_of (x := x1) c1
  refine b_lt hv (by omega) (fun c => ?_) (fun c => bad (Or.inr (nI_lt (by omega) hv)))
  unfold wp_X10_append
  refine b_F (nI_nlt0 (by omega)) (b_lt (by omega) (by omega) (fun d => ⟨vin (by omega) (by omega), b_F ne10 ?_⟩) (fun d => b_T rfl ?_))
  · rw [nI_clamp (by omega), nI_1']
    unfold wp_X12_letter
    refine sp_in (fun q => absurd q (fun q => q.elim (nI_nlt0 (by omega)) (nI_nlt (by omega) (by omega)))) (fun _ _ => b_nT ne10 (b_nT (fun q => by have := (nI_eq (by omega) (by omega)).mp q; omega) ⟨vin (by omega) (by omega), ?_⟩))
    rw [nI_clamp (by omega), nI_1']
    refine ⟨rfl, L + 1, fun i => if i = L then v else wd i, by omega, rfl, rfl, fun i hi => ?_⟩
    by_cases e : i = L
    · subst e; rw [pk_us, pk_us]; show (if i = i then v else wd i) < 4 ∧ nI v = nI (if i = i then v else wd i) ∧ nI v = nI (if i = i then v else wd i); rw [if_pos rfl]; exact ⟨c, rfl, rfl⟩
    · rw [pk_un e, pk_un e]; simp only [if_neg e]; exact w4 i (by omega)
  · unfold wp_X12_letter
    refine sp_in (fun q => absurd q (fun q => q.elim (nI_nlt0 (by omega)) (nI_nlt (by omega) (by omega)))) (fun _ _ => b_nT ne10 (b_nF (by rw [show L = 600 by omega]) ⟨rfl, hw0⟩))
theorem pr_letterAt (hw : WD wl row wl2 word) : wp_X11_letterAt made wl row x1 (fun r => wp_X12_letterAt ma wl2 qd hp word x1 (fun r2 => r = r2)) := by
  obtain ⟨L, wd, w1, rfl, rfl, w4⟩ := hw
  unfold wp_X11_letterAt wp_X10_at
  have bad : (x1 < nI 0 ∨ nI L - nI 1 < x1) → wp_X12_letterAt ma (nI L) qd hp word x1 (fun r2 => -1 = r2) := fun c => by
    unfold wp_X12_letterAt
    exact sp_in (fun _ => b_T rfl rfl) (fun c1 c2 => absurd c (fun q => q.elim c1 c2))
  have bad2 : nI L ≤ x1 → nI L - nI 1 < x1 := fun c => by
    rcases Nat.eq_zero_or_pos L with e | e
    · subst e
      rw [nI_0m1]
      rw [Int32.le_iff_toInt_le, nI_toInt (by omega)] at c
      rw [Int32.lt_iff_toInt_lt]
      have : (-1 : Int32).toInt = -1 := by decide
      omega
    · rw [pk_sub (by omega)]
      rw [Int32.le_iff_toInt_le, nI_toInt (by omega)] at c
      rw [Int32.lt_iff_toInt_lt, nI_toInt (by omega)]
      omega
  refine b_if (fun c => bad (Or.inl c)) (fun c1 => b_if (fun c => bad (Or.inr (bad2 c))) (fun c2 => ?_))
  obtain ⟨i, hi, rfl⟩ := in3 (by omega) c1 c2
  refine b_F (nI_ge (by omega) (by omega)) ⟨vin (by omega) (by omega), ?_⟩
  rw [nI_clamp (by omega), (w4 i hi).2.1]
  unfold wp_X12_letterAt
  refine sp_in (fun q => absurd q (fun q => q.elim c1 (fun q => ?_))) (fun _ _ => b_F ne10 ⟨vin (by omega) (by omega), ?_⟩)
  · rw [pk_sub (by omega)] at q
    exact nI_nlt (by omega) (by omega) q
  · rw [nI_clamp (by omega)]
    exact (w4 i hi).2.2.symm
theorem pr_count (hN : N ≤ 6) (hw : WD wl row wl2 word) : wp_X11_count (nI N) wl x1 (fun r => wp_X12_count (nI N) wl2 qd hp x1 (fun r2 => r = r2)) := by
  obtain ⟨L, wd, w1, rfl, rfl, w4⟩ := hw
  have bad : (¬ ∃ v, v < 2 ∧ x1 = nI v) → wp_X12_count (nI N) (nI L) qd hp x1 (fun r2 => -2 = r2) := fun c => by
    unfold wp_X12_count
    exact b_nT (fun e => c ⟨0, by omega, e⟩) (b_nT (fun e => c ⟨1, by omega, e⟩) rfl)
  unfold wp_X11_count
  refine b_if (fun c => bad (out1 (by omega) c)) (fun c1 => ?_)
  obtain ⟨v, hv, rfl⟩ := nI_of (x := x1) c1
  refine b_le hv (by omega) (fun c => ?_) (fun c => bad (fun ⟨i, hi, e⟩ => by have := (nI_eq hv (by omega)).mp e; omega))
  rcases (show v = 0 ∨ v = 1 by omega) with e | e
  · subst e
    unfold wp_X12_count
    exact b_nF rfl (b_nF rfl rfl)
  · subst e
    unfold wp_X12_count
    exact b_nT (by decide) (b_nT (by decide) (b_nF rfl rfl))
end PR
