/-! colour -/
section PCO
variable {N : Nat} {n k : Nat → Nat} {mv li pr sh : Nat → Nat → Int32} {ma : Int32} {st le mo lt pc sr : Nat → Int32} {j : Nat}
variable {made wl2 qd hp : Int32} {mch : Nat → Option Nat} {od tog pm jn ord had row : Nat → Int32}
theorem RGC.go {Q2 : QC} (h : RSt N n k mv li pr sh ma st le mo lt pc sr) (hj : j < N) (hw : WH (n j) (k j) (mv j)) (hg : ∀ had, HAD (n j) (k j) (mv j) had → RGC (n j) (k j) j (mv j) mo had st le ma wl2 qd hp Q2 0 (fun _ => 0)) : wp_X12_colour ma wl2 qd hp st le mo jn ord had row (nI j) Q2 := by
  obtain ⟨⟨⟨g1, g2, g3, g4⟩, g5, -⟩, s1, s2, s3, -⟩ := h.2.2 j hj
  have hN := h.1
  have hf := fac_le (k j) (by omega)
  unfold wp_X12_colour
  refine rM1 h hj (b_nT ne10 (sp_rWhole (by omega) g2 g4 s1 s2 s3 (fun _ => b_nT ne10 ⟨vin (by omega) (by omega), ?_⟩) (fun z => absurd hw z)))
  rw [nI_clamp (by omega), s1]
  refine pk_loop (fun f i (s : Int32) => L_X12_colour_34 ma wl2 qd hp st le mo jn ord had row (nI j) (nI (n j)) Q2 f s (nI i)) (fun i s => 2 ≤ i ∧ s = nI (fac (i - 1))) (k j + 1) 2 (nI 1) (by omega) ⟨Nat.le_refl _, rfl⟩ ?_ ?_
  · rintro f s ⟨-, rfl⟩
    show L_X12_colour_34 ma wl2 qd hp st le mo jn ord had row (nI j) (nI (n j)) Q2 (f + 1) _ (nI (k j + 1))
    unfold L_X12_colour_34
    rw [nI_clamp (by omega), s2, show k j + 1 - 1 = k j by omega]
    refine ⟨vin (by omega) (by omega), b_T (nI_lt (by omega) (by omega)) ?_⟩
    unfold J_X12_colour_56
    refine pk_loop (fun f q (u : (Nat → Int32) × (Nat → Int32)) => L_X12_colour_59 ma wl2 qd hp st le mo jn row (nI j) (nI (n j)) (nI (fac (k j))) Q2 f (nI q) u.1 u.2) (fun q u => (∀ p, p < q → u.1 p = nI 0) ∧ ∀ p l, p < q → l < k j → u.2 (4 * p + l) = mv j (p * 4 + l)) (n j) 0 (ord, had) (Nat.zero_le _) ⟨fun p hp => absurd hp (by omega), fun p l hp => absurd hp (by omega)⟩ ?_ ?_
    · rintro f ⟨u1, u2⟩ ⟨e1, e2⟩
      show L_X12_colour_59 ma wl2 qd hp st le mo jn row (nI j) (nI (n j)) (nI (fac (k j))) Q2 (f + 1) (nI (n j)) u1 u2
      unfold L_X12_colour_59
      refine b_T (nI_le (Nat.le_refl _) (by omega)) ?_
      unfold J_X12_colour_124
      obtain ⟨g, hg⟩ := hg u2 e2
      exact ⟨g, hg mo u1 row jn 0 ⟨fun q l hq hl => by rw [tbl_0 _ (by omega) l hl]; exact s3 q l hq hl, fun _ _ => rfl, e1⟩ (by omega)⟩
    · rintro f q ⟨u1, u2⟩ hq ⟨e1, e2⟩ ih
      show L_X12_colour_59 ma wl2 qd hp st le mo jn row (nI j) (nI (n j)) (nI (fac (k j))) Q2 (f + 1) (nI q) u1 u2
      have e1' : ∀ p, p < q → u1 p = nI 0 := e1
      have e2' : ∀ p l, p < q → l < k j → u2 (4 * p + l) = mv j (p * 4 + l) := e2
      unfold L_X12_colour_59
      rw [nI_clamp (by omega)]
      refine b_F (nI_ge hq (by omega)) ⟨vin (by omega) (by omega), ?_⟩
      refine pk_loop (fun f2 l (w : Nat → Int32) => L_X12_colour_76 le mo (upd u1 q (nI 0)) (nI j) (nI q) (L_X12_colour_59 ma wl2 qd hp st le mo jn row (nI j) (nI (n j)) (nI (fac (k j))) Q2 f) f2 (nI l) w) (fun l w => (∀ p x, p < q → x < k j → w (4 * p + x) = mv j (p * 4 + x)) ∧ ∀ x, x < l → w (4 * q + x) = mv j (q * 4 + x)) (k j) 0 u2 (Nat.zero_le _) ⟨e2', fun x hx => absurd hx (by omega)⟩ ?_ ?_
      · rintro f2 w ⟨w1, w2⟩
        show L_X12_colour_76 le mo (upd u1 q (nI 0)) (nI j) (nI q) (L_X12_colour_59 ma wl2 qd hp st le mo jn row (nI j) (nI (n j)) (nI (fac (k j))) Q2 f) (f2 + 1) (nI (k j)) w
        unfold L_X12_colour_76 J_X12_colour_118
        rw [nI_clamp (by omega), s2, nI_1']
        refine ⟨vin (by omega) (by omega), b_T (nI_le (Nat.le_refl _) (by omega)) (ih (_, _) ⟨fun p hp => ?_, fun p l hp hl => ?_⟩)⟩
        · show upd u1 q (nI 0) p = nI 0
          by_cases c : p = q
          · subst c; exact pk_us
          · rw [pk_un c]; exact e1' p (by omega)
        · by_cases c : p = q
          · subst c; exact w2 l hl
          · exact w1 p l (by omega) hl
      · rintro f2 l w hl ⟨w1, w2⟩ ih2
        show L_X12_colour_76 le mo (upd u1 q (nI 0)) (nI j) (nI q) (L_X12_colour_59 ma wl2 qd hp st le mo jn row (nI j) (nI (n j)) (nI (fac (k j))) Q2 f) (f2 + 1) (nI l) w
        unfold L_X12_colour_76
        rw [nI_clamp (n := j) (by omega), s2, pk_mul, pk_mul, nI_add, nI_add, nI_add, nI_1', nI_clamp (n := 4 * q + l) (by omega), nI_clamp (n := 48 * j + 4 * q + l) (by omega), s3 q l hq hl]
        refine ⟨vin (by omega) (by omega), b_F (nI_ge hl (by omega)) ⟨vin (by omega) (by omega), vin (by omega) (by omega), ih2 _ ⟨fun p x hp hx => ?_, fun x hx => ?_⟩⟩⟩
        · rw [pk_un (by omega)]; exact w1 p x hp hx
        · by_cases c : x = l
          · subst c; exact pk_us
          · rw [pk_un (by omega)]; exact w2 x (by omega)
  · rintro f i s hi ⟨h2, rfl⟩ ih
    show L_X12_colour_34 ma wl2 qd hp st le mo jn ord had row (nI j) (nI (n j)) Q2 (f + 1) _ (nI i)
    unfold L_X12_colour_34
    rw [nI_clamp (by omega), s2, pk_mul, nI_1']
    refine ⟨vin (by omega) (by omega), b_F (fun z => by have := (nI_ltI (by omega) (by omega)).mp z; omega) (ih _ ⟨by omega, ?_⟩)⟩
    obtain ⟨t, rfl⟩ : ∃ t, i = t + 1 := ⟨i - 1, by omega⟩
    rfl
theorem pr_colour (h : RSt N n k mv li pr sh ma st le mo lt pc sr) (hj : j < N) : wp_X11_colour_s made mch od tog (nI 12) (nI 4) pm (nI (n j)) (nI (k j)) (mv j) (nI j) (fun r _ _ _ mv' => wp_X12_colour ma wl2 qd hp st le mo jn ord had row (nI j) (fun r2 mo' _ _ _ _ => r = r2 ∧ RSt N n k (va_up mv j mv') li pr sh ma st le mo' lt pc sr)) := by
  obtain ⟨⟨⟨g1, g2, g3, g4⟩, g5, g6, g7, g8⟩, s1, s2, s3, s4, s5⟩ := id (h.2.2 j hj)
  have hN := h.1
  have hsame : RSt N n k (va_up mv j (mv j)) li pr sh ma st le mo lt pc sr := by rw [up_self]; exact h
  have new : ∀ mv' mo', MV (n j) (k j) mv' → RMv (n j) (k j) j mo' mv' → (∀ i, ¬ (48 * j ≤ i ∧ i < 48 * j + 48) → mo' i = mo i) → RSt N n k (va_up mv j mv') li pr sh ma st le mo' lt pc sr := fun mv' mo' z1 z2 z3 => by
    have := h.set (mv' := mv') (li' := li j) (pr' := pr j) (sh' := sh j) (mo' := mo') (lt' := lt) (pc' := pc) (sr' := sr) hj ⟨⟨g1, g2, g3, g4⟩, z1, g6, g7, g8⟩ z3 (fun _ _ => rfl) (fun _ _ => ⟨rfl, rfl⟩) z2 s4 s5
    rw [up_self, up_self, up_self] at this
    exact this
  unfold wp_X11_colour_s
  refine sp_isWhole g2 g4 (fun hw => b_F ne10 ?_) (fun hw => b_T rfl ?_)
  · refine sp_paint (G := fun Q2 => wp_X12_colour ma wl2 qd hp st le mo jn ord had row (nI j) Q2) (mo := mo) (st := st) (lc := le) (a1 := ma) (a2 := wl2) (a3 := qd) (a4 := hp) (j := j) g1 g2 g3 g4 (by omega) g5 hw s1 s2 (fun Q2 hg => RGC.go h hj hw hg) (fun _ _ _ hq => hq _ (fun mo' _ _ _ _ z1 z2 => ⟨rfl, new _ _ g5 z1 z2⟩)) (fun i o _ _ _ mv' hv hmv hq => hq _ (fun mo' _ _ _ _ hx => ⟨rfl, new _ _ (fun q l hq2 hl => ?_) (fun q l hq2 hl => ?_) hx.2.1⟩))
    · rw [hmv q l hq2 hl]
      exact g5 q _ hq2 (tbl_lt g4 (hv q hq2) hl)
    · rw [hmv q l hq2 hl]
      exact hx.1 q l hq2 hl
  · unfold wp_X12_colour
    exact rM1 h hj (b_nT ne10 (sp_rWhole (by omega) g2 g4 s1 s2 s3 (fun z => absurd z hw) (fun _ => b_nF rfl ⟨rfl, hsame⟩)))
end PCO
