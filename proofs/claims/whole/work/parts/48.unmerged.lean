/-! the reference's count of pairs apart; unmerged -/
section APT
variable {n k j : Nat} {mv mo st lc : Nat → Int32} {a1 a2 a3 a4 : Int32}
theorem jn_row {N0 p : Nat} {left more : Int32} {jn : Nat → Int32} {G : Int32 → Int32 → Int32 → (Nat → Int32) → Prop} (hn : n ≤ 12) (hk : k ≤ 4) (hj : j < 6) (hm : MV n k mv) (hlc : lc j = nI k) (hr : RMv n k j mo mv) (hp : p < n)
    (h : JSW n k mv N0 left more jn (fun a _ _ => a < p)) (hG : ∀ left more jn, JSW n k mv N0 left more jn (fun a _ _ => a < p + 1) → G left more (nI (p + 1)) jn) : ∃ f, L_X12_apartPairs_63 a1 a2 a3 a4 lc mo (nI j) (nI n) (nI p) G f left more (nI (p + 1)) jn := by
  refine pk_loop (fun f q (x : Int32 × Int32 × (Nat → Int32)) => L_X12_apartPairs_63 a1 a2 a3 a4 lc mo (nI j) (nI n) (nI p) G f x.1 x.2.1 (nI q) x.2.2) (fun q x => p < q ∧ JSW n k mv N0 x.1 x.2.1 x.2.2 (fun a b _ => a < p ∨ (a = p ∧ b < q))) n (p + 1) (left, more, jn) (by omega) ⟨by omega, h.1, h.2.1, h.2.2.imp (fun z => ⟨z.1, z.2.1, fun a b c hab hb hc e => z.2.2 a b c hab hb hc (by omega)⟩) id⟩ ?_ ?_
  · rintro f ⟨x1, x2, x3⟩ ⟨-, hx⟩
    show L_X12_apartPairs_63 a1 a2 a3 a4 lc mo (nI j) (nI n) (nI p) G (f + 1) x1 x2 (nI n) x3
    unfold L_X12_apartPairs_63
    refine b_T (nI_le (Nat.le_refl _) (by omega)) ?_
    unfold J_X12_apartPairs_198
    rw [nI_1']
    exact hG _ _ _ ⟨hx.1, hx.2.1, hx.2.2.imp (fun z => ⟨z.1, z.2.1, fun a b c hab hb hc e => z.2.2 a b c hab hb hc (by omega)⟩) id⟩
  · rintro f q ⟨x1, x2, x3⟩ hq ⟨hpq, hx⟩ ih
    show L_X12_apartPairs_63 a1 a2 a3 a4 lc mo (nI j) (nI n) (nI p) G (f + 1) x1 x2 (nI q) x3
    unfold L_X12_apartPairs_63
    exact b_F (nI_ge hq (by omega)) (jn_let hn hk hj hm hlc hr hpq hq hx (fun l m jn g => ih (l, m, jn) ⟨by omega, g⟩))
theorem sp_apartPairs {jn : Nat → Int32} {Q : Int32 → (Nat → Int32) → Prop} (hn0 : 1 ≤ n) (hn : n ≤ 12) (hk : k ≤ 4) (hj : j < 6) (hm : MV n k mv) (hst : st j = nI n) (hlc : lc j = nI k) (hr : RMv n k j mo mv)
    (h : ∀ jn, (∀ p q, p < n → q < n → p ≠ q → (isJ jn p q = true ↔ ∃ d, md mv k d p q = true)) → Q (nI (TT n - NJ n (isJ jn))) jn) : wp_X12_apartPairs a1 a2 a3 a4 st lc mo jn (nI j) Q := by
  unfold wp_X12_apartPairs
  refine ⟨vin hj (by omega), ?_⟩
  rw [nI_clamp (by omega), hst]
  refine pk_loop (fun f i (x : Nat → Int32) => L_X12_apartPairs_9 a1 a2 a3 a4 lc mo (nI j) (nI n) Q f (nI i) x) (fun i x => ∀ c, c < i → x c = nI 0) 144 0 jn (Nat.zero_le _) (fun c hc => by omega) ?_ ?_
  · intro f x hx
    show L_X12_apartPairs_9 a1 a2 a3 a4 lc mo (nI j) (nI n) Q (f + 1) (nI 144) x
    unfold L_X12_apartPairs_9
    refine b_T (nI_le (Nat.le_refl _) (by omega)) ?_
    unfold J_X12_apartPairs_29
    have e : nI n * (nI n - nI 1) / nI 2 = nI (TT n) := by
      have : n * (n - 1) ≤ 12 * 12 := Nat.mul_le_mul hn (by omega)
      rw [pk_sub hn0, pk_mul, pk_div (by omega) (by omega) (by omega)]
      rfl
    rw [e]
    have hfalse : ∀ p q, p < n → q < n → isJ x p q = false := fun p q hp hq => by unfold isJ; rw [hx _ (by omega)]; decide
    have hz : NJ n (isJ x) = 0 := NJ_none (fun p q hpq hq => hfalse p q (by omega) hq)
    refine loop_m (fun f (s : Int32 × Int32 × (Nat → Int32)) => L_X12_apartPairs_40 a1 a2 a3 a4 lc mo (nI j) (nI n) Q f s.1 s.2.1 s.2.2) (fun s => JST n k mv s.2.2 ∧ s.1 = nI (TT n - NJ n (isJ s.2.2)) ∧ ((s.2.1 = nI 0 ∧ ∀ p q l, p < q → q < n → l < k → JCL n k mv s.2.2 p q l) ∨ s.2.1 = nI 1)) (fun s => (TT n - NJ n (isJ s.2.2)) * 2 + (if s.2.1 = nI 0 then 0 else 1)) ?_ (nI (TT n), nI 1, x) ⟨⟨fun a b ha hb => Or.inl (hx _ (by omega)), fun a b ha hb => by
      show x (12 * a + b) = x (12 * b + a)
      rw [hx _ (by omega), hx _ (by omega)], fun a b ha hb hab => by
      have hab' : isJ x a b = true := hab
      rw [hfalse a b ha hb] at hab'; cases hab'⟩, by
      show nI (TT n) = nI (TT n - NJ n (isJ x))
      rw [hz, Nat.sub_zero], Or.inr rfl⟩
    rintro f ⟨x1, x2, y⟩ ⟨g1, g2, g3⟩ ih
    show L_X12_apartPairs_40 a1 a2 a3 a4 lc mo (nI j) (nI n) Q (f + 1) x1 x2 y
    have g1' : JST n k mv y := g1
    have g2' : x1 = nI (TT n - NJ n (isJ y)) := g2
    have g3' : (x2 = nI 0 ∧ ∀ p q l, p < q → q < n → l < k → JCL n k mv y p q l) ∨ x2 = nI 1 := g3
    unfold L_X12_apartPairs_40
    rcases g3' with ⟨e1, e2⟩ | e1
    · subst e1
      rw [g2']
      exact b_T rfl (h y (fun p q hp hq hpq => ⟨g1'.2.2 p q hp hq, fun ⟨d, hd⟩ => JCL.md hn hm g1' e2 d p q hp hq hpq hd⟩))
    · subst e1
      refine b_F ne10 ?_
      refine pk_loop (fun f p (x : Int32 × Int32 × (Nat → Int32)) => L_X12_apartPairs_51 a1 a2 a3 a4 lc mo (nI j) (nI n) _ f x.1 x.2.1 (nI p) x.2.2) (fun p x => JSW n k mv (NJ n (isJ y)) x.1 x.2.1 x.2.2 (fun a _ _ => a < p)) n 0 (x1, nI 0, y) (Nat.zero_le _) ⟨g1', g2', Or.inl ⟨rfl, rfl, fun p q l _ _ _ c => absurd c (by omega)⟩⟩ ?_ ?_
      · rintro f1 ⟨y1, y2, y3⟩ hy
        show L_X12_apartPairs_51 a1 a2 a3 a4 lc mo (nI j) (nI n) _ (f1 + 1) y1 y2 (nI n) y3
        have hy' : JSW n k mv (NJ n (isJ y)) y1 y2 y3 (fun a _ _ => a < n) := hy
        obtain ⟨u1, u2, u3⟩ := hy'
        unfold L_X12_apartPairs_51
        refine b_T (nI_le (Nat.le_refl _) (by omega)) ?_
        unfold J_X12_apartPairs_204
        have hT := NJ_le (n := n) (f := isJ y3)
        rw [NJ_all n (by omega)] at hT
        have hT' : NJ n (isJ y3) ≤ TT n := hT
        refine ih (y1, y2, y3) ⟨u1, u2, ?_⟩ ?_
        · rcases u3 with ⟨z1, z2, z3⟩ | ⟨z1, z2⟩
          · exact Or.inl ⟨z1, fun p q l hpq hq hl => z3 p q l hpq hq hl (by omega)⟩
          · exact Or.inr z1
        · show (TT n - NJ n (isJ y3)) * 2 + (if y2 = nI 0 then 0 else 1) < (TT n - NJ n (isJ y)) * 2 + (if nI 1 = nI 0 then 0 else 1)
          rw [if_neg ne10]
          rcases u3 with ⟨z1, z2, z3⟩ | ⟨z1, z2⟩
          · rw [if_pos z1]; omega
          · rw [if_neg (by rw [z1]; exact ne10)]; omega
      · rintro f1 p ⟨y1, y2, y3⟩ hp hy ih1
        show L_X12_apartPairs_51 a1 a2 a3 a4 lc mo (nI j) (nI n) _ (f1 + 1) y1 y2 (nI p) y3
        unfold L_X12_apartPairs_51
        rw [nI_1']
        exact b_F (nI_ge hp (by omega)) (jn_row hn hk hj hm hlc hr hp hy (fun l m jn g => ih1 (l, m, jn) g))
  · intro f i x hi hx ih
    show L_X12_apartPairs_9 a1 a2 a3 a4 lc mo (nI j) (nI n) Q (f + 1) (nI i) x
    unfold L_X12_apartPairs_9
    rw [nI_1', nI_clamp (by omega), vnz0]
    refine b_F (nI_ge hi (by omega)) ⟨vin hi (by omega), ih _ (fun c hc => ?_)⟩
    by_cases e : c = i
    · subst e; exact pk_us
    · rw [pk_un e]; exact hx c (by omega)
end APT
section PUN
variable {N : Nat} {n k : Nat → Nat} {mv li pr sh : Nat → Nat → Int32} {ma : Int32} {st le mo lt pc sr : Nat → Int32} {j : Nat}
variable {made wl2 qd hp w : Int32} {mch : Nat → Option Nat} {lens jn : Nat → Int32}
theorem pr_unmerged (h : RSt N n k mv li pr sh ma st le mo lt pc sr) (hj : j < N) : wp_X11_unmerged_s made mch w lens (nI (n j)) (nI (k j)) (mv j) (nI j) (fun r _ _ => wp_X12_unmerged ma wl2 qd hp st le mo jn (nI j) (fun r2 _ => r = r2)) := by
  obtain ⟨⟨⟨g1, g2, g3, g4⟩, g5, g6, g7, g8⟩, s1, s2, s3, s4, s5⟩ := h.2.2 j hj
  have hN := h.1
  unfold wp_X11_unmerged_s
  refine sp_loadP g1 g2 g4 g5 (fun le' L l1 l2 l3 => ?_)
  unfold wp_X12_unmerged
  refine rM1 h hj (b_F ne10 (sp_apartPairs g1 g2 g4 (by omega) g5 s1 s2 s3 (fun jn' hjn => ?_)))
  have : NJ (n j) (isL le') = NJ (n j) (isJ jn') := NJ_congr (fun p q hpq hq => by
    cases z : isJ jn' p q
    · have hno : md (mv j) (k j) L p q = false := by
        cases y : md (mv j) (k j) L p q
        · rfl
        · rw [(hjn p q (by omega) hq (by omega)).mpr ⟨L, y⟩] at z; cases z
      unfold isL
      rw [l1.none (by omega) hq hno]; decide
    · obtain ⟨d, hd⟩ := (hjn p q (by omega) hq (by omega)).mp z
      obtain ⟨e, he, -, e3⟩ := l1.val g2 (by omega) (show p < n j by omega) hq (l2.any g5 g2 (by omega) hq hd)
      unfold isL
      rw [e3]
      exact decide_eq_true (nI_m1 (by omega)))
  rw [this]
end PUN
