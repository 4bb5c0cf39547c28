/-! one machine's digest, by class and reference -/
def drow (mv : Nat → Int32) (q : Nat) (y : Int64) : Nat → Int64
  | 0 => y
  | l + 1 => lN 31 * drow mv q y l + Int32.toInt64 (mv (q * 4 + l))
def dsta (mv li : Nat → Int32) (k : Nat) (y : Int64) : Nat → Int64
  | 0 => y
  | q + 1 => lN 31 * drow mv q (dsta mv li k y q) k + Int32.toInt64 (li q)
def dlet (pr sh : Nat → Int32) (y : Int64) : Nat → Int64
  | 0 => y
  | l + 1 => lN 31 * (lN 31 * dlet pr sh y l + Int32.toInt64 (pr l)) + Int32.toInt64 (sh l)
section DIG
variable {N : Nat} {n k : Nat → Nat} {mv li pr sh : Nat → Nat → Int32} {ma : Int32} {st le mo lt pc sr : Nat → Int32} {j : Nat}
variable {wl2 qd hp : Int32}
theorem dg_cls {a b : Nat} {m l p s : Nat → Int32} {y : Int64} {Q : Int64 → Prop} (ha : a ≤ 12) (hb : b ≤ 4) (h : Q (dlet p s (dsta m l b y a) b)) : J_X11_digestOf_31 (nI a) (nI b) m l p s Q y := by
  unfold J_X11_digestOf_31
  refine pk_loop (fun f q (u : Int64) => L_X11_digestOf_34 (nI a) (nI b) m l p s Q f u (nI q)) (fun q u => u = dsta m l b y q) a 0 y (Nat.zero_le _) rfl ?_ ?_
  · rintro f u rfl
    show L_X11_digestOf_34 (nI a) (nI b) m l p s Q (f + 1) _ (nI a)
    unfold L_X11_digestOf_34
    refine b_T (nI_le (Nat.le_refl _) (by omega)) ?_
    unfold J_X11_digestOf_97
    refine pk_loop (fun f q (u : Int64) => L_X11_digestOf_100 (nI a) (nI b) p s Q f u (nI q)) (fun q u => u = dlet p s (dsta m l b y a) q) b 0 _ (Nat.zero_le _) rfl ?_ ?_
    · rintro f u rfl
      show L_X11_digestOf_100 (nI a) (nI b) p s Q (f + 1) _ (nI b)
      unfold L_X11_digestOf_100
      exact b_T (nI_le (Nat.le_refl _) (by omega)) h
    · rintro f q u hq rfl ih
      show L_X11_digestOf_100 (nI a) (nI b) p s Q (f + 1) _ (nI q)
      unfold L_X11_digestOf_100 wp_X4_priceOf wp_X4_shareOf
      rw [nI_1']
      refine b_F (nI_ge hq (by omega)) (sp_hasLetter1 hb hq (b_F ne10 ⟨vin (by omega) (by omega), sp_hasLetter1 hb hq (b_F ne10 ⟨vin (by omega) (by omega), ?_⟩)⟩))
      rw [nI_clamp (by omega)]
      exact ih _ rfl
  · rintro f q u hq rfl ih
    show L_X11_digestOf_34 (nI a) (nI b) m l p s Q (f + 1) _ (nI q)
    unfold L_X11_digestOf_34
    refine b_F (nI_ge hq (by omega)) ?_
    refine pk_loop (fun f c (u : Int64) => L_X11_digestOf_46 (nI a) (nI b) m l (nI q) _ f u (nI c)) (fun c u => u = drow m q (dsta m l b y q) c) b 0 _ (Nat.zero_le _) rfl ?_ ?_
    · rintro f1 u rfl
      show L_X11_digestOf_46 (nI a) (nI b) m l (nI q) _ (f1 + 1) _ (nI b)
      unfold L_X11_digestOf_46
      refine b_T (nI_le (Nat.le_refl _) (by omega)) ?_
      unfold J_X11_digestOf_77
      rw [nI_1']
      refine sp_lightOf (n := a) (k := b) ha hq ?_
      exact ih _ rfl
    · rintro f1 c u hc rfl ih1
      show L_X11_digestOf_46 (nI a) (nI b) m l (nI q) _ (f1 + 1) _ (nI c)
      unfold L_X11_digestOf_46
      rw [nI_1']
      exact b_F (nI_ge hc (by omega)) (sp_target ha hb hq hc (ih1 _ rfl))
theorem dg_ref {R6 : Int64 → Int32 → Prop} {y : Int64} (h : RSt N n k mv li pr sh ma st le mo lt pc sr) (hj : j < N) (hR : R6 (dlet (pr j) (sh j) (dsta (mv j) (li j) (k j) y (n j)) (k j)) (nI (j + 1))) : J_X12_digest_44 st le mo lt pc sr R6 y (nI j) := by
  obtain ⟨⟨⟨g1, g2, g3, g4⟩, g5, g6, g7, g8⟩, s1, s2, s3, s4, s5⟩ := h.2.2 j hj
  have hN := h.1
  unfold J_X12_digest_44
  refine pk_loop (fun f q (u : Int64) => L_X12_digest_47 st le mo lt pc sr (nI j) R6 f u (nI q)) (fun q u => u = dsta (mv j) (li j) (k j) y q) (n j) 0 y (Nat.zero_le _) rfl ?_ ?_
  · rintro f u rfl
    show L_X12_digest_47 st le mo lt pc sr (nI j) R6 (f + 1) _ (nI (n j))
    unfold L_X12_digest_47
    refine ⟨vin (by omega) (by omega), ?_⟩
    rw [nI_clamp (by omega), s1]
    refine b_T (nI_le (Nat.le_refl _) (by omega)) ?_
    unfold J_X12_digest_125
    refine pk_loop (fun f q (u : Int64) => L_X12_digest_128 le pc sr (nI j) R6 f u (nI q)) (fun q u => u = dlet (pr j) (sh j) (dsta (mv j) (li j) (k j) y (n j)) q) (k j) 0 _ (Nat.zero_le _) rfl ?_ ?_
    · rintro f u rfl
      show L_X12_digest_128 le pc sr (nI j) R6 (f + 1) _ (nI (k j))
      unfold L_X12_digest_128
      refine ⟨vin (by omega) (by omega), ?_⟩
      rw [nI_clamp (by omega), s2]
      refine b_T (nI_le (Nat.le_refl _) (by omega)) ?_
      unfold J_X12_digest_181
      rw [nI_1']
      exact hR
    · rintro f q u hq rfl ih
      show L_X12_digest_128 le pc sr (nI j) R6 (f + 1) _ (nI q)
      unfold L_X12_digest_128
      refine ⟨vin (by omega) (by omega), ?_⟩
      rw [nI_clamp (by omega), s2, pk_mul, nI_add, nI_1', nI_clamp (by omega), (s5 q hq).1, (s5 q hq).2]
      exact b_F (nI_ge hq (by omega)) ⟨vin (by omega) (by omega), vin (by omega) (by omega), ih _ rfl⟩
  · rintro f q u hq rfl ih
    show L_X12_digest_47 st le mo lt pc sr (nI j) R6 (f + 1) _ (nI q)
    unfold L_X12_digest_47
    refine ⟨vin (by omega) (by omega), ?_⟩
    rw [nI_clamp (by omega), s1]
    refine b_F (nI_ge hq (by omega)) ?_
    refine pk_loop (fun f c (u : Int64) => L_X12_digest_61 le mo lt (nI j) (nI q) _ f u (nI c)) (fun c u => u = drow (mv j) q (dsta (mv j) (li j) (k j) y q) c) (k j) 0 _ (Nat.zero_le _) rfl ?_ ?_
    · rintro f1 u rfl
      show L_X12_digest_61 le mo lt (nI j) (nI q) _ (f1 + 1) _ (nI (k j))
      unfold L_X12_digest_61
      refine ⟨vin (by omega) (by omega), ?_⟩
      rw [nI_clamp (by omega), s2]
      refine b_T (nI_le (Nat.le_refl _) (by omega)) ?_
      unfold J_X12_digest_99
      rw [nI_1', pk_mul, nI_add, nI_clamp (by omega), s4 q hq]
      exact ⟨vin (by omega) (by omega), ih _ rfl⟩
    · rintro f1 c u hc rfl ih1
      show L_X12_digest_61 le mo lt (nI j) (nI q) _ (f1 + 1) _ (nI c)
      unfold L_X12_digest_61
      refine ⟨vin (by omega) (by omega), ?_⟩
      rw [nI_clamp (by omega), s2, pk_mul, pk_mul, nI_add, nI_add, nI_1', nI_clamp (by omega), s3 q c hq hc]
      exact b_F (nI_ge hc (by omega)) ⟨vin (by omega) (by omega), ih1 _ rfl⟩
theorem dg_one {x : Int64} {Q : Int64 → Prop} (h : RSt N n k mv li pr sh ma st le mo lt pc sr) (hj : j < N) (hQ : ∀ r, (∀ R6 : Int64 → Int32 → Prop, R6 r (nI (j + 1)) → ∃ f, L_X12_digest_17 ma wl2 qd hp st le mo lt pc sr (nI j) R6 f x (nI 0)) → Q r) : wp_X11_digestOf (nI (n j)) (nI (k j)) (mv j) (li j) (pr j) (sh j) x Q := by
  obtain ⟨⟨⟨g1, g2, g3, g4⟩, g5, g6, g7, g8⟩, s1, s2, s3, s4, s5⟩ := h.2.2 j hj
  unfold wp_X11_digestOf
  refine ⟨4, ?_⟩
  unfold L_X11_digestOf_5
  refine b_F (nI_nlt (by omega) (by omega)) (pr_fact (wl2 := wl2) (qd := qd) (hp := hp) h hj (v := 0) (by omega) (fun r0 h0 => ?_))
  rw [nI_1']
  unfold L_X11_digestOf_5
  refine b_F (nI_nlt (by omega) (by omega)) (pr_fact (wl2 := wl2) (qd := qd) (hp := hp) h hj (v := 1) (by omega) (fun r1 h1 => ?_))
  rw [nI_1']
  unfold L_X11_digestOf_5
  refine b_F (nI_nlt (by omega) (by omega)) (pr_fact (wl2 := wl2) (qd := qd) (hp := hp) h hj (v := 2) (by omega) (fun r2 h2 => ?_))
  rw [nI_1']
  unfold L_X11_digestOf_5
  refine b_T (nI_lt (by omega) (by omega)) (dg_cls g2 g4 (hQ _ (fun R6 hR => ⟨4, ?_⟩)))
  unfold L_X12_digest_17
  refine b_F (nI_ge (by omega) (by omega)) (h0 _ ?_)
  rw [nI_1']
  unfold L_X12_digest_17
  refine b_F (nI_ge (by omega) (by omega)) (h1 _ ?_)
  rw [nI_1']
  unfold L_X12_digest_17
  refine b_F (nI_ge (by omega) (by omega)) (h2 _ ?_)
  rw [nI_1']
  unfold L_X12_digest_17
  exact b_T (nI_le (by omega) (by omega)) (dg_ref h hj hR)
end DIG
theorem mAt1 {N j : Nat} {mch : Nat → Option Nat} (hN : N ≤ 6) (hj : j < N) : wp_X11_machineAt (nI N) mch (nI j) (fun r => r = mch j) := by
  unfold wp_X11_machineAt
  refine b_F (nI_nlt0 (by omega)) (b_F (nI_ge hj (by omega)) (b_F (nI_ge (by omega) (by omega)) ⟨vin (by omega) (by omega), ?_⟩))
  rw [nI_clamp (by omega)]
theorem mAt0 {N : Nat} {x : Int32} {mch : Nat → Option Nat} (hN : N ≤ 6) (hx : ¬ ∃ j, j < N ∧ x = nI j) : wp_X11_machineAt (nI N) mch x (fun r => r = none) := by
  unfold wp_X11_machineAt J_X11_machineAt_27
  refine b_if (fun _ => rfl) (fun c1 => b_if (fun _ => rfl) (fun c2 => ?_))
  exact absurd (in3 (by omega) c1 c2) hx
