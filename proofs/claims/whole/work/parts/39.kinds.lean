/-! the kinds: the reference -/
section KRF
variable {n k j l q : Nat} {mv st le mo : Nat → Int32} {a b c d : Int32} {Q : Int32 → Prop}
theorem mo_tg (hw : WM n k mv) (hr : RMv n k j mo mv) (hj : j < 6) (hn : n ≤ 12) (hk : k ≤ 4) (hq : q < n) (hl : l < k) : vp_in ((((nI 48) * nI j) + ((nI 4) * nI q)) + nI l) 288 ∧ mo (Int32.toNatClampNeg ((((nI 48) * nI j) + ((nI 4) * nI q)) + nI l)) = nI (tg mv q l) := by
  rw [pk_mul, pk_mul, nI_add, nI_add, nI_clamp (by omega)]
  exact ⟨vin (by omega) (by omega), (hr q l hq hl).trans (hw q l hq hl).1⟩
theorem sp_isRing (hw : WM n k mv) (h0 : 0 < n) (hn : n ≤ 12) (hk : k ≤ 4) (hj : j < 6) (hst : st j = nI n) (hr : RMv n k j mo mv) (hl : l < k) (h : Q (bI (ringB n mv l))) : wp_X12_isRing a b c d st mo (nI j) (nI l) Q := by
  have hf : ∀ q, q < n → tg mv q l < n := fun q hq => (hw q l hq hl).2
  have h12 : 2 ^ n ≤ 2 ^ 12 := Nat.pow_le_pow_right (by decide) hn
  unfold wp_X12_isRing
  refine pk_loop (fun f i (x : Int32 × Int32) => L_X12_isRing_8 st mo (nI j) (nI l) Q f x.1 x.2 (nI i)) (fun i x => x.1 = nI (itf (fun q => tg mv q l) i) ∧ x.2 = nI (led (fun q => tg mv q l) i)) n 0 (nI 0, nI 0) (Nat.zero_le _) ⟨rfl, rfl⟩ ?_ ?_
  · rintro f ⟨x1, x2⟩ ⟨e1, e2⟩
    show L_X12_isRing_8 st mo (nI j) (nI l) Q (f + 1) x1 x2 (nI n)
    have e2' : x2 = _ := e2
    rw [e2']
    unfold L_X12_isRing_8
    refine ⟨vin hj (by omega), ?_⟩
    rw [nI_clamp (by omega), hst]
    refine b_T (nI_le (Nat.le_refl _) (by omega)) ?_
    unfold J_X12_isRing_45
    refine ⟨vin hj (by omega), ?_⟩
    have a1 := led_lt h0 hf n
    have hp0 := Nat.two_pow_pos n
    rw [nI_clamp (by omega), hst, nI_shl1 (by omega), pk_sub (by omega)]
    unfold ringB at h
    refine b_ne (by omega) (by omega) (fun c => ?_) (fun c => ?_)
    · rw [decide_eq_false c] at h; exact h
    · rw [decide_eq_true c] at h; exact h
  · rintro f i ⟨x1, x2⟩ hi ⟨e1, e2⟩ ih
    show L_X12_isRing_8 st mo (nI j) (nI l) Q (f + 1) x1 x2 (nI i)
    have e1' : x1 = _ := e1
    have e2' : x2 = _ := e2
    rw [e1', e2']
    unfold L_X12_isRing_8
    refine ⟨vin hj (by omega), ?_⟩
    rw [nI_clamp (by omega), hst]
    have a0 := itf_lt h0 hf i
    have a1 := hf _ a0
    obtain ⟨m1, m2⟩ := mo_tg hw hr hj hn hk a0 hl
    refine b_F (nI_ge hi (by omega)) ⟨m1, ?_⟩
    rw [m2, nI_shl1 (by omega), nI_or, nI_1']
    exact ih (_, _) ⟨rfl, rfl⟩
theorem sp_isSink (hw : WM n k mv) (hn : n ≤ 12) (hk : k ≤ 4) (hj : j < 6) (hst : st j = nI n) (hle : le j = nI k) (hr : RMv n k j mo mv) (hq : q < n) (h : Q (bI (staysB mv k q && reachB n k mv q))) : wp_X12_isSink a b c d st le mo (nI j) (nI q) Q := by
  have h12 : 2 ^ n ≤ 2 ^ 12 := Nat.pow_le_pow_right (by decide) hn
  have hp : 2 ^ q < 2 ^ n := Nat.pow_lt_pow_right (by decide) hq
  unfold wp_X12_isSink
  refine pk_loop (fun f l (_ : Unit) => L_X12_isSink_2 st le mo (nI j) (nI q) Q f (nI l)) (fun l _ => allB (fun l => decide (tg mv q l = q)) l = true) k 0 () (Nat.zero_le _) rfl ?_ ?_
  · rintro f _ hx
    show L_X12_isSink_2 st le mo (nI j) (nI q) Q (f + 1) (nI k)
    unfold L_X12_isSink_2
    have hst1 : staysB mv k q = true := hx
    rw [hst1, Bool.true_and] at h
    refine ⟨vin hj (by omega), ?_⟩
    rw [nI_clamp (by omega), hle]
    refine b_T (nI_le (Nat.le_refl _) (by omega)) ?_
    unfold J_X12_isSink_35
    rw [nI_shl1 (by omega)]
    -- sweeps till one adds none
    refine loop_m (fun f (s : Int32 × Int32) => L_X12_isSink_42 st le mo (nI j) Q f s.1 s.2) (fun s => ∃ m, s.1 = nI (itx (fun X => sws mv k X n) (2 ^ q) m) ∧ (s.2 = nI 1 ∨ s.2 = nI 0 ∧ sws mv k (itx (fun X => sws mv k X n) (2 ^ q) m) n = itx (fun X => sws mv k X n) (2 ^ q) m)) (fun s => (if s.2 = nI 0 then 0 else 1) + (13 - pop s.1.toNatClampNeg)) ?_ (_, _) ⟨0, rfl, Or.inl rfl⟩
    rintro f ⟨s1, s2⟩ ⟨m, e1, e2⟩ ih
    show L_X12_isSink_42 st le mo (nI j) Q (f + 1) s1 s2
    have e1' : s1 = nI (itx (fun X => sws mv k X n) (2 ^ q) m) := e1
    have e2' : s2 = nI 1 ∨ s2 = nI 0 ∧ sws mv k (itx (fun X => sws mv k X n) (2 ^ q) m) n = itx (fun X => sws mv k X n) (2 ^ q) m := e2
    have a1 := itx_lt (mv := mv) (k := k) hp m
    subst e1'
    unfold L_X12_isSink_42
    rcases e2' with rfl | ⟨rfl, e3⟩
    · refine b_F ne10 ?_
      have ih' : ∀ s' : Int32 × Int32, (∃ m, s'.1 = nI (itx (fun X => sws mv k X n) (2 ^ q) m) ∧ (s'.2 = nI 1 ∨ s'.2 = nI 0 ∧ sws mv k (itx (fun X => sws mv k X n) (2 ^ q) m) n = itx (fun X => sws mv k X n) (2 ^ q) m)) → (if s'.2 = nI 0 then 0 else 1) + (13 - pop s'.1.toNatClampNeg) < 1 + (13 - pop (itx (fun X => sws mv k X n) (2 ^ q) m)) → L_X12_isSink_42 st le mo (nI j) Q f s'.1 s'.2 := fun s' g1 g2 => ih s' g1 (by
        show _ < (if nI 1 = nI 0 then 0 else 1) + (13 - pop (nI (itx (fun X => sws mv k X n) (2 ^ q) m)).toNatClampNeg)
        rw [if_neg ne10, nI_clamp (by omega)]
        exact g2)
      have hexp : sws mv k (itx (fun X => sws mv k X n) (2 ^ q) m) n = itx (fun X => sws mv k X n) (2 ^ q) (m + 1) := rfl
      have a2 := itx_lt (mv := mv) (k := k) hp (m + 1)
      have hsub := pop_mono (X := itx (fun X => sws mv k X n) (2 ^ q) m) (Y := sws mv k (itx (fun X => sws mv k X n) (2 ^ q) m) n) (by omega) (by rw [hexp]; omega) (fun i hi => sws_sub hi n)
      have hfin : ∀ R : Int32 → Int32 → Prop, R = L_X12_isSink_42 st le mo (nI j) Q f → J_X12_isSink_113 R (nI (sws mv k (itx (fun X => sws mv k X n) (2 ^ q) m) n)) (nI (itx (fun X => sws mv k X n) (2 ^ q) m)) := by
        rintro R rfl
        unfold J_X12_isSink_113 J_X12_isSink_124
        have hpop := (one_pop _ (show itx (fun X => sws mv k X n) (2 ^ q) (m + 1) < 4096 by omega)).2.2
        rw [← hexp] at a2 hpop
        refine b_eq (by omega) (by omega) (fun c => ?_) (fun c => ?_)
        · refine ih' (_, _) ⟨m, congrArg nI c, Or.inr ⟨rfl, c⟩⟩ ?_
          show (if nI 0 = nI 0 then 0 else 1) + (13 - pop (nI (sws mv k (itx (fun X => sws mv k X n) (2 ^ q) m) n)).toNatClampNeg) < _
          rw [if_pos rfl, nI_clamp (by omega), c]
          omega
        · refine ih' (_, _) ⟨m + 1, rfl, Or.inl rfl⟩ ?_
          show (if nI 1 = nI 0 then 0 else 1) + (13 - pop (nI (sws mv k (itx (fun X => sws mv k X n) (2 ^ q) m) n)).toNatClampNeg) < _
          rw [if_neg ne10, nI_clamp (by omega)]
          have : pop (itx (fun X => sws mv k X n) (2 ^ q) m) ≠ pop (sws mv k (itx (fun X => sws mv k X n) (2 ^ q) m) n) := fun z => c (hsub.2 z).symm
          have := hsub.1
          omega
      generalize itx (fun X => sws mv k X n) (2 ^ q) m = X at a1 hfin ⊢
      refine pk_loop (fun f s (x : Int32) => L_X12_isSink_53 st le mo (nI j) (nI X) _ f x (nI s)) (fun s x => x = nI (sws mv k X s)) n 0 (nI X) (Nat.zero_le _) rfl ?_ ?_
      · rintro f1 x rfl
        show L_X12_isSink_53 st le mo (nI j) (nI X) _ (f1 + 1) _ (nI n)
        unfold L_X12_isSink_53
        refine ⟨vin hj (by omega), ?_⟩
        rw [nI_clamp (by omega), hst]
        exact b_T (nI_le (Nat.le_refl _) (by omega)) (hfin _ rfl)
      · rintro f1 s x hs rfl ih1
        show L_X12_isSink_53 st le mo (nI j) (nI X) _ (f1 + 1) _ (nI s)
        unfold L_X12_isSink_53
        refine ⟨vin hj (by omega), ?_⟩
        rw [nI_clamp (by omega), hst]
        refine b_F (nI_ge hs (by omega)) ?_
        have a2 := sws_lt (mv := mv) (k := k) a1 s (by omega)
        refine pk_loop (fun f l (x : Int32) => L_X12_isSink_67 le mo (nI j) (nI s) _ f x (nI l)) (fun l x => x = nI (swl mv s (sws mv k X s) l)) k 0 _ (Nat.zero_le _) rfl ?_ ?_
        · rintro f2 x rfl
          show L_X12_isSink_67 le mo (nI j) (nI s) _ (f2 + 1) _ (nI k)
          unfold L_X12_isSink_67
          refine ⟨vin hj (by omega), ?_⟩
          rw [nI_clamp (by omega), hle]
          refine b_T (nI_le (Nat.le_refl _) (by omega)) ?_
          unfold J_X12_isSink_107
          rw [nI_1']
          exact ih1 _ rfl
        · rintro f2 l x hl rfl ih2
          show L_X12_isSink_67 le mo (nI j) (nI s) _ (f2 + 1) _ (nI l)
          unfold L_X12_isSink_67
          refine ⟨vin hj (by omega), ?_⟩
          rw [nI_clamp (by omega), hle]
          have ht := (hw s l hs hl).2
          have a3 := swl_lt (mv := mv) hs a2 l
          obtain ⟨m1, m2⟩ := mo_tg hw hr hj hn hk hs hl
          have hb := Nat.mod_lt (swl mv s (sws mv k X s) l / 2 ^ tg mv s l) (show 0 < 2 by decide)
          have hs2 : 2 ^ s < 2 ^ 12 := Nat.pow_lt_pow_right (by decide) (by omega)
          have hmul : swl mv s (sws mv k X s) l / 2 ^ tg mv s l % 2 * 2 ^ s ≤ 1 * 2 ^ s := Nat.mul_le_mul_right _ (by omega)
          refine b_F (nI_ge hl (by omega)) ⟨m1, ?_⟩
          rw [m2, nI_shr (by omega) (by omega), nI_bit, nI_shl (by omega) (by omega), nI_or, nI_1']
          refine ih2 _ ?_
          rw [swl]
          by_cases cc : (swl mv s (sws mv k X s) l).testBit (tg mv s l) = true
          · rw [if_pos cc, (tb_div _ _).mpr cc, Nat.one_mul]
          · rw [if_neg cc, (tb_div0 _ _).mpr (by cases z : (swl mv s (sws mv k X s) l).testBit (tg mv s l); rfl; exact absurd z cc), Nat.zero_mul, Nat.or_zero]
    · refine b_T rfl ?_
      unfold J_X12_isSink_129
      refine ⟨vin hj (by omega), ?_⟩
      have hp0 := Nat.two_pow_pos n
      rw [nI_clamp (by omega), hst, nI_shl1 (by omega), pk_sub (by omega), itx_12 hn hq e3]
      rw [itx_12 hn hq e3] at a1
      unfold reachB at h
      refine b_ne (by omega) (by omega) (fun c => ?_) (fun c => ?_)
      · rw [decide_eq_false c] at h; exact h
      · rw [decide_eq_true c] at h; exact h
  · rintro f l _ hl hx ih
    show L_X12_isSink_2 st le mo (nI j) (nI q) Q (f + 1) (nI l)
    unfold L_X12_isSink_2
    refine ⟨vin hj (by omega), ?_⟩
    rw [nI_clamp (by omega), hle]
    have ht := (hw q l hq hl).2
    obtain ⟨m1, m2⟩ := mo_tg hw hr hj hn hk hq hl
    refine b_F (nI_ge hl (by omega)) ⟨m1, ?_⟩
    rw [m2, nI_1']
    refine b_eq (by omega) (by omega) (fun c => ih () ?_) (fun c => ?_)
    · rw [allB, hx, decide_eq_true c]; rfl
    · have : staysB mv k q = false := allB_dn hl (decide_eq_false c)
      rw [this, Bool.false_and] at h
      exact h
end KRF
