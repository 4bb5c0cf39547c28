/-! the kinds: class and reference -/
theorem bI_sel {b : Bool} {v : Nat} {A : Int32 → Prop} (h : A (nI (bN b v))) : (bI b = nI 0 → A (nI 0)) ∧ (¬ bI b = nI 0 → A (nI v)) := by
  cases b
  · exact b_T rfl h
  · exact b_F ne10 h
section KRK
variable {n k j : Nat} {mv st le mo : Nat → Int32} {a b c d : Int32} {Q : Int32 → Prop}
theorem kin_out {r s o w p : Bool} (h : Q (nI (kinN r s o w p))) : J_X12_kinds_246 Q (bI r) (bI s) (bI o) (bI w) (bI p) := by
  unfold J_X12_kinds_246
  refine bI_sel (A := fun t => J_X12_kinds_256 Q (bI s) (bI o) (bI w) (bI p) t) ?_
  show J_X12_kinds_256 Q (bI s) (bI o) (bI w) (bI p) _
  unfold J_X12_kinds_256
  refine bI_sel (A := fun t => J_X12_kinds_266 Q (bI o) (bI w) (bI p) t (nI (bN r 1))) ?_
  show J_X12_kinds_266 Q (bI o) (bI w) (bI p) _ _
  unfold J_X12_kinds_266
  refine bI_sel (A := fun t => J_X12_kinds_277 Q (bI w) (bI p) t (nI (bN r 1) ||| nI (bN s 2))) ?_
  show J_X12_kinds_277 Q (bI w) (bI p) _ _
  unfold J_X12_kinds_277
  refine bI_sel (A := fun t => J_X12_kinds_289 Q (bI p) t (nI (bN r 1) ||| nI (bN s 2) ||| nI (bN o 4))) ?_
  show J_X12_kinds_289 Q (bI p) _ _
  unfold J_X12_kinds_289
  refine bI_sel (A := fun t => J_X12_kinds_301 Q t (nI (bN r 1) ||| nI (bN s 2) ||| nI (bN o 4) ||| nI (bN w 8))) ?_
  show J_X12_kinds_301 Q _ _
  unfold J_X12_kinds_301
  rw [nI_or, nI_or, nI_or, nI_or]
  exact h
theorem kr_in {l : Nat} {r W o p : Bool} {R : Int32 → Int32 → Int32 → Int32 → Int32 → Prop} (hw : WM n k mv) (hn : n ≤ 12) (hk : k ≤ 4) (hj : j < 6) (hr : RMv n k j mo mv) (hl : l < k) (h : R (bI r) (bI (o && orderB n mv l)) (bI W) (bI (p || loopB n mv l)) (nI (l + 1))) : ∃ f, L_X12_kinds_113 mo (nI j) (nI n) (bI r) (bI W) (nI l) R f (bI o) (bI p) (nI 0) := by
  refine pk_loop (fun f q (x : Int32 × Int32) => L_X12_kinds_113 mo (nI j) (nI n) (bI r) (bI W) (nI l) R f x.1 x.2 (nI q)) (fun q x => x.1 = bI (o && allB (fun q => decide (q = 0 ∨ tg mv (q - 1) l ≤ tg mv q l)) q) ∧ x.2 = bI (p || anyB (fun q => decide (tg mv q l = q)) q)) n 0 (bI o, bI p) (Nat.zero_le _) ⟨by show bI o = bI (o && true); rw [Bool.and_true], by show bI p = bI (p || false); rw [Bool.or_false]⟩ ?_ ?_
  · rintro f ⟨x1, x2⟩ ⟨e1, e2⟩
    show L_X12_kinds_113 mo (nI j) (nI n) (bI r) (bI W) (nI l) R (f + 1) x1 x2 (nI n)
    have e1' : x1 = bI (o && orderB n mv l) := e1
    have e2' : x2 = bI (p || loopB n mv l) := e2
    rw [e1', e2']
    unfold L_X12_kinds_113
    refine b_T (nI_le (Nat.le_refl _) (by omega)) ?_
    unfold J_X12_kinds_203
    rw [nI_1']
    exact h
  · rintro f q ⟨x1, x2⟩ hq ⟨e1, e2⟩ ih
    show L_X12_kinds_113 mo (nI j) (nI n) (bI r) (bI W) (nI l) R (f + 1) x1 x2 (nI q)
    have e1' : x1 = _ := e1
    have e2' : x2 = _ := e2
    have ih' : ∀ A B, A = (o && allB (fun q => decide (q = 0 ∨ tg mv (q - 1) l ≤ tg mv q l)) (q + 1)) → B = (p || anyB (fun q => decide (tg mv q l = q)) (q + 1)) → L_X12_kinds_113 mo (nI j) (nI n) (bI r) (bI W) (nI l) R f (bI A) (bI B) (nI (q + 1)) := fun A B ea eb => ih (bI A, bI B) ⟨congrArg bI ea, congrArg bI eb⟩
    rw [allB, anyB] at ih'
    rw [e1', e2']
    generalize allB (fun q => decide (q = 0 ∨ tg mv (q - 1) l ≤ tg mv q l)) q = O at ih' ⊢
    generalize anyB (fun q => decide (tg mv q l = q)) q = P at ih' ⊢
    have ht := (hw q l hq hl).2
    obtain ⟨m1, m2⟩ := mo_tg hw hr hj hn hk hq hl
    have mid : ∀ B, B = (p || (P || decide (tg mv q l = q))) → J_X12_kinds_147 mo (nI j) (nI l) (L_X12_kinds_113 mo (nI j) (nI n) (bI r) (bI W) (nI l) R f) (bI (o && O)) (nI q) (bI B) := fun B eb => by
      unfold J_X12_kinds_147 J_X12_kinds_194 J_X12_kinds_190 J_X12_kinds_195
      rw [nI_1']
      cases eo : (o && O)
      · refine b_T rfl (ih' false B ?_ eb)
        rw [← Bool.and_assoc, eo]; rfl
      · refine b_F ne10 (b_eq (by omega) (by omega) (fun z => ih' true B ?_ eb) (fun z => ?_))
        · rw [← Bool.and_assoc, eo, decide_eq_true (Or.inl z)]; rfl
        · have ht1 := (hw (q - 1) l (by omega) hl).2
          rw [pk_sub (by omega)]
          obtain ⟨u1, u2⟩ := mo_tg hw hr hj hn hk (show q - 1 < n by omega) hl
          refine ⟨u1, m1, ?_⟩
          rw [u2, m2]
          refine b_lt (by omega) (by omega) (fun cc => ih' false B ?_ eb) (fun cc => ih' true B ?_ eb)
          · rw [← Bool.and_assoc, eo, decide_eq_false (fun w => w.elim z (by omega))]; rfl
          · rw [← Bool.and_assoc, eo, decide_eq_true (Or.inr (by omega))]; rfl
    unfold L_X12_kinds_113 J_X12_kinds_142
    refine b_F (nI_ge hq (by omega)) ?_
    cases ep : (p || P)
    · refine b_nF rfl ⟨m1, ?_⟩
      rw [m2]
      refine b_ne (by omega) (by omega) (fun cc => mid false ?_) (fun cc => mid true ?_)
      · rw [← Bool.or_assoc, ep, decide_eq_false cc]; rfl
      · rw [← Bool.or_assoc, ep, decide_eq_true cc]; rfl
    · refine b_nT ne10 (mid true ?_)
      rw [← Bool.or_assoc, ep]; rfl
theorem sp_rKinds (hw : WM n k mv) (hm : MV n k mv) (h0 : 0 < n) (hn : n ≤ 12) (hk : k ≤ 4) (hj : j < 6) (hst : st j = nI n) (hle : le j = nI k) (hr : RMv n k j mo mv) (h : Q (nI (kinB n k mv))) : ∃ f, L_X12_kinds_53 a b c d st le mo (nI j) (nI n) (nI (2 ^ n - 1)) (nI 0) Q f (nI 0) (nI 1) (nI 1) (nI 0) (nI 0) := by
  have h12 : 2 ^ n ≤ 2 ^ 12 := Nat.pow_le_pow_right (by decide) hn
  have hp0 := Nat.two_pow_pos n
  refine pk_loop (fun f l (x : Int32 × Int32 × Int32 × Int32) => L_X12_kinds_53 a b c d st le mo (nI j) (nI n) (nI (2 ^ n - 1)) (nI 0) Q f x.1 x.2.1 x.2.2.1 x.2.2.2 (nI l)) (fun l x => x = (bI (anyB (ringB n mv) l), bI (allB (orderB n mv) l), bI (allB (swapB n mv) l), bI (anyB (loopB n mv) l))) k 0 (nI 0, nI 1, nI 1, nI 0) (Nat.zero_le _) rfl ?_ ?_
  · rintro f x rfl
    show L_X12_kinds_53 a b c d st le mo (nI j) (nI n) (nI (2 ^ n - 1)) (nI 0) Q (f + 1) (bI (anyB (ringB n mv) k)) (bI (allB (orderB n mv) k)) (bI (allB (swapB n mv) k)) (bI (anyB (loopB n mv) k)) (nI k)
    unfold L_X12_kinds_53
    refine ⟨vin hj (by omega), ?_⟩
    rw [nI_clamp (by omega), hle]
    refine b_T (nI_le (Nat.le_refl _) (by omega)) ?_
    unfold J_X12_kinds_209
    refine pk_loop (fun f q (x : Int32) => L_X12_kinds_212 a b c d st le mo (nI j) (nI n) (bI (anyB (ringB n mv) k)) (bI (allB (orderB n mv) k)) (bI (allB (swapB n mv) k)) (bI (anyB (loopB n mv) k)) Q f x (nI q)) (fun q x => x = bI (anyB (fun q => staysB mv k q && reachB n k mv q) q)) n 0 (nI 0) (Nat.zero_le _) rfl ?_ ?_
    · rintro f x rfl
      show L_X12_kinds_212 a b c d st le mo (nI j) (nI n) _ _ _ _ Q (f + 1) _ (nI n)
      unfold L_X12_kinds_212
      refine b_T (nI_le (Nat.le_refl _) (by omega)) (kin_out h)
    · rintro f q x hq rfl ih
      show L_X12_kinds_212 a b c d st le mo (nI j) (nI n) _ _ _ _ Q (f + 1) _ (nI q)
      unfold L_X12_kinds_212 J_X12_kinds_233 J_X12_kinds_238
      rw [nI_1']
      refine b_F (nI_ge hq (by omega)) ?_
      cases e : anyB (fun q => staysB mv k q && reachB n k mv q) q
      · refine b_nF rfl (sp_isSink hw hn hk hj hst hle hr hq ?_)
        cases e2 : staysB mv k q && reachB n k mv q
        · exact b_T rfl (ih _ (by rw [anyB, e, e2]; rfl))
        · exact b_F ne10 (ih _ (by rw [anyB, e, e2]; rfl))
      · exact b_nT ne10 (ih _ (by rw [anyB, e]; rfl))
  · rintro f l x hl rfl ih
    show L_X12_kinds_53 a b c d st le mo (nI j) (nI n) (nI (2 ^ n - 1)) (nI 0) Q (f + 1) (bI (anyB (ringB n mv) l)) (bI (allB (orderB n mv) l)) (bI (allB (swapB n mv) l)) (bI (anyB (loopB n mv) l)) (nI l)
    have fin : ∀ r W, r = (anyB (ringB n mv) l || ringB n mv l) → W = (allB (swapB n mv) l && swapB n mv l) → ∃ g, L_X12_kinds_113 mo (nI j) (nI n) (bI r) (bI W) (nI l) (L_X12_kinds_53 a b c d st le mo (nI j) (nI n) (nI (2 ^ n - 1)) (nI 0) Q f) g (bI (allB (orderB n mv) l)) (bI (anyB (loopB n mv) l)) (nI 0) := fun r W er ew => kr_in hw hn hk hj hr hl (by
      have := ih (_, _, _, _) rfl
      rw [er, ew]
      exact this)
    have mid : ∀ r, r = (anyB (ringB n mv) l || ringB n mv l) → J_X12_kinds_84 a b c d st mo (nI j) (nI n) (nI (2 ^ n - 1)) (L_X12_kinds_53 a b c d st le mo (nI j) (nI n) (nI (2 ^ n - 1)) (nI 0) Q f) (bI (allB (orderB n mv) l)) (bI (allB (swapB n mv) l)) (bI (anyB (loopB n mv) l)) (nI l) (bI r) := fun r er => by
      unfold J_X12_kinds_84 J_X12_kinds_107 J_X12_kinds_108
      cases e : allB (swapB n mv) l
      · exact b_T rfl (fin r false er (by rw [e]; rfl))
      · refine b_F ne10 (sp_next hn hk hj hst hr hm hl (by omega) ?_)
        have hX := (orf_full hw hn hl).1
        have e3 : stp n mv (2 ^ n - 1) l = orf (fun q => mt mv q l) (2 ^ n - 1) n := by
          unfold stp
          exact if_pos (by omega)
        rw [e3]
        refine b_ne (by omega) (by omega) (fun cc => fin r false er ?_) (fun cc => fin r true er ?_)
        · rw [e, Bool.true_and]; exact (decide_eq_false cc).symm
        · rw [e, Bool.true_and]; exact (decide_eq_true cc).symm
    unfold L_X12_kinds_53 J_X12_kinds_79
    refine ⟨vin hj (by omega), ?_⟩
    rw [nI_clamp (by omega), hle]
    refine b_F (nI_ge hl (by omega)) ?_
    cases e : anyB (ringB n mv) l
    · rw [e] at mid
      refine b_nF rfl (sp_isRing hw h0 hn hk hj hst hr hl ?_)
      cases e2 : ringB n mv l
      · rw [e2] at mid; exact b_T rfl (mid false rfl)
      · rw [e2] at mid; exact b_F ne10 (mid true rfl)
    · rw [e] at mid
      exact b_nT ne10 (mid true rfl)
end KRK
section PKI
variable {N : Nat} {n k : Nat → Nat} {mv li pr sh : Nat → Nat → Int32} {ma : Int32} {st le mo lt pc sr : Nat → Int32} {j : Nat}
variable {made wl2 qd hp : Int32} {mch : Nat → Option Nat}
theorem pr_kinds (h : RSt N n k mv li pr sh ma st le mo lt pc sr) (hj : j < N) : wp_X11_kinds_s made mch (nI (n j)) (nI (k j)) (mv j) (nI j) (fun r => wp_X12_kinds ma wl2 qd hp st le mo (nI j) (fun r2 => r = r2)) := by
  obtain ⟨⟨⟨g1, g2, g3, g4⟩, g5, g6, g7, g8⟩, s1, s2, s3, s4, s5⟩ := h.2.2 j hj
  have hN := h.1
  unfold wp_X11_kinds_s
  refine sp_isWhole g2 g4 (fun w => ?_) (fun w => ?_)
  · have hw := WM.of g2 g5 w
    have hp0 := Nat.two_pow_pos (n j)
    refine b_F ne10 (sp_kindsOf hw g1 g2 g4 ?_)
    unfold wp_X12_kinds
    refine rM1 h hj (b_nT ne10 (sp_rWhole (by omega) g2 g4 s1 s2 s3 (fun _ => b_nT ne10 ⟨vin (by omega) (by omega), ?_⟩) (fun w2 => absurd w w2)))
    rw [nI_clamp (by omega), s1, nI_shl1 (by omega), pk_sub (by omega)]
    exact sp_rKinds hw g5 g1 g2 g4 (by omega) s1 s2 s3 rfl
  · refine b_T rfl ?_
    unfold wp_X12_kinds
    exact rM1 h hj (b_nT ne10 (sp_rWhole (by omega) g2 g4 s1 s2 s3 (fun w2 => absurd w2 w) (fun _ => b_nF rfl rfl)))
end PKI
