/-! rank; a set that goes by a word -/
theorem rank_fin {b bF : BS} {F n : Nat} {made wl sl size : Int32} {row low high from_ queue : Nat → Int32} {s2 : Int32} {q2 : Nat → Int32} {Q : Int32 → Int32 → (Nat → Int32) → Int32 → (Nat → Int32) → (Nat → Int32) → (Nat → Int32) → Int32 → (Nat → Int32) → Prop} (hb : BOK b) (hr : RC b s2 from_ q2) (hch : CH b F n) (hn : n < 4096) (hp : PRE b bF) (h : ∀ wl' row', OUT (F, bF) wl row (nI n) wl' row' → Q (nI (pop F)) wl' row' sl low high from_ size queue) : J_X11_rank_s_47 made Q (nI F) wl row sl low high from_ size queue := by
  obtain ⟨i, hi, e⟩ := hch.1 0 (Nat.zero_le _)
  have hF := hb.1 i hi
  rw [e] at hF
  have hF : 0 < F ∧ F < 4096 := ⟨hF.1, hF.2.1⟩
  obtain ⟨c1, c2⟩ := hch.pre hp
  have h0 : (F, bF).1 ≠ 0 := by show F ≠ 0; omega
  unfold J_X11_rank_s_47
  refine sp_tell hb hr hch hn (fun e1 row' hrow => sp_bitCount hF.2 (h _ _ (Or.inr ⟨h0, n, c1, rfl, Or.inl ⟨e1, rfl, fun i hi => ?_⟩⟩))) (fun e1 => sp_bitCount hF.2 (h _ _ (Or.inr ⟨h0, n, c1, rfl, Or.inr ⟨e1, rfl, rfl⟩⟩)))
  rw [hrow i hi, ← c2 i hi]
theorem bfs_first {nx : Nat → Nat → Nat} {w : Nat → Bool} {k S : Nat} : PRE (b0 S) (bfs nx w k S).2 := by
  unfold bfs
  by_cases c : w S = true
  · rw [if_pos c]; exact PRE.rf
  · rw [if_neg c]; exact bout_pre _ _ _
section PR
variable {N : Nat} {n k : Nat → Nat} {mv li pr sh : Nat → Nat → Int32} {ma : Int32} {st le mo lt pc sr : Nat → Int32} {j : Nat}
variable {made wl sl size wl2 qd hp x2 x3 : Int32} {mch : Nat → Option Nat} {row low high from_ queue word rq rf rb rk : Nat → Int32}
theorem rk_eq {nx : Nat → Nat → Nat} {k S : Nat} (hk : k ≤ 4) (hx : NX nx k) (hS : 0 < S) (hS2 : S < 4096) {R : Nat × BS} {bF : BS} (hR : bfs nx (fun T => decide (pop T = 1)) k S = R) (hF : (bfs nx (fun _ => false) k S).2 = bF) : (R.1 = 0 → R.2 = bF) ∧ (R.1 ≠ 0 → PRE R.2 bF ∧ few bF.1 (bF.2.1 - 1) = R.1) := by
  have hc := bfs_cmp (nx := nx) (w := fun T => decide (pop T = 1)) (k := k) hS
  have hbF := bfs_ok (nx := nx) (w := fun _ => false) hk hx hS hS2
  rw [hR] at hc
  rw [hF] at hbF
  have hc2 : R.1 = 0 → R.2 = bF := fun z => by
    have := (hc.2.1 z).1
    rw [this, hF]
  refine ⟨hc2, fun z => ?_⟩
  obtain ⟨g1, g2, t, g3, g4, g5⟩ := hc.2.2 z
  rw [hF] at g1
  refine ⟨g1, ?_⟩
  have g2 : pop R.1 = 1 := of_decide_eq_true g2
  have et : bF.1 t = R.1 := (g1.2.1 t (by omega)).trans g4
  have hle := g1.1
  rw [← et]
  refine few_one (by rw [et]; exact g2) (fun i hi => ?_) (bF.2.1 - 1) (by omega) (fun i hi => ?_)
  · rw [g1.2.1 i (by omega)]
    have := g5 i hi
    exact of_decide_eq_false this
  · have := hbF.2.2.2.1
    have := hbF.1 i (by omega)
    exact (one_pop _ this.2.1).2.1 this.1
theorem pr_rank (h : RSt N n k mv li pr sh ma st le mo lt pc sr) (hj : j < N) (hz : TZ low high) (hw : WD wl row wl2 word) : wp_X11_rank_s made mch wl row sl low high from_ size queue (nI (n j)) (nI (k j)) (mv j) (nI j) x2 (fun r wl row sl low high from_ size queue => TZ low high ∧ wp_X12_rank ma wl2 qd hp st le mo word rq rf rb rk (nI j) x2 (fun r2 wl2 qd word rq rf rb rk => r = r2 ∧ WD wl row wl2 word)) := by
  obtain ⟨⟨⟨g1, g2, g3, g4⟩, g5, -⟩, s1, s2, s3, -⟩ := h.2.2 j hj
  have hN := h.1
  have h12 : 2 ^ n j ≤ 2 ^ 12 := Nat.pow_le_pow_right (by decide) g2
  unfold wp_X11_rank_s
  refine sp_hasSet g2 (fun S hS hS2 e => ?_) (fun hno => ?_)
  · subst e
    have hx : NX (stp (n j) (mv j)) (k j) := fun S l hl => Nat.lt_of_lt_of_le (stp_lt2 g5 g2 hl) (by omega)
    have hrk := rk_eq g4 hx hS (by omega) rfl rfl
    have hbF := bfs_ok (nx := stp (n j) (mv j)) (w := fun _ => false) g4 hx hS (by omega)
    have hf1 := bfs_first (nx := stp (n j) (mv j)) (w := fun _ => false) (k := k j) (S := S)
    have hszF := hbF.sz
    have hposF := hbF.2.2.2.1
    obtain ⟨iF, hiF, eF⟩ := few_in (bfs (stp (n j) (mv j)) (fun _ => false) (k j) S).2.1 ((bfs (stp (n j) (mv j)) (fun _ => false) (k j) S).2.2.1 - 1)
    have hFF := hbF.1 iF (by omega)
    rw [← eF] at hFF
    obtain ⟨dF, hdF, hcF⟩ := CH.ex hbF (iF + 1) iF (Nat.lt_succ_self _) (by omega)
    rw [← eF] at hcF
    -- the reference's side, for whatever word the class has
    have key : ∀ wl' row' d, OUT (few (bfs (stp (n j) (mv j)) (fun _ => false) (k j) S).2.1 ((bfs (stp (n j) (mv j)) (fun _ => false) (k j) S).2.2.1 - 1), (bfs (stp (n j) (mv j)) (fun _ => false) (k j) S).2) wl row (nI d) wl' row' → wp_X12_rank ma wl2 qd hp st le mo word rq rf rb rk (nI j) (nI S) (fun r2 wl2 qd word rq rf rb rk => nI (pop (few (bfs (stp (n j) (mv j)) (fun _ => false) (k j) S).2.1 ((bfs (stp (n j) (mv j)) (fun _ => false) (k j) S).2.2.1 - 1))) = r2 ∧ WD wl' row' wl2 word) := by
      intro wl' row' d ho
      unfold wp_X12_rank
      refine rT1 h hj hS hS2 (b_nT ne10 (sp_looks g2 g4 (by omega) s1 s2 s3 g5 WRm hS hS2 (fun q f y z _ _ hr => ?_)))
      generalize (bfs (stp (n j) (mv j)) (fun _ => false) (k j) S).2 = bF at *
      refine pk_loop (fun f i (s : Int32) => L_X12_rank_25 ma wl2 (nI bF.2.1) hp word q _ y z _ f s (nI i)) (fun i s => 1 ≤ i ∧ s = nI (few bF.1 (i - 1))) bF.2.1 1 (nI S) (by omega) ⟨Nat.le_refl _, by show nI S = nI (bF.1 0); rw [hf1.2.1 0 Nat.zero_lt_one]; rfl⟩ ?_ ?_
      · rintro f2 s ⟨a1, rfl⟩
        show L_X12_rank_25 ma wl2 (nI bF.2.1) hp word q _ y z _ (f2 + 1) _ (nI bF.2.1)
        unfold L_X12_rank_25
        refine b_T (nI_le (Nat.le_refl _) (by omega)) ?_
        unfold J_X12_rank_69
        have h0 : (few bF.1 (bF.2.1 - 1), bF).1 ≠ 0 := by show few bF.1 (bF.2.1 - 1) ≠ 0; omega
        refine sp_becomes hbF hr hcF (by omega) (fun e1 w' hw' => sp_many hFF.2.1 ?_) (fun e1 => sp_many hFF.2.1 ?_)
        · exact ⟨rfl, (OUT.eq (R := (few bF.1 (bF.2.1 - 1), bF)) hbF ho (Or.inr ⟨h0, dF, hcF, rfl, Or.inl ⟨e1, rfl, hw'⟩⟩) hw).2⟩
        · exact ⟨rfl, (OUT.eq (R := (few bF.1 (bF.2.1 - 1), bF)) hbF ho (Or.inr ⟨h0, dF, hcF, rfl, Or.inr ⟨e1, rfl, rfl⟩⟩) hw).2⟩
      · rintro f2 i s hi ⟨a1, rfl⟩ ih
        show L_X12_rank_25 ma wl2 (nI bF.2.1) hp word q _ y z _ (f2 + 1) _ (nI i)
        unfold L_X12_rank_25
        obtain ⟨i2, hi2, e2⟩ := few_in bF.1 (i - 1)
        have u1 := hbF.1 i hi
        have u2 := hbF.1 i2 (by omega)
        rw [← e2] at u2
        have p1 := (one_pop _ u1.2.1).2.2
        have p2 := (one_pop _ u2.2.1).2.2
        have hs : few bF.1 i = if pop (few bF.1 (i - 1)) ≤ pop (bF.1 i) then few bF.1 (i - 1) else bF.1 i := by
          obtain ⟨c, rfl⟩ : ∃ c, i = c + 1 := ⟨i - 1, by omega⟩
          rfl
        refine b_F (nI_ge hi (by omega)) ⟨vin (by omega) (by omega), ?_⟩
        rw [nI_clamp (n := i) (by omega), hr.2.1 i hi]
        refine sp_many u1.2.1 (sp_many u2.2.1 (b_le (by omega) (by omega) (fun c => ?_) (fun c => ⟨vin (by omega) (by omega), ?_⟩)))
        · unfold J_X12_rank_62
          rw [nI_1']
          refine ih _ ⟨by omega, ?_⟩
          rw [show i + 1 - 1 = i by omega, hs, if_pos c]
        · unfold J_X12_rank_62
          rw [nI_1']
          refine ih _ ⟨by omega, ?_⟩
          rw [show i + 1 - 1 = i by omega, hs, if_neg c]
    refine b_nT ne10 (sp_look g2 g4 g5 hz hS hS2 WN0 (fun low' high' from' queue' hz' hb hr => ?_))
    have hcm := bfs_cmp (nx := stp (n j) (mv j)) (w := fun T => decide (pop T = 1)) (k := k j) hS
    rcases Nat.eq_zero_or_pos (bfs (stp (n j) (mv j)) (fun T => decide (pop T = 1)) (k j) S).1 with z | z
    · rw [z]
      have e := hrk.1 z
      rw [e] at hb hr ⊢
      exact b_nF rfl (sp_fewest hb hr (rank_fin hb hr hcF (by omega) PRE.rf (fun wl' row' ho => ⟨hz', key _ _ _ ho⟩)))
    · obtain ⟨e1, e2⟩ := hrk.2 (by omega)
      obtain ⟨d, hd, hch⟩ := hcm.ch hb (by omega)
      obtain ⟨i, hi, e⟩ := hch.1 0 (Nat.zero_le _)
      have h4 := (hb.1 i hi).2.1
      rw [e] at h4
      have h4 : (bfs (stp (n j) (mv j)) (fun T => decide (pop T = 1)) (k j) S).1 < 4096 := h4
      refine b_nT (fun q => by have := (nI_eq (by omega) (by omega)).mp q; omega) (rank_fin hb hr hch hd e1 (fun wl' row' ho => ⟨hz', ?_⟩))
      rw [← e2] at ho ⊢
      exact key _ _ _ ho
  · refine b_nF rfl ⟨hz, ?_⟩
    unfold wp_X12_rank
    exact rT0 h hj hno (b_nF rfl ⟨rfl, hw⟩)
/-- a set by the first i letters of a word; 0: it doesn't go -/
def stw (nx : Nat → Nat → Nat) (wd : Nat → Nat) (S : Nat) : Nat → Nat
  | 0 => S
  | i + 1 => if stw nx wd S i = 0 then 0 else nx (stw nx wd S i) (wd i)
theorem stw_0 {nx : Nat → Nat → Nat} {wd : Nat → Nat} {S i : Nat} (h : stw nx wd S i = 0) : ∀ d, stw nx wd S (i + d) = 0
  | 0 => h
  | d + 1 => by rw [show i + (d + 1) = (i + d) + 1 by omega, stw, if_pos (stw_0 h d)]
theorem stw_lt {n k : Nat} {mv : Nat → Int32} {wd : Nat → Nat} {S : Nat} (hm : MV n k mv) (hn : n ≤ 12) (hS : S < 2 ^ n) : ∀ i, (∀ a, a < i → wd a < k) → stw (stp n mv) wd S i < 2 ^ n
  | 0, _ => hS
  | i + 1, h => by
    rw [stw]
    by_cases c : stw (stp n mv) wd S i = 0
    · rw [if_pos c]; exact Nat.two_pow_pos n
    · rw [if_neg c]; exact stp_lt2 hm hn (h i (Nat.lt_succ_self i))
theorem stw_cong {nx : Nat → Nat → Nat} {w1 w2 : Nat → Nat} {S : Nat} : ∀ i, (∀ a, a < i → w1 a = w2 a) → stw nx w1 S i = stw nx w2 S i
  | 0, _ => rfl
  | i + 1, h => by rw [stw, stw, stw_cong i (fun a ha => h a (by omega)), h i (Nat.lt_succ_self i)]
theorem sp_afterWord {n k S L : Nat} {mv low high row : Nat → Int32} {c : Int32} {wd : Nat → Nat} {Q : Int32 → Prop} (hn : n ≤ 12) (hk : k ≤ 4) (hm : MV n k mv) (ht : TB n k mv low high) (hS2 : S < 2 ^ n) (hL : L ≤ 600) (hr : ∀ i, i < L → wd i < k ∧ row i = nI (wd i)) (h : Q (nI (stw (stp n mv) wd S L))) : wp_X8_afterWord c low high (nI L) row (nI S) Q := by
  have h12 : 2 ^ n ≤ 2 ^ 12 := Nat.pow_le_pow_right (by decide) hn
  unfold wp_X8_afterWord
  refine pk_loop (fun f i (s : Int32) => L_X8_afterWord_5 c low high (nI L) row Q f s (nI i)) (fun i s => s = nI (stw (stp n mv) wd S i)) L 0 (nI S) (Nat.zero_le _) rfl ?_ ?_
  · rintro f s rfl
    show L_X8_afterWord_5 c low high (nI L) row Q (f + 1) _ (nI L)
    unfold L_X8_afterWord_5
    exact b_T (nI_le (Nat.le_refl _) (by omega)) h
  · rintro f i s hi rfl ih
    show L_X8_afterWord_5 c low high (nI L) row Q (f + 1) _ (nI i)
    unfold L_X8_afterWord_5
    have hlt := stw_lt (wd := wd) hm hn hS2 i (fun a ha => (hr a (by omega)).1)
    refine b_F (nI_ge hi (by omega)) (b_eq (by omega) (by omega) (fun z => ?_) (fun z => ?_))
    · have := stw_0 z (L - i)
      rw [show i + (L - i) = L by omega] at this
      rw [this] at h
      rw [z]
      exact h
    · refine sp_at hi hL ?_
      rw [(hr i hi).2]
      refine sp_after hn hk hm ht (by omega) hlt (hr i hi).1 ?_
      rw [nI_1']
      refine ih _ ?_
      rw [stw, if_neg z]
theorem sp_isOf {n k L : Nat} {nn : Int32} {row : Nat → Int32} {wd : Nat → Nat} {Q : Int32 → Prop} (hk : k ≤ 4) (hL : L ≤ 600) (hr : ∀ i, i < L → wd i < 4 ∧ row i = nI (wd i)) (h1 : (∀ i, i < L → wd i < k) → Q (nI 1)) (h0 : (∃ i, i < L ∧ ¬ wd i < k) → Q (nI 0)) : wp_X10_isOf (nI L) row nn (nI k) Q := by
  unfold wp_X10_isOf
  refine pk_loop (fun f i (_ : Unit) => L_X10_isOf_2 (nI L) row nn (nI k) Q f (nI i)) (fun i _ => ∀ a, a < i → wd a < k) L 0 () (Nat.zero_le _) (fun a ha => absurd ha (by omega)) ?_ ?_
  · rintro f _ hs
    show L_X10_isOf_2 (nI L) row nn (nI k) Q (f + 1) (nI L)
    unfold L_X10_isOf_2
    exact b_T (nI_le (Nat.le_refl _) (by omega)) (h1 hs)
  · rintro f i _ hi hs ih
    show L_X10_isOf_2 (nI L) row nn (nI k) Q (f + 1) (nI i)
    unfold L_X10_isOf_2
    refine b_F (nI_ge hi (by omega)) (b_F (nI_ge (by omega) (by omega)) ⟨vin (by omega) (by omega), ?_⟩)
    obtain ⟨r1, r2⟩ := hr i hi
    rw [nI_clamp (by omega), r2]
    refine sp_hasLetter hk (fun q hq e => ?_) (fun hno => ?_)
    · have : wd i = q := (nI_eq (by omega) (by omega)).mp e
      refine b_nT ne10 ?_
      rw [nI_1']
      refine ih () (fun a ha => ?_)
      by_cases c : a = i
      · subst c; omega
      · exact hs a (by omega)
    · exact b_nF rfl (h0 ⟨i, hi, fun c => hno ⟨wd i, c, rfl⟩⟩)
theorem pr_goes (h : RSt N n k mv li pr sh ma st le mo lt pc sr) (hj : j < N) (hz : TZ low high) (hw : WD wl row wl2 word) : wp_X11_goes_s made mch wl row sl low high (nI (n j)) (nI (k j)) (mv j) (nI j) x2 (fun r sl low high => TZ low high ∧ wp_X12_goes ma wl2 qd hp st le mo word (nI j) x2 (fun r2 => r = r2)) := by
  obtain ⟨⟨⟨g1, g2, g3, g4⟩, g5, -⟩, s1, s2, s3, -⟩ := h.2.2 j hj
  have hN := h.1
  have h12 : 2 ^ n j ≤ 2 ^ 12 := Nat.pow_le_pow_right (by decide) g2
  obtain ⟨L, wd, w1, rfl, rfl, w4⟩ := hw
  unfold wp_X11_goes_s
  refine sp_hasSet g2 (fun S hS hS2 e => ?_) (fun hno => ?_)
  · subst e
    refine b_F ne10 (sp_isOf (n := n j) g4 w1 (fun i hi => ⟨(w4 i hi).1, (w4 i hi).2.1⟩) (fun hall => ?_) (fun hbad => ?_))
    · refine b_nT ne10 (sp_load g2 g4 g5 hz (fun low' high' ht hz' => sp_afterWord g2 g4 g5 ht hS2 w1 (fun i hi => ⟨hall i hi, (w4 i hi).2.1⟩) ?_))
      have hlt := stw_lt (wd := wd) g5 g2 hS2 L hall
      have key : ∀ Q : Int32 → Prop, ((¬ nI (stw (stp (n j) (mv j)) wd S L) = nI 0 → Q (nI (stw (stp (n j) (mv j)) wd S L))) ∧ (nI (stw (stp (n j) (mv j)) wd S L) = nI 0 → Q (-1))) → wp_X12_goes ma (nI L) qd hp st le mo word (nI j) (nI S) Q := by
        intro Q hq
        unfold wp_X12_goes
        refine rT1 h hj hS hS2 (b_nT ne10 ?_)
        refine pk_loop (fun f i (_ : Unit) => L_X12_goes_14 ma (nI L) qd hp st le mo word (nI j) (nI S) Q f (nI i)) (fun _ _ => True) L 0 () (Nat.zero_le _) trivial ?_ ?_
        · rintro f _ _
          show L_X12_goes_14 ma (nI L) qd hp st le mo word (nI j) (nI S) Q (f + 1) (nI L)
          unfold L_X12_goes_14
          refine b_T (nI_le (Nat.le_refl _) (by omega)) ?_
          unfold J_X12_goes_46
          refine pk_loop (fun f i (s : Int32) => L_X12_goes_51 ma (nI L) qd hp st mo word (nI j) Q f s (nI i)) (fun i s => s = nI (stw (stp (n j) (mv j)) wd S i)) L 0 (nI S) (Nat.zero_le _) rfl ?_ ?_
          · rintro f s rfl
            show L_X12_goes_51 ma (nI L) qd hp st mo word (nI j) Q (f + 1) _ (nI L)
            unfold L_X12_goes_51
            exact b_T (nI_le (Nat.le_refl _) (by omega)) hq
          · rintro f i s hi rfl ih
            show L_X12_goes_51 ma (nI L) qd hp st mo word (nI j) Q (f + 1) _ (nI i)
            unfold L_X12_goes_51
            have hlt2 := stw_lt (wd := wd) g5 g2 hS2 i (fun a ha => hall a (by omega))
            refine b_F (nI_ge hi (by omega)) (b_le (by omega) (by omega) (fun z => ?_) (fun z => ⟨vin (by omega) (by omega), ?_⟩))
            · have z : stw (stp (n j) (mv j)) wd S i = 0 := by omega
              have := stw_0 z (L - i)
              rw [show i + (L - i) = L by omega] at this
              rw [this] at hq
              rw [z]
              exact hq
            · rw [nI_clamp (by omega), (w4 i hi).2.2, nI_1']
              refine sp_next g2 g4 (by omega) s1 s3 g5 (hall i hi) (by omega) (ih _ ?_)
              rw [stw, if_neg (by omega)]
        · rintro f i _ hi _ ih
          show L_X12_goes_14 ma (nI L) qd hp st le mo word (nI j) (nI S) Q (f + 1) (nI i)
          unfold L_X12_goes_14
          have := hall i hi
          refine b_F (nI_ge hi (by omega)) ⟨vin (by omega) (by omega), vin (by omega) (by omega), ?_⟩
          rw [nI_clamp (by omega), nI_clamp (by omega), (w4 i hi).2.2, s2, nI_1']
          exact b_T (nI_lt (hall i hi) (by omega)) (ih () trivial)
      exact b_ne (by omega) (by omega) (fun z => ⟨hz', key _ (b_nT (fun q => z ((nI_eq (by omega) (by omega)).mp q)) rfl)⟩) (fun z => ⟨hz', key _ (b_nF (by rw [z]) rfl)⟩)
    · refine b_nF rfl ⟨hz, ?_⟩
      unfold wp_X12_goes
      refine rT1 h hj hS hS2 (b_nT ne10 ?_)
      obtain ⟨b, hb1, hb2⟩ := hbad
      refine pk_loop (fun f i (_ : Unit) => L_X12_goes_14 ma (nI L) qd hp st le mo word (nI j) (nI S) (fun r2 => -2 = r2) f (nI i)) (fun i _ => i ≤ b) L 0 () (Nat.zero_le _) (Nat.zero_le _) ?_ ?_
      · rintro f _ hi
        exact absurd hi (by omega)
      · rintro f i _ hi hib ih
        show L_X12_goes_14 ma (nI L) qd hp st le mo word (nI j) (nI S) _ (f + 1) (nI i)
        unfold L_X12_goes_14
        have := (w4 i hi).1
        refine b_F (nI_ge hi (by omega)) ⟨vin (by omega) (by omega), vin (by omega) (by omega), ?_⟩
        rw [nI_clamp (by omega), nI_clamp (by omega), (w4 i hi).2.2, s2, nI_1']
        refine b_lt (by omega) (by omega) (fun c => ih () ?_) (fun c => rfl)
        show i + 1 ≤ b
        rcases Nat.lt_or_ge i b with q | q
        · omega
        · have : i = b := by omega
          subst this
          exact absurd c hb2
  · refine b_T rfl ⟨hz, ?_⟩
    unfold wp_X12_goes
    exact rT0 h hj hno (b_nF rfl rfl)
end PR
