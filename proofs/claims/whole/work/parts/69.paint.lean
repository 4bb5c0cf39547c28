/-! colour: painting, and the whole call -/
section PTA
variable {n k : Nat} {mv : Nat → Int32}
theorem md_mg {o : Nat → Nat} {pm od : Nat → Int32} (hn : n ≤ 12) (hk : k ≤ 4) (hx : PX n k mv o pm od) (hp : WT n k pm) : ∀ (d p q : Nat), p < n → q < n → (md (cmo k mv o) k d p q = true ↔ mg (RLV n k pm (fun q l => 2 ^ tg pm q l)) d p q)
  | 0, p, q, _, _ => ⟨fun h => (of_decide_eq_true h : p = q), fun h => decide_eq_true (show p = q from h)⟩
  | d + 1, p, q, hpn, hqn => by
    rw [md_s]
    constructor
    · rintro (h | ⟨l, hl, -, -, h⟩)
      · exact Or.inl ((md_mg hn hk hx hp d p q hpn hqn).mp h)
      · rw [(PX_tg hk hx hpn hl).1, (PX_tg hk hx hqn hl).1] at h
        exact Or.inr ⟨_, _, ⟨hpn, hqn, l, hl, rfl, by show (2 ^ tg pm q l).testBit (tg pm q l) = true; rw [Nat.testBit_two_pow]; exact decide_eq_true rfl⟩, (md_mg hn hk hx hp d _ _ (hp p l hpn hl).2 (hp q l hqn hl).2).mp h⟩
    · rintro (h | ⟨a, b, ⟨-, -, l, hl, ea, hb⟩, h⟩)
      · exact Or.inl ((md_mg hn hk hx hp d p q hpn hqn).mpr h)
      · have hb' : (2 ^ tg pm q l).testBit b = true := hb
        rw [Nat.testBit_two_pow, decide_eq_true_iff] at hb'
        subst ea hb'
        refine Or.inr ⟨l, hl, ?_, ?_, ?_⟩
        · rw [(PX_tg hk hx hpn hl).2, (hp p l hpn hl).1]; exact nI_m1 (by have := (hp p l hpn hl).2; have := (hp q l hqn hl).2; omega)
        · rw [(PX_tg hk hx hqn hl).2, (hp q l hqn hl).1]; exact nI_m1 (by have := (hp p l hpn hl).2; have := (hp q l hqn hl).2; omega)
        · rw [(PX_tg hk hx hpn hl).1, (PX_tg hk hx hqn hl).1]
          exact (md_mg hn hk hx hp d _ _ (hp p l hpn hl).2 (hp q l hqn hl).2).mpr h
theorem md_free {o : Nat → Nat} {pm od : Nat → Int32} (hk : k ≤ 4) (hv : VAL n k o) (hx : PX n k mv (fun _ => 0) pm od) (hw : WT n k mv) : ∀ (d p q : Nat), p < n → q < n → md (cmo k mv o) k d p q = true → mg (RLV n k pm (fun q _ => tgs mv q k)) d p q
  | 0, p, q, _, _, h => (of_decide_eq_true h : p = q)
  | d + 1, p, q, hpn, hqn, h => by
    rcases md_s.mp h with h | ⟨l, hl, -, -, h⟩
    · exact Or.inl (md_free hk hv hx hw d p q hpn hqn h)
    · have e1 : tg (cmo k mv o) p l = tg mv p (tbl k (o p) l) := congrArg Int32.toNatClampNeg (cmo_at (by omega))
      have e2 : tg (cmo k mv o) q l = tg mv q (tbl k (o q) l) := congrArg Int32.toNatClampNeg (cmo_at (by omega))
      have t1 := tbl_lt hk (hv p hpn) hl
      have t2 := tbl_lt hk (hv q hqn) hl
      rw [e1, e2] at h
      have e3 : tg mv p (tbl k (o p) l) = tg pm p (tbl k (o p) l) := by
        have := hx.1 p _ hpn t1
        rw [tbl_0 k (by omega) _ t1] at this
        exact congrArg Int32.toNatClampNeg this.symm
      exact Or.inr ⟨_, _, ⟨hpn, hqn, _, t1, e3, tgs_bit.mpr ⟨_, t2, rfl⟩⟩, md_free hk hv hx hw d _ _ (hw p _ hpn t1).2 (hw q _ hqn t2).2 h⟩
theorem sp_takeOver {pm : Nat → Int32} {Q : (Nat → Int32) → Prop} (hn : n ≤ 12) (hk : k ≤ 4) (hp : WT n k pm) (h : ∀ mv', (∀ q l, q < n → l < k → mv' (q * 4 + l) = pm (q * 4 + l)) → Q mv') : wp_X1_takeOver (nI 12) (nI 4) pm (nI n) (nI k) mv Q := by
  unfold wp_X1_takeOver
  refine pk_loop (fun f q (s : Nat → Int32) => L_X1_takeOver_2 (nI 12) (nI 4) pm (nI n) (nI k) Q f (nI q) s) (fun q s => ∀ p l, p < q → l < k → s (p * 4 + l) = pm (p * 4 + l)) n 0 mv (Nat.zero_le _) (fun p l hp => absurd hp (by omega)) ?_ ?_
  · rintro f s hs
    show L_X1_takeOver_2 (nI 12) (nI 4) pm (nI n) (nI k) Q (f + 1) (nI n) s
    unfold L_X1_takeOver_2
    exact b_T (nI_le (Nat.le_refl _) (by omega)) (h s hs)
  · rintro f q s hq hs ih
    show L_X1_takeOver_2 (nI 12) (nI 4) pm (nI n) (nI k) Q (f + 1) (nI q) s
    unfold L_X1_takeOver_2
    refine b_F (nI_ge hq (by omega)) ?_
    refine pk_loop (fun f2 l (u : Nat → Int32) => L_X1_takeOver_12 (nI 12) (nI 4) pm (nI n) (nI k) (nI q) (L_X1_takeOver_2 (nI 12) (nI 4) pm (nI n) (nI k) Q f) f2 (nI l) u) (fun l u => (∀ p x, p < q → x < k → u (p * 4 + x) = pm (p * 4 + x)) ∧ ∀ x, x < l → u (q * 4 + x) = pm (q * 4 + x)) k 0 s (Nat.zero_le _) ⟨hs, fun x hx => absurd hx (by omega)⟩ ?_ ?_
    · rintro f2 u ⟨u1, u2⟩
      show L_X1_takeOver_12 (nI 12) (nI 4) pm (nI n) (nI k) (nI q) (L_X1_takeOver_2 (nI 12) (nI 4) pm (nI n) (nI k) Q f) (f2 + 1) (nI k) u
      unfold L_X1_takeOver_12 J_X1_takeOver_41
      rw [nI_1']
      refine b_T (nI_le (Nat.le_refl _) (by omega)) (ih _ (fun p l hpq hl => ?_))
      by_cases c : p = q
      · subst c; exact u2 l hl
      · exact u1 p l (by omega) hl
    · rintro f2 l u hl ⟨u1, u2⟩ ih2
      show L_X1_takeOver_12 (nI 12) (nI 4) pm (nI n) (nI k) (nI q) (L_X1_takeOver_2 (nI 12) (nI 4) pm (nI n) (nI k) Q f) (f2 + 1) (nI l) u
      unfold L_X1_takeOver_12
      rw [nI_1']
      refine b_F (nI_ge hl (by omega)) (sp_target (n := 12) (k := 4) (by omega) (by omega) (by omega) (by omega) (sp_lead hn hk hq hl (Or.inr ⟨_, (hp q l hq hl).2, (hp q l hq hl).1⟩) (ih2 _ ⟨fun p x hpq hx => ?_, fun x hx => ?_⟩)))
      · rw [pk_un (by omega)]; exact u1 p x hpq hx
      · by_cases c : x = l
        · subst c; exact pk_us
        · rw [pk_un (by omega)]; exact u2 x (by omega)
/-- what a run of colours gives back where none is found -/
def CNO (n k j : Nat) (mv mo : Nat → Int32) (Q2 : QC) : Prop := ∀ mo' jn ord had row, RMv n k j mo' mv → (∀ i, ¬ (48 * j ≤ i ∧ i < 48 * j + 48) → mo' i = mo i) → Q2 (-1) mo' jn ord had row
def HAD (n k : Nat) (mv had : Nat → Int32) : Prop := ∀ q l, q < n → l < k → had (4 * q + l) = mv (q * 4 + l)
theorem sp_paint {j : Nat} {mo st lc : Nat → Int32} {a1 a2 a3 a4 : Int32} {G : QC → Prop} {od0 tog pm0 : Nat → Int32} {Q : Int32 → (Nat → Int32) → (Nat → Int32) → (Nat → Int32) → (Nat → Int32) → Prop} (hn0 : 1 ≤ n) (hn : n ≤ 12) (hk0 : 1 ≤ k) (hk : k ≤ 4) (hj : j < 6) (hm : MV n k mv) (hw : WH n k mv) (hst : st j = nI n) (hlc : lc j = nI k)
    (hG : ∀ Q2, (∀ had, HAD n k mv had → RGC n k j mv mo had st lc a1 a2 a3 a4 Q2 0 (fun _ => 0)) → G Q2)
    (h0 : ∀ od tog pm, (∀ Q2, CNO n k j mv mo Q2 → G Q2) → Q (-1) od tog pm mv)
    (h1 : ∀ i o od tog pm mv', VAL n k o → (∀ q l, q < n → l < k → mv' (q * 4 + l) = mv (q * 4 + tbl k (o q) l)) → (∀ Q2 : QC, (∀ mo' jn ord had row, RX n k j mv mo o mo' ord → Q2 (nI i) mo' jn ord had row) → G Q2) → Q (nI i) od tog pm mv') : wp_X1_paint od0 tog (nI 12) (nI 4) pm0 (nI n) (nI k) mv Q := by
  have hwt := wt_of hn hm hw
  have hf := fac_le k (by omega)
  unfold wp_X1_paint
  refine sp_fill (by omega) ?_
  refine pk_loop (fun f q (s : Nat → Int32) => L_X1_paint_10 (fun j => if j < 12 then nI 0 else od0 j) tog (nI 12) (nI 4) (nI n) (nI k) mv Q f (nI q) s) (fun q s => ∀ p l, p < q → l < k → s (p * 4 + l) = mv (p * 4 + tbl k 0 l)) n 0 pm0 (Nat.zero_le _) (fun p l hp => absurd hp (by omega)) ?_ ?_
  · rintro f s hs
    show L_X1_paint_10 (fun j => if j < 12 then nI 0 else od0 j) tog (nI 12) (nI 4) (nI n) (nI k) mv Q (f + 1) (nI n) s
    unfold L_X1_paint_10 J_X1_paint_30
    refine b_T (nI_le (Nat.le_refl _) (by omega)) ?_
    have hv0 : VAL n k (fun _ => 0) := fun q _ => hf.1
    have hx0 : PX n k mv (fun _ => 0) s (fun j => if j < 12 then nI 0 else od0 j) := ⟨hs, fun q hq => if_pos (by omega)⟩
    have hp0 := hx0.wt hn hk hwt hv0
    have etg : ∀ q l, q < n → l < k → tg s q l = tg mv q l := fun q l hq hl => by
      have := hx0.1 q l hq hl
      rw [tbl_0 k (by omega) l hl] at this
      exact congrArg Int32.toNatClampNeg this
    refine sp_allCome (V := fun q _ => tgs mv q k) hn0 hn hk hwt hp0 (Or.inr ⟨rfl, fun _ _ _ _ => rfl⟩) (fun p q a b ⟨c1, c2, l, hl, ea, hb⟩ => ?_) (fun _ tog' => b_nT ne10 ?_) (fun hno tog' => b_nF rfl (h0 _ _ _ (fun Q2 hq => hG Q2 (fun had hh => ?_))))
    · obtain ⟨l2, hl2, e2⟩ := tgs_bit.mp hb
      exact ⟨c2, c1, l2, hl2, by rw [etg q l2 c2 hl2]; exact e2.symm, tgs_bit.mpr ⟨l, hl, by rw [ea, etg p l c1 hl]⟩⟩
    · refine pk_loop (fun f i (u : (Nat → Int32) × (Nat → Int32) × (Nat → Int32)) => L_X1_paint_43 (nI 12) (nI 4) (nI n) (nI k) mv Q f (nI i) u.1 u.2.1 u.2.2) (fun i u => ∃ o, VAL n k o ∧ PX n k mv o u.2.2 u.1 ∧ ∀ Q2, (∀ had, HAD n k mv had → RGC n k j mv mo had st lc a1 a2 a3 a4 Q2 i o) → G Q2) 1500 0 (_, tog', s) (Nat.zero_le _) ⟨_, hv0, hx0, hG⟩ ?_ ?_
      · rintro f ⟨u1, u2, u3⟩ ⟨o, hv, hx, hg⟩
        show L_X1_paint_43 (nI 12) (nI 4) (nI n) (nI k) mv Q (f + 1) (nI 1500) u1 u2 u3
        unfold L_X1_paint_43
        exact b_T (nI_le (Nat.le_refl _) (by omega)) (h0 _ _ _ (fun Q2 hq => hg Q2 (fun had hh => RGC.full hn hk0 hk hj hlc hh (fun mo' jn ord row => hq mo' jn ord had row))))
      · rintro f i ⟨u1, u2, u3⟩ hi ⟨o, hv, hx, hg⟩ ih
        show L_X1_paint_43 (nI 12) (nI 4) (nI n) (nI k) mv Q (f + 1) (nI i) u1 u2 u3
        have hx' : PX n k mv o u3 u1 := hx
        have hp := hx'.wt hn hk hwt hv
        unfold L_X1_paint_43
        have hall : (∀ p q, p < q → q < n → ∃ d, mg (RLV n k u3 (fun q l => 2 ^ tg u3 q l)) d p q) ↔ ALL n k (cmo k mv o) := by
          constructor
          · intro h p q hpq hq
            obtain ⟨d, hd⟩ := h p q hpq hq
            exact ⟨d, (md_mg hn hk hx' hp d p q (by omega) hq).mpr hd⟩
          · intro h p q hpq hq
            obtain ⟨d, hd⟩ := h p q hpq hq
            exact ⟨d, (md_mg hn hk hx' hp d p q (by omega) hq).mp hd⟩
        refine b_F (nI_ge hi (by omega)) (sp_allCome (V := fun q l => 2 ^ tg u3 q l) hn0 hn hk hwt hp (Or.inl ⟨rfl, fun _ _ _ _ => rfl⟩) (fun p q a b ⟨c1, c2, l, hl, ea, hb⟩ => ?_) (fun hA tog'' => b_F ne10 ?_) (fun hA tog'' => b_T rfl (sp_turnOn hn hk0 hk hm hv hx' (fun pm' od' hx2 => ?_))))
        · have hb' : (2 ^ tg u3 q l).testBit b = true := hb
          rw [Nat.testBit_two_pow, decide_eq_true_iff] at hb'
          exact ⟨c2, c1, l, hl, hb'.symm, by show (2 ^ tg u3 p l).testBit a = true; rw [Nat.testBit_two_pow, ea]; exact decide_eq_true rfl⟩
        · unfold J_X1_paint_59
          refine sp_takeOver hn hk hp (fun mv' hmv => h1 i o _ _ _ mv' hv (fun q l hq hl => by rw [hmv q l hq hl, hx'.1 q l hq hl]) (fun Q2 hq => hg Q2 (fun had hh => RGC.found hn0 hn hk hj hm hst hlc hv hi (hall.mp hA) (fun mo' jn ord row hr => hq mo' jn ord had row hr))))
        · have hA' : ¬ ALL n k (cmo k mv o) := fun z => hA (hall.mpr z)
          rw [nI_1']
          cases c : (odo (fac k) n o).2
          · rw [if_neg (by decide)]
            exact b_nF rfl (h0 _ _ _ (fun Q2 hq => hg Q2 (fun had hh => RGC.next hn0 hn hk0 hk hj hm hst hlc hh hv hi hA' (fun _ mo' jn ord row => hq mo' jn ord had row) (fun z => by rw [c] at z; cases z))))
          · rw [if_pos rfl]
            exact b_nT ne10 (ih (_, _, _) ⟨_, VAL_odo hf.1 n o hv, hx2, fun Q2 hq => hg Q2 (fun had hh => RGC.next hn0 hn hk0 hk hj hm hst hlc hh hv hi hA' (fun z => by rw [c] at z; cases z) (fun _ => hq had hh))⟩)
    · refine RGC.none hn0 hn hk0 hk hj hm hst hlc hh (fun o hv hA => hno (fun p q hpq hq => ?_)) (fun mo' jn ord row => hq mo' jn ord had row) 1500 0 (by omega) _ hv0
      obtain ⟨d, hd⟩ := hA p q hpq hq
      exact ⟨d, md_free hk hv hx0 hwt d p q (by omega) hq hd⟩
  · rintro f q s hq hs ih
    show L_X1_paint_10 (fun j => if j < 12 then nI 0 else od0 j) tog (nI 12) (nI 4) (nI n) (nI k) mv Q (f + 1) (nI q) s
    unfold L_X1_paint_10
    rw [nI_1']
    refine b_F (nI_ge hq (by omega)) (sp_exch1 hn hk hm hq hf.1 (if_pos (by omega)) (fun pm' e1 e2 => ih _ (fun p l hpq hl => ?_)))
    by_cases c : p = q
    · subst c; exact e1 l hl
    · rw [e2 _ (by omega)]; exact hs p l (by omega) hl
end PTA
