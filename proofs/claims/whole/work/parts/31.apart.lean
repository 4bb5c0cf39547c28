/-! two states told apart by their lights: class and reference go step by step alike -/
def AR (n sz : Nat) (qd : Nat → Nat) (le qu pl pr : Nat → Int32) : Prop := sz ≤ 144 ∧ (∀ t, t < sz → qd t < 12 * n ∧ qd t % 12 < n ∧ qu t = nI (qd t) ∧ pr t = nI (qd t) ∧ ∃ v, v ≤ t ∧ le (qd t) = nI v) ∧ (∀ c, c < 144 → le c = pl c ∧ ((∃ t, t < sz ∧ qd t = c) ∨ le c = -1)) ∧ ∀ a b, a < b → b < sz → qd a ≠ qd b
theorem AR.push {n sz T i v : Nat} {qd : Nat → Nat} {le qu pl pr : Nat → Int32} (hn : n ≤ 12) (h : AR n sz qd le qu pl pr) (hT : T < 12 * n) (hT2 : T % 12 < n) (hl : le T = -1) (hi : i < sz) (hv : v ≤ i) : sz < 144 ∧ AR n (sz + 1) (fun t => if t = sz then T else qd t) (upd le T (nI (v + 1))) (upd qu sz (nI T)) (upd pl T (nI (v + 1))) (upd pr sz (nI T)) := by
  obtain ⟨h1, h2, h3, h4⟩ := h
  have hne : ∀ t, t < sz → qd t ≠ T := fun t ht e => by
    obtain ⟨-, -, -, -, w, hw, e2⟩ := h2 t ht
    rw [e, hl] at e2
    exact m1_nI (by omega) e2
  have hinj : ∀ a b, a < b → b < sz + 1 → (if a = sz then T else qd a) ≠ (if b = sz then T else qd b) := fun a b hab hb => by
    rw [if_neg (by omega)]
    by_cases e : b = sz
    · rw [if_pos e]; exact hne a (by omega)
    · rw [if_neg e]; exact h4 a b hab (by omega)
  have hsz := fb_holes 144 (sz + 1) (fun t => if t = sz then T else qd t) (fun t ht => by
    show (if t = sz then T else qd t) < 144
    by_cases e : t = sz
    · rw [if_pos e]; omega
    · rw [if_neg e]; have := (h2 t (by omega)).1; omega) hinj
  refine ⟨by omega, by omega, fun t ht => ?_, fun c hc => ?_, hinj⟩
  · by_cases e : t = sz
    · subst e
      show (if t = t then T else qd t) < _ ∧ (if t = t then T else qd t) % 12 < n ∧ upd qu t (nI T) t = nI (if t = t then T else qd t) ∧ upd pr t (nI T) t = nI (if t = t then T else qd t) ∧ ∃ w, w ≤ t ∧ upd le T (nI (v + 1)) (if t = t then T else qd t) = nI w
      rw [if_pos rfl, pk_us, pk_us, pk_us]
      exact ⟨hT, hT2, rfl, rfl, v + 1, by omega, rfl⟩
    · show (if t = sz then T else qd t) < _ ∧ (if t = sz then T else qd t) % 12 < n ∧ upd qu sz (nI T) t = nI (if t = sz then T else qd t) ∧ upd pr sz (nI T) t = nI (if t = sz then T else qd t) ∧ ∃ w, w ≤ t ∧ upd le T (nI (v + 1)) (if t = sz then T else qd t) = nI w
      rw [if_neg e, pk_un e, pk_un e, pk_un (hne t (by omega))]
      exact h2 t (by omega)
  · by_cases e : c = T
    · subst e
      rw [pk_us, pk_us]
      exact ⟨rfl, Or.inl ⟨sz, Nat.lt_succ_self _, if_pos rfl⟩⟩
    · rw [pk_un e, pk_un e]
      refine ⟨(h3 c hc).1, (h3 c hc).2.imp (fun ⟨t, ht, e2⟩ => ⟨t, by omega, ?_⟩) id⟩
      show (if t = sz then T else qd t) = c
      rw [if_neg (by omega)]; exact e2
theorem AR.start {n T : Nat} {le qu pl pr : Nat → Int32} (hT : T < 12 * n) (hT2 : T % 12 < n) (h0 : ∀ c, c < 144 → le c = -1) (h1 : ∀ c, c < 144 → pl c = -1) : AR n 1 (fun _ => T) (upd le T (nI 0)) (upd qu 0 (nI T)) (upd pl T (nI 0)) (upd pr 0 (nI T)) := by
  refine ⟨by omega, fun t ht => ?_, fun c hc => ?_, fun a b hab hb => by omega⟩
  · have : t = 0 := by omega
    subst this
    exact ⟨hT, hT2, pk_us, pk_us, 0, Nat.le_refl _, pk_us⟩
  · by_cases e : c = T
    · subst e
      rw [pk_us, pk_us]
      exact ⟨rfl, Or.inl ⟨0, by omega, rfl⟩⟩
    · rw [pk_un e, pk_un e, h0 c hc, h1 c hc]
      exact ⟨rfl, Or.inr rfl⟩
theorem sp_lengthOf {a b : Nat} {w : Int32} {le : Nat → Int32} {Q : Int32 → Prop} (ha : a < 12) (hb : b < 12) (h : Q (le (a * 12 + b))) : wp_X5_lengthOf w le (nI a) (nI b) Q := by
  unfold wp_X5_lengthOf
  refine b_F (nI_nlt0 (by omega)) (b_F (nI_ge (by omega) (by omega)) (b_F (nI_nlt0 (by omega)) (b_F (nI_ge (by omega) (by omega)) ?_)))
  rw [pk_mul, nI_add, nI_clamp (by omega)]
  exact ⟨vin (by omega) (by omega), h⟩
theorem sp_setLength {a b : Nat} {w x : Int32} {le : Nat → Int32} {Q : (Nat → Int32) → Prop} (ha : a < 12) (hb : b < 12) (h : Q (upd le (a * 12 + b) x)) : wp_X5_setLength w le (nI a) (nI b) x Q := by
  unfold wp_X5_setLength
  refine b_F (nI_nlt0 (by omega)) (b_F (nI_ge (by omega) (by omega)) (b_F (nI_nlt0 (by omega)) (b_F (nI_ge (by omega) (by omega)) ?_)))
  rw [pk_mul, nI_add, nI_clamp (by omega)]
  exact ⟨vin (by omega) (by omega), h⟩
section AP
variable {n k j i : Nat} {mv lc mo : Nat → Int32} {w : Int32}
theorem ap_let {sz p q : Nat} {qd : Nat → Nat} {le qu pl pr : Nat → Int32} {Q : Int32 → (Nat → Int32) → (Nat → Int32) → Prop} {R : (Int32 → (Nat → Int32) → (Nat → Int32) → Prop) → Nat → Int32 → Int32 → (Nat → Int32) → (Nat → Int32) → Prop} {G : (Int32 → (Nat → Int32) → (Nat → Int32) → Prop) → Prop}
    (hn : n ≤ 12) (hk : k ≤ 4) (hj : j < 6) (hm : MV n k mv) (hlc : lc j = nI k) (hrm : RMv n k j mo mv) (ha : AR n sz qd le qu pl pr) (hi : i < sz) (hqd : qd i = p * 12 + q) (hp : p < n) (hq : q < n)
    (h2 : ∀ Q2, (∃ m f, L_X12_apart_150 lc mo (nI j) (nI i) (nI p) (nI q) (R Q2 m) f (nI sz) (nI 0) pr pl) → G Q2)
    (hQ : ∀ sz' qd' le' qu' pl' pr', AR n sz' qd' le' qu' pl' pr' → i < sz' → (∀ Q2, (∃ m, R Q2 m (nI sz') (nI (i + 1)) pr' pl') → G Q2) → Q (nI sz') le' qu') : wp_X5_queueNext w le qu (nI n) (nI k) mv (nI p) (nI q) (nI sz) Q := by
  unfold wp_X5_queueNext
  refine pk_loop (fun f l (s : Int32 × (Nat → Int32) × (Nat → Int32)) => L_X5_queueNext_7 w (nI n) (nI k) mv (nI p) (nI q) Q f s.1 (nI l) s.2.1 s.2.2)
    (fun l s => ∃ sz' qd' pl' pr', s.1 = nI sz' ∧ AR n sz' qd' s.2.1 s.2.2 pl' pr' ∧ i < sz' ∧ qd' i = p * 12 + q ∧ ∀ Q2, (∃ m f, L_X12_apart_150 lc mo (nI j) (nI i) (nI p) (nI q) (R Q2 m) f (nI sz') (nI l) pr' pl') → G Q2)
    k 0 (nI sz, le, qu) (Nat.zero_le _) ⟨sz, qd, pl, pr, rfl, ha, hi, hqd, h2⟩ ?_ ?_
  · rintro f ⟨s1, s2, s3⟩ ⟨sz', qd', pl', pr', e1, a1, a2, a3, a4⟩
    show L_X5_queueNext_7 w (nI n) (nI k) mv (nI p) (nI q) Q (f + 1) s1 (nI k) s2 s3
    unfold L_X5_queueNext_7
    refine b_T (nI_le (Nat.le_refl _) (by omega)) ?_
    rw [show s1 = nI sz' from e1]
    refine hQ sz' qd' s2 s3 pl' pr' a1 a2 (fun Q2 ⟨m, hm2⟩ => a4 Q2 ⟨m, 1, ?_⟩)
    unfold L_X12_apart_150
    refine ⟨vin hj (by omega), ?_⟩
    rw [nI_clamp (by omega), hlc]
    refine b_T (nI_le (Nat.le_refl _) (by omega)) ?_
    unfold J_X12_apart_271
    rw [nI_1']
    exact hm2
  · rintro f l ⟨s1, s2, s3⟩ hl ⟨sz', qd', pl', pr', e1, a1, a2, a3, a4⟩ ih
    show L_X5_queueNext_7 w (nI n) (nI k) mv (nI p) (nI q) Q (f + 1) s1 (nI l) s2 s3
    unfold L_X5_queueNext_7
    refine b_F (nI_ge hl (by omega)) (sp_target hn hk hp hl (sp_target hn hk hq hl ?_))
    -- one step of the reference that skips
    have skip : (∀ (X : Nat → Int32 → Int32 → (Nat → Int32) → (Nat → Int32) → Prop) m f, L_X12_apart_150 lc mo (nI j) (nI i) (nI p) (nI q) (X m) f (nI sz') (nI (l + 1)) pr' pl' → L_X12_apart_150 lc mo (nI j) (nI i) (nI p) (nI q) (X m) (f + 1) (nI sz') (nI l) pr' pl') → ∃ sz'2 qd'2 pl'2 pr'2, s1 = nI sz'2 ∧ AR n sz'2 qd'2 s2 s3 pl'2 pr'2 ∧ i < sz'2 ∧ qd'2 i = p * 12 + q ∧ ∀ Q2, (∃ m f, L_X12_apart_150 lc mo (nI j) (nI i) (nI p) (nI q) (R Q2 m) f (nI sz'2) (nI (l + 1)) pr'2 pl'2) → G Q2 := fun hs => ⟨sz', qd', pl', pr', e1, a1, a2, a3, fun Q2 ⟨m, f, hf⟩ => a4 Q2 ⟨m, f + 1, hs (R Q2) m f hf⟩⟩
    have open2 : ∀ {X : Int32 → Int32 → (Nat → Int32) → (Nat → Int32) → Prop} {f : Nat}, (((mv (p * 4 + l)) = (-1) → J_X12_apart_265 (L_X12_apart_150 lc mo (nI j) (nI i) (nI p) (nI q) X f) (nI sz') (nI l) pr' pl') ∧ (¬ (mv (p * 4 + l)) = (-1) → (((mv (q * 4 + l)) = (-1) → J_X12_apart_265 (L_X12_apart_150 lc mo (nI j) (nI i) (nI p) (nI q) X f) (nI sz') (nI l) pr' pl') ∧ (¬ (mv (q * 4 + l)) = (-1) → vp_in (((nI 12) * (mv (p * 4 + l))) + (mv (q * 4 + l))) 144 ∧ ((¬ (pl' (Int32.toNatClampNeg (((nI 12) * (mv (p * 4 + l))) + (mv (q * 4 + l))))) = (-1) → J_X12_apart_265 (L_X12_apart_150 lc mo (nI j) (nI i) (nI p) (nI q) X f) (nI sz') (nI l) pr' pl') ∧ ((pl' (Int32.toNatClampNeg (((nI 12) * (mv (p * 4 + l))) + (mv (q * 4 + l))))) = (-1) → vp_in (nI i) 144 ∧ vp_in (pr' (Int32.toNatClampNeg (nI i))) 144 ∧ vp_in (((nI 12) * (mv (p * 4 + l))) + (mv (q * 4 + l))) 144 ∧ vp_in (nI sz') 144 ∧ J_X12_apart_265 (L_X12_apart_150 lc mo (nI j) (nI i) (nI p) (nI q) X f) ((nI sz') + (nI 1)) (nI l) (upd pr' (Int32.toNatClampNeg (nI sz')) (((nI 12) * (mv (p * 4 + l))) + (mv (q * 4 + l)))) (upd pl' (Int32.toNatClampNeg (((nI 12) * (mv (p * 4 + l))) + (mv (q * 4 + l)))) ((pl' (Int32.toNatClampNeg (pr' (Int32.toNatClampNeg (nI i))))) + (nI 1))))))))) → L_X12_apart_150 lc mo (nI j) (nI i) (nI p) (nI q) X (f + 1) (nI sz') (nI l) pr' pl' := fun {X f} hh => by
      unfold L_X12_apart_150
      refine ⟨vin hj (by omega), ?_⟩
      rw [nI_clamp (by omega), hlc]
      refine b_F (nI_ge hl (by omega)) ?_
      rw [pk_mul, pk_mul, pk_mul, nI_add, nI_add, nI_add, nI_add, nI_clamp (n := 48 * j + 4 * p + l) (by omega), nI_clamp (n := 48 * j + 4 * q + l) (by omega), hrm p l hp hl, hrm q l hq hl]
      exact ⟨vin (by omega) (by omega), vin (by omega) (by omega), hh⟩
    unfold J_X5_queueNext_108
    rw [nI_1']
    refine b_if (fun c => ih (s1, s2, s3) (skip (fun X m f hf => open2 (b_T c (by unfold J_X12_apart_265; rw [nI_1']; exact hf))))) (fun c => b_if (fun d => ih (s1, s2, s3) (skip (fun X m f hf => open2 (b_F c (b_T d (by unfold J_X12_apart_265; rw [nI_1']; exact hf)))))) (fun d => ?_))
    obtain ⟨a, hat, ea⟩ := (hm p l hp hl).resolve_left c
    obtain ⟨b, hbt, eb⟩ := (hm q l hq hl).resolve_left d
    rw [ea, eb]
    rw [ea, eb] at open2
    rw [pk_mul, nI_add, nI_clamp (n := 12 * a + b) (by omega), nI_clamp (n := i) (by have := a1.1; omega), nI_clamp (n := sz') (by have := a1.1; omega)] at open2
    have a1' : AR n sz' qd' s2 s3 pl' pr' := a1
    obtain ⟨g1, g2, g3, g4⟩ := a1'
    have gc := g3 (12 * a + b) (by omega)
    refine sp_lengthOf (by omega) (by omega) ?_
    have ecode : a * 12 + b = 12 * a + b := by omega
    rw [ecode]
    refine b_nif (fun e => ih (s1, s2, s3) (skip (fun X m f hf => open2 (b_F (nI_m1 (by omega)) (b_F (nI_m1 (by omega)) ⟨vin (by omega) (by omega), b_nT (by rw [← gc.1]; exact e) (by unfold J_X12_apart_265; rw [nI_1']; exact hf)⟩))))) (fun e => ?_)
    obtain ⟨u1, u2, u3, u4, v, hv, u5⟩ := g2 i a2
    rw [a3] at u5
    obtain ⟨p1, p2⟩ := AR.push (T := 12 * a + b) (v := v) hn ⟨g1, g2, g3, g4⟩ (by omega) (by omega) e a2 hv
    rw [show s1 = nI sz' from e1]
    refine b_F (nI_nlt0 (by omega)) (b_T (nI_lt (by omega) (by omega)) (sp_lengthOf (by omega) (by omega) (sp_setLength (by omega) (by omega) ⟨vin (by omega) (by omega), ?_⟩)))
    rw [ecode, u5, nI_1', nI_1', pk_mul, nI_add, ecode, nI_clamp (by omega)]
    refine ih (_, _, _) ⟨sz' + 1, _, _, _, rfl, p2, by omega, ?_, fun Q2 ⟨m, f, hf⟩ => a4 Q2 ⟨m, f + 1, open2 (b_F (nI_m1 (by omega)) (b_F (nI_m1 (by omega)) ⟨vin (by omega) (by omega), b_nF (by rw [← gc.1]; exact e) ⟨vin (by omega) (by omega), ?_, vin (by omega) (by omega), vin (by omega) (by omega), ?_⟩⟩))⟩⟩
    · show (if i = sz' then _ else qd' i) = _
      rw [if_neg (by omega)]; exact a3
    · rw [u4]; exact vin (by omega) (by omega)
    · unfold J_X12_apart_265
      rw [u4, nI_clamp (by omega), a3, ← (g3 (p * 12 + q) (by omega)).1, u5, nI_1', nI_1', nI_1']
      exact hf
theorem sp_lightOf {q : Nat} {li : Nat → Int32} {Q : Int32 → Prop} (hn : n ≤ 12) (hq : q < n) (h : Q (li q)) : wp_X4_lightOf (nI n) (nI k) li (nI q) Q := by
  unfold wp_X4_lightOf
  refine sp_hasState1 hn hq (b_F ne10 ⟨vin (by omega) (by omega), ?_⟩)
  rw [nI_clamp (by omega)]
  exact h
theorem ap_run {p q : Nat} {li lt le qu pl pr : Nat → Int32} {Q : Int32 → (Nat → Int32) → (Nat → Int32) → Prop} {G : (Int32 → (Nat → Int32) → (Nat → Int32) → Prop) → Prop}
    (hn : n ≤ 12) (hk : k ≤ 4) (hj : j < 6) (hm : MV n k mv) (hlc : lc j = nI k) (hrm : RMv n k j mo mv) (hlt : ∀ q, q < n → lt (12 * j + q) = li q) (hp : p < n) (hq : q < n)
    (h1 : ∀ c, c < 144 → pl c = -1) (h2 : ∀ Q2, (∃ m, L_X12_apart_76 lc mo lt (nI j) Q2 m (nI 1) (nI 0) (upd pr 0 (nI (12 * p + q))) (upd pl (12 * p + q) (nI 0))) → G Q2)
    (hQ : ∀ r le' qu', (∀ Q2 : Int32 → (Nat → Int32) → (Nat → Int32) → Prop, (∀ pr' pl', Q2 r pr' pl') → G Q2) → Q r le' qu') : wp_X5_lengthApart w le qu (nI n) (nI k) mv li (nI p) (nI q) Q := by
  unfold wp_X5_lengthApart
  refine sp_fill (by omega) (sp_setLength (by omega) (by omega) ⟨vin (by omega) (by omega), ?_⟩)
  rw [nI_clamp (by omega), pk_mul, nI_add, show p * 12 + q = 12 * p + q by omega]
  refine loop_m (fun f (s : Int32 × Nat × (Nat → Int32) × (Nat → Int32)) => L_X5_lengthApart_33 w (nI n) (nI k) mv li Q f s.1 (nI s.2.1) s.2.2.1 s.2.2.2)
    (fun s => ∃ sz qd pl' pr', s.1 = nI sz ∧ s.2.1 ≤ sz ∧ AR n sz qd s.2.2.1 s.2.2.2 pl' pr' ∧ ∀ Q2, (∃ m, L_X12_apart_76 lc mo lt (nI j) Q2 m (nI sz) (nI s.2.1) pr' pl') → G Q2) (fun s => 145 - s.2.1) ?_ (nI 1, 0, _, _) ⟨1, fun _ => 12 * p + q, _, _, rfl, Nat.zero_le _, ?_, h2⟩
  · rintro f ⟨s1, i, s2, s3⟩ ⟨sz, qd, pl', pr', e1, hi, ax, a5⟩ ih
    show L_X5_lengthApart_33 w (nI n) (nI k) mv li Q (f + 1) s1 (nI i) s2 s3
    have e1' : s1 = nI sz := e1
    have hi' : i ≤ sz := hi
    have a5' : ∀ Q2, (∃ m, L_X12_apart_76 lc mo lt (nI j) Q2 m (nI sz) (nI i) pr' pl') → G Q2 := a5
    subst e1'
    have ax' : AR n sz qd s2 s3 pl' pr' := ax
    obtain ⟨g1, g2, g3, -⟩ := ax'
    unfold L_X5_lengthApart_33
    refine b_le (by omega) (by omega) (fun c => hQ _ _ _ (fun Q2 hh => ?_)) (fun c => ?_)
    · refine a5' Q2 ⟨1, ?_⟩
      unfold L_X12_apart_76
      exact b_T (nI_le c (by omega)) (hh _ _)
    · obtain ⟨u1, u2, u3, u4, v, hv, u5⟩ := g2 i (by omega)
      refine b_F (nI_ge (by omega) (by omega)) ⟨vin (by omega) (by omega), vin (by omega) (by omega), ?_⟩
      rw [nI_clamp (by omega), u3, pk_rem (by omega) (by omega) (by omega), pk_div (by omega) (by omega) (by omega)]
      refine sp_lightOf hn (by omega) (sp_lightOf hn u2 ?_)
      have open2 : ∀ {Q2 : Int32 → (Nat → Int32) → (Nat → Int32) → Prop} {m : Nat}, ((li (qd i / 12) = li (qd i % 12) → ∃ f, L_X12_apart_150 lc mo (nI j) (nI i) (nI (qd i / 12)) (nI (qd i % 12)) (L_X12_apart_76 lc mo lt (nI j) Q2 m) f (nI sz) (nI 0) pr' pl') ∧ (¬ li (qd i / 12) = li (qd i % 12) → J_X12_apart_134 Q2 (nI i) pr' pl')) → L_X12_apart_76 lc mo lt (nI j) Q2 (m + 1) (nI sz) (nI i) pr' pl' := fun {Q2 m} hh => by
        unfold L_X12_apart_76
        refine b_F (nI_ge (by omega) (by omega)) ⟨vin (by omega) (by omega), vin (by omega) (by omega), ?_⟩
        rw [nI_clamp (by omega), u4, pk_rem (by omega) (by omega) (by omega), pk_div (by omega) (by omega) (by omega), pk_mul, nI_add, nI_add, nI_clamp (by omega), nI_clamp (by omega), hlt _ (by omega), hlt _ u2]
        exact ⟨vin (by omega) (by omega), vin (by omega) (by omega), hh⟩
      refine b_if (fun d => ?_) (fun d => ?_)
      · refine ap_let (p := qd i / 12) (q := qd i % 12) (R := fun Q2 m => L_X12_apart_76 lc mo lt (nI j) Q2 m) (G := G) hn hk hj hm hlc hrm ax (by omega) (by omega) (by omega) u2 (fun Q2 ⟨m, f, hf⟩ => a5' Q2 ⟨m + 1, open2 (b_T d ⟨f, hf⟩)⟩) (fun sz' qd' le' qu' pl2 pr2 c1 c2 c3 => ?_)
        rw [nI_1']
        refine ih (nI sz', i + 1, le', qu') ⟨sz', qd', pl2, pr2, rfl, c2, c1, c3⟩ ?_
        show 145 - (i + 1) < 145 - i
        omega
      · unfold J_X5_lengthApart_87
        refine sp_lengthOf (by omega) (by omega) (hQ _ _ _ (fun Q2 hh => a5' Q2 ⟨1, open2 (b_F d ?_)⟩))
        unfold J_X12_apart_134
        rw [nI_clamp (by omega), u4, nI_clamp (by omega)]
        refine ⟨vin (by omega) (by omega), vin (by omega) (by omega), ?_⟩
        have e6 : s2 (qd i) = pl' (qd i) := (g3 (qd i) (by omega)).1
        rw [← e6]
        have e7 : qd i / 12 * 12 + qd i % 12 = qd i := by omega
        rw [e7] at hh
        exact hh _ _
  · exact AR.start (by omega) (by omega) (fun c hc => if_pos hc) h1
end AP
section PA
variable {N : Nat} {n k : Nat → Nat} {mv li pr sh : Nat → Nat → Int32} {ma : Int32} {st le mo lt pc sr : Nat → Int32} {j : Nat}
variable {made wl2 qd hp x2 x3 w : Int32} {mch : Nat → Option Nat} {lens queue pa pl : Nat → Int32}
theorem pr_apart (h : RSt N n k mv li pr sh ma st le mo lt pc sr) (hj : j < N) : wp_X11_apart_s made mch w lens queue (nI (n j)) (nI (k j)) (mv j) (li j) (nI j) x2 x3 (fun r _ _ => wp_X12_apart ma wl2 qd hp st le mo lt pa pl (nI j) x2 x3 (fun r2 _ _ => r = r2)) := by
  obtain ⟨⟨⟨g1, g2, g3, g4⟩, g5, g6, g7, g8⟩, s1, s2, s3, s4, s5⟩ := h.2.2 j hj
  have hN := h.1
  unfold wp_X11_apart_s
  refine sp_hasState g2 (fun p hp' e => b_F ne10 ?_) (fun hno => b_T rfl ?_)
  · subst e
    refine sp_hasState g2 (fun q hq' e => b_nT ne10 ?_) (fun hno => b_nF rfl ?_)
    · subst e
      refine ap_run (pl := fun c => if c < 144 then -1 else pl c) (pr := pa) (G := fun Q2 => wp_X12_apart ma wl2 qd hp st le mo lt pa pl (nI j) (nI p) (nI q) Q2) g2 g4 (by omega) g5 s2 s3 s4 hp' hq' (fun c hc => if_pos hc) (fun Q2 hm => ?_) (fun r le' qu' hh => hh _ (fun _ _ => rfl))
      unfold wp_X12_apart
      refine rS1 h hj hp' (b_F ne10 (rS1 h hj hq' (b_nT ne10 ?_)))
      refine pk_loop (fun f i s => L_X12_apart_24 le mo lt pa (nI j) (nI p) (nI q) Q2 f (nI i) s) (fun i s => s = fun c => if c < i then -1 else pl c) 144 0 pl (Nat.zero_le _) (by funext c; simp) ?_ ?_
      · rintro f s rfl
        show L_X12_apart_24 le mo lt pa (nI j) (nI p) (nI q) Q2 (f + 1) (nI 144) _
        unfold L_X12_apart_24
        refine b_T (nI_le (Nat.le_refl _) (by omega)) ?_
        unfold J_X12_apart_46
        rw [nI_clamp (by omega), pk_us, pk_mul, nI_add, nI_clamp (by omega)]
        exact ⟨vin (by omega) (by omega), vin (by omega) (by omega), vin (by omega) (by omega), hm⟩
      · rintro f i s hi rfl ih
        show L_X12_apart_24 le mo lt pa (nI j) (nI p) (nI q) Q2 (f + 1) (nI i) _
        unfold L_X12_apart_24
        refine b_F (nI_ge hi (by omega)) ⟨vin hi (by omega), ?_⟩
        rw [nI_clamp (by omega), nI_1']
        refine ih _ ?_
        funext c
        by_cases h1 : c = i
        · subst h1; rw [pk_us, if_pos (by omega)]
        · rw [pk_un h1]
          by_cases h2 : c < i
          · rw [if_pos h2, if_pos (by omega)]
          · rw [if_neg h2, if_neg (by omega)]
    · unfold wp_X12_apart
      exact rS1 h hj hp' (b_F ne10 (rS0 h hj hno (b_nF rfl rfl)))
  · unfold wp_X12_apart
    exact rS0 h hj hno (b_T rfl rfl)
end PA
