/-! the cheapest: the class's loop beside the reference's -/
def DCc (b : BS) (sm : Nat → Nat) (sums from_ : Nat → Int32) : Prop := ∀ s, 0 < s → s < 4096 → sums s = en (sm s) ∧ from_ s = (if sm s = 0 then nI 0 else nI (b.2.2.1 s * 4 + b.2.2.2 s))
section CHP
variable {n k S m : Nat} {mv prc low high sums from_ keys : Nat → Int32} {b : BS} {K : Nat → Prop} {sm pv : Nat → Nat} {size : Int32}
theorem sp_sumOf {s : Nat} {Q : Int32 → Prop} (h : DCc b sm sums from_) (h0 : 0 < s) (h1 : s < 4096) (hQ : Q (en (sm s))) : wp_X6_sumOf size sums (nI s) Q := by
  unfold wp_X6_sumOf
  rw [nI_clamp (by omega), (h s h0 h1).1]
  exact b_F (nI_ge h0 (by omega)) (b_F (nI_ge h1 (by omega)) ⟨vin h1 (by omega), hQ⟩)
theorem sp_priceOf {l : Nat} {n : Int32} {Q : Int32 → Prop} (hk : k ≤ 4) (hl : l < k) (h : Q (prc l)) : wp_X4_priceOf n (nI k) prc (nI l) Q := by
  unfold wp_X4_priceOf
  rw [nI_clamp (by omega)]
  exact sp_hasLetter1 hk hl (b_F ne10 ⟨vin (by omega) (by omega), h⟩)
theorem DCc.push {to now l v : Nat} (h : DCc b sm sums from_) : DCc (bset b to now l) (sset sm to (v + 1)) (upd sums to (nI v)) (upd from_ to (nI (now * 4 + l))) := fun t t0 t1 => by
  obtain ⟨a1, a2⟩ := h t t0 t1
  by_cases c : t = to
  · subst c
    rw [pk_us, pk_us]
    show nI v = en (if t = t then v + 1 else sm t) ∧ nI (now * 4 + l) = if (if t = t then v + 1 else sm t) = 0 then nI 0 else nI ((if t = t then now else b.2.2.1 t) * 4 + (if t = t then l else b.2.2.2 t))
    rw [if_pos rfl, if_pos rfl, if_pos rfl, if_neg (by omega), en_s (by omega)]
    exact ⟨rfl, rfl⟩
  · rw [pk_un c, pk_un c]
    show sums t = en (if t = to then v + 1 else sm t) ∧ from_ t = if (if t = to then v + 1 else sm t) = 0 then nI 0 else nI ((if t = to then now else b.2.2.1 t) * 4 + (if t = to then l else b.2.2.2 t))
    rw [if_neg c, if_neg c, if_neg c]
    exact ⟨a1, a2⟩
theorem sp_reach {to v : Nat} {Q : Int32 → (Nat → Int32) → (Nat → Int32) → Prop} (h0 : 0 < to) (h1 : to < 4096) (hm : m < 16385) (hx : v * 4096 + to < 2 ^ 31) (h : HC m K keys) (hno : ¬ K (v * 4096 + to)) (hQ : ∀ keys', HC (m + 1) (fun y => K y ∨ y = v * 4096 + to) keys' → Q (nI (m + 1)) (upd sums to (nI v)) keys') : wp_X6_reach (nI m) sums keys (nI to) (nI v) Q := by
  unfold wp_X6_reach
  rw [nI_clamp (by omega), pk_mul, nI_add]
  exact b_F (nI_ge h0 (by omega)) (b_F (nI_ge h1 (by omega)) ⟨vin h1 (by omega), sp_addKey hm hx h hno hQ⟩)
theorem sp_mark9 {to now l : Nat} {Q : (Nat → Int32) → Prop} (h0 : 0 < to) (h1 : to < 4096) (hQ : Q (upd from_ to (nI (now * 4 + l)))) : wp_X9_mark from_ (nI to) (nI now) (nI l) Q := by
  unfold wp_X9_mark
  rw [nI_clamp (by omega), pk_mul, nI_add]
  exact b_F (nI_ge h0 (by omega)) (b_F (nI_ge h1 (by omega)) ⟨vin h1 (by omega), hQ⟩)
/-- the letters of a set that is settled, class beside reference -/
theorem sp_goOn {G : QD → Prop} {j cur P : Nat} {st le mo pc word : Nat → Int32} {a1 qd wl2 : Int32} {Q : Int32 → (Nat → Int32) → (Nat → Int32) → (Nat → Int32) → Prop} {now : Nat} (hn : n ≤ 12) (hk : k ≤ 4) (hj : j < 6) (hm : MV n k mv) (hst : st j = nI n) (hle : le j = nI k) (hr : RMv n k j mo mv) (ht : TB n k mv low high) (hpv : ∀ l, l < k → 1 ≤ pv l ∧ pv l ≤ 20 ∧ prc l = nI (pv l)) (hpc : ∀ l, l < k → 1 ≤ pv l ∧ pv l ≤ 20 ∧ pc (4 * j + l) = nI (pv l))
    (hd : DI S cur (20 * b.2.1) b K sm) (h2n : ∀ s, sm s ≠ 0 → s < 2 ^ n) (hc0 : 0 < b.2.1) (hnow : b.1 (b.2.1 - 1) = now) (hn0 : 0 < now) (hnn : now < 2 ^ n) (hsm : sm now = cur + 1) (hcb : cur ≤ 20 * (b.2.1 - 1)) (ha : DCc b sm sums from_) (hh : HC m K keys) (hmP : m + P ≤ 1 + 4 * (b.2.1 - 1))
    (hG : ∀ Q2, RLD S a1 wl2 qd st le mo pc word j Q2 now m b K sm 0 → G Q2)
    (hQ : ∀ (m' : Nat) (b' : BS) (K' : Nat → Prop) (sm' : Nat → Nat) from_' sums' keys', b'.2.1 = b.2.1 → DI S cur (20 * b'.2.1) b' K' sm' → (∀ s, sm' s ≠ 0 → s < 2 ^ n) → DCc b' sm' sums' from_' → HC m' K' keys' → m' + P ≤ 1 + 4 * b'.2.1 → (∀ Q2, RGD S a1 wl2 qd st le mo pc word j Q2 m' b' K' sm' → G Q2) → Q (nI m') from_' sums' keys') : wp_X6_goOn (nI m) (nI k) low high from_ sums keys (nI n) (nI k) prc (nI now) Q := by
  have h12 : 2 ^ n ≤ 2 ^ 12 := Nat.pow_le_pow_right (by decide) hn
  have hcnt := hd.cnt
  have hst0 : sm now ≠ 0 := by omega
  generalize hC : b.2.1 = C at *
  unfold wp_X6_goOn
  refine pk_loop (fun f l (s : Int32 × (Nat → Int32) × (Nat → Int32) × (Nat → Int32)) => L_X6_goOn_2 (nI k) low high (nI n) (nI k) prc (nI now) Q f (nI l) s.1 s.2.1 s.2.2.1 s.2.2.2) (fun l s => ∃ (m' : Nat) (b' : BS) (K' : Nat → Prop) (sm' : Nat → Nat), s.1 = nI m' ∧ b'.2.1 = C ∧ b'.1 (C - 1) = now ∧ DI S cur (20 * C) b' K' sm' ∧ (∀ s, sm' s ≠ 0 → s < 2 ^ n) ∧ sm' now = cur + 1 ∧ DCc b' sm' s.2.2.1 s.2.1 ∧ HC m' K' s.2.2.2 ∧ m' + P ≤ 1 + 4 * (C - 1) + l ∧ ∀ Q2, RLD S a1 wl2 qd st le mo pc word j Q2 now m' b' K' sm' l → G Q2) k 0 (nI m, from_, sums, keys) (Nat.zero_le _) ⟨m, b, K, sm, rfl, hC, hnow, hd, h2n, hsm, ha, hh, hmP, hG⟩ ?_ ?_
  · rintro f ⟨s1, s2, s3, s4⟩ ⟨m', b', K', sm', e1, e2, e3, e4, e4n, e5, e6, e7, e8, e9⟩
    show L_X6_goOn_2 (nI k) low high (nI n) (nI k) prc (nI now) Q (f + 1) (nI k) s1 s2 s3 s4
    have e1' : s1 = nI m' := e1
    rw [e1']
    unfold L_X6_goOn_2
    refine b_T (nI_le (Nat.le_refl _) (by omega)) (hQ m' b' K' sm' _ _ _ e2 (by rw [e2]; exact e4) e4n e6 e7 (by omega) (fun Q2 h => e9 Q2 (RLD.done hj hle hk h)))
  · rintro f l ⟨s1, s2, s3, s4⟩ hl ⟨m', b', K', sm', e1, e2, e3, e4, e4n, e5, e6, e7, e8, e9⟩ ih
    show L_X6_goOn_2 (nI k) low high (nI n) (nI k) prc (nI now) Q (f + 1) (nI l) s1 s2 s3 s4
    have e1' : s1 = nI m' := e1
    have e6' : DCc b' sm' s3 s2 := e6
    have e7' : HC m' K' s4 := e7
    obtain ⟨p1, p2, p3⟩ := hpv l hl
    have hlt := stp_lt2 (S := now) hm hn hl
    have d5 := e4.2.2.2.2.1
    have hne : sm' now ≠ 0 := by omega
    rw [e1']
    unfold L_X6_goOn_2 J_X6_goOn_82
    rw [nI_1']
    refine b_F (nI_ge hl (by omega)) (sp_after hn hk hm ht hn0 hnn hl (sp_sumOf e6' hn0 (by omega) (sp_priceOf hk hl ?_)))
    rw [p3, en_s hne, nI_add, e5, show cur + 1 - 1 = cur by omega]
    -- nothing new
    have skip : (stp n mv now l = 0 ∨ (sm' (stp n mv now l) ≠ 0 ∧ sm' (stp n mv now l) ≤ sm' now + pv l)) → L_X6_goOn_2 (nI k) low high (nI n) (nI k) prc (nI now) Q f (nI (l + 1)) (nI m') s2 s3 s4 := fun hc => ih (nI m', s2, s3, s4) ⟨m', b', K', sm', rfl, e2, e3, e4, e4n, e5, e6', e7', by omega, fun Q2 h => e9 Q2 (RLD.skip hn hk hj hm hst hle hr hpc hl e4 (by omega) hne hc h)⟩
    have push : stp n mv now l ≠ 0 → (sm' (stp n mv now l) = 0 ∨ sm' now + pv l < sm' (stp n mv now l)) → J_X6_goOn_63 (nI now) (L_X6_goOn_2 (nI k) low high (nI n) (nI k) prc (nI now) Q f) (nI l) (nI (stp n mv now l)) (nI (cur + pv l)) (nI m') s2 s3 s4 := fun h0 hc => by
      obtain ⟨hns, hnk⟩ := e4.fresh (to := stp n mv now l) (w := cur + pv l) (by omega) (by omega)
      have hto : stp n mv now l ≠ now := fun z => hns ⟨C - 1, by omega, by rw [e3, z]⟩
      unfold J_X6_goOn_63 J_X6_goOn_82
      rw [nI_1']
      refine sp_mark9 (by omega) (by omega) (sp_reach (by omega) (by omega) (by omega) (by omega) e7' (hnk (by omega)) (fun keys' hh' => ih (_, _, _, _) ⟨m' + 1, bset b' (stp n mv now l) now l, _, sset sm' (stp n mv now l) (cur + pv l + 1), rfl, e2, e3, e4.push (by omega) (by rw [e2]; exact e3) (by omega) (by omega) (by omega) (by omega) (by omega) (by omega), fun s hs => ?_, ?_, e6'.push, hh', by omega, fun Q2 h => e9 Q2 (RLD.push hn hk hj hm hst hle hr hpc hl (by omega) e4 (by omega) hne e5 h0 hc h)⟩))
      · by_cases y : s = stp n mv now l
        · rw [y]; exact hlt
        · have hs' : (if s = stp n mv now l then cur + pv l + 1 else sm' s) ≠ 0 := hs
          rw [if_neg y] at hs'
          exact e4n s hs'
      show (if now = stp n mv now l then _ else sm' now) = cur + 1
      rw [if_neg (fun z => hto z.symm)]; exact e5
    by_cases z : stp n mv now l = 0
    · rw [z]
      exact b_T rfl (skip (Or.inl z))
    · refine b_F (fun y => z ((nI_eq (by omega) (by omega)).mp y)) (sp_sumOf e6' (by omega) (by omega) ?_)
      rcases Nat.eq_zero_or_pos (sm' (stp n mv now l)) with y | y
      · rw [y, en_0]
        exact b_T rfl (push z (Or.inl y))
      · have ht5 := d5 (stp n mv now l) (by omega)
        rw [en_s (by omega)]
        refine b_F (nI_m1 (by omega)) (sp_sumOf e6' (by omega) (by omega) ?_)
        rw [en_s (by omega)]
        exact b_le (by omega) (by omega) (fun x => skip (Or.inr ⟨by omega, by omega⟩)) (fun x => push z (Or.inr (by omega)))
theorem sp_plook {G : QD → Prop} {j : Nat} {st le mo pc word : Nat → Int32} {a1 qd wl2 m1 sl : Int32} {Q : Int32 → Int32 → Int32 → (Nat → Int32) → (Nat → Int32) → (Nat → Int32) → (Nat → Int32) → (Nat → Int32) → Prop} (hn : n ≤ 12) (hk : k ≤ 4) (hj : j < 6) (hm : MV n k mv) (hst : st j = nI n) (hle : le j = nI k) (hr : RMv n k j mo mv) (hz : TZ low high) (hpv : ∀ l, l < k → 1 ≤ pv l ∧ pv l ≤ 20 ∧ prc l = nI (pv l)) (hpc : ∀ l, l < k → 1 ≤ pv l ∧ pv l ≤ 20 ∧ pc (4 * j + l) = nI (pv l)) (hS : 0 < S) (hS2 : S < 2 ^ n)
    (hG : ∀ Q2, RGD S a1 wl2 qd st le mo pc word j Q2 1 (fun _ => 0, 0, fun _ => 0, fun _ => 1) (fun x => x = S) (fun s => if s = S then 1 else 0) → G Q2)
    (h0 : ∀ size low high from_ sums keys, TZ low high → (∀ Q2 : QD, (∀ hd fr by_ su set hs ht, Q2 (-1) wl2 hd word fr by_ su set hs ht) → G Q2) → Q (nI 0) size (nI k) low high from_ sums keys)
    (h1 : ∀ F size low high from_ sums keys (sm : Nat → Nat) (b2 : BS) (d : Nat), 0 < F → F < 4096 → TZ low high → BOK b2 → RC b2 (nI b2.2.1) from_ (fun i => nI (b2.1 i)) → CH b2 F d → d < 4096 → sums F = nI (sm F - 1) → (∀ Q2 : QD, (∀ wl' word' hd fr by_ su set hs ht, OUT (F, b2) wl2 word (nI d) wl' word' → Q2 (nI (sm F - 1)) wl' hd word' fr by_ su set hs ht) → G Q2) → Q (nI F) size (nI k) low high from_ sums keys) : wp_X6_look m1 sl low high from_ sums keys (nI n) (nI k) mv prc (nI S) Q := by
  have h12 : 2 ^ n ≤ 2 ^ 12 := Nat.pow_le_pow_right (by decide) hn
  unfold wp_X6_look
  refine sp_load hn hk hm hz (fun low' high' ht hz' => sp_begin hS (by omega) (fun from' hf => sp_fill (by omega) ?_))
  have hHC0 : HC 0 (fun _ => False) keys := ⟨fun _ => 0, ⟨fun i _ hi => absurd hi (by omega), fun i j hi => absurd hi (by omega), fun x => ⟨fun h => h.elim, fun ⟨i, hi, _⟩ => absurd hi (by omega)⟩⟩, fun i hi => absurd hi (by omega)⟩
  refine sp_reach (v := 0) hS (by omega) (by omega) (by omega) hHC0 (fun h => h) (fun keys' hh' => ?_)
  have hK : (fun y : Nat => False ∨ y = 0 * 4096 + S) = (fun y => y = S) := by
    funext y
    rw [Nat.zero_mul, Nat.zero_add]
    exact propext ⟨fun h => h.elim False.elim id, Or.inr⟩
  rw [hK] at hh'
  have hAC0 : DCc (fun _ => 0, 0, fun _ => 0, fun _ => 1) (fun s => if s = S then 1 else 0) (upd (fun j => if j < 4096 then -1 else sums j) S (nI 0)) from' := fun s s0 s1 => by
    have hA : ∀ y : Nat, y = (if s = S then 1 else 0) → upd (fun j => if j < 4096 then -1 else sums j) S (nI 0) s = en y ∧ from' s = (if y = 0 then nI 0 else nI (0 * 4 + 1)) := fun y hy => by
      rw [hf s s0 s1]
      by_cases c : s = S
      · rw [if_pos c] at hy ⊢
        subst hy c
        rw [pk_us]
        exact ⟨rfl, rfl⟩
      · rw [if_neg c] at hy ⊢
        subst hy
        rw [pk_un c]
        exact ⟨if_pos s1, rfl⟩
    exact hA _ rfl
  refine pk_loop (fun f i (s : Int32 × (Nat → Int32) × (Nat → Int32) × (Nat → Int32)) => L_X6_look_37 (nI k) low' high' (nI n) (nI k) prc Q f (nI i) s.1 s.2.1 s.2.2.1 s.2.2.2) (fun i s => ∃ (m' cur : Nat) (b' : BS) (K' : Nat → Prop) (sm' : Nat → Nat), s.1 = nI m' ∧ DI S cur (20 * b'.2.1) b' K' sm' ∧ (∀ s, sm' s ≠ 0 → s < 2 ^ n) ∧ DCc b' sm' s.2.2.1 s.2.1 ∧ HC m' K' s.2.2.2 ∧ m' + i ≤ 1 + 4 * b'.2.1 ∧ ∀ Q2, RGD S a1 wl2 qd st le mo pc word j Q2 m' b' K' sm' → G Q2) 16385 0 (nI (0 + 1), from', upd (fun j => if j < 4096 then -1 else sums j) S (nI 0), keys') (Nat.zero_le _) ⟨1, 0, (fun _ => 0, 0, fun _ => 0, fun _ => 1), fun x => x = S, fun s => if s = S then 1 else 0, rfl, DI.start hS (by omega), fun s hs => ?_, hAC0, hh', by show 1 + 0 ≤ 1 + 4 * 0; omega, hG⟩ ?_ ?_
  · by_cases c : s = S
    · subst c; exact hS2
    · have hs' : (if s = S then 1 else 0) ≠ 0 := hs
      rw [if_neg c] at hs'; exact absurd rfl hs'
  · rintro f s ⟨m', cur, b', K', sm', e1, e2, -, e3, e4, e5, e6⟩
    have := e2.cnt
    omega
  · rintro f i ⟨s1, s2, s3, s4⟩ hi ⟨m', cur, b', K', sm', e1, e2, e22, e3, e4, e5, e6⟩ ih
    show L_X6_look_37 (nI k) low' high' (nI n) (nI k) prc Q (f + 1) (nI i) s1 s2 s3 s4
    have e1' : s1 = nI m' := e1
    have e3' : DCc b' sm' s3 s2 := e3
    have e4' : HC m' K' s4 := e4
    have hcnt := e2.cnt
    rw [e1']
    unfold L_X6_look_37 J_X6_look_100
    rw [nI_1']
    refine b_F (nI_ge hi (by omega)) ?_
    rcases Nat.eq_zero_or_pos m' with z | z
    · subst z
      exact b_T (nI_le (Nat.le_refl _) (by omega)) (h0 _ _ _ _ _ _ hz' (fun Q2 hq => e6 Q2 (RGD.none hq)))
    · obtain ⟨m2, rfl⟩ : ∃ m2, m' = m2 + 1 := ⟨m' - 1, by omega⟩
      refine b_F (nI_ge z (by omega)) (sp_takeKey (by omega) e4' (fun x ks hx hmin hx31 hh2 => ?_))
      obtain ⟨⟨k1, k2, k3⟩, kk⟩ := e2.key hx hmin
      have d5 := e2.2.2.2.2.1
      have k5 := d5 _ k1
      have ea : nI x &&& nI 4095 = nI (x % 4096) := by rw [nI_and, show (4095 : Nat) = 2 ^ 12 - 1 from rfl, Nat.and_two_pow_sub_one_eq_mod]
      have es : nI x >>> (nI 12 &&& 31) = nI (x / 4096) := nI_shr hx31 (by decide)
      rw [ea, es]
      refine sp_sumOf e3' k2 k3 ?_
      rw [en_s k1]
      refine b_eq (by omega) (by omega) (fun ev => ?_) (fun ev => ?_)
      · have hns := kk.elim (fun h => h.2) (fun h => absurd ev h.1)
        have hset := e2.settle hx hmin ev hns
        have hstl : (bstl b' (x % 4096)).2.1 = b'.2.1 + 1 := rfl
        refine sp_isOne k2 k3 ?_
        by_cases hp : pop (x % 4096) = 1
        · rw [if_pos hp]
          refine b_F ne10 ?_
          obtain ⟨b2, q1, q2, q3, q4, q5⟩ := hset.all (Nat.succ_pos _)
          obtain ⟨i2, hi2, ei2⟩ := inb_iff.mp ((q2 (x % 4096)).mpr k1)
          obtain ⟨d, hdi, hch⟩ := CH.ex q1 (i2 + 1) i2 (Nat.lt_succ_self _) hi2
          rw [ei2] at hch
          have hsz := q1.sz
          refine h1 (x % 4096) _ _ _ _ _ _ sm' b2 d k2 k3 hz' q1 ⟨rfl, fun _ _ => rfl, fun T T0 T1 => ?_⟩ hch (by omega) ?_ (fun Q2 hq => e6 Q2 (RGD.found (by omega) e2 hx hmin hns hp q1 q2 q3 q4 q5 hch (by omega) hq))
          · rw [(e3' T T0 T1).2, q3, q4]
            show (if sm' T = 0 then nI 0 else nI (b'.2.2.1 T * 4 + b'.2.2.2 T)) = _
            by_cases c : sm' T = 0
            · rw [if_pos c, if_neg (fun y => (q2 T).mp y c)]
            · rw [if_neg c, if_pos ((q2 T).mpr c)]; rfl
          · rw [(e3' _ k2 k3).1, en_s k1]
        · rw [if_neg hp]
          refine b_T rfl (sp_goOn (S := S) (G := G) (j := j) (cur := x / 4096) (P := i + 1) (a1 := a1) (qd := qd) (wl2 := wl2) (word := word) (b := bstl b' (x % 4096)) (sm := sm') hn hk hj hm hst hle hr ht hpv hpc (hset.up (by rw [hstl]; omega)) e22 (Nat.succ_pos _) bstl_new k2 (e22 _ k1) (by omega) (by rw [hstl]; omega) (fun s s0 s1 => e3' s s0 s1) hh2 (by rw [hstl]; omega) (fun Q2 hq => e6 Q2 (RGD.settle (by omega) e2 hx hmin hns hp hq)) (fun m3 b3 K3 sm3 f3 su3 k3' g1 g2 g2n g3 g4 g5 g6 => ?_))
          exact ih (_, _, _, _) ⟨m3, x / 4096, b3, K3, sm3, rfl, g2, g2n, g3, g4, by omega, g6⟩
      · have hst' := kk.elim (fun h => absurd h.1 ev) (fun h => h.2)
        refine ih (nI m2, s2, s3, ks) ⟨m2, cur, b', _, sm', rfl, e2.stale hst', e22, e3', hh2, by omega, fun Q2 hq => e6 Q2 (RGD.stale (by omega) e2 hx hmin hst' hq)⟩
end CHP
