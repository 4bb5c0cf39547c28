/-! class and reference side by side: what holds between them; the searches' answers -/
def WD (wl : Int32) (row : Nat → Int32) (wl2 : Int32) (word : Nat → Int32) : Prop := ∃ (L : Nat) (wd : Nat → Nat), L ≤ 600 ∧ wl = nI L ∧ wl2 = nI L ∧ ∀ i, i < L → wd i < 4 ∧ row i = nI (wd i) ∧ word i = nI (wd i)
def OKM (n k : Nat) (mv li pr sh : Nat → Int32) : Prop := (1 ≤ n ∧ n ≤ 12 ∧ 1 ≤ k ∧ k ≤ 4) ∧ MV n k mv ∧ (∀ q, q < n → ∃ v, v ≤ 3 ∧ li q = nI v) ∧ (∀ l, l < k → ∃ v, 1 ≤ v ∧ v ≤ 20 ∧ pr l = nI v) ∧ ∀ l, l < k → ∃ v, v ≤ 5 ∧ sh l = nI v
def RSt (N : Nat) (n k : Nat → Nat) (mv li pr sh : Nat → Nat → Int32) (ma : Int32) (st le mo lt pc sr : Nat → Int32) : Prop := N ≤ 6 ∧ ma = nI N ∧ ∀ j, j < N → OKM (n j) (k j) (mv j) (li j) (pr j) (sh j) ∧ st j = nI (n j) ∧ le j = nI (k j) ∧ RMv (n j) (k j) j mo (mv j) ∧ (∀ q, q < n j → lt (12 * j + q) = li j q) ∧ ∀ l, l < k j → pc (4 * j + l) = pr j l ∧ sr (4 * j + l) = sh j l
section REL
variable {N : Nat} {n k : Nat → Nat} {mv li pr sh : Nat → Nat → Int32} {ma : Int32} {st le mo lt pc sr : Nat → Int32} {a b c x x2 : Int32} {Q : Int32 → Prop} {j : Nat}
theorem RSt.s (h : RSt N n k mv li pr sh ma st le mo lt pc sr) : ∀ j, j < N → st j = nI (n j) ∧ n j ≤ 12 := fun j hj => ⟨(h.2.2 j hj).2.1, (h.2.2 j hj).1.1.2.1⟩
theorem RSt.l (h : RSt N n k mv li pr sh ma st le mo lt pc sr) : ∀ j, j < N → le j = nI (k j) ∧ k j ≤ 12 := fun j hj => ⟨(h.2.2 j hj).2.2.1, by have := (h.2.2 j hj).1.1.2.2.2; omega⟩
theorem rM1 (h : RSt N n k mv li pr sh ma st le mo lt pc sr) (hj : j < N) (hq : Q (nI 1)) : wp_X12_isMachine ma a b c (nI j) Q := by rw [h.2.1]; exact sp_isMachine h.1 (fun _ _ _ => hq) (fun q => absurd ⟨j, hj, rfl⟩ q)
theorem rM0 (h : RSt N n k mv li pr sh ma st le mo lt pc sr) (hj : ¬ ∃ j, j < N ∧ x = nI j) (hq : Q (nI 0)) : wp_X12_isMachine ma a b c x Q := by rw [h.2.1]; exact sp_isMachine h.1 (fun i hi e => absurd ⟨i, hi, e⟩ hj) (fun _ => hq)
theorem rS1 {q : Nat} (h : RSt N n k mv li pr sh ma st le mo lt pc sr) (hj : j < N) (hs : q < n j) (hq : Q (nI 1)) : wp_X12_isState ma a b c st (nI j) (nI q) Q := by rw [h.2.1]; exact sp_rState h.1 h.s (fun _ _ _ _ _ _ => hq) (fun z => absurd ⟨j, q, hj, rfl, hs, rfl⟩ z)
theorem rS0 (h : RSt N n k mv li pr sh ma st le mo lt pc sr) (hj : j < N) (hs : ¬ ∃ q, q < n j ∧ x2 = nI q) (hq : Q (nI 0)) : wp_X12_isState ma a b c st (nI j) x2 Q := by
  rw [h.2.1]
  refine sp_rState h.1 h.s (fun j2 q h2 e hq2 e2 => ?_) (fun _ => hq)
  have hN := h.1
  have : j = j2 := (nI_eq (by omega) (by omega)).mp e
  subst this
  exact absurd ⟨q, hq2, e2⟩ hs
theorem rSx (h : RSt N n k mv li pr sh ma st le mo lt pc sr) (hj : ¬ ∃ j, j < N ∧ x = nI j) (hq : Q (nI 0)) : wp_X12_isState ma a b c st x x2 Q := by rw [h.2.1]; exact sp_rState h.1 h.s (fun i _ hi e _ _ => absurd ⟨i, hi, e⟩ hj) (fun _ => hq)
theorem rL1 {q : Nat} (h : RSt N n k mv li pr sh ma st le mo lt pc sr) (hj : j < N) (hs : q < k j) (hq : Q (nI 1)) : wp_X12_isLetter ma a b c le (nI j) (nI q) Q := by rw [h.2.1]; exact sp_rLetter h.1 h.l (fun _ _ _ _ _ _ => hq) (fun z => absurd ⟨j, q, hj, rfl, hs, rfl⟩ z)
theorem rL0 (h : RSt N n k mv li pr sh ma st le mo lt pc sr) (hj : j < N) (hs : ¬ ∃ q, q < k j ∧ x2 = nI q) (hq : Q (nI 0)) : wp_X12_isLetter ma a b c le (nI j) x2 Q := by
  rw [h.2.1]
  refine sp_rLetter h.1 h.l (fun j2 q h2 e hq2 e2 => ?_) (fun _ => hq)
  have hN := h.1
  have : j = j2 := (nI_eq (by omega) (by omega)).mp e
  subst this
  exact absurd ⟨q, hq2, e2⟩ hs
theorem rLx (h : RSt N n k mv li pr sh ma st le mo lt pc sr) (hj : ¬ ∃ j, j < N ∧ x = nI j) (hq : Q (nI 0)) : wp_X12_isLetter ma a b c le x x2 Q := by rw [h.2.1]; exact sp_rLetter h.1 h.l (fun i _ hi e _ _ => absurd ⟨i, hi, e⟩ hj) (fun _ => hq)
theorem rT1 {S : Nat} (h : RSt N n k mv li pr sh ma st le mo lt pc sr) (hj : j < N) (hS : 0 < S) (hS2 : S < 2 ^ n j) (hq : Q (nI 1)) : wp_X12_isSet ma a b c st (nI j) (nI S) Q := by rw [h.2.1]; exact sp_rSet h.1 h.s (fun _ _ _ _ _ _ _ => hq) (fun z => absurd ⟨j, S, hj, rfl, hS, hS2, rfl⟩ z)
theorem rT0 (h : RSt N n k mv li pr sh ma st le mo lt pc sr) (hj : j < N) (hs : ¬ ∃ S, 0 < S ∧ S < 2 ^ n j ∧ x2 = nI S) (hq : Q (nI 0)) : wp_X12_isSet ma a b c st (nI j) x2 Q := by
  rw [h.2.1]
  refine sp_rSet h.1 h.s (fun j2 S h2 e h3 h4 e2 => ?_) (fun _ => hq)
  have hN := h.1
  have : j = j2 := (nI_eq (by omega) (by omega)).mp e
  subst this
  exact absurd ⟨S, h3, h4, e2⟩ hs
theorem rTx (h : RSt N n k mv li pr sh ma st le mo lt pc sr) (hj : ¬ ∃ j, j < N ∧ x = nI j) (hq : Q (nI 0)) : wp_X12_isSet ma a b c st x x2 Q := by rw [h.2.1]; exact sp_rSet h.1 h.s (fun i _ hi e _ _ _ => absurd ⟨i, hi, e⟩ hj) (fun _ => hq)
end REL
/-- what a search gives: none; or a word's length, and the word where it isn't too long -/
def OUT (R : Nat × BS) (wl : Int32) (row : Nat → Int32) (r wl' : Int32) (row' : Nat → Int32) : Prop := (R.1 = 0 ∧ r = -1 ∧ wl' = wl ∧ row' = row) ∨ (R.1 ≠ 0 ∧ ∃ n, CH R.2 R.1 n ∧ r = nI n ∧ ((n ≤ 600 ∧ wl' = nI n ∧ ∀ i, i < n → row' i = nI (wdl R.2 R.1 n i)) ∨ (600 < n ∧ wl' = wl ∧ row' = row)))
theorem CH.le {b : BS} {T n m : Nat} (hb : BOK b) (h1 : CH b T n) (h2 : CH b T m) : n ≤ m := by
  rcases Nat.lt_or_ge m n with q | q
  · obtain ⟨i, hi, e⟩ := h1.1 (m + 1) (by omega)
    have := hb.1 i hi
    rw [e, h2.2] at this
    omega
  · exact q
theorem CH.eq {b : BS} {T n m : Nat} (hb : BOK b) (h1 : CH b T n) (h2 : CH b T m) : n = m := Nat.le_antisymm (CH.le hb h1 h2) (CH.le hb h2 h1)
theorem OUT.eq {R : Nat × BS} {wl r wl' wl2 r2 wl2' : Int32} {row row' word word' : Nat → Int32} (hb : BOK R.2) (h1 : OUT R wl row r wl' row') (h2 : OUT R wl2 word r2 wl2' word') (h : WD wl row wl2 word) : r = r2 ∧ WD wl' row' wl2' word' := by
  rcases h1 with ⟨a1, a2, a3, a4⟩ | ⟨a1, n, a2, a3, a4⟩
  · rcases h2 with ⟨b1, b2, b3, b4⟩ | ⟨b1, -⟩
    · subst a2 a3 a4 b2 b3 b4
      exact ⟨rfl, h⟩
    · exact absurd a1 b1
  · rcases h2 with ⟨b1, -⟩ | ⟨b1, m, b2, b3, b4⟩
    · exact absurd b1 a1
    · have e := CH.eq hb a2 b2
      subst e
      refine ⟨a3.trans b3.symm, ?_⟩
      rcases a4 with ⟨c1, c2, c3⟩ | ⟨c1, c2, c3⟩ <;> rcases b4 with ⟨d1, d2, d3⟩ | ⟨d1, d2, d3⟩
      · refine ⟨n, wdl R.2 R.1 n, c1, c2, d2, fun i hi => ⟨?_, c3 i hi, d3 i hi⟩⟩
        unfold wdl
        obtain ⟨i2, hi2, e2⟩ := a2.1 (n - 1 - i) (by omega)
        rw [← e2]
        exact (hb.1 i2 hi2).2.2.2.1
      · omega
      · omega
      · subst c2 c3 d2 d3; exact h
theorem CMP.ch {w : Nat → Bool} {A B : Nat × BS} (h : CMP w A B) (hb : BOK A.2) (h0 : A.1 ≠ 0) : ∃ n, n < 4096 ∧ CH A.2 A.1 n := by
  obtain ⟨-, -, t, h1, h2, -⟩ := h.2.2 h0
  have hs := hb.sz
  obtain ⟨n, hn, hc⟩ := CH.ex hb (t + 1) t (Nat.lt_succ_self t) (by omega)
  rw [h2] at hc
  exact ⟨n, by omega, hc⟩
theorem sp_lookTell {n k S : Nat} {mv low high : Nat → Int32} {c1 c2 x3 m wl : Int32} {from_ queue row : Nat → Int32} {w : Nat → Bool} {Q : Int32 → Int32 → (Nat → Int32) → Int32 → (Nat → Int32) → (Nat → Int32) → (Nat → Int32) → Int32 → (Nat → Int32) → Prop} (hn : n ≤ 12) (hk : k ≤ 4) (hm : MV n k mv) (hz : TZ low high) (hS : 0 < S) (hS2 : S < 2 ^ n) (hw : WN x3 w)
    (h : ∀ r wl' row' low' high' from' size' queue', TZ low' high' → OUT (bfs (stp n mv) w k S) wl row r wl' row' → Q r wl' row' (nI k) low' high' from' size' queue') : wp_X7_look c1 c2 low high from_ queue (nI n) (nI k) mv (nI S) x3 (fun r size sl low high from_ queue => wp_X11_tellWordTo m wl row from_ r (fun r wl row => Q r wl row sl low high from_ size queue)) := by
  refine sp_look hn hk hm hz hS hS2 hw (fun low' high' from' queue' hz' hb hr => ?_)
  have hc := bfs_cmp (nx := stp n mv) (w := w) (k := k) hS
  generalize bfs (stp n mv) w k S = R at h hb hr hc
  rcases Nat.eq_zero_or_pos R.1 with z | z
  · rw [z]
    unfold wp_X11_tellWordTo
    exact b_nF rfl (h _ _ _ _ _ _ _ _ hz' (Or.inl ⟨z, rfl, rfl, rfl⟩))
  · obtain ⟨d, hd, hch⟩ := hc.ch hb (by omega)
    exact sp_tell hb hr hch hd (fun e row' hrow => h _ _ _ _ _ _ _ _ hz' (Or.inr ⟨by omega, d, hch, rfl, Or.inl ⟨e, rfl, hrow⟩⟩)) (fun e => h _ _ _ _ _ _ _ _ hz' (Or.inr ⟨by omega, d, hch, rfl, Or.inr ⟨e, rfl, rfl⟩⟩))
theorem sp_rLook {n k m S : Nat} {a1 a2 a3 wl x3 : Int32} {st le moves mv word : Nat → Int32} {w : Nat → Bool} {queue from_ by_ known : Nat → Int32} {Q : Int32 → Int32 → Int32 → (Nat → Int32) → (Nat → Int32) → (Nat → Int32) → (Nat → Int32) → (Nat → Int32) → Prop}
    (hn : n ≤ 12) (hk : k ≤ 4) (hm6 : m < 6) (hst : st m = nI n) (hle : le m = nI k) (hrm : RMv n k m moves mv) (hm : MV n k mv) (hw : WR x3 w) (hS : 0 < S) (hS2 : S < 2 ^ n)
    (h : ∀ r wl' word' qd q f b z, BOK (bfs (stp n mv) w k S).2 → OUT (bfs (stp n mv) w k S) wl word r wl' word' → Q r wl' qd word' q f b z) : wp_X12_looks a1 wl a2 a3 st le moves queue from_ by_ known (nI m) (nI S) x3 (fun r4 qd q f b z => ((¬ r4 = (nI 0) → wp_X12_becomesWord a1 wl qd a3 word f b r4 (fun r6 wl word => Q r6 wl qd word q f b z)) ∧ (r4 = (nI 0) → Q (-1) wl qd word q f b z))) := by
  have h12 : 2 ^ n ≤ 2 ^ 12 := Nat.pow_le_pow_right (by decide) hn
  refine sp_looks hn hk hm6 hst hle hrm hm hw hS hS2 (fun q f b z hb hbl hr => ?_)
  have hc := bfs_cmp (nx := stp n mv) (w := w) (k := k) hS
  generalize bfs (stp n mv) w k S = R at h hb hbl hr hc
  rcases Nat.eq_zero_or_pos R.1 with e0 | e0
  · rw [e0]
    exact b_nF rfl (h _ _ _ _ _ _ _ _ hb (Or.inl ⟨e0, rfl, rfl, rfl⟩))
  · obtain ⟨d, hd, hch⟩ := hc.ch hb (by omega)
    have h31 : R.1 < 4096 := by
      obtain ⟨i, hi, e⟩ := hch.1 0 (Nat.zero_le _)
      have := (hb.1 i hi).2.1
      rw [e] at this
      exact this
    refine b_nT (fun q => by have := (nI_eq (by omega) (by omega)).mp q; omega) ?_
    exact sp_becomes hb hr hch hd (fun e row' hrow => h _ _ _ _ _ _ _ _ hb (Or.inr ⟨by omega, d, hch, rfl, Or.inl ⟨e, rfl, hrow⟩⟩)) (fun e => h _ _ _ _ _ _ _ _ hb (Or.inr ⟨by omega, d, hch, rfl, Or.inr ⟨e, rfl, rfl⟩⟩))
section PR
variable {N : Nat} {n k : Nat → Nat} {mv li pr sh : Nat → Nat → Int32} {ma : Int32} {st le mo lt pc sr : Nat → Int32} {j : Nat}
variable {made wl sl size wl2 qd hp x2 x3 : Int32} {mch : Nat → Option Nat} {row low high from_ queue word rq rf rb rk : Nat → Int32}
theorem pr_shortest (h : RSt N n k mv li pr sh ma st le mo lt pc sr) (hj : j < N) (hz : TZ low high) (hw : WD wl row wl2 word) : wp_X11_shortest_s made mch wl row sl low high from_ size queue (nI (n j)) (nI (k j)) (mv j) (nI j) x2 (fun r wl row sl low high from_ size queue => TZ low high ∧ wp_X12_shortest ma wl2 qd hp st le mo word rq rf rb rk (nI j) x2 (fun r2 wl2 qd word rq rf rb rk => r = r2 ∧ WD wl row wl2 word)) := by
  obtain ⟨⟨⟨g1, g2, g3, g4⟩, g5, -⟩, s1, s2, s3, -⟩ := h.2.2 j hj
  have hN := h.1
  unfold wp_X11_shortest_s
  refine sp_hasSet g2 (fun S hS hS2 e => ?_) (fun hno => ?_)
  · subst e
    refine b_nT ne10 (sp_lookTell g2 g4 g5 hz hS hS2 WN0 (fun r wl' row' low' high' from' size' queue' hz' ho => ⟨hz', ?_⟩))
    unfold wp_X12_shortest
    refine rT1 h hj hS hS2 (b_nT ne10 ?_)
    exact sp_rLook g2 g4 (by omega) s1 s2 s3 g5 WR0 hS hS2 (fun _ _ _ _ _ _ _ _ hb ho2 => OUT.eq hb ho ho2 hw)
  · refine b_nF rfl ⟨hz, ?_⟩
    unfold wp_X12_shortest
    exact rT0 h hj hno (b_nF rfl ⟨rfl, hw⟩)
theorem pr_shortestTo (h : RSt N n k mv li pr sh ma st le mo lt pc sr) (hj : j < N) (hz : TZ low high) (hw : WD wl row wl2 word) : wp_X11_shortestTo_s made mch wl row sl low high from_ size queue (nI (n j)) (nI (k j)) (mv j) (nI j) x2 x3 (fun r wl row sl low high from_ size queue => TZ low high ∧ wp_X12_shortestTo ma wl2 qd hp st le mo word rq rf rb rk (nI j) x2 x3 (fun r2 wl2 qd word rq rf rb rk => r = r2 ∧ WD wl row wl2 word)) := by
  obtain ⟨⟨⟨g1, g2, g3, g4⟩, g5, -⟩, s1, s2, s3, -⟩ := h.2.2 j hj
  have hN := h.1
  unfold wp_X11_shortestTo_s
  refine sp_hasSet g2 (fun S hS hS2 e => ?_) (fun hno => ?_)
  · subst e
    refine b_F ne10 (sp_hasState g2 (fun q hq e => ?_) (fun hno => ?_))
    · subst e
      rw [nI_shl1 (by omega)]
      have hp1 : 2 ^ q < 2 ^ 12 := Nat.pow_lt_pow_right (by decide) (by omega)
      have hp0 : 0 < 2 ^ q := Nat.two_pow_pos q
      refine b_nT ne10 (sp_lookTell g2 g4 g5 hz hS hS2 (WNv hp0 (by omega)) (fun r wl' row' low' high' from' size' queue' hz' ho => ⟨hz', ?_⟩))
      unfold wp_X12_shortestTo
      refine rT1 h hj hS hS2 (b_F ne10 (rS1 h hj hq (b_nT ne10 ?_)))
      rw [nI_shl1 (by omega)]
      exact sp_rLook g2 g4 (by omega) s1 s2 s3 g5 (WRv hp0 (by omega)) hS hS2 (fun _ _ _ _ _ _ _ _ hb ho2 => OUT.eq hb ho ho2 hw)
    · refine b_nF rfl ⟨hz, ?_⟩
      unfold wp_X12_shortestTo
      exact rT1 h hj hS hS2 (b_F ne10 (rS0 h hj hno (b_nF rfl ⟨rfl, hw⟩)))
  · refine b_T rfl ⟨hz, ?_⟩
    unfold wp_X12_shortestTo
    exact rT0 h hj hno (b_T rfl ⟨rfl, hw⟩)
end PR
