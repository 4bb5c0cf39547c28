/-! greedy: turn by turn, class beside reference -/
section GRE
variable {n k j S : Nat} {mv le low high st lc mo word : Nat → Int32} {a1 a2 a3 w cs wl2 : Int32}
/-- the reference from a set on, some letters made -/
def LGR (a1 wl2 a3 : Int32) (st lc mo word : Nat → Int32) (j : Nat) (QR : Int32 → Int32 → Int32 → (Nat → Int32) → (Nat → Int32) → (Nat → Int32) → (Nat → Int32) → (Nat → Int32) → (Nat → Int32) → (Nat → Int32) → (Nat → Int32) → Prop) (T len : Nat) (mk bw : Nat → Int32) : Prop := ∃ g, ∀ qd qu f b z pw, L_X12_greedy_17 a1 wl2 a3 st lc mo word (nI j) QR g (nI T) (nI len) qd qu f b z mk pw bw
theorem ref_best {S : Nat} {x3' : Int32} {bw bw' : Nat → Int32} {R : Int32 → Int32 → (Nat → Int32) → (Nat → Int32) → (Nat → Int32) → (Nat → Int32) → (Nat → Int32) → (Nat → Int32) → Prop} (h : ROU a1 a2 a3 st lc mo j S 0 (-1) bw x3' bw') (hR : ∀ qd qu f b z pw, R x3' qd qu f b z pw bw') : ∀ qd qu f b z pw, wp_X12_bestPair a1 a2 qd a3 st lc mo qu f b z pw bw (nI j) (nI S) R := fun qd qu f b z pw => by
  obtain ⟨g, hg⟩ := h R hR
  unfold wp_X12_bestPair
  exact ⟨g, hg _ _ _ _ _ _⟩
theorem LGR.fin {QR : Int32 → Int32 → Int32 → (Nat → Int32) → (Nat → Int32) → (Nat → Int32) → (Nat → Int32) → (Nat → Int32) → (Nat → Int32) → (Nat → Int32) → (Nat → Int32) → Prop} {T len : Nat} {mk bw : Nat → Int32} {c : Nat → Nat} (hT : T < 4096) (h1 : pop T = 1) (hl : len ≤ 600) (hmk : ∀ i, i < len → mk i = nI (c i)) (hQ : ∀ qd word' qu f b z pw, (∀ i, i < len → word' i = nI (c i)) → QR (nI len) (nI len) qd word' qu f b z mk pw bw) : LGR a1 wl2 a3 st lc mo word j QR T len mk bw := ⟨0 + 1, fun qd qu f b z pw => by
  unfold L_X12_greedy_17
  refine sp_many hT ?_
  rw [h1]
  refine b_T (nI_le (Nat.le_refl _) (by omega)) ?_
  unfold J_X12_greedy_102
  refine pk_loop (fun g i (s : Nat → Int32) => L_X12_greedy_111 (nI len) qd qu f b z mk pw bw (nI len) QR g (nI i) s) (fun i s => ∀ x, x < i → s x = nI (c x)) len 0 word (Nat.zero_le _) (fun x hx => by omega) ?_ ?_
  · rintro g s hs
    show L_X12_greedy_111 (nI len) qd qu f b z mk pw bw (nI len) QR (g + 1) (nI len) s
    unfold L_X12_greedy_111
    exact b_T (nI_le (Nat.le_refl _) (by omega)) (hQ _ _ _ _ _ _ _ hs)
  · rintro g i s hi hs ih
    show L_X12_greedy_111 (nI len) qd qu f b z mk pw bw (nI len) QR (g + 1) (nI i) s
    unfold L_X12_greedy_111
    rw [nI_1', nI_clamp (by omega), hmk i hi]
    refine b_F (nI_ge hi (by omega)) ⟨vin (by omega) (by omega), vin (by omega) (by omega), ih _ (fun x hx => ?_)⟩
    by_cases y : x = i
    · subst y; exact pk_us
    · rw [pk_un y]; exact hs x (by omega)⟩
theorem LGR.no {QR : Int32 → Int32 → Int32 → (Nat → Int32) → (Nat → Int32) → (Nat → Int32) → (Nat → Int32) → (Nat → Int32) → (Nat → Int32) → (Nat → Int32) → (Nat → Int32) → Prop} {T len : Nat} {mk bw bw' : Nat → Int32} (hT : T < 4096) (h1 : 1 < pop T) (h : ROU a1 wl2 a3 st lc mo j T 0 (-1) bw (-1) bw') (hQ : ∀ qd qu f b z pw, QR (-1) wl2 qd word qu f b z mk pw bw') : LGR a1 wl2 a3 st lc mo word j QR T len mk bw := ⟨0 + 1, fun qd qu f b z pw => by
  have hp := (one_pop T hT).2.2
  unfold L_X12_greedy_17
  refine sp_many hT (b_F (nI_ge h1 (by omega)) (ref_best h (fun qd qu f b z pw => b_T rfl (hQ _ _ _ _ _ _)) _ _ _ _ _ _))⟩
theorem LGR.long {QR : Int32 → Int32 → Int32 → (Nat → Int32) → (Nat → Int32) → (Nat → Int32) → (Nat → Int32) → (Nat → Int32) → (Nat → Int32) → (Nat → Int32) → (Nat → Int32) → Prop} {T len d : Nat} {mk bw bw' : Nat → Int32} (hT : T < 4096) (h1 : 1 < pop T) (h : ROU a1 wl2 a3 st lc mo j T 0 (-1) bw (nI d) bw') (hl : len ≤ 600) (hd : d ≤ 67) (hld : 600 < len + d) (hQ : ∀ qd qu f b z pw, QR (-1) wl2 qd word qu f b z mk pw bw') : LGR a1 wl2 a3 st lc mo word j QR T len mk bw := ⟨0 + 1, fun qd qu f b z pw => by
  have hp := (one_pop T hT).2.2
  unfold L_X12_greedy_17
  refine sp_many hT (b_F (nI_ge h1 (by omega)) (ref_best h (fun qd qu f b z pw => b_F (nI_m1 (by omega)) ?_) _ _ _ _ _ _))
  rw [nI_add]
  exact b_F (nI_ge hld (by omega)) (hQ _ _ _ _ _ _)⟩
theorem LGR.step {QR : Int32 → Int32 → Int32 → (Nat → Int32) → (Nat → Int32) → (Nat → Int32) → (Nat → Int32) → (Nat → Int32) → (Nat → Int32) → (Nat → Int32) → (Nat → Int32) → Prop} {T len d : Nat} {mk bw bw' : Nat → Int32} {c : Nat → Nat} (hn : n ≤ 12) (hk : k ≤ 4) (hj : j < 6) (hm : MV n k mv) (hst : st j = nI n) (hr : RMv n k j mo mv) (hT : T < 2 ^ n) (h1 : 1 < pop T) (h : ROU a1 wl2 a3 st lc mo j T 0 (-1) bw (nI d) bw') (hd : d ≤ 67) (hld : len + d ≤ 600) (hc : ∀ i, i < d → c i < k ∧ bw' i = nI (c i)) (hpos : 0 < stw (stp n mv) c T d)
    (hQ : LGR a1 wl2 a3 st lc mo word j QR (stw (stp n mv) c T d) (len + d) (fun x => if len ≤ x ∧ x < len + d then nI (c (x - len)) else mk x) bw') : LGR a1 wl2 a3 st lc mo word j QR T len mk bw := by
  have h12 : 2 ^ n ≤ 2 ^ 12 := Nat.pow_le_pow_right (by decide) hn
  obtain ⟨g, hg⟩ := hQ
  refine ⟨g + 1, fun qd qu f b z pw => ?_⟩
  have hp := (one_pop T (by omega)).2.2
  unfold L_X12_greedy_17
  refine sp_many (by omega) (b_F (nI_ge h1 (by omega)) (ref_best h (fun qd qu f b z pw => b_F (nI_m1 (by omega)) ?_) _ _ _ _ _ _))
  rw [nI_add]
  refine b_T (nI_le hld (by omega)) ?_
  have hne : ∀ i, i ≤ d → stw (stp n mv) c T i ≠ 0 := fun i hi e => by
    have := stw_0 e (d - i)
    rw [show i + (d - i) = d by omega] at this
    omega
  refine pk_loop (fun g2 i (s : Int32 × (Nat → Int32)) => L_X12_greedy_55 a1 wl2 qd a3 st mo qu f b z pw bw' (nI j) (nI d) (L_X12_greedy_17 a1 wl2 a3 st lc mo word (nI j) QR g) g2 s.1 (nI (len + i)) (nI i) s.2) (fun i s => s.1 = nI (stw (stp n mv) c T i) ∧ s.2 = fun x => if len ≤ x ∧ x < len + i then nI (c (x - len)) else mk x) d 0 (nI T, mk) (Nat.zero_le _) ⟨rfl, by funext x; show mk x = _; rw [if_neg (by omega)]⟩ ?_ ?_
  · rintro g2 ⟨s1, s2⟩ ⟨e1, e2⟩
    show L_X12_greedy_55 a1 wl2 qd a3 st mo qu f b z pw bw' (nI j) (nI d) _ (g2 + 1) s1 (nI (len + d)) (nI d) s2
    unfold L_X12_greedy_55 J_X12_greedy_99
    have e1' : s1 = nI (stw (stp n mv) c T d) := e1
    have e2' : s2 = fun x => if len ≤ x ∧ x < len + d then nI (c (x - len)) else mk x := e2
    rw [e1', e2']
    exact b_T (nI_le (Nat.le_refl _) (by omega)) (hg _ _ _ _ _ _)
  · rintro g2 i ⟨s1, s2⟩ hi ⟨e1, e2⟩ ih
    show L_X12_greedy_55 a1 wl2 qd a3 st mo qu f b z pw bw' (nI j) (nI d) _ (g2 + 1) s1 (nI (len + i)) (nI i) s2
    unfold L_X12_greedy_55
    have e1' : s1 = nI (stw (stp n mv) c T i) := e1
    have e2' : s2 = fun x => if len ≤ x ∧ x < len + i then nI (c (x - len)) else mk x := e2
    have hlt := stw_lt3 hn hm hT i (fun a ha => (hc a (by omega)).1)
    rw [nI_1', nI_1', nI_clamp (n := i) (by omega), nI_clamp (n := len + i) (by omega), (hc i hi).2, e1', e2']
    refine b_F (nI_ge hi (by omega)) ⟨vin (by omega) (by omega), vin (by omega) (by omega), vin (by omega) (by omega), sp_next hn hk hj hst hr hm (hc i hi).1 (by omega) (ih (_, _) ⟨?_, ?_⟩)⟩
    · show nI _ = nI (if stw (stp n mv) c T i = 0 then 0 else _)
      rw [if_neg (hne i (by omega))]
    · show upd _ (len + i) _ = _
      funext x
      by_cases y : x = len + i
      · subst y
        rw [pk_us, if_pos (by omega), show len + i - len = i by omega]
      · rw [pk_un y]
        by_cases y2 : len ≤ x ∧ x < len + i
        · rw [if_pos y2, if_pos (by omega)]
        · rw [if_neg y2, if_neg (by omega)]
theorem sp_append {len : Nat} {row : Nat → Int32} {v : Int32} {Q : Int32 → Int32 → (Nat → Int32) → Prop} (hl : len < 600) (h : Q (nI 1) (nI (len + 1)) (upd row len v)) : wp_X10_append (nI len) row v Q := by
  unfold wp_X10_append
  rw [nI_1', nI_clamp (by omega)]
  exact b_F (nI_nlt0 (by omega)) (b_T (nI_lt hl (by omega)) ⟨vin hl (by omega), h⟩)
theorem cls_app {d len t : Nat} {c : Nat → Nat} {bs bl tl : Int32} {br tr row : Nat → Int32} {R : Int32 → Int32 → Int32 → Int32 → (Nat → Int32) → Int32 → (Nat → Int32) → Int32 → (Nat → Int32) → Prop} (hld : len + d ≤ 600) (hc : ∀ i, i < d → br i = nI (c i)) (hR : R bs (nI (t + 1)) bs (nI (len + d)) (fun x => if len ≤ x ∧ x < len + d then nI (c (x - len)) else row x) (nI d) br tl tr) : ∃ f, L_X2_run_84 bs (nI d) br tl tr (nI t) R f (nI 0) (nI len) row := by
  refine pk_loop (fun f i (s : Nat → Int32) => L_X2_run_84 bs (nI d) br tl tr (nI t) R f (nI i) (nI (len + i)) s) (fun i s => s = fun x => if len ≤ x ∧ x < len + i then nI (c (x - len)) else row x) d 0 row (Nat.zero_le _) (by funext x; rw [if_neg (by omega)]) ?_ ?_
  · rintro f s rfl
    show L_X2_run_84 bs (nI d) br tl tr (nI t) R (f + 1) (nI d) (nI (len + d)) _
    unfold L_X2_run_84 J_X2_run_119
    rw [nI_1']
    exact b_T (nI_le (Nat.le_refl _) (by omega)) hR
  · rintro f i s hi rfl ih
    show L_X2_run_84 bs (nI d) br tl tr (nI t) R (f + 1) (nI i) (nI (len + i)) _
    unfold L_X2_run_84
    refine b_F (nI_ge hi (by omega)) (sp_at hi (by omega) (sp_append (by omega) ?_))
    rw [nI_1', hc i hi]
    refine ih _ ?_
    funext x
    by_cases y : x = len + i
    · subst y
      rw [pk_us, if_pos (by omega), show len + i - len = i by omega]
    · rw [pk_un y]
      by_cases y2 : len ≤ x ∧ x < len + i
      · rw [if_pos y2, if_pos (by omega)]
      · rw [if_neg y2, if_neg (by omega)]
theorem sp_run {sl wl bs bl tl wdl : Int32} {wr br tr wdr mk0 bw0 : Nat → Int32} {Q : Int32 → Int32 → Int32 → (Nat → Int32) → (Nat → Int32) → Int32 → (Nat → Int32) → Int32 → (Nat → Int32) → Int32 → (Nat → Int32) → Int32 → (Nat → Int32) → Int32 → (Nat → Int32) → Prop} (hn0 : 1 ≤ n) (hn : n ≤ 12) (hk : k ≤ 4) (hj : j < 6) (hm : MV n k mv) (hst : st j = nI n) (hlc : lc j = nI k) (hr : RMv n k j mo mv) (hz : TZ low high) (hS : 0 < S) (hS2 : S < 2 ^ n) (hw : WD wdl wdr wl2 word)
    (hQ : ∀ r wdl' wdr' bs sl low high w le wl wr bl br tl tr, TZ low high → LGR a1 wl2 a3 st lc mo word j (fun r2 wl2 qd word _ _ _ _ _ _ _ => r = r2 ∧ WD wdl' wdr' wl2 word) S 0 mk0 bw0 → Q r bs sl low high w le wl wr bl br tl tr wdl' wdr') : wp_X2_run bs sl low high w le wl wr bl br tl tr (nI n) (nI k) mv wdl wdr (nI S) Q := by
  have h12 : 2 ^ n ≤ 2 ^ 12 := Nat.pow_le_pow_right (by decide) hn
  unfold wp_X2_run
  refine sp_load hn hk hm hz (fun low' high' ht hz' => sp_loadP hn0 hn hk hm (fun le' L l1 l2 l3 => ?_))
  generalize nI (TT n - NJ n (isL le')) = w'
  unfold wp_X10_clear
  refine pk_loop (fun f t (s : Int32 × Int32 × Int32 × (Nat → Int32) × Int32 × (Nat → Int32) × Int32 × (Nat → Int32)) => L_X2_run_29 (nI k) low' high' w' le' (nI n) (nI k) mv wdl wdr Q f s.1 (nI t) s.2.1 s.2.2.1 s.2.2.2.1 s.2.2.2.2.1 s.2.2.2.2.2.1 s.2.2.2.2.2.2.1 s.2.2.2.2.2.2.2) (fun t s => ∃ (T len : Nat) (c : Nat → Nat) (mk bw : Nat → Int32), s.1 = nI T ∧ 0 < T ∧ T < 2 ^ n ∧ pop T + t ≤ 12 ∧ len ≤ 600 ∧ s.2.2.1 = nI len ∧ (∀ i, i < len → c i < 4 ∧ s.2.2.2.1 i = nI (c i) ∧ mk i = nI (c i)) ∧ ∀ QR, LGR a1 wl2 a3 st lc mo word j QR T len mk bw → LGR a1 wl2 a3 st lc mo word j QR S 0 mk0 bw0) 12 0 (nI S, bs, nI 0, wr, bl, br, tl, tr) (Nat.zero_le _) ⟨S, 0, fun _ => 0, mk0, bw0, rfl, hS, hS2, by have := (one_pop S (by omega)).2.2; omega, by omega, rfl, fun i hi => by omega, fun QR h => h⟩ ?_ ?_
  · rintro f s ⟨T, len, c, mk, bw, -, h1, h2, h3, -⟩
    have := (one_pop T (by omega)).2.1 h1
    omega
  · rintro f t ⟨s1, s2, s3, s4, s5, s6, s7, s8⟩ ht' ⟨T, len, c, mk, bw, e1, h1, h2, h3, h4, e2, h5, h6⟩ ih
    show L_X2_run_29 (nI k) low' high' w' le' (nI n) (nI k) mv wdl wdr Q (f + 1) s1 (nI t) s2 s3 s4 s5 s6 s7 s8
    have e1' : s1 = nI T := e1
    have e2' : s3 = nI len := e2
    have h5' : ∀ i, i < len → c i < 4 ∧ s4 i = nI (c i) ∧ mk i = nI (c i) := h5
    rw [e1', e2']
    have hT1 := (one_pop T (by omega)).2.1 h1
    unfold L_X2_run_29
    refine b_F (nI_ge ht' (by omega)) (sp_isOne h1 (by omega) ?_)
    by_cases c1 : pop T = 1
    · rw [if_pos c1]
      refine b_nT ne10 ?_
      unfold J_X2_run_131
      refine sp_copy (c := c) h4 (fun i hi => (h5' i hi).2.1) (fun row2 hrow2 => ?_)
      refine hQ _ _ _ _ _ _ _ _ _ _ _ _ _ _ _ hz' (h6 _ (LGR.fin (c := c) (by omega) c1 h4 (fun i hi => (h5' i hi).2.2) (fun qd word' qu f b z pw hw' => ⟨rfl, len, c, h4, rfl, rfl, fun i hi => ⟨(h5' i hi).1, hrow2 i hi, hw' i hi⟩⟩)))
    · rw [if_neg c1]
      refine b_nF rfl (sp_choose (a1 := a1) (a2 := wl2) (a3 := a3) (st := st) (lc := lc) (mo := mo) (bw := bw) hn hk hj hm hst hlc hr ht l1 l2 l3 h2 (fun bs' bl' br' tl' tr' x3' bw' hB hro => ?_))
      rcases hB with ⟨y1, y2⟩ | ⟨d, c', d1, ⟨d2, d3⟩, y1, y2, y3, y4⟩
      · rw [y1]
        rw [y2] at hro
        exact b_T rfl (hQ _ _ _ _ _ _ _ _ _ _ _ _ _ _ _ hz' (h6 _ (LGR.no (by omega) (by omega) hro (fun _ _ _ _ _ _ => ⟨rfl, hw⟩))))
      · have hlt := stw_lt3 hn hm h2 d (fun i hi => (y4 i hi).1)
        rw [y1, y3, nI_add]
        rw [y2] at hro
        refine b_F (fun y => by have := (nI_eq (by omega) (by omega)).mp y; omega) (b_le (by omega) (by omega) (fun y => ?_) (fun y => ?_))
        · refine cls_app (c := c') (bl := nI 0) y (fun i hi => (y4 i hi).2.1) (ih (_, _, _, _, _, _, _, _) ⟨_, len + d, fun x => if x < len then c x else c' (x - len), fun x => if len ≤ x ∧ x < len + d then nI (c' (x - len)) else mk x, bw', rfl, d2, hlt, by omega, y, rfl, fun i hi => ?_, fun QR hq => h6 _ (LGR.step hn hk hj hm hst hr h2 (by omega) hro d1 y (fun i hi => ⟨(y4 i hi).1, (y4 i hi).2.2⟩) d2 hq)⟩)
          show (if i < len then c i else c' (i - len)) < 4 ∧ (if len ≤ i ∧ i < len + d then nI (c' (i - len)) else s4 i) = nI (if i < len then c i else c' (i - len)) ∧ (if len ≤ i ∧ i < len + d then nI (c' (i - len)) else mk i) = nI (if i < len then c i else c' (i - len))
          by_cases z : i < len
          · rw [if_pos z, if_neg (by omega), if_neg (by omega)]
            exact h5' i z
          · rw [if_neg z, if_pos (by omega), if_pos (by omega)]
            exact ⟨by have := (y4 (i - len) (by omega)).1; omega, rfl, rfl⟩
        · exact hQ _ _ _ _ _ _ _ _ _ _ _ _ _ _ _ hz' (h6 _ (LGR.long (by omega) (by omega) hro h4 d1 (by omega) (fun _ _ _ _ _ _ => ⟨rfl, hw⟩)))
end GRE
section PGR
variable {N : Nat} {n k : Nat → Nat} {mv li pr sh : Nat → Nat → Int32} {ma : Int32} {st le mo lt pc sr : Nat → Int32} {j : Nat}
variable {made wl sl w gb gwl gbl gtl wl2 qd hp x2 : Int32} {mch : Nat → Option Nat} {row low high lens gwr gbr gtr word rq rf rb rk mk pw bw : Nat → Int32}
theorem pr_greedy (h : RSt N n k mv li pr sh ma st le mo lt pc sr) (hj : j < N) (hz : TZ low high) (hw : WD wl row wl2 word) : wp_X11_greedy_s made mch wl row sl low high w lens gb gwl gwr gbl gbr gtl gtr (nI (n j)) (nI (k j)) (mv j) (nI j) x2 (fun r wl row _ low high _ _ _ _ _ _ _ _ _ => TZ low high ∧ wp_X12_greedy ma wl2 qd hp st le mo word rq rf rb rk mk pw bw (nI j) x2 (fun r2 wl2 qd word _ _ _ _ _ _ _ => r = r2 ∧ WD wl row wl2 word)) := by
  obtain ⟨⟨⟨g1, g2, g3, g4⟩, g5, -⟩, s1, s2, s3, -⟩ := h.2.2 j hj
  have hN := h.1
  unfold wp_X11_greedy_s
  refine sp_hasSet g2 (fun S hS hS2 e => ?_) (fun hno => ?_)
  · subst e
    refine b_nT ne10 (sp_run (a1 := ma) (a3 := hp) (mk0 := mk) (bw0 := bw) (st := st) (lc := le) (mo := mo) (j := j) g1 g2 g4 (by omega) g5 s1 s2 s3 hz hS hS2 hw (fun r wdl' wdr' _ _ low' high' _ _ _ _ _ _ _ _ hz' hL => ⟨hz', ?_⟩))
    unfold wp_X12_greedy
    obtain ⟨g, hg⟩ := hL
    exact rT1 h hj hS hS2 (b_nT ne10 ⟨g, hg _ _ _ _ _ _⟩)
  · refine b_nF rfl ⟨hz, ?_⟩
    unfold wp_X12_greedy
    exact rT0 h hj hno (b_nF rfl ⟨rfl, hw⟩)
end PGR
