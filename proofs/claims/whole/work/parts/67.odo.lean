/-! colourings in order; the reference's loop over them -/
def odo (many : Nat) : Nat → (Nat → Nat) → (Nat → Nat) × Bool
  | 0, o => (o, false)
  | q + 1, o => if o q + 1 < many then (fun x => if x = q then o q + 1 else o x, true) else odo many q (fun x => if x = q then 0 else o x)
def VAL (n k : Nat) (o : Nat → Nat) : Prop := ∀ q, q < n → o q < fac k
theorem VAL.set {n k q v : Nat} {o : Nat → Nat} (h : VAL n k o) (hv : v < fac k) : VAL n k (fun x => if x = q then v else o x) := fun p hp => by
  show (if p = q then v else o p) < fac k
  by_cases c : p = q
  · rw [if_pos c]; exact hv
  · rw [if_neg c]; exact h p hp
theorem VAL_odo {n k : Nat} (hf : 0 < fac k) : ∀ (q : Nat) (o : Nat → Nat), VAL n k o → VAL n k (odo (fac k) q o).1
  | 0, _, h => h
  | q + 1, o, h => by
    rw [odo]
    by_cases c : o q + 1 < fac k
    · rw [if_pos c]; exact h.set c
    · rw [if_neg c]; exact VAL_odo hf q _ (h.set hf)
/-- a machine coloured -/
def cmo (k : Nat) (mv : Nat → Int32) (o : Nat → Nat) : Nat → Int32 := fun i => mv (i / 4 * 4 + tbl k (o (i / 4)) (i % 4))
theorem cmo_at {k q l : Nat} {mv : Nat → Int32} {o : Nat → Nat} (hl : l < 4) : cmo k mv o (q * 4 + l) = mv (q * 4 + tbl k (o q) l) := by
  unfold cmo
  rw [show (q * 4 + l) / 4 = q by omega, show (q * 4 + l) % 4 = l by omega]
def RX (n k j : Nat) (mv mo : Nat → Int32) (o : Nat → Nat) (mo' ord : Nat → Int32) : Prop := (∀ q l, q < n → l < k → mo' (48 * j + 4 * q + l) = mv (q * 4 + tbl k (o q) l)) ∧ (∀ i, ¬ (48 * j ≤ i ∧ i < 48 * j + 48) → mo' i = mo i) ∧ ∀ q, q < n → ord q = nI (o q)
section ODO
variable {n k j : Nat} {mv mo had st lc : Nat → Int32} {a1 a2 a3 a4 : Int32}
theorem RX.set {q v : Nat} {o : Nat → Nat} {mo' ord mo'' : Nat → Int32} (hn : n ≤ 12) (hk : k ≤ 4) (hh : ∀ q l, q < n → l < k → had (4 * q + l) = mv (q * 4 + l)) (h : RX n k j mv mo o mo' ord) (hq : q < n) (hv : v < fac k) (e1 : ∀ l, l < k → mo'' (48 * j + 4 * q + l) = had (4 * q + tbl k v l)) (e2 : ∀ i, ¬ (48 * j + 4 * q ≤ i ∧ i < 48 * j + 4 * q + 4) → mo'' i = mo' i) : RX n k j mv mo (fun x => if x = q then v else o x) mo'' (upd ord q (nI v)) := by
  refine ⟨fun p l hp hl => ?_, fun i hi => ?_, fun p hp => ?_⟩
  · show _ = mv (p * 4 + tbl k (if p = q then v else o p) l)
    by_cases c : p = q
    · subst c
      rw [if_pos rfl, e1 l hl, hh p _ hp (tbl_lt hk hv hl)]
    · rw [if_neg c, e2 _ (by omega)]; exact h.1 p l hp hl
  · rw [e2 i (by omega)]; exact h.2.1 i hi
  · show _ = nI (if p = q then v else o p)
    by_cases c : p = q
    · subst c; rw [if_pos rfl, pk_us]
    · rw [if_neg c, pk_un c]; exact h.2.2 p hp
theorem ref_turn {i : Nat} {jn : Nat → Int32} {R : Int32 → Int32 → (Nat → Int32) → (Nat → Int32) → (Nat → Int32) → (Nat → Int32) → Prop} (hn : n ≤ 12) (hk0 : 1 ≤ k) (hk : k ≤ 4) (hj : j < 6) (hlc : lc j = nI k) (hh : ∀ q l, q < n → l < k → had (4 * q + l) = mv (q * 4 + l)) : ∀ (q : Nat), q ≤ n → ∀ (o : Nat → Nat) (mo' ord row : Nat → Int32), VAL n k o → RX n k j mv mo o mo' ord → (∀ mo'' ord'' row'' x5, VAL n k (odo (fac k) q o).1 → RX n k j mv mo (odo (fac k) q o).1 mo'' ord'' → ((odo (fac k) q o).2 = true → ∃ t, t < 12 ∧ x5 = nI t) → ((odo (fac k) q o).2 = false → x5 = -1) → R (nI (i + 1)) x5 mo'' jn ord'' row'') → L_X12_colour_159 a1 a2 a3 a4 lc jn had (nI j) (nI (fac k)) (nI i) R (q + 1) (nI q - nI 1) mo' ord row
  | 0, _, o, mo', ord, row, hv, hx, hR => by
    unfold L_X12_colour_159 J_X12_colour_198 J_X12_colour_221
    rw [nI_0m1, nI_1']
    exact b_T (by decide) (b_T (by decide) (hR mo' ord row (-1) hv hx (fun z => by cases z) (fun _ => rfl)))
  | q + 1, hq, o, mo', ord, row, hv, hx, hR => by
    have hf := fac_le k (by omega)
    have hoq := hv q (by omega)
    by_cases c : o q + 1 < fac k
    · have eo : odo (fac k) (q + 1) o = (fun x => if x = q then o q + 1 else o x, true) := by rw [odo, if_pos c]
      rw [eo] at hR
      unfold L_X12_colour_159 J_X12_colour_198 J_X12_colour_221
      rw [pk_sub (show 1 ≤ q + 1 by omega), show q + 1 - 1 = q by omega, pk_sub (show 1 ≤ fac k by omega), nI_clamp (n := q) (by omega), hx.2.2 q (by omega), nI_1', nI_1']
      refine b_F (nI_nlt0 (by omega)) ⟨vin (by omega) (by omega), b_nT (fun z => by have := (nI_eq (by omega) (by omega)).mp z; omega) (b_F (nI_nlt0 (by omega)) ⟨vin (by omega) (by omega), vin (by omega) (by omega), ?_⟩)⟩
      refine sp_colours hk0 hk hj hlc (by omega) c pk_us (fun mo'' row'' e1 e2 => hR mo'' _ row'' (nI q) (hv.set c) (hx.set hn hk hh (by omega) c e1 e2) (fun _ => ⟨q, by omega, rfl⟩) (fun z => by cases z))
    · have eo : odo (fac k) (q + 1) o = odo (fac k) q (fun x => if x = q then 0 else o x) := by rw [odo, if_neg c]
      rw [eo] at hR
      unfold L_X12_colour_159
      rw [pk_sub (show 1 ≤ q + 1 by omega), show q + 1 - 1 = q by omega, pk_sub (show 1 ≤ fac k by omega), nI_clamp (n := q) (by omega), hx.2.2 q (by omega), am1]
      refine b_F (nI_nlt0 (by omega)) ⟨vin (by omega) (by omega), b_nF (by rw [show o q = fac k - 1 by omega]) ⟨vin (by omega) (by omega), ?_⟩⟩
      exact sp_colours hk0 hk hj hlc (by omega) hf.1 pk_us (fun mo'' row'' e1 e2 => ref_turn hn hk0 hk hj hlc hh q (by omega) _ mo'' _ row'' (hv.set hf.1) (hx.set hn hk hh (by omega) hf.1 e1 e2) hR)
/-- the moves as they were -/
theorem ref_back {jn : Nat → Int32} {Q2 : Int32 → (Nat → Int32) → (Nat → Int32) → (Nat → Int32) → (Nat → Int32) → (Nat → Int32) → Prop} (hn : n ≤ 12) (hk0 : 1 ≤ k) (hk : k ≤ 4) (hj : j < 6) (hlc : lc j = nI k) (hh : ∀ q l, q < n → l < k → had (4 * q + l) = mv (q * 4 + l)) (hQ : ∀ mo' jn ord row, RMv n k j mo' mv → (∀ i, ¬ (48 * j ≤ i ∧ i < 48 * j + 48) → mo' i = mo i) → Q2 (-1) mo' jn ord had row) {o : Nat → Nat} {mo' ord row : Nat → Int32} (hx : RX n k j mv mo o mo' ord) : J_X12_colour_227 a1 a2 a3 a4 lc (nI j) Q2 (nI n) mo' jn ord had row := by
  have hf := fac_le k (by omega)
  have key : ∀ (d p : Nat), p + d = n → ∀ (o : Nat → Nat) (mo' ord row : Nat → Int32), (∀ q, q < p → o q = 0) → RX n k j mv mo o mo' ord → L_X12_colour_230 a1 a2 a3 a4 lc jn had (nI j) (nI n) Q2 (d + 1) (nI p) mo' ord row := by
    intro d
    induction d with
    | zero =>
      intro p hp o mo' ord row h0 hx
      unfold L_X12_colour_230
      refine b_T (nI_le (by omega) (by omega)) (hQ _ _ _ _ (fun q l hq hl => ?_) hx.2.1)
      rw [hx.1 q l hq hl, h0 q (by omega), tbl_0 k (by omega) l hl]
    | succ d ih =>
      intro p hp o mo' ord row h0 hx
      unfold L_X12_colour_230
      rw [nI_1', nI_clamp (by omega)]
      refine b_F (nI_ge (by omega) (by omega)) ⟨vin (by omega) (by omega), sp_colours hk0 hk hj hlc (by omega) hf.1 pk_us (fun mo'' row'' e1 e2 => ih (p + 1) (by omega) _ mo'' _ row'' (fun q hq => ?_) (hx.set hn hk hh (by omega) hf.1 e1 e2))⟩
      show (if q = p then 0 else o q) = 0
      by_cases c : q = p
      · rw [if_pos c]
      · rw [if_neg c]; exact h0 q (by omega)
  unfold J_X12_colour_227
  exact ⟨n + 1, key n 0 (by omega) o mo' ord row (fun q hq => absurd hq (by omega)) hx⟩
/-- all two states come together -/
def ALL (n k : Nat) (m : Nat → Int32) : Prop := ∀ p q, p < q → q < n → ∃ d, md m k d p q = true
theorem cmo_mv {o : Nat → Nat} (hk : k ≤ 4) (hm : MV n k mv) (hv : VAL n k o) : MV n k (cmo k mv o) := fun q l hq hl => by
  rw [cmo_at (by omega)]
  exact hm q _ hq (tbl_lt hk (hv q hq) hl)
theorem RX.rmv {o : Nat → Nat} {mo' ord : Nat → Int32} (hk : k ≤ 4) (h : RX n k j mv mo o mo' ord) : RMv n k j mo' (cmo k mv o) := fun q l hq hl => by
  rw [cmo_at (by omega)]; exact h.1 q l hq hl
theorem ref_pairs {o : Nat → Nat} {jn mo' ord : Nat → Int32} {Q : Int32 → (Nat → Int32) → Prop} (hn0 : 1 ≤ n) (hn : n ≤ 12) (hk : k ≤ 4) (hj : j < 6) (hm : MV n k mv) (hst : st j = nI n) (hlc : lc j = nI k) (hv : VAL n k o) (hx : RX n k j mv mo o mo' ord) (h1 : ALL n k (cmo k mv o) → ∀ jn, Q (nI 0) jn) (h0 : ¬ ALL n k (cmo k mv o) → ∀ r jn, ¬ r = nI 0 → Q r jn) : wp_X12_apartPairs a1 a2 a3 a4 st lc mo' jn (nI j) Q := by
  refine sp_apartPairs hn0 hn hk hj (cmo_mv hk hm hv) hst hlc (hx.rmv hk) (fun jn' hjn => ?_)
  have hNT := NJ_TT (f := isJ jn') hn
  have h66 := TT_66 hn
  by_cases c : ALL n k (cmo k mv o)
  · have e : NJ n (isJ jn') = NJ n (fun _ _ => true) := NJ_congr (fun p q hpq hq => (hjn p q (by omega) hq (by omega)).mpr (c p q hpq hq))
    rw [NJ_all n (by omega)] at e
    have e2 : NJ n (isJ jn') = TT n := e
    rw [e2, Nat.sub_self]
    exact h1 c _
  · refine h0 c _ _ (fun z => c (fun p q hpq hq => ?_))
    have z2 := (nI_eq (by omega) (by omega)).mp z
    refine (hjn p q (by omega) hq (by omega)).mp ?_
    cases y : isJ jn' p q
    · have := NJ_not (by omega) hpq hq y
      omega
    · rfl
/-- the reference from a colouring on -/
def RGC (n k j : Nat) (mv mo had st lc : Nat → Int32) (a1 a2 a3 a4 : Int32) (Q2 : Int32 → (Nat → Int32) → (Nat → Int32) → (Nat → Int32) → (Nat → Int32) → (Nat → Int32) → Prop) (i : Nat) (o : Nat → Nat) : Prop := ∃ g, ∀ mo' ord row jn t, RX n k j mv mo o mo' ord → t < 12 → L_X12_colour_130 a1 a2 a3 a4 st lc had (nI j) (nI n) (nI (fac k)) Q2 g (nI i) (nI t) mo' jn ord row
theorem RGC.full {Q2 : Int32 → (Nat → Int32) → (Nat → Int32) → (Nat → Int32) → (Nat → Int32) → (Nat → Int32) → Prop} {o : Nat → Nat} (hn : n ≤ 12) (hk0 : 1 ≤ k) (hk : k ≤ 4) (hj : j < 6) (hlc : lc j = nI k) (hh : ∀ q l, q < n → l < k → had (4 * q + l) = mv (q * 4 + l)) (hQ : ∀ mo' jn ord row, RMv n k j mo' mv → (∀ i, ¬ (48 * j ≤ i ∧ i < 48 * j + 48) → mo' i = mo i) → Q2 (-1) mo' jn ord had row) : RGC n k j mv mo had st lc a1 a2 a3 a4 Q2 1500 o := ⟨0 + 1, fun mo' ord row jn t hx _ => by
  unfold L_X12_colour_130
  exact b_T (nI_le (Nat.le_refl _) (by omega)) (ref_back hn hk0 hk hj hlc hh hQ hx)⟩
theorem RGC.found {Q2 : Int32 → (Nat → Int32) → (Nat → Int32) → (Nat → Int32) → (Nat → Int32) → (Nat → Int32) → Prop} {o : Nat → Nat} {i : Nat} (hn0 : 1 ≤ n) (hn : n ≤ 12) (hk : k ≤ 4) (hj : j < 6) (hm : MV n k mv) (hst : st j = nI n) (hlc : lc j = nI k) (hv : VAL n k o) (hi : i < 1500) (hA : ALL n k (cmo k mv o)) (hQ : ∀ mo' jn ord row, RX n k j mv mo o mo' ord → Q2 (nI i) mo' jn ord had row) : RGC n k j mv mo had st lc a1 a2 a3 a4 Q2 i o := ⟨0 + 1, fun mo' ord row jn t hx ht => by
  unfold L_X12_colour_130
  exact b_F (nI_ge hi (by omega)) (b_F (nI_nlt0 (by omega)) (ref_pairs hn0 hn hk hj hm hst hlc hv hx (fun _ jn => b_nF rfl (hQ _ _ _ _ hx)) (fun z => absurd hA z)))⟩
theorem RGC.next {Q2 : Int32 → (Nat → Int32) → (Nat → Int32) → (Nat → Int32) → (Nat → Int32) → (Nat → Int32) → Prop} {o : Nat → Nat} {i : Nat} (hn0 : 1 ≤ n) (hn : n ≤ 12) (hk0 : 1 ≤ k) (hk : k ≤ 4) (hj : j < 6) (hm : MV n k mv) (hst : st j = nI n) (hlc : lc j = nI k) (hh : ∀ q l, q < n → l < k → had (4 * q + l) = mv (q * 4 + l)) (hv : VAL n k o) (hi : i < 1500) (hA : ¬ ALL n k (cmo k mv o)) (hQ : (odo (fac k) n o).2 = false → ∀ mo' jn ord row, RMv n k j mo' mv → (∀ i, ¬ (48 * j ≤ i ∧ i < 48 * j + 48) → mo' i = mo i) → Q2 (-1) mo' jn ord had row)
    (h : (odo (fac k) n o).2 = true → RGC n k j mv mo had st lc a1 a2 a3 a4 Q2 (i + 1) (odo (fac k) n o).1) : RGC n k j mv mo had st lc a1 a2 a3 a4 Q2 i o := by
  have step : ∀ g, (∀ mo'' ord'' row'' jn x5, RX n k j mv mo (odo (fac k) n o).1 mo'' ord'' → ((odo (fac k) n o).2 = true → ∃ t, t < 12 ∧ x5 = nI t) → ((odo (fac k) n o).2 = false → x5 = -1) → L_X12_colour_130 a1 a2 a3 a4 st lc had (nI j) (nI n) (nI (fac k)) Q2 g (nI (i + 1)) x5 mo'' jn ord'' row'') → RGC n k j mv mo had st lc a1 a2 a3 a4 Q2 i o := fun g hg => ⟨g + 1, fun mo' ord row jn t hx ht => by
    unfold L_X12_colour_130
    exact b_F (nI_ge hi (by omega)) (b_F (nI_nlt0 (by omega)) (ref_pairs hn0 hn hk hj hm hst hlc hv hx (fun z => absurd z hA) (fun _ r jn hr => b_nT hr ⟨n + 1, ref_turn hn hk0 hk hj hlc hh n (Nat.le_refl _) o mo' ord row hv hx (fun mo'' ord'' row'' x5 _ hx'' z1 z2 => hg mo'' ord'' row'' jn x5 hx'' z1 z2)⟩)))⟩
  cases c : (odo (fac k) n o).2
  · refine step (0 + 1) (fun mo'' ord'' row'' jn x5 hx'' _ z2 => ?_)
    rw [z2 c]
    unfold L_X12_colour_130
    refine b_le (by omega) (by omega) (fun _ => ref_back hn hk0 hk hj hlc hh (hQ c) hx'') (fun _ => b_T (by decide) (ref_back hn hk0 hk hj hlc hh (hQ c) hx''))
  · obtain ⟨g, hg⟩ := h c
    refine step g (fun mo'' ord'' row'' jn x5 hx'' z1 _ => ?_)
    obtain ⟨t, ht, e⟩ := z1 c
    rw [e]
    exact hg _ _ _ _ _ hx'' ht
/-- where no colouring helps the reference finds none -/
theorem RGC.none {Q2 : Int32 → (Nat → Int32) → (Nat → Int32) → (Nat → Int32) → (Nat → Int32) → (Nat → Int32) → Prop} (hn0 : 1 ≤ n) (hn : n ≤ 12) (hk0 : 1 ≤ k) (hk : k ≤ 4) (hj : j < 6) (hm : MV n k mv) (hst : st j = nI n) (hlc : lc j = nI k) (hh : ∀ q l, q < n → l < k → had (4 * q + l) = mv (q * 4 + l)) (hA : ∀ o, VAL n k o → ¬ ALL n k (cmo k mv o)) (hQ : ∀ mo' jn ord row, RMv n k j mo' mv → (∀ i, ¬ (48 * j ≤ i ∧ i < 48 * j + 48) → mo' i = mo i) → Q2 (-1) mo' jn ord had row) : ∀ (d i : Nat), i + d = 1500 → ∀ o, VAL n k o → RGC n k j mv mo had st lc a1 a2 a3 a4 Q2 i o
  | 0, i, hi, o, hv => by
    have e : i = 1500 := by omega
    subst e
    exact RGC.full hn hk0 hk hj hlc hh hQ
  | d + 1, i, hi, o, hv => RGC.next hn0 hn hk0 hk hj hm hst hlc hh hv (by omega) (hA o hv) (fun _ => hQ) (fun _ => RGC.none hn0 hn hk0 hk hj hm hst hlc hh hA hQ d (i + 1) (by omega) _ (VAL_odo (fac_le k (by omega)).1 n o hv))
end ODO
