/-! the law's loop -/
theorem and31 (x : Int32) : ∃ v, v < 32 ∧ x &&& nI 31 = nI v := by
  refine ⟨x.toBitVec.toNat % 32, Nat.mod_lt _ (by decide), ?_⟩
  apply Int32.toBitVec_inj.mp
  show x.toBitVec &&& (Int32.ofNat 31).toBitVec = (Int32.ofNat (x.toBitVec.toNat % 32)).toBitVec
  rw [Int32.toBitVec_ofNat', Int32.toBitVec_ofNat']
  apply BitVec.eq_of_toNat_eq
  have h1 : x.toBitVec.toNat % 32 < 2 ^ 32 := Nat.lt_trans (Nat.mod_lt _ (by decide)) (by decide)
  rw [BitVec.toNat_and, BitVec.toNat_ofNat, BitVec.toNat_ofNat, Nat.mod_eq_of_lt h1, show (31 : Nat) % 2 ^ 32 = 2 ^ 5 - 1 from rfl, Nat.and_two_pow_sub_one_eq_mod]
theorem gt5 {L i : Nat} (hL : L ≤ 2560) (hi : i ≤ L) : nI L - nI 5 < nI i ↔ L < i + 5 := by
  rw [Int32.lt_iff_toInt_lt, pk_sub_toInt (by omega) (by omega), nI_toInt (by omega)]
  omega
set_option maxHeartbeats 4000000 in
set_option maxRecDepth 100000 in
theorem law_loop {p : Program} {e : Env} {s : State} {m : MethodId} {below : List Frame} {meth : Method} {c : Code} (l : Launch) {b L : Nat} {xs : Nat → Int32} (hL : L ≤ 2560) (C0 : lw_At p s m meth c b L xs) {g : GG} {aT bT : Nat} (E : Ev p s m meth c cL_law 4 ret RL wsL_law #[Value.ref b] (fun q : Nat => s.heap.size ≤ q) g meth.name) : ∀ (F i N : Nat) (H : Heap) (locs : List Loc) (ls : Array Slot), i ≤ L → L < i + 5 * F → LSZ g (fun q : Nat => s.heap.size ≤ q) aT bT N H → va_S (fun q : Nat => s.heap.size ≤ q) s.heap H locs → lv_has ls 4 [(3, .int (nI i)), (2, .ref bT), (1, .ref aT), (0, .ref b)] → W p l e room_1 s m #[Value.ref b] below meth c H locs (62 + 5 * N) (109331 + 74 * N) (lw_Z below #[Value.ref b] s) (F0 m 18 ls []) := by
  obtain ⟨hx, hb, hr, hml, hown, hts0, hX, hbl, hlocks, hgv⟩ := C0
  have hbA : ¬ (fun q : Nat => s.heap.size ≤ q) b := Nat.not_le.mpr hbl
  intro F
  induction F with
  | zero => intro i N H locs ls hi hF; exact absurd hF (by omega)
  | succ F ih =>
    intro i N H locs ls hi hF hst hS hl
    have hN6 : N ≤ 6 := hst (N ≤ 6) (fun _ _ _ _ _ _ _ _ _ _ _ _ _ _ _ _ _ _ _ _ _ _ _ _ _ _ _ _ _ _ _ _ _ _ _ _ _ _ _ _ _ _ _ _ _ _ _ _ _ _ _ _ _ _ _ _ _ _ _ _ _ _ _ _ _ _ _ _ _ _ _ _ _ _ _ _ _ _ _ _ _ _ _ _ _ _ _ _ _ _ _ _ _ _ _ _ _ _ _ _ _ _ _ _ _ _ _ _ _ _ _ _ _ _ _ _ _ _ _ _ _ _ _ _ _ _ _ _ _ _ _ hinv _ _ => hinv.1.1)
    refine lv_iload_n hx hb dL_law_18 rfl (lv_at hl 0 rfl) ?_
    refine lv_aload_n hx hb dL_law_19 rfl (lv_at hl 3 rfl) ?_
    refine va_slen hx hb hX hbl hbA hS dL_law_20 ?_
    refine lv_iconst (v := nI 5) hx hb dL_law_21 (by decide) ?_
    refine lv_isub hx hb dL_law_22 ?_
    refine lv_icmp_gt (tgt := 1009) hx hb dL_law_23 (by decide) (fun cq => ?_) (fun cq => ?_)
    · refine lv_iconst (v := 1) hx hb dL_law_1009 (by decide) ?_
      refine va_forget (fun q hq => hS.2.2 q hq) ?_
      refine W.widen (k := 600000) (n := 7302249) (by omega) (by omega) ?_
      exact lw_ret hx hb hr hlocks dL_law_1010
    · have hi5 : ¬ L < i + 5 := fun z => cq ((gt5 hL hi).mpr z)
      have hi4 : i + 4 < L := by omega
      have nxt : ∀ (N : Nat) (H : Heap) (locs : List Loc), LSZ g (fun q : Nat => s.heap.size ≤ q) aT bT N H → va_S (fun q : Nat => s.heap.size ≤ q) s.heap H locs → W p l e room_1 s m #[Value.ref b] below meth c H locs (62 + 5 * N) (109331 + 74 * N) (lw_Z below #[Value.ref b] s) (F0 m 1003 ls []) := fun N H locs hst hS => by
        refine lv_iinc (v := nI (i + 5)) (lv' := [(3, .int (nI (i + 5))), (2, .ref bT), (1, .ref aT), (0, .ref b)]) hx hb dL_law_1003 hl (k := 0) rfl (nI_add i 5) (by decide) rfl (fun ls hl => ?_)
        refine lv_goto (tgt := 18) hx hb dL_law_1006 (by decide) ?_
        exact ih (i + 5) N _ _ _ (by omega) (by omega) hst hS hl
      refine lv_aload_n hx hb dL_law_26 rfl (lv_at hl 3 rfl) ?_
      refine lv_iload_n hx hb dL_law_27 rfl (lv_at hl 0 rfl) ?_
      refine va_sld hx hb hX hbl hbA hS (vin (show i < L by omega) (by omega)) dL_law_28 ?_
      refine lv_bipush (v := nI 31) hx hb dL_law_29 (by decide) ?_
      refine lv_iand hx hb dL_law_31 ?_
      obtain ⟨v, hv, ev⟩ := and31 (xs (Int32.toNatClampNeg (nI i)))
      exact match v, hv, ev with
      | 0, _, e31 => by
        rw [e31]
        exact lv_tableIn (off := 120) (tgt := 152) hx hb dL_law_32 (by decide) (by decide) (by decide) (by decide) (lc_machine hL hX hbl E hi4 hst hS hl nxt)
      | 1, _, e31 => by
        rw [e31]
        exact lv_tableIn (off := 153) (tgt := 185) hx hb dL_law_32 (by decide) (by decide) (by decide) (by decide) (lc_ring hL hX hbl E hi4 hst hS hl nxt)
      | 2, _, e31 => by
        rw [e31]
        exact lv_tableIn (off := 176) (tgt := 208) hx hb dL_law_32 (by decide) (by decide) (by decide) (by decide) (lc_move hL hX hbl E hi4 hst hS hl nxt)
      | 3, _, e31 => by
        rw [e31]
        exact lv_tableIn (off := 229) (tgt := 261) hx hb dL_law_32 (by decide) (by decide) (by decide) (by decide) (lc_light hL hX hbl E hi4 hst hS hl nxt)
      | 4, _, e31 => by
        rw [e31]
        exact lv_tableIn (off := 272) (tgt := 304) hx hb dL_law_32 (by decide) (by decide) (by decide) (by decide) (lc_price hL hX hbl E hi4 hst hS hl nxt)
      | 5, _, e31 => by
        rw [e31]
        exact lv_tableIn (off := 315) (tgt := 347) hx hb dL_law_32 (by decide) (by decide) (by decide) (by decide) (lc_share hL hX hbl E hi4 hst hS hl nxt)
      | 6, _, e31 => by
        rw [e31]
        exact lv_tableIn (off := 358) (tgt := 390) hx hb dL_law_32 (by decide) (by decide) (by decide) (by decide) (lc_about hL hX hbl E hi4 hst hS hl nxt)
      | 7, _, e31 => by
        rw [e31]
        exact lv_tableIn (off := 391) (tgt := 423) hx hb dL_law_32 (by decide) (by decide) (by decide) (by decide) (lc_moveOf hL hX hbl E hi4 hst hS hl nxt)
      | 8, _, e31 => by
        rw [e31]
        exact lv_tableIn (off := 434) (tgt := 466) hx hb dL_law_32 (by decide) (by decide) (by decide) (by decide) (lc_empty hL hX hbl E hi4 hst hS hl nxt)
      | 9, _, e31 => by
        rw [e31]
        exact lv_tableIn (off := 447) (tgt := 479) hx hb dL_law_32 (by decide) (by decide) (by decide) (by decide) (lc_letter hL hX hbl E hi4 hst hS hl nxt)
      | 10, _, e31 => by
        rw [e31]
        exact lv_tableIn (off := 470) (tgt := 502) hx hb dL_law_32 (by decide) (by decide) (by decide) (by decide) (lc_letterAt hL hX hbl E hi4 hst hS hl nxt)
      | 11, _, e31 => by
        rw [e31]
        exact lv_tableIn (off := 493) (tgt := 525) hx hb dL_law_32 (by decide) (by decide) (by decide) (by decide) (lc_goes hL hX hbl E hi4 hst hS hl nxt)
      | 12, _, e31 => by
        rw [e31]
        exact lv_tableIn (off := 526) (tgt := 558) hx hb dL_law_32 (by decide) (by decide) (by decide) (by decide) (lc_shortest hL hX hbl E hi4 hst hS hl nxt)
      | 13, _, e31 => by
        rw [e31]
        exact lv_tableIn (off := 559) (tgt := 591) hx hb dL_law_32 (by decide) (by decide) (by decide) (by decide) (lc_shortestTo hL hX hbl E hi4 hst hS hl nxt)
      | 14, _, e31 => by
        rw [e31]
        exact lv_tableIn (off := 602) (tgt := 634) hx hb dL_law_32 (by decide) (by decide) (by decide) (by decide) (lc_rank hL hX hbl E hi4 hst hS hl nxt)
      | 15, _, e31 => by
        rw [e31]
        exact lv_tableIn (off := 635) (tgt := 667) hx hb dL_law_32 (by decide) (by decide) (by decide) (by decide) (lc_merge hL hX hbl E hi4 hst hS hl nxt)
      | 16, _, e31 => by
        rw [e31]
        exact lv_tableIn (off := 678) (tgt := 710) hx hb dL_law_32 (by decide) (by decide) (by decide) (by decide) (lc_unmerged hL hX hbl E hi4 hst hS hl nxt)
      | 17, _, e31 => by
        rw [e31]
        exact lv_tableIn (off := 701) (tgt := 733) hx hb dL_law_32 (by decide) (by decide) (by decide) (by decide) (lc_greedy hL hX hbl E hi4 hst hS hl nxt)
      | 18, _, e31 => by
        rw [e31]
        exact lv_tableIn (off := 734) (tgt := 766) hx hb dL_law_32 (by decide) (by decide) (by decide) (by decide) (lc_cheapest hL hX hbl E hi4 hst hS hl nxt)
      | 19, _, e31 => by
        rw [e31]
        exact lv_tableIn (off := 767) (tgt := 799) hx hb dL_law_32 (by decide) (by decide) (by decide) (by decide) (lc_chance hL hX hbl E hi4 hst hS hl nxt)
      | 20, _, e31 => by
        rw [e31]
        exact lv_tableIn (off := 811) (tgt := 843) hx hb dL_law_32 (by decide) (by decide) (by decide) (by decide) (lc_chances hL hX hbl E hi4 hst hS hl nxt)
      | 21, _, e31 => by
        rw [e31]
        exact lv_tableIn (off := 845) (tgt := 877) hx hb dL_law_32 (by decide) (by decide) (by decide) (by decide) (lc_kinds hL hX hbl E hi4 hst hS hl nxt)
      | 22, _, e31 => by
        rw [e31]
        exact lv_tableIn (off := 868) (tgt := 900) hx hb dL_law_32 (by decide) (by decide) (by decide) (by decide) (lc_colour hL hX hbl E hi4 hst hS hl nxt)
      | 23, _, e31 => by
        rw [e31]
        exact lv_tableIn (off := 891) (tgt := 923) hx hb dL_law_32 (by decide) (by decide) (by decide) (by decide) (lc_apart hL hX hbl E hi4 hst hS hl nxt)
      | 24, _, e31 => by
        rw [e31]
        exact lv_tableIn (off := 934) (tgt := 966) hx hb dL_law_32 (by decide) (by decide) (by decide) (by decide) (lc_count hL hX hbl E hi4 hst hS hl nxt)
      | 25, _, e31 => by
        rw [e31]
        exact lv_tableIn (off := 957) (tgt := 989) hx hb dL_law_32 (by decide) (by decide) (by decide) (by decide) (lc_digest hL hX hbl E hi4 hst hS hl nxt)
      | 26, _, e31 => by
        rw [e31]
        exact lv_tableOut (tgt := 1003) hx hb dL_law_32 (by decide) (by decide) (nxt N _ _ hst hS)
      | 27, _, e31 => by
        rw [e31]
        exact lv_tableOut (tgt := 1003) hx hb dL_law_32 (by decide) (by decide) (nxt N _ _ hst hS)
      | 28, _, e31 => by
        rw [e31]
        exact lv_tableOut (tgt := 1003) hx hb dL_law_32 (by decide) (by decide) (nxt N _ _ hst hS)
      | 29, _, e31 => by
        rw [e31]
        exact lv_tableOut (tgt := 1003) hx hb dL_law_32 (by decide) (by decide) (nxt N _ _ hst hS)
      | 30, _, e31 => by
        rw [e31]
        exact lv_tableOut (tgt := 1003) hx hb dL_law_32 (by decide) (by decide) (nxt N _ _ hst hS)
      | 31, _, e31 => by
        rw [e31]
        exact lv_tableOut (tgt := 1003) hx hb dL_law_32 (by decide) (by decide) (nxt N _ _ hst hS)
      | n + 32, h, _ => absurd h (by omega)
