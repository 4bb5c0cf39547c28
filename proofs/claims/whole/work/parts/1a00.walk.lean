abbrev cw_J7_fill_53178 (g : GG) (h_tb : Nat) (n_tb : Nat) (c_tb : Nat → Int32) : va_W := [(h_tb, .inl (g.2.1, n_tb, .inl c_tb))]
def L_J7_fill_53178_5 (n_tb : Nat) (x1 : Int32) (x3 : Int32) (Q : (Nat → Int32) → Prop) : Nat → Int32 → (Nat → Int32) → Prop
  | 0, _, _ => False
  | n_5 + 1, x2, c_tb =>
    ((x3 ≤ x2 → Q c_tb) ∧ (¬ x3 ≤ x2 → vp_in x2 n_tb ∧ (L_J7_fill_53178_5 n_tb x1 x3 Q n_5) (x2 + (nI 1)) (upd c_tb (Int32.toNatClampNeg x2) x1)))
def wp_J7_fill_53178 (n_tb : Nat) (c_tb : Nat → Int32) (x1 : Int32) (Q : (Nat → Int32) → Prop) : Prop :=
    ∃ n, L_J7_fill_53178_5 n_tb x1 (nI n_tb) Q n (nI 0) c_tb
abbrev rm_J7_fill_53178 : Room := { frames := 0, cells := 0, slots := 0, locals := 0 }
set_option maxHeartbeats 4000000 in
set_option maxRecDepth 100000 in
theorem k_J7_fill_53178 (l : Launch) (g : GG) (h_tb : Nat) (n_tb : Nat) {c_tb : Nat → Int32} {x1 : Int32} {Q : (Nat → Int32) → Prop} (h : wp_J7_fill_53178 n_tb c_tb x1 Q) : CV l g yJ7_fill_53178 wsJ7_fill_53178 rm_J7_fill_53178 [.ref h_tb, .int x1] (cw_J7_fill_53178 g h_tb n_tb c_tb) (S := (Nat → Int32)) (fun u => (cw_J7_fill_53178 g h_tb n_tb u)) (fun u => Q u) 0 0 := by
  refine mk_V (cc := cJ7_fill_53178) (maxL := 4) (own := RJ7) (by decide) rfl rfl (Nat.le_of_ble_eq_true rfl) ?_
  intro p e s m args below meth c A QQ E hret hP hD hS ls hl
  have E2 := E
  obtain ⟨hx, hb, hr, hml, hown, hts, hlocks, hA, hZ, hK, hnm⟩ := E2
  have hP : va_P g.1 vwCl (cw_J7_fill_53178 g h_tb n_tb c_tb) s.heap := hP
  have hD : va_D A (cw_J7_fill_53178 g h_tb n_tb c_tb) := hD
  have hl : lv_has ls 4 [(0, .ref h_tb), (1, .int x1)] := hl
  unfold wp_J7_fill_53178 at h
  have K_5 : ∀ (x3 : Int32) (n_5 : Nat) (x2 : Int32) (c_tb : Nat → Int32) , L_J7_fill_53178_5 n_tb x1 x3 Q n_5 x2 c_tb → ∀ (H : Heap) (locs : List Loc), va_P g.1 vwCl (cw_J7_fill_53178 g h_tb n_tb c_tb) H → va_D A (cw_J7_fill_53178 g h_tb n_tb c_tb) → va_S A s.heap H locs → ∀ ls : Array Slot, lv_has ls 4 [(0, .ref h_tb), (1, .int x1), (2, .int x2), (3, .int x3)] → W p l e rm_J7_fill_53178 s m args below meth c H locs 0 0 QQ (F0 m 5 ls []) := by
    intro x3 n_5
    induction n_5 with
    | zero => intro x2 c_tb; exact fun h => False.elim h
    | succ n_5 ih_5 =>
      intro x2 c_tb h H locs hP hD hS ls hl
      unfold L_J7_fill_53178_5 at h
      refine lv_iload_n hx hb dJ7_fill_53178_5 rfl (lv_at hl 2 rfl) ?_
      refine lv_iload_n hx hb dJ7_fill_53178_6 rfl (lv_at hl 3 rfl) ?_
      refine lv_icmp_ge (tgt := 20) hx hb dJ7_fill_53178_7 (by decide) (fun cq => ?_) (fun cq => ?_)
      · replace h := h.1 cq
        exact hret c_tb _ _ _ _ h hP hD hS dJ7_fill_53178_20
      · replace h := h.2 cq
        refine lv_aload_n hx hb dJ7_fill_53178_10 rfl (lv_at hl 0 rfl) ?_
        refine lv_iload_n hx hb dJ7_fill_53178_11 rfl (lv_at hl 2 rfl) ?_
        refine lv_iload_n hx hb dJ7_fill_53178_12 rfl (lv_at hl 1 rfl) ?_
        obtain ⟨hi, h⟩ := h
        refine va_iast (D := g.1) (n := n_tb) (f := c_tb) hx hb hK hP hD hS 0 0 rfl rfl hi dJ7_fill_53178_13 (fun H locs hP hD hS => ?_)
        have hP : va_P g.1 vwCl (cw_J7_fill_53178 g h_tb n_tb (upd c_tb (Int32.toNatClampNeg x2) x1)) H := hP
        have hD : va_D A (cw_J7_fill_53178 g h_tb n_tb (upd c_tb (Int32.toNatClampNeg x2) x1)) := hD
        refine lv_iinc (v := (x2 + (nI 1))) (lv' := [(2, .int (x2 + (nI 1))), (0, .ref h_tb), (1, .int x1), (3, .int x3)]) hx hb dJ7_fill_53178_14 hl (k := 2) rfl rfl (by decide) rfl (fun ls hl => ?_)
        refine lv_goto (tgt := 5) hx hb dJ7_fill_53178_17 (by decide) ?_
        exact ih_5 (x2 + (nI 1)) (upd c_tb (Int32.toNatClampNeg x2) x1) h _ _ hP hD hS _ (lv_sub hl [1, 2, 0, 3] rfl)
  refine lv_iconst (v := (nI 0)) hx hb dJ7_fill_53178_0 (by decide) ?_
  refine lv_istore_n (lv' := [(2, .int (nI 0)), (0, .ref h_tb), (1, .int x1)]) hx hb dJ7_fill_53178_1 rfl hl (by decide) rfl (fun ls hl => ?_)
  refine lv_aload_n hx hb dJ7_fill_53178_2 rfl (lv_at hl 1 rfl) ?_
  refine va_alen (D := g.1) (v := (nI n_tb)) hx hb hK hP 0 0 rfl rfl rfl dJ7_fill_53178_3 ?_
  refine lv_istore_n (lv' := [(3, .int (nI n_tb)), (2, .int (nI 0)), (0, .ref h_tb), (1, .int x1)]) hx hb dJ7_fill_53178_4 rfl hl (by decide) rfl (fun ls hl => ?_)
  obtain ⟨n, h⟩ := h
  exact K_5 (nI n_tb) n (nI 0) c_tb h _ _ hP hD hS _ (lv_sub hl [2, 3, 1, 0] rfl)
abbrev cw_J7_fill_d0a16 (g : GG) (h_tb : Nat) (n_tb : Nat) (c_tb : Nat → Int64) : va_W := [(h_tb, .inl (g.2.2.1, n_tb, .inr (.inl c_tb)))]
def L_J7_fill_d0a16_6 (n_tb : Nat) (x1 : Int64) (x4 : Int32) (Q : (Nat → Int64) → Prop) : Nat → Int32 → (Nat → Int64) → Prop
  | 0, _, _ => False
  | n_6 + 1, x3, c_tb =>
    ((x4 ≤ x3 → Q c_tb) ∧ (¬ x4 ≤ x3 → vp_in x3 n_tb ∧ (L_J7_fill_d0a16_6 n_tb x1 x4 Q n_6) (x3 + (nI 1)) (vp_updL c_tb (Int32.toNatClampNeg x3) x1)))
def wp_J7_fill_d0a16 (n_tb : Nat) (c_tb : Nat → Int64) (x1 : Int64) (Q : (Nat → Int64) → Prop) : Prop :=
    ∃ n, L_J7_fill_d0a16_6 n_tb x1 (nI n_tb) Q n (nI 0) c_tb
abbrev rm_J7_fill_d0a16 : Room := { frames := 0, cells := 0, slots := 0, locals := 0 }
set_option maxHeartbeats 4000000 in
set_option maxRecDepth 100000 in
theorem k_J7_fill_d0a16 (l : Launch) (g : GG) (h_tb : Nat) (n_tb : Nat) {c_tb : Nat → Int64} {x1 : Int64} {Q : (Nat → Int64) → Prop} (h : wp_J7_fill_d0a16 n_tb c_tb x1 Q) : CV l g yJ7_fill_d0a16 wsJ7_fill_d0a16 rm_J7_fill_d0a16 [.ref h_tb, .long x1] (cw_J7_fill_d0a16 g h_tb n_tb c_tb) (S := (Nat → Int64)) (fun u => (cw_J7_fill_d0a16 g h_tb n_tb u)) (fun u => Q u) 0 0 := by
  refine mk_V (cc := cJ7_fill_d0a16) (maxL := 5) (own := RJ7) (by decide) rfl rfl (Nat.le_of_ble_eq_true rfl) ?_
  intro p e s m args below meth c A QQ E hret hP hD hS ls hl
  have E2 := E
  obtain ⟨hx, hb, hr, hml, hown, hts, hlocks, hA, hZ, hK, hnm⟩ := E2
  have hP : va_P g.1 vwCl (cw_J7_fill_d0a16 g h_tb n_tb c_tb) s.heap := hP
  have hD : va_D A (cw_J7_fill_d0a16 g h_tb n_tb c_tb) := hD
  have hl : lv_has ls 5 [(0, .ref h_tb), (1, .long x1)] := hl
  unfold wp_J7_fill_d0a16 at h
  have K_6 : ∀ (x4 : Int32) (n_6 : Nat) (x3 : Int32) (c_tb : Nat → Int64) , L_J7_fill_d0a16_6 n_tb x1 x4 Q n_6 x3 c_tb → ∀ (H : Heap) (locs : List Loc), va_P g.1 vwCl (cw_J7_fill_d0a16 g h_tb n_tb c_tb) H → va_D A (cw_J7_fill_d0a16 g h_tb n_tb c_tb) → va_S A s.heap H locs → ∀ ls : Array Slot, lv_has ls 5 [(0, .ref h_tb), (1, .long x1), (3, .int x3), (4, .int x4)] → W p l e rm_J7_fill_d0a16 s m args below meth c H locs 0 0 QQ (F0 m 6 ls []) := by
    intro x4 n_6
    induction n_6 with
    | zero => intro x3 c_tb; exact fun h => False.elim h
    | succ n_6 ih_6 =>
      intro x3 c_tb h H locs hP hD hS ls hl
      unfold L_J7_fill_d0a16_6 at h
      refine lv_iload_n hx hb dJ7_fill_d0a16_6 rfl (lv_at hl 2 rfl) ?_
      refine lv_iload hx hb dJ7_fill_d0a16_7 (lv_at hl 3 rfl) ?_
      refine lv_icmp_ge (tgt := 22) hx hb dJ7_fill_d0a16_9 (by decide) (fun cq => ?_) (fun cq => ?_)
      · replace h := h.1 cq
        exact hret c_tb _ _ _ _ h hP hD hS dJ7_fill_d0a16_22
      · replace h := h.2 cq
        refine lv_aload_n hx hb dJ7_fill_d0a16_12 rfl (lv_at hl 0 rfl) ?_
        refine lv_iload_n hx hb dJ7_fill_d0a16_13 rfl (lv_at hl 2 rfl) ?_
        refine lv_lload_n hx hb dJ7_fill_d0a16_14 rfl (lv_at hl 1 rfl) ?_
        obtain ⟨hi, h⟩ := h
        refine va_last (D := g.1) (n := n_tb) (f := c_tb) hx hb hK hP hD hS 0 1 rfl rfl hi dJ7_fill_d0a16_15 (fun H locs hP hD hS => ?_)
        have hP : va_P g.1 vwCl (cw_J7_fill_d0a16 g h_tb n_tb (vp_updL c_tb (Int32.toNatClampNeg x3) x1)) H := hP
        have hD : va_D A (cw_J7_fill_d0a16 g h_tb n_tb (vp_updL c_tb (Int32.toNatClampNeg x3) x1)) := hD
        refine lv_iinc (v := (x3 + (nI 1))) (lv' := [(3, .int (x3 + (nI 1))), (0, .ref h_tb), (1, .long x1), (4, .int x4)]) hx hb dJ7_fill_d0a16_16 hl (k := 2) rfl rfl (by decide) rfl (fun ls hl => ?_)
        refine lv_goto (tgt := 6) hx hb dJ7_fill_d0a16_19 (by decide) ?_
        exact ih_6 (x3 + (nI 1)) (vp_updL c_tb (Int32.toNatClampNeg x3) x1) h _ _ hP hD hS _ (lv_sub hl [1, 2, 0, 3] rfl)
  refine lv_iconst (v := (nI 0)) hx hb dJ7_fill_d0a16_0 (by decide) ?_
  refine lv_istore_n (lv' := [(3, .int (nI 0)), (0, .ref h_tb), (1, .long x1)]) hx hb dJ7_fill_d0a16_1 rfl hl (by decide) rfl (fun ls hl => ?_)
  refine lv_aload_n hx hb dJ7_fill_d0a16_2 rfl (lv_at hl 1 rfl) ?_
  refine va_alen (D := g.1) (v := (nI n_tb)) hx hb hK hP 0 1 rfl rfl rfl dJ7_fill_d0a16_3 ?_
  refine lv_istore (lv' := [(4, .int (nI n_tb)), (3, .int (nI 0)), (0, .ref h_tb), (1, .long x1)]) hx hb dJ7_fill_d0a16_4 hl (by decide) rfl (fun ls hl => ?_)
  obtain ⟨n, h⟩ := h
  exact K_6 (nI n_tb) n (nI 0) c_tb h _ _ hP hD hS _ (lv_sub hl [2, 3, 1, 0] rfl)
abbrev cw_J6_bitCount_0f7a4 (g : GG) : va_W := []
def wp_J6_bitCount_0f7a4 (x0 : Int32) (Q : Int32 → Prop) : Prop :=
    Q ((((((((x0 - (((Int32.toUInt32 x0 >>> (Int32.toUInt32 (nI 1) &&& Int32.toUInt32 31)).toInt32) &&& (nI 1431655765))) &&& (nI 858993459)) + (((Int32.toUInt32 (x0 - (((Int32.toUInt32 x0 >>> (Int32.toUInt32 (nI 1) &&& Int32.toUInt32 31)).toInt32) &&& (nI 1431655765))) >>> (Int32.toUInt32 (nI 2) &&& Int32.toUInt32 31)).toInt32) &&& (nI 858993459))) + ((Int32.toUInt32 (((x0 - (((Int32.toUInt32 x0 >>> (Int32.toUInt32 (nI 1) &&& Int32.toUInt32 31)).toInt32) &&& (nI 1431655765))) &&& (nI 858993459)) + (((Int32.toUInt32 (x0 - (((Int32.toUInt32 x0 >>> (Int32.toUInt32 (nI 1) &&& Int32.toUInt32 31)).toInt32) &&& (nI 1431655765))) >>> (Int32.toUInt32 (nI 2) &&& Int32.toUInt32 31)).toInt32) &&& (nI 858993459))) >>> (Int32.toUInt32 (nI 4) &&& Int32.toUInt32 31)).toInt32)) &&& (nI 252645135)) + ((Int32.toUInt32 (((((x0 - (((Int32.toUInt32 x0 >>> (Int32.toUInt32 (nI 1) &&& Int32.toUInt32 31)).toInt32) &&& (nI 1431655765))) &&& (nI 858993459)) + (((Int32.toUInt32 (x0 - (((Int32.toUInt32 x0 >>> (Int32.toUInt32 (nI 1) &&& Int32.toUInt32 31)).toInt32) &&& (nI 1431655765))) >>> (Int32.toUInt32 (nI 2) &&& Int32.toUInt32 31)).toInt32) &&& (nI 858993459))) + ((Int32.toUInt32 (((x0 - (((Int32.toUInt32 x0 >>> (Int32.toUInt32 (nI 1) &&& Int32.toUInt32 31)).toInt32) &&& (nI 1431655765))) &&& (nI 858993459)) + (((Int32.toUInt32 (x0 - (((Int32.toUInt32 x0 >>> (Int32.toUInt32 (nI 1) &&& Int32.toUInt32 31)).toInt32) &&& (nI 1431655765))) >>> (Int32.toUInt32 (nI 2) &&& Int32.toUInt32 31)).toInt32) &&& (nI 858993459))) >>> (Int32.toUInt32 (nI 4) &&& Int32.toUInt32 31)).toInt32)) &&& (nI 252645135)) >>> (Int32.toUInt32 (nI 8) &&& Int32.toUInt32 31)).toInt32)) + ((Int32.toUInt32 ((((((x0 - (((Int32.toUInt32 x0 >>> (Int32.toUInt32 (nI 1) &&& Int32.toUInt32 31)).toInt32) &&& (nI 1431655765))) &&& (nI 858993459)) + (((Int32.toUInt32 (x0 - (((Int32.toUInt32 x0 >>> (Int32.toUInt32 (nI 1) &&& Int32.toUInt32 31)).toInt32) &&& (nI 1431655765))) >>> (Int32.toUInt32 (nI 2) &&& Int32.toUInt32 31)).toInt32) &&& (nI 858993459))) + ((Int32.toUInt32 (((x0 - (((Int32.toUInt32 x0 >>> (Int32.toUInt32 (nI 1) &&& Int32.toUInt32 31)).toInt32) &&& (nI 1431655765))) &&& (nI 858993459)) + (((Int32.toUInt32 (x0 - (((Int32.toUInt32 x0 >>> (Int32.toUInt32 (nI 1) &&& Int32.toUInt32 31)).toInt32) &&& (nI 1431655765))) >>> (Int32.toUInt32 (nI 2) &&& Int32.toUInt32 31)).toInt32) &&& (nI 858993459))) >>> (Int32.toUInt32 (nI 4) &&& Int32.toUInt32 31)).toInt32)) &&& (nI 252645135)) + ((Int32.toUInt32 (((((x0 - (((Int32.toUInt32 x0 >>> (Int32.toUInt32 (nI 1) &&& Int32.toUInt32 31)).toInt32) &&& (nI 1431655765))) &&& (nI 858993459)) + (((Int32.toUInt32 (x0 - (((Int32.toUInt32 x0 >>> (Int32.toUInt32 (nI 1) &&& Int32.toUInt32 31)).toInt32) &&& (nI 1431655765))) >>> (Int32.toUInt32 (nI 2) &&& Int32.toUInt32 31)).toInt32) &&& (nI 858993459))) + ((Int32.toUInt32 (((x0 - (((Int32.toUInt32 x0 >>> (Int32.toUInt32 (nI 1) &&& Int32.toUInt32 31)).toInt32) &&& (nI 1431655765))) &&& (nI 858993459)) + (((Int32.toUInt32 (x0 - (((Int32.toUInt32 x0 >>> (Int32.toUInt32 (nI 1) &&& Int32.toUInt32 31)).toInt32) &&& (nI 1431655765))) >>> (Int32.toUInt32 (nI 2) &&& Int32.toUInt32 31)).toInt32) &&& (nI 858993459))) >>> (Int32.toUInt32 (nI 4) &&& Int32.toUInt32 31)).toInt32)) &&& (nI 252645135)) >>> (Int32.toUInt32 (nI 8) &&& Int32.toUInt32 31)).toInt32)) >>> (Int32.toUInt32 (nI 16) &&& Int32.toUInt32 31)).toInt32)) &&& (nI 63))
abbrev rm_J6_bitCount_0f7a4 : Room := { frames := 0, cells := 0, slots := 0, locals := 0 }
set_option maxHeartbeats 4000000 in
set_option maxRecDepth 100000 in
theorem k_J6_bitCount_0f7a4 (l : Launch) (g : GG) {x0 : Int32} {Q : Int32 → Prop} (h : wp_J6_bitCount_0f7a4 x0 Q) : CI l g yJ6_bitCount_0f7a4 wsJ6_bitCount_0f7a4 rm_J6_bitCount_0f7a4 [.int x0] (cw_J6_bitCount_0f7a4 g) (S := Unit) (fun _ => (cw_J6_bitCount_0f7a4 g)) (fun r _ => Q r) 0 0 := by
  refine mk_I (cc := cJ6_bitCount_0f7a4) (maxL := 1) (own := RJ6) (by decide) rfl rfl (Nat.le_of_ble_eq_true rfl) ?_
  intro p e s m args below meth c A QQ E hret hP hD hS ls hl
  have E2 := E
  obtain ⟨hx, hb, hr, hml, hown, hts, hlocks, hA, hZ, hK, hnm⟩ := E2
  have f265 := hts (.constant RJ6 265 (1431655765)) (by decide +kernel)
  have f266 := hts (.constant RJ6 266 (858993459)) (by decide +kernel)
  have f267 := hts (.constant RJ6 267 (252645135)) (by decide +kernel)
  have hP : va_P g.1 vwCl (cw_J6_bitCount_0f7a4 g) s.heap := hP
  have hD : va_D A (cw_J6_bitCount_0f7a4 g) := hD
  have hl : lv_has ls 1 [(0, .int x0)] := hl
  unfold wp_J6_bitCount_0f7a4 at h
  refine lv_iload_n hx hb dJ6_bitCount_0f7a4_0 rfl (lv_at hl 0 rfl) ?_
  refine lv_iload_n hx hb dJ6_bitCount_0f7a4_1 rfl (lv_at hl 0 rfl) ?_
  refine lv_iconst (v := (nI 1)) hx hb dJ6_bitCount_0f7a4_2 (by decide) ?_
  refine lv_iushr (v := (Int32.toUInt32 x0 >>> (Int32.toUInt32 (nI 1) &&& Int32.toUInt32 31)).toInt32) hx hb dJ6_bitCount_0f7a4_3 rfl ?_
  refine lv_ldcw (v := nI 1431655765) hx hb hown f265 dJ6_bitCount_0f7a4_4 ?_
  refine lv_iand hx hb dJ6_bitCount_0f7a4_7 ?_
  refine lv_isub hx hb dJ6_bitCount_0f7a4_8 ?_
  refine lv_istore_n (lv' := [(0, .int (x0 - (((Int32.toUInt32 x0 >>> (Int32.toUInt32 (nI 1) &&& Int32.toUInt32 31)).toInt32) &&& (nI 1431655765))))]) hx hb dJ6_bitCount_0f7a4_9 rfl hl (by decide) rfl (fun ls hl => ?_)
  refine lv_iload_n hx hb dJ6_bitCount_0f7a4_10 rfl (lv_at hl 0 rfl) ?_
  refine lv_ldcw (v := nI 858993459) hx hb hown f266 dJ6_bitCount_0f7a4_11 ?_
  refine lv_iand hx hb dJ6_bitCount_0f7a4_14 ?_
  refine lv_iload_n hx hb dJ6_bitCount_0f7a4_15 rfl (lv_at hl 0 rfl) ?_
  refine lv_iconst (v := (nI 2)) hx hb dJ6_bitCount_0f7a4_16 (by decide) ?_
  refine lv_iushr (v := (Int32.toUInt32 (x0 - (((Int32.toUInt32 x0 >>> (Int32.toUInt32 (nI 1) &&& Int32.toUInt32 31)).toInt32) &&& (nI 1431655765))) >>> (Int32.toUInt32 (nI 2) &&& Int32.toUInt32 31)).toInt32) hx hb dJ6_bitCount_0f7a4_17 rfl ?_
  refine lv_ldcw (v := nI 858993459) hx hb hown f266 dJ6_bitCount_0f7a4_18 ?_
  refine lv_iand hx hb dJ6_bitCount_0f7a4_21 ?_
  refine lv_iadd hx hb dJ6_bitCount_0f7a4_22 ?_
  refine lv_istore_n (lv' := [(0, .int (((x0 - (((Int32.toUInt32 x0 >>> (Int32.toUInt32 (nI 1) &&& Int32.toUInt32 31)).toInt32) &&& (nI 1431655765))) &&& (nI 858993459)) + (((Int32.toUInt32 (x0 - (((Int32.toUInt32 x0 >>> (Int32.toUInt32 (nI 1) &&& Int32.toUInt32 31)).toInt32) &&& (nI 1431655765))) >>> (Int32.toUInt32 (nI 2) &&& Int32.toUInt32 31)).toInt32) &&& (nI 858993459))))]) hx hb dJ6_bitCount_0f7a4_23 rfl hl (by decide) rfl (fun ls hl => ?_)
  refine lv_iload_n hx hb dJ6_bitCount_0f7a4_24 rfl (lv_at hl 0 rfl) ?_
  refine lv_iload_n hx hb dJ6_bitCount_0f7a4_25 rfl (lv_at hl 0 rfl) ?_
  refine lv_iconst (v := (nI 4)) hx hb dJ6_bitCount_0f7a4_26 (by decide) ?_
  refine lv_iushr (v := (Int32.toUInt32 (((x0 - (((Int32.toUInt32 x0 >>> (Int32.toUInt32 (nI 1) &&& Int32.toUInt32 31)).toInt32) &&& (nI 1431655765))) &&& (nI 858993459)) + (((Int32.toUInt32 (x0 - (((Int32.toUInt32 x0 >>> (Int32.toUInt32 (nI 1) &&& Int32.toUInt32 31)).toInt32) &&& (nI 1431655765))) >>> (Int32.toUInt32 (nI 2) &&& Int32.toUInt32 31)).toInt32) &&& (nI 858993459))) >>> (Int32.toUInt32 (nI 4) &&& Int32.toUInt32 31)).toInt32) hx hb dJ6_bitCount_0f7a4_27 rfl ?_
  refine lv_iadd hx hb dJ6_bitCount_0f7a4_28 ?_
  refine lv_ldcw (v := nI 252645135) hx hb hown f267 dJ6_bitCount_0f7a4_29 ?_
  refine lv_iand hx hb dJ6_bitCount_0f7a4_32 ?_
  refine lv_istore_n (lv' := [(0, .int (((((x0 - (((Int32.toUInt32 x0 >>> (Int32.toUInt32 (nI 1) &&& Int32.toUInt32 31)).toInt32) &&& (nI 1431655765))) &&& (nI 858993459)) + (((Int32.toUInt32 (x0 - (((Int32.toUInt32 x0 >>> (Int32.toUInt32 (nI 1) &&& Int32.toUInt32 31)).toInt32) &&& (nI 1431655765))) >>> (Int32.toUInt32 (nI 2) &&& Int32.toUInt32 31)).toInt32) &&& (nI 858993459))) + ((Int32.toUInt32 (((x0 - (((Int32.toUInt32 x0 >>> (Int32.toUInt32 (nI 1) &&& Int32.toUInt32 31)).toInt32) &&& (nI 1431655765))) &&& (nI 858993459)) + (((Int32.toUInt32 (x0 - (((Int32.toUInt32 x0 >>> (Int32.toUInt32 (nI 1) &&& Int32.toUInt32 31)).toInt32) &&& (nI 1431655765))) >>> (Int32.toUInt32 (nI 2) &&& Int32.toUInt32 31)).toInt32) &&& (nI 858993459))) >>> (Int32.toUInt32 (nI 4) &&& Int32.toUInt32 31)).toInt32)) &&& (nI 252645135)))]) hx hb dJ6_bitCount_0f7a4_33 rfl hl (by decide) rfl (fun ls hl => ?_)
  refine lv_iload_n hx hb dJ6_bitCount_0f7a4_34 rfl (lv_at hl 0 rfl) ?_
  refine lv_iload_n hx hb dJ6_bitCount_0f7a4_35 rfl (lv_at hl 0 rfl) ?_
  refine lv_bipush (v := (nI 8)) hx hb dJ6_bitCount_0f7a4_36 (by decide) ?_
  refine lv_iushr (v := (Int32.toUInt32 (((((x0 - (((Int32.toUInt32 x0 >>> (Int32.toUInt32 (nI 1) &&& Int32.toUInt32 31)).toInt32) &&& (nI 1431655765))) &&& (nI 858993459)) + (((Int32.toUInt32 (x0 - (((Int32.toUInt32 x0 >>> (Int32.toUInt32 (nI 1) &&& Int32.toUInt32 31)).toInt32) &&& (nI 1431655765))) >>> (Int32.toUInt32 (nI 2) &&& Int32.toUInt32 31)).toInt32) &&& (nI 858993459))) + ((Int32.toUInt32 (((x0 - (((Int32.toUInt32 x0 >>> (Int32.toUInt32 (nI 1) &&& Int32.toUInt32 31)).toInt32) &&& (nI 1431655765))) &&& (nI 858993459)) + (((Int32.toUInt32 (x0 - (((Int32.toUInt32 x0 >>> (Int32.toUInt32 (nI 1) &&& Int32.toUInt32 31)).toInt32) &&& (nI 1431655765))) >>> (Int32.toUInt32 (nI 2) &&& Int32.toUInt32 31)).toInt32) &&& (nI 858993459))) >>> (Int32.toUInt32 (nI 4) &&& Int32.toUInt32 31)).toInt32)) &&& (nI 252645135)) >>> (Int32.toUInt32 (nI 8) &&& Int32.toUInt32 31)).toInt32) hx hb dJ6_bitCount_0f7a4_38 rfl ?_
  refine lv_iadd hx hb dJ6_bitCount_0f7a4_39 ?_
  refine lv_istore_n (lv' := [(0, .int ((((((x0 - (((Int32.toUInt32 x0 >>> (Int32.toUInt32 (nI 1) &&& Int32.toUInt32 31)).toInt32) &&& (nI 1431655765))) &&& (nI 858993459)) + (((Int32.toUInt32 (x0 - (((Int32.toUInt32 x0 >>> (Int32.toUInt32 (nI 1) &&& Int32.toUInt32 31)).toInt32) &&& (nI 1431655765))) >>> (Int32.toUInt32 (nI 2) &&& Int32.toUInt32 31)).toInt32) &&& (nI 858993459))) + ((Int32.toUInt32 (((x0 - (((Int32.toUInt32 x0 >>> (Int32.toUInt32 (nI 1) &&& Int32.toUInt32 31)).toInt32) &&& (nI 1431655765))) &&& (nI 858993459)) + (((Int32.toUInt32 (x0 - (((Int32.toUInt32 x0 >>> (Int32.toUInt32 (nI 1) &&& Int32.toUInt32 31)).toInt32) &&& (nI 1431655765))) >>> (Int32.toUInt32 (nI 2) &&& Int32.toUInt32 31)).toInt32) &&& (nI 858993459))) >>> (Int32.toUInt32 (nI 4) &&& Int32.toUInt32 31)).toInt32)) &&& (nI 252645135)) + ((Int32.toUInt32 (((((x0 - (((Int32.toUInt32 x0 >>> (Int32.toUInt32 (nI 1) &&& Int32.toUInt32 31)).toInt32) &&& (nI 1431655765))) &&& (nI 858993459)) + (((Int32.toUInt32 (x0 - (((Int32.toUInt32 x0 >>> (Int32.toUInt32 (nI 1) &&& Int32.toUInt32 31)).toInt32) &&& (nI 1431655765))) >>> (Int32.toUInt32 (nI 2) &&& Int32.toUInt32 31)).toInt32) &&& (nI 858993459))) + ((Int32.toUInt32 (((x0 - (((Int32.toUInt32 x0 >>> (Int32.toUInt32 (nI 1) &&& Int32.toUInt32 31)).toInt32) &&& (nI 1431655765))) &&& (nI 858993459)) + (((Int32.toUInt32 (x0 - (((Int32.toUInt32 x0 >>> (Int32.toUInt32 (nI 1) &&& Int32.toUInt32 31)).toInt32) &&& (nI 1431655765))) >>> (Int32.toUInt32 (nI 2) &&& Int32.toUInt32 31)).toInt32) &&& (nI 858993459))) >>> (Int32.toUInt32 (nI 4) &&& Int32.toUInt32 31)).toInt32)) &&& (nI 252645135)) >>> (Int32.toUInt32 (nI 8) &&& Int32.toUInt32 31)).toInt32)))]) hx hb dJ6_bitCount_0f7a4_40 rfl hl (by decide) rfl (fun ls hl => ?_)
  refine lv_iload_n hx hb dJ6_bitCount_0f7a4_41 rfl (lv_at hl 0 rfl) ?_
  refine lv_iload_n hx hb dJ6_bitCount_0f7a4_42 rfl (lv_at hl 0 rfl) ?_
  refine lv_bipush (v := (nI 16)) hx hb dJ6_bitCount_0f7a4_43 (by decide) ?_
  refine lv_iushr (v := (Int32.toUInt32 ((((((x0 - (((Int32.toUInt32 x0 >>> (Int32.toUInt32 (nI 1) &&& Int32.toUInt32 31)).toInt32) &&& (nI 1431655765))) &&& (nI 858993459)) + (((Int32.toUInt32 (x0 - (((Int32.toUInt32 x0 >>> (Int32.toUInt32 (nI 1) &&& Int32.toUInt32 31)).toInt32) &&& (nI 1431655765))) >>> (Int32.toUInt32 (nI 2) &&& Int32.toUInt32 31)).toInt32) &&& (nI 858993459))) + ((Int32.toUInt32 (((x0 - (((Int32.toUInt32 x0 >>> (Int32.toUInt32 (nI 1) &&& Int32.toUInt32 31)).toInt32) &&& (nI 1431655765))) &&& (nI 858993459)) + (((Int32.toUInt32 (x0 - (((Int32.toUInt32 x0 >>> (Int32.toUInt32 (nI 1) &&& Int32.toUInt32 31)).toInt32) &&& (nI 1431655765))) >>> (Int32.toUInt32 (nI 2) &&& Int32.toUInt32 31)).toInt32) &&& (nI 858993459))) >>> (Int32.toUInt32 (nI 4) &&& Int32.toUInt32 31)).toInt32)) &&& (nI 252645135)) + ((Int32.toUInt32 (((((x0 - (((Int32.toUInt32 x0 >>> (Int32.toUInt32 (nI 1) &&& Int32.toUInt32 31)).toInt32) &&& (nI 1431655765))) &&& (nI 858993459)) + (((Int32.toUInt32 (x0 - (((Int32.toUInt32 x0 >>> (Int32.toUInt32 (nI 1) &&& Int32.toUInt32 31)).toInt32) &&& (nI 1431655765))) >>> (Int32.toUInt32 (nI 2) &&& Int32.toUInt32 31)).toInt32) &&& (nI 858993459))) + ((Int32.toUInt32 (((x0 - (((Int32.toUInt32 x0 >>> (Int32.toUInt32 (nI 1) &&& Int32.toUInt32 31)).toInt32) &&& (nI 1431655765))) &&& (nI 858993459)) + (((Int32.toUInt32 (x0 - (((Int32.toUInt32 x0 >>> (Int32.toUInt32 (nI 1) &&& Int32.toUInt32 31)).toInt32) &&& (nI 1431655765))) >>> (Int32.toUInt32 (nI 2) &&& Int32.toUInt32 31)).toInt32) &&& (nI 858993459))) >>> (Int32.toUInt32 (nI 4) &&& Int32.toUInt32 31)).toInt32)) &&& (nI 252645135)) >>> (Int32.toUInt32 (nI 8) &&& Int32.toUInt32 31)).toInt32)) >>> (Int32.toUInt32 (nI 16) &&& Int32.toUInt32 31)).toInt32) hx hb dJ6_bitCount_0f7a4_45 rfl ?_
  refine lv_iadd hx hb dJ6_bitCount_0f7a4_46 ?_
  refine lv_istore_n (lv' := [(0, .int (((((((x0 - (((Int32.toUInt32 x0 >>> (Int32.toUInt32 (nI 1) &&& Int32.toUInt32 31)).toInt32) &&& (nI 1431655765))) &&& (nI 858993459)) + (((Int32.toUInt32 (x0 - (((Int32.toUInt32 x0 >>> (Int32.toUInt32 (nI 1) &&& Int32.toUInt32 31)).toInt32) &&& (nI 1431655765))) >>> (Int32.toUInt32 (nI 2) &&& Int32.toUInt32 31)).toInt32) &&& (nI 858993459))) + ((Int32.toUInt32 (((x0 - (((Int32.toUInt32 x0 >>> (Int32.toUInt32 (nI 1) &&& Int32.toUInt32 31)).toInt32) &&& (nI 1431655765))) &&& (nI 858993459)) + (((Int32.toUInt32 (x0 - (((Int32.toUInt32 x0 >>> (Int32.toUInt32 (nI 1) &&& Int32.toUInt32 31)).toInt32) &&& (nI 1431655765))) >>> (Int32.toUInt32 (nI 2) &&& Int32.toUInt32 31)).toInt32) &&& (nI 858993459))) >>> (Int32.toUInt32 (nI 4) &&& Int32.toUInt32 31)).toInt32)) &&& (nI 252645135)) + ((Int32.toUInt32 (((((x0 - (((Int32.toUInt32 x0 >>> (Int32.toUInt32 (nI 1) &&& Int32.toUInt32 31)).toInt32) &&& (nI 1431655765))) &&& (nI 858993459)) + (((Int32.toUInt32 (x0 - (((Int32.toUInt32 x0 >>> (Int32.toUInt32 (nI 1) &&& Int32.toUInt32 31)).toInt32) &&& (nI 1431655765))) >>> (Int32.toUInt32 (nI 2) &&& Int32.toUInt32 31)).toInt32) &&& (nI 858993459))) + ((Int32.toUInt32 (((x0 - (((Int32.toUInt32 x0 >>> (Int32.toUInt32 (nI 1) &&& Int32.toUInt32 31)).toInt32) &&& (nI 1431655765))) &&& (nI 858993459)) + (((Int32.toUInt32 (x0 - (((Int32.toUInt32 x0 >>> (Int32.toUInt32 (nI 1) &&& Int32.toUInt32 31)).toInt32) &&& (nI 1431655765))) >>> (Int32.toUInt32 (nI 2) &&& Int32.toUInt32 31)).toInt32) &&& (nI 858993459))) >>> (Int32.toUInt32 (nI 4) &&& Int32.toUInt32 31)).toInt32)) &&& (nI 252645135)) >>> (Int32.toUInt32 (nI 8) &&& Int32.toUInt32 31)).toInt32)) + ((Int32.toUInt32 ((((((x0 - (((Int32.toUInt32 x0 >>> (Int32.toUInt32 (nI 1) &&& Int32.toUInt32 31)).toInt32) &&& (nI 1431655765))) &&& (nI 858993459)) + (((Int32.toUInt32 (x0 - (((Int32.toUInt32 x0 >>> (Int32.toUInt32 (nI 1) &&& Int32.toUInt32 31)).toInt32) &&& (nI 1431655765))) >>> (Int32.toUInt32 (nI 2) &&& Int32.toUInt32 31)).toInt32) &&& (nI 858993459))) + ((Int32.toUInt32 (((x0 - (((Int32.toUInt32 x0 >>> (Int32.toUInt32 (nI 1) &&& Int32.toUInt32 31)).toInt32) &&& (nI 1431655765))) &&& (nI 858993459)) + (((Int32.toUInt32 (x0 - (((Int32.toUInt32 x0 >>> (Int32.toUInt32 (nI 1) &&& Int32.toUInt32 31)).toInt32) &&& (nI 1431655765))) >>> (Int32.toUInt32 (nI 2) &&& Int32.toUInt32 31)).toInt32) &&& (nI 858993459))) >>> (Int32.toUInt32 (nI 4) &&& Int32.toUInt32 31)).toInt32)) &&& (nI 252645135)) + ((Int32.toUInt32 (((((x0 - (((Int32.toUInt32 x0 >>> (Int32.toUInt32 (nI 1) &&& Int32.toUInt32 31)).toInt32) &&& (nI 1431655765))) &&& (nI 858993459)) + (((Int32.toUInt32 (x0 - (((Int32.toUInt32 x0 >>> (Int32.toUInt32 (nI 1) &&& Int32.toUInt32 31)).toInt32) &&& (nI 1431655765))) >>> (Int32.toUInt32 (nI 2) &&& Int32.toUInt32 31)).toInt32) &&& (nI 858993459))) + ((Int32.toUInt32 (((x0 - (((Int32.toUInt32 x0 >>> (Int32.toUInt32 (nI 1) &&& Int32.toUInt32 31)).toInt32) &&& (nI 1431655765))) &&& (nI 858993459)) + (((Int32.toUInt32 (x0 - (((Int32.toUInt32 x0 >>> (Int32.toUInt32 (nI 1) &&& Int32.toUInt32 31)).toInt32) &&& (nI 1431655765))) >>> (Int32.toUInt32 (nI 2) &&& Int32.toUInt32 31)).toInt32) &&& (nI 858993459))) >>> (Int32.toUInt32 (nI 4) &&& Int32.toUInt32 31)).toInt32)) &&& (nI 252645135)) >>> (Int32.toUInt32 (nI 8) &&& Int32.toUInt32 31)).toInt32)) >>> (Int32.toUInt32 (nI 16) &&& Int32.toUInt32 31)).toInt32)))]) hx hb dJ6_bitCount_0f7a4_47 rfl hl (by decide) rfl (fun ls hl => ?_)
  refine lv_iload_n hx hb dJ6_bitCount_0f7a4_48 rfl (lv_at hl 0 rfl) ?_
  refine lv_bipush (v := (nI 63)) hx hb dJ6_bitCount_0f7a4_49 (by decide) ?_
  refine lv_iand hx hb dJ6_bitCount_0f7a4_51 ?_
  exact hret ((((((((x0 - (((Int32.toUInt32 x0 >>> (Int32.toUInt32 (nI 1) &&& Int32.toUInt32 31)).toInt32) &&& (nI 1431655765))) &&& (nI 858993459)) + (((Int32.toUInt32 (x0 - (((Int32.toUInt32 x0 >>> (Int32.toUInt32 (nI 1) &&& Int32.toUInt32 31)).toInt32) &&& (nI 1431655765))) >>> (Int32.toUInt32 (nI 2) &&& Int32.toUInt32 31)).toInt32) &&& (nI 858993459))) + ((Int32.toUInt32 (((x0 - (((Int32.toUInt32 x0 >>> (Int32.toUInt32 (nI 1) &&& Int32.toUInt32 31)).toInt32) &&& (nI 1431655765))) &&& (nI 858993459)) + (((Int32.toUInt32 (x0 - (((Int32.toUInt32 x0 >>> (Int32.toUInt32 (nI 1) &&& Int32.toUInt32 31)).toInt32) &&& (nI 1431655765))) >>> (Int32.toUInt32 (nI 2) &&& Int32.toUInt32 31)).toInt32) &&& (nI 858993459))) >>> (Int32.toUInt32 (nI 4) &&& Int32.toUInt32 31)).toInt32)) &&& (nI 252645135)) + ((Int32.toUInt32 (((((x0 - (((Int32.toUInt32 x0 >>> (Int32.toUInt32 (nI 1) &&& Int32.toUInt32 31)).toInt32) &&& (nI 1431655765))) &&& (nI 858993459)) + (((Int32.toUInt32 (x0 - (((Int32.toUInt32 x0 >>> (Int32.toUInt32 (nI 1) &&& Int32.toUInt32 31)).toInt32) &&& (nI 1431655765))) >>> (Int32.toUInt32 (nI 2) &&& Int32.toUInt32 31)).toInt32) &&& (nI 858993459))) + ((Int32.toUInt32 (((x0 - (((Int32.toUInt32 x0 >>> (Int32.toUInt32 (nI 1) &&& Int32.toUInt32 31)).toInt32) &&& (nI 1431655765))) &&& (nI 858993459)) + (((Int32.toUInt32 (x0 - (((Int32.toUInt32 x0 >>> (Int32.toUInt32 (nI 1) &&& Int32.toUInt32 31)).toInt32) &&& (nI 1431655765))) >>> (Int32.toUInt32 (nI 2) &&& Int32.toUInt32 31)).toInt32) &&& (nI 858993459))) >>> (Int32.toUInt32 (nI 4) &&& Int32.toUInt32 31)).toInt32)) &&& (nI 252645135)) >>> (Int32.toUInt32 (nI 8) &&& Int32.toUInt32 31)).toInt32)) + ((Int32.toUInt32 ((((((x0 - (((Int32.toUInt32 x0 >>> (Int32.toUInt32 (nI 1) &&& Int32.toUInt32 31)).toInt32) &&& (nI 1431655765))) &&& (nI 858993459)) + (((Int32.toUInt32 (x0 - (((Int32.toUInt32 x0 >>> (Int32.toUInt32 (nI 1) &&& Int32.toUInt32 31)).toInt32) &&& (nI 1431655765))) >>> (Int32.toUInt32 (nI 2) &&& Int32.toUInt32 31)).toInt32) &&& (nI 858993459))) + ((Int32.toUInt32 (((x0 - (((Int32.toUInt32 x0 >>> (Int32.toUInt32 (nI 1) &&& Int32.toUInt32 31)).toInt32) &&& (nI 1431655765))) &&& (nI 858993459)) + (((Int32.toUInt32 (x0 - (((Int32.toUInt32 x0 >>> (Int32.toUInt32 (nI 1) &&& Int32.toUInt32 31)).toInt32) &&& (nI 1431655765))) >>> (Int32.toUInt32 (nI 2) &&& Int32.toUInt32 31)).toInt32) &&& (nI 858993459))) >>> (Int32.toUInt32 (nI 4) &&& Int32.toUInt32 31)).toInt32)) &&& (nI 252645135)) + ((Int32.toUInt32 (((((x0 - (((Int32.toUInt32 x0 >>> (Int32.toUInt32 (nI 1) &&& Int32.toUInt32 31)).toInt32) &&& (nI 1431655765))) &&& (nI 858993459)) + (((Int32.toUInt32 (x0 - (((Int32.toUInt32 x0 >>> (Int32.toUInt32 (nI 1) &&& Int32.toUInt32 31)).toInt32) &&& (nI 1431655765))) >>> (Int32.toUInt32 (nI 2) &&& Int32.toUInt32 31)).toInt32) &&& (nI 858993459))) + ((Int32.toUInt32 (((x0 - (((Int32.toUInt32 x0 >>> (Int32.toUInt32 (nI 1) &&& Int32.toUInt32 31)).toInt32) &&& (nI 1431655765))) &&& (nI 858993459)) + (((Int32.toUInt32 (x0 - (((Int32.toUInt32 x0 >>> (Int32.toUInt32 (nI 1) &&& Int32.toUInt32 31)).toInt32) &&& (nI 1431655765))) >>> (Int32.toUInt32 (nI 2) &&& Int32.toUInt32 31)).toInt32) &&& (nI 858993459))) >>> (Int32.toUInt32 (nI 4) &&& Int32.toUInt32 31)).toInt32)) &&& (nI 252645135)) >>> (Int32.toUInt32 (nI 8) &&& Int32.toUInt32 31)).toInt32)) >>> (Int32.toUInt32 (nI 16) &&& Int32.toUInt32 31)).toInt32)) &&& (nI 63)) () _ _ _ _ rfl h hP hD hS dJ6_bitCount_0f7a4_52
abbrev cw_X4_letters (g : GG) (h_this : Nat) (h_this_moves : Nat) (h_this_lights : Nat) (h_this_prices : Nat) (h_this_shares : Nat) (c_states : Int32) (c_letters : Int32) : va_W := [(h_this, .inr (3, [.int c_states, .int c_letters, .ref h_this_moves, .ref h_this_lights, .ref h_this_prices, .ref h_this_shares]))]
def wp_X4_letters (c_states : Int32) (c_letters : Int32) (Q : Int32 → Prop) : Prop :=
    Q c_letters
abbrev rm_X4_letters : Room := { frames := 0, cells := 0, slots := 0, locals := 0 }
set_option maxHeartbeats 4000000 in
set_option maxRecDepth 100000 in
theorem k_X4_letters (l : Launch) (g : GG) (h_this : Nat) (h_this_moves : Nat) (h_this_lights : Nat) (h_this_prices : Nat) (h_this_shares : Nat) {c_states : Int32} {c_letters : Int32} {Q : Int32 → Prop} (h : wp_X4_letters c_states c_letters Q) : CI l g yX4_letters wsX4_letters rm_X4_letters [.ref h_this] (cw_X4_letters g h_this h_this_moves h_this_lights h_this_prices h_this_shares c_states c_letters) (S := Unit) (fun _ => (cw_X4_letters g h_this h_this_moves h_this_lights h_this_prices h_this_shares c_states c_letters)) (fun r _ => Q r) 0 0 := by
  refine mk_I (cc := cX4_letters) (maxL := 1) (own := RX4) (by decide) rfl rfl (Nat.le_of_ble_eq_true rfl) ?_
  intro p e s m args below meth c A QQ E hret hP hD hS ls hl
  have E2 := E
  obtain ⟨hx, hb, hr, hml, hown, hts, hlocks, hA, hZ, hK, hnm⟩ := E2
  have f28 := hts (.fieldLink RX4 28 "WordBench$Machine" "letters" "I") (by decide +kernel)
  have iX4 : ∀ w ∈ wsX40, w ∈ wsX4_letters := fun _ h => List.mem_cons_of_mem _ (List.mem_append_right _ h)
  have hP : va_P g.1 vwCl (cw_X4_letters g h_this h_this_moves h_this_lights h_this_prices h_this_shares c_states c_letters) s.heap := hP
  have hD : va_D A (cw_X4_letters g h_this h_this_moves h_this_lights h_this_prices h_this_shares c_states c_letters) := hD
  have hl : lv_has ls 1 [(0, .ref h_this)] := hl
  unfold wp_X4_letters at h
  refine lv_aload_n hx hb dX4_letters_0 rfl (lv_at hl 0 rfl) ?_
  refine va_get (D := g.1) (ci := 3) (v := .int c_letters) (C := RX4) (T := TX4) (N := 6) hx hb hts iX4 hown hK hP 0 rfl rfl 1 (by decide) f28 (fun _ h9 => h9) rfl dX4_letters_1 ?_
  exact hret c_letters () _ _ _ _ rfl h hP hD hS dX4_letters_4
abbrev cw_X4_hasState (g : GG) (h_this : Nat) (h_this_moves : Nat) (h_this_lights : Nat) (h_this_prices : Nat) (h_this_shares : Nat) (c_states : Int32) (c_letters : Int32) : va_W := [(h_this, .inr (3, [.int c_states, .int c_letters, .ref h_this_moves, .ref h_this_lights, .ref h_this_prices, .ref h_this_shares]))]
def wp_X4_hasState (c_states : Int32) (c_letters : Int32) (x1 : Int32) (Q : Int32 → Prop) : Prop :=
    ((x1 < (nI 0) → Q (nI 0)) ∧ (¬ x1 < (nI 0) → ((c_states ≤ x1 → Q (nI 0)) ∧ (¬ c_states ≤ x1 → (((nI 12) ≤ x1 → Q (nI 0)) ∧ (¬ (nI 12) ≤ x1 → Q (nI 1)))))))
abbrev rm_X4_hasState : Room := { frames := 0, cells := 0, slots := 0, locals := 0 }
set_option maxHeartbeats 4000000 in
set_option maxRecDepth 100000 in
theorem k_X4_hasState (l : Launch) (g : GG) (h_this : Nat) (h_this_moves : Nat) (h_this_lights : Nat) (h_this_prices : Nat) (h_this_shares : Nat) {c_states : Int32} {c_letters : Int32} {x1 : Int32} {Q : Int32 → Prop} (h : wp_X4_hasState c_states c_letters x1 Q) : CI l g yX4_hasState wsX4_hasState rm_X4_hasState [.ref h_this, .int x1] (cw_X4_hasState g h_this h_this_moves h_this_lights h_this_prices h_this_shares c_states c_letters) (S := Unit) (fun _ => (cw_X4_hasState g h_this h_this_moves h_this_lights h_this_prices h_this_shares c_states c_letters)) (fun r _ => Q r) 0 0 := by
  refine mk_I (cc := cX4_hasState) (maxL := 2) (own := RX4) (by decide) rfl rfl (Nat.le_of_ble_eq_true rfl) ?_
  intro p e s m args below meth c A QQ E hret hP hD hS ls hl
  have E2 := E
  obtain ⟨hx, hb, hr, hml, hown, hts, hlocks, hA, hZ, hK, hnm⟩ := E2
  have f24 := hts (.fieldLink RX4 24 "WordBench$Machine" "states" "I") (by decide +kernel)
  have iX4 : ∀ w ∈ wsX40, w ∈ wsX4_hasState := fun _ h => List.mem_cons_of_mem _ (List.mem_append_right _ h)
  have hP : va_P g.1 vwCl (cw_X4_hasState g h_this h_this_moves h_this_lights h_this_prices h_this_shares c_states c_letters) s.heap := hP
  have hD : va_D A (cw_X4_hasState g h_this h_this_moves h_this_lights h_this_prices h_this_shares c_states c_letters) := hD
  have hl : lv_has ls 2 [(0, .ref h_this), (1, .int x1)] := hl
  unfold wp_X4_hasState at h
  refine lv_iload_n hx hb dX4_hasState_0 rfl (lv_at hl 1 rfl) ?_
  refine lv_if_lt (tgt := 22) hx hb dX4_hasState_1 (by decide) (fun cq => ?_) (fun cq => ?_)
  · replace h := h.1 cq
    refine lv_iconst (v := (nI 0)) hx hb dX4_hasState_22 (by decide) ?_
    exact hret (nI 0) () _ _ _ _ nbz h hP hD hS dX4_hasState_23
  · replace h := h.2 cq
    refine lv_iload_n hx hb dX4_hasState_4 rfl (lv_at hl 1 rfl) ?_
    refine lv_aload_n hx hb dX4_hasState_5 rfl (lv_at hl 0 rfl) ?_
    refine va_get (D := g.1) (ci := 3) (v := .int c_states) (C := RX4) (T := TX4) (N := 6) hx hb hts iX4 hown hK hP 0 rfl rfl 0 (by decide) f24 (fun _ h9 => h9) rfl dX4_hasState_6 ?_
    refine lv_icmp_ge (tgt := 22) hx hb dX4_hasState_9 (by decide) (fun cq => ?_) (fun cq => ?_)
    · replace h := h.1 cq
      refine lv_iconst (v := (nI 0)) hx hb dX4_hasState_22 (by decide) ?_
      exact hret (nI 0) () _ _ _ _ nbz h hP hD hS dX4_hasState_23
    · replace h := h.2 cq
      refine lv_iload_n hx hb dX4_hasState_12 rfl (lv_at hl 1 rfl) ?_
      refine lv_bipush (v := (nI 12)) hx hb dX4_hasState_13 (by decide) ?_
      refine lv_icmp_ge (tgt := 22) hx hb dX4_hasState_15 (by decide) (fun cq => ?_) (fun cq => ?_)
      · replace h := h.1 cq
        refine lv_iconst (v := (nI 0)) hx hb dX4_hasState_22 (by decide) ?_
        exact hret (nI 0) () _ _ _ _ nbz h hP hD hS dX4_hasState_23
      · replace h := h.2 cq
        refine lv_iconst (v := (nI 1)) hx hb dX4_hasState_18 (by decide) ?_
        refine lv_goto (tgt := 23) hx hb dX4_hasState_19 (by decide) ?_
        exact hret (nI 1) () _ _ _ _ nbo h hP hD hS dX4_hasState_23
abbrev cw_X4_target (g : GG) (h_this : Nat) (h_this_moves : Nat) (h_this_lights : Nat) (h_this_prices : Nat) (h_this_shares : Nat) (c_states : Int32) (c_letters : Int32) (c_moves : Nat → Int32) : va_W := [(h_this, .inr (3, [.int c_states, .int c_letters, .ref h_this_moves, .ref h_this_lights, .ref h_this_prices, .ref h_this_shares])), (h_this_moves, .inl (g.2.1, 48, .inl c_moves))]
def J_X4_target_40 (c_moves : Nat → Int32) (x1 : Int32) (x2 : Int32) (Q : Int32 → Prop) (t0 : Int32) : Prop :=
    ((t0 = (nI 0) → Q (-1)) ∧ (¬ t0 = (nI 0) → vp_in ((x1 * (nI 4)) + x2) 48 ∧ Q (c_moves (Int32.toNatClampNeg ((x1 * (nI 4)) + x2)))))
def J_X4_target_39 (c_moves : Nat → Int32) (x1 : Int32) (x2 : Int32) (Q : Int32 → Prop) : Prop :=
    J_X4_target_40 c_moves x1 x2 Q (nI 0)
def wp_X4_target (c_states : Int32) (c_letters : Int32) (c_moves : Nat → Int32) (x1 : Int32) (x2 : Int32) (Q : Int32 → Prop) : Prop :=
    ((x1 < (nI 0) → J_X4_target_39 c_moves x1 x2 Q) ∧ (¬ x1 < (nI 0) → ((c_states ≤ x1 → J_X4_target_39 c_moves x1 x2 Q) ∧ (¬ c_states ≤ x1 → (((nI 12) ≤ x1 → J_X4_target_39 c_moves x1 x2 Q) ∧ (¬ (nI 12) ≤ x1 → ((x2 < (nI 0) → J_X4_target_39 c_moves x1 x2 Q) ∧ (¬ x2 < (nI 0) → ((c_letters ≤ x2 → J_X4_target_39 c_moves x1 x2 Q) ∧ (¬ c_letters ≤ x2 → (((nI 4) ≤ x2 → J_X4_target_39 c_moves x1 x2 Q) ∧ (¬ (nI 4) ≤ x2 → J_X4_target_40 c_moves x1 x2 Q (nI 1)))))))))))))
abbrev rm_X4_target : Room := { frames := 0, cells := 0, slots := 0, locals := 0 }
set_option maxHeartbeats 4000000 in
set_option maxRecDepth 100000 in
theorem k_X4_target (l : Launch) (g : GG) (h_this : Nat) (h_this_moves : Nat) (h_this_lights : Nat) (h_this_prices : Nat) (h_this_shares : Nat) {c_states : Int32} {c_letters : Int32} {c_moves : Nat → Int32} {x1 : Int32} {x2 : Int32} {Q : Int32 → Prop} (h : wp_X4_target c_states c_letters c_moves x1 x2 Q) : CI l g yX4_target wsX4_target rm_X4_target [.ref h_this, .int x1, .int x2] (cw_X4_target g h_this h_this_moves h_this_lights h_this_prices h_this_shares c_states c_letters c_moves) (S := Unit) (fun _ => (cw_X4_target g h_this h_this_moves h_this_lights h_this_prices h_this_shares c_states c_letters c_moves)) (fun r _ => Q r) 0 0 := by
  refine mk_I (cc := cX4_target) (maxL := 4) (own := RX4) (by decide) rfl rfl (Nat.le_of_ble_eq_true rfl) ?_
  intro p e s m args below meth c A QQ E hret hP hD hS ls hl
  have E2 := E
  obtain ⟨hx, hb, hr, hml, hown, hts, hlocks, hA, hZ, hK, hnm⟩ := E2
  have f9 := hts (.fieldLink RX4 9 "WordBench$Machine" "moves" "[I") (by decide +kernel)
  have f24 := hts (.fieldLink RX4 24 "WordBench$Machine" "states" "I") (by decide +kernel)
  have f28 := hts (.fieldLink RX4 28 "WordBench$Machine" "letters" "I") (by decide +kernel)
  have iX4 : ∀ w ∈ wsX40, w ∈ wsX4_target := fun _ h => List.mem_cons_of_mem _ (List.mem_append_right _ h)
  have hP : va_P g.1 vwCl (cw_X4_target g h_this h_this_moves h_this_lights h_this_prices h_this_shares c_states c_letters c_moves) s.heap := hP
  have hD : va_D A (cw_X4_target g h_this h_this_moves h_this_lights h_this_prices h_this_shares c_states c_letters c_moves) := hD
  have hl : lv_has ls 4 [(0, .ref h_this), (1, .int x1), (2, .int x2)] := hl
  unfold wp_X4_target at h
  have K_40 : ∀ (t0 : Int32) , J_X4_target_40 c_moves x1 x2 Q t0 → ∀ (H : Heap) (locs : List Loc), va_P g.1 vwCl (cw_X4_target g h_this h_this_moves h_this_lights h_this_prices h_this_shares c_states c_letters c_moves) H → va_D A (cw_X4_target g h_this h_this_moves h_this_lights h_this_prices h_this_shares c_states c_letters c_moves) → va_S A s.heap H locs → ∀ ls : Array Slot, lv_has ls 4 [(0, .ref h_this), (1, .int x1), (2, .int x2)] → W p l e rm_X4_target s m args below meth c H locs 0 0 QQ (F0 m 40 ls [.int t0]) := by
    intro t0 h H locs hP hD hS ls hl
    unfold J_X4_target_40 at h
    refine lv_istore_n (lv' := [(3, .int t0), (0, .ref h_this), (1, .int x1), (2, .int x2)]) hx hb dX4_target_40 rfl hl (by decide) rfl (fun ls hl => ?_)
    refine lv_iload_n hx hb dX4_target_41 rfl (lv_at hl 0 rfl) ?_
    refine lv_if_eq (tgt := 58) hx hb dX4_target_42 (by decide) (fun cq => ?_) (fun cq => ?_)
    · replace h := h.1 cq
      refine lv_iconst (v := (-1)) hx hb dX4_target_58 (by decide) ?_
      exact hret (-1) () _ _ _ _ rfl h hP hD hS dX4_target_59
    · replace h := h.2 cq
      refine lv_aload_n hx hb dX4_target_45 rfl (lv_at hl 1 rfl) ?_
      refine va_get (D := g.1) (ci := 3) (v := .ref h_this_moves) (C := RX4) (T := TX4) (N := 6) hx hb hts iX4 hown hK hP 0 rfl rfl 2 (by decide) f9 (fun _ h9 => h9) rfl dX4_target_46 ?_
      refine lv_iload_n hx hb dX4_target_49 rfl (lv_at hl 2 rfl) ?_
      refine lv_iconst (v := (nI 4)) hx hb dX4_target_50 (by decide) ?_
      refine lv_imul hx hb dX4_target_51 ?_
      refine lv_iload_n hx hb dX4_target_52 rfl (lv_at hl 3 rfl) ?_
      refine lv_iadd hx hb dX4_target_53 ?_
      obtain ⟨hi, h⟩ := h
      refine va_iald (D := g.1) (n := 48) (f := c_moves) hx hb hK hP 1 0 rfl rfl hi dX4_target_54 ?_
      refine lv_goto (tgt := 59) hx hb dX4_target_55 (by decide) ?_
      exact hret (c_moves (Int32.toNatClampNeg ((x1 * (nI 4)) + x2))) () _ _ _ _ rfl h hP hD hS dX4_target_59
  have K_39 : J_X4_target_39 c_moves x1 x2 Q → ∀ (H : Heap) (locs : List Loc), va_P g.1 vwCl (cw_X4_target g h_this h_this_moves h_this_lights h_this_prices h_this_shares c_states c_letters c_moves) H → va_D A (cw_X4_target g h_this h_this_moves h_this_lights h_this_prices h_this_shares c_states c_letters c_moves) → va_S A s.heap H locs → ∀ ls : Array Slot, lv_has ls 4 [(0, .ref h_this), (1, .int x1), (2, .int x2)] → W p l e rm_X4_target s m args below meth c H locs 0 0 QQ (F0 m 39 ls []) := by
    intro h H locs hP hD hS ls hl
    unfold J_X4_target_39 at h
    refine lv_iconst (v := (nI 0)) hx hb dX4_target_39 (by decide) ?_
    exact K_40 (nI 0) h _ _ hP hD hS _ (lv_sub hl [0, 1, 2] rfl)
  refine lv_iload_n hx hb dX4_target_0 rfl (lv_at hl 1 rfl) ?_
  refine lv_if_lt (tgt := 39) hx hb dX4_target_1 (by decide) (fun cq => ?_) (fun cq => ?_)
  · replace h := h.1 cq
    exact K_39 h _ _ hP hD hS _ (lv_sub hl [0, 1, 2] rfl)
  · replace h := h.2 cq
    refine lv_iload_n hx hb dX4_target_4 rfl (lv_at hl 1 rfl) ?_
    refine lv_aload_n hx hb dX4_target_5 rfl (lv_at hl 0 rfl) ?_
    refine va_get (D := g.1) (ci := 3) (v := .int c_states) (C := RX4) (T := TX4) (N := 6) hx hb hts iX4 hown hK hP 0 rfl rfl 0 (by decide) f24 (fun _ h9 => h9) rfl dX4_target_6 ?_
    refine lv_icmp_ge (tgt := 39) hx hb dX4_target_9 (by decide) (fun cq => ?_) (fun cq => ?_)
    · replace h := h.1 cq
      exact K_39 h _ _ hP hD hS _ (lv_sub hl [0, 1, 2] rfl)
    · replace h := h.2 cq
      refine lv_iload_n hx hb dX4_target_12 rfl (lv_at hl 1 rfl) ?_
      refine lv_bipush (v := (nI 12)) hx hb dX4_target_13 (by decide) ?_
      refine lv_icmp_ge (tgt := 39) hx hb dX4_target_15 (by decide) (fun cq => ?_) (fun cq => ?_)
      · replace h := h.1 cq
        exact K_39 h _ _ hP hD hS _ (lv_sub hl [0, 1, 2] rfl)
      · replace h := h.2 cq
        refine lv_iload_n hx hb dX4_target_18 rfl (lv_at hl 2 rfl) ?_
        refine lv_if_lt (tgt := 39) hx hb dX4_target_19 (by decide) (fun cq => ?_) (fun cq => ?_)
        · replace h := h.1 cq
          exact K_39 h _ _ hP hD hS _ (lv_sub hl [0, 1, 2] rfl)
        · replace h := h.2 cq
          refine lv_iload_n hx hb dX4_target_22 rfl (lv_at hl 2 rfl) ?_
          refine lv_aload_n hx hb dX4_target_23 rfl (lv_at hl 0 rfl) ?_
          refine va_get (D := g.1) (ci := 3) (v := .int c_letters) (C := RX4) (T := TX4) (N := 6) hx hb hts iX4 hown hK hP 0 rfl rfl 1 (by decide) f28 (fun _ h9 => h9) rfl dX4_target_24 ?_
          refine lv_icmp_ge (tgt := 39) hx hb dX4_target_27 (by decide) (fun cq => ?_) (fun cq => ?_)
          · replace h := h.1 cq
            exact K_39 h _ _ hP hD hS _ (lv_sub hl [0, 1, 2] rfl)
          · replace h := h.2 cq
            refine lv_iload_n hx hb dX4_target_30 rfl (lv_at hl 2 rfl) ?_
            refine lv_iconst (v := (nI 4)) hx hb dX4_target_31 (by decide) ?_
            refine lv_icmp_ge (tgt := 39) hx hb dX4_target_32 (by decide) (fun cq => ?_) (fun cq => ?_)
            · replace h := h.1 cq
              exact K_39 h _ _ hP hD hS _ (lv_sub hl [0, 1, 2] rfl)
            · replace h := h.2 cq
              refine lv_iconst (v := (nI 1)) hx hb dX4_target_35 (by decide) ?_
              refine lv_goto (tgt := 40) hx hb dX4_target_36 (by decide) ?_
              exact K_40 (nI 1) h _ _ hP hD hS _ (lv_sub hl [0, 1, 2] rfl)
abbrev cw_X8_fill (g : GG) (h_tb : Nat) (h_m : Nat) (h_m_moves : Nat) (h_m_lights : Nat) (h_m_prices : Nat) (h_m_shares : Nat) (n_tb : Nat) (c_tb : Nat → Int32) (c_m_states : Int32) (c_m_letters : Int32) (c_m_moves : Nat → Int32) : va_W := [(h_tb, .inl (g.2.1, n_tb, .inl c_tb)), (h_m, .inr (3, [.int c_m_states, .int c_m_letters, .ref h_m_moves, .ref h_m_lights, .ref h_m_prices, .ref h_m_shares])), (h_m_moves, .inl (g.2.1, 48, .inl c_m_moves))]
def J_X8_fill_114 (R_9 : Int32 → (Nat → Int32) → Prop) (x5 : Int32) (c_tb : Nat → Int32) : Prop :=
    R_9 (x5 + (nI 1)) c_tb
def J_X8_fill_108 (R_65 : Int32 → (Nat → Int32) → Prop) (x9 : Int32) (c_tb : Nat → Int32) : Prop :=
    R_65 (x9 + (nI 1)) c_tb
def L_X8_fill_65 (n_tb : Nat) (x4 : Int32) (x5 : Int32) (x7 : Int32) (x8 : Int32) (R_9 : Int32 → (Nat → Int32) → Prop) : Nat → Int32 → (Nat → Int32) → Prop
  | 0, _, _ => False
  | n_65 + 1, x9, c_tb =>
    ((x8 ≤ x9 → J_X8_fill_114 R_9 x5 c_tb) ∧ (¬ x8 ≤ x9 → (((x4 + x9) < (nI 0) → J_X8_fill_108 (L_X8_fill_65 n_tb x4 x5 x7 x8 R_9 n_65) x9 c_tb) ∧ (¬ (x4 + x9) < (nI 0) → (((nI n_tb) ≤ ((x4 + x9) + x8) → J_X8_fill_108 (L_X8_fill_65 n_tb x4 x5 x7 x8 R_9 n_65) x9 c_tb) ∧ (¬ (nI n_tb) ≤ ((x4 + x9) + x8) → vp_in (x4 + x9) n_tb ∧ vp_in ((x4 + x9) + x8) n_tb ∧ J_X8_fill_108 (L_X8_fill_65 n_tb x4 x5 x7 x8 R_9 n_65) x9 (upd c_tb (Int32.toNatClampNeg ((x4 + x9) + x8)) ((c_tb (Int32.toNatClampNeg (x4 + x9))) ||| x7))))))))
def J_X8_fill_54 (n_tb : Nat) (x4 : Int32) (R_9 : Int32 → (Nat → Int32) → Prop) (x5 : Int32) (c_tb : Nat → Int32) (t0 : Int32) : Prop :=
    ∃ n, L_X8_fill_65 n_tb x4 x5 t0 ((nI 1) <<< (x5 &&& 31)) R_9 n (nI 0) c_tb
def L_X8_fill_9 (n_tb : Nat) (c_m_states : Int32) (c_m_letters : Int32) (c_m_moves : Nat → Int32) (x2 : Int32) (x3 : Int32) (x4 : Int32) (Q : (Nat → Int32) → Prop) : Nat → Int32 → (Nat → Int32) → Prop
  | 0, _, _ => False
  | n_9 + 1, x5, c_tb =>
    (((nI 6) ≤ x5 → Q c_tb) ∧ (¬ (nI 6) ≤ x5 → wp_X4_hasState c_m_states c_m_letters (x3 + x5) (fun r2 => ((r2 = (nI 0) → Q c_tb) ∧ (¬ r2 = (nI 0) → wp_X4_target c_m_states c_m_letters c_m_moves (x3 + x5) x2 (fun r4 => ((¬ r4 = (-1) → J_X8_fill_54 n_tb x4 (L_X8_fill_9 n_tb c_m_states c_m_letters c_m_moves x2 x3 x4 Q n_9) x5 c_tb ((nI 1) <<< (r4 &&& 31))) ∧ (r4 = (-1) → J_X8_fill_54 n_tb x4 (L_X8_fill_9 n_tb c_m_states c_m_letters c_m_moves x2 x3 x4 Q n_9) x5 c_tb (nI 4096)))))))))
def wp_X8_fill (n_tb : Nat) (c_tb : Nat → Int32) (c_m_states : Int32) (c_m_letters : Int32) (c_m_moves : Nat → Int32) (x2 : Int32) (x3 : Int32) (Q : (Nat → Int32) → Prop) : Prop :=
    ∃ n, L_X8_fill_9 n_tb c_m_states c_m_letters c_m_moves x2 x3 (x2 * (nI 64)) Q n (nI 0) c_tb
abbrev rm_X8_fill : Room := { frames := 1, cells := 0, slots := 0, locals := 23 }
set_option maxHeartbeats 4000000 in
set_option maxRecDepth 100000 in
theorem k_X8_fill (l : Launch) (g : GG) (h_tb : Nat) (h_m : Nat) (h_m_moves : Nat) (h_m_lights : Nat) (h_m_prices : Nat) (h_m_shares : Nat) (n_tb : Nat) {c_tb : Nat → Int32} {c_m_states : Int32} {c_m_letters : Int32} {c_m_moves : Nat → Int32} {x2 : Int32} {x3 : Int32} {Q : (Nat → Int32) → Prop} (h : wp_X8_fill n_tb c_tb c_m_states c_m_letters c_m_moves x2 x3 Q) : CV l g yX8_fill wsX8_fill rm_X8_fill [.ref h_tb, .ref h_m, .int x2, .int x3] (cw_X8_fill g h_tb h_m h_m_moves h_m_lights h_m_prices h_m_shares n_tb c_tb c_m_states c_m_letters c_m_moves) (S := (Nat → Int32)) (fun u => (cw_X8_fill g h_tb h_m h_m_moves h_m_lights h_m_prices h_m_shares n_tb u c_m_states c_m_letters c_m_moves)) (fun u => Q u) 0 0 := by
  refine mk_V (cc := cX8_fill) (maxL := 11) (own := RX8) (by decide) rfl rfl (Nat.le_of_ble_eq_true rfl) ?_
  intro p e s m args below meth c A QQ E hret hP hD hS ls hl
  have E2 := E
  obtain ⟨hx, hb, hr, hml, hown, hts, hlocks, hA, hZ, hK, hnm⟩ := E2
  have hP : va_P g.1 vwCl (cw_X8_fill g h_tb h_m h_m_moves h_m_lights h_m_prices h_m_shares n_tb c_tb c_m_states c_m_letters c_m_moves) s.heap := hP
  have hD : va_D A (cw_X8_fill g h_tb h_m h_m_moves h_m_lights h_m_prices h_m_shares n_tb c_tb c_m_states c_m_letters c_m_moves) := hD
  have hl : lv_has ls 11 [(0, .ref h_tb), (1, .ref h_m), (2, .int x2), (3, .int x3)] := hl
  unfold wp_X8_fill at h
  have K_9 : ∀ (x4 : Int32) (n_9 : Nat) (x5 : Int32) (c_tb : Nat → Int32) , L_X8_fill_9 n_tb c_m_states c_m_letters c_m_moves x2 x3 x4 Q n_9 x5 c_tb → ∀ (H : Heap) (locs : List Loc), va_P g.1 vwCl (cw_X8_fill g h_tb h_m h_m_moves h_m_lights h_m_prices h_m_shares n_tb c_tb c_m_states c_m_letters c_m_moves) H → va_D A (cw_X8_fill g h_tb h_m h_m_moves h_m_lights h_m_prices h_m_shares n_tb c_tb c_m_states c_m_letters c_m_moves) → va_S A s.heap H locs → ∀ ls : Array Slot, lv_has ls 11 [(0, .ref h_tb), (1, .ref h_m), (2, .int x2), (3, .int x3), (4, .int x4), (5, .int x5)] → W p l e rm_X8_fill s m args below meth c H locs 0 0 QQ (F0 m 9 ls []) := by
    intro x4 n_9
    induction n_9 with
    | zero => intro x5 c_tb; exact fun h => False.elim h
    | succ n_9 ih_9 =>
      intro x5 c_tb h H locs hP hD hS ls hl
      unfold L_X8_fill_9 at h
      have K_114 : ∀ (x5 : Int32) (c_tb : Nat → Int32) , J_X8_fill_114 (L_X8_fill_9 n_tb c_m_states c_m_letters c_m_moves x2 x3 x4 Q n_9) x5 c_tb → ∀ (H : Heap) (locs : List Loc), va_P g.1 vwCl (cw_X8_fill g h_tb h_m h_m_moves h_m_lights h_m_prices h_m_shares n_tb c_tb c_m_states c_m_letters c_m_moves) H → va_D A (cw_X8_fill g h_tb h_m h_m_moves h_m_lights h_m_prices h_m_shares n_tb c_tb c_m_states c_m_letters c_m_moves) → va_S A s.heap H locs → ∀ ls : Array Slot, lv_has ls 11 [(0, .ref h_tb), (1, .ref h_m), (2, .int x2), (3, .int x3), (4, .int x4), (5, .int x5)] → W p l e rm_X8_fill s m args below meth c H locs 0 0 QQ (F0 m 114 ls []) := by
        intro x5 c_tb h H locs hP hD hS ls hl
        unfold J_X8_fill_114 at h
        refine lv_iinc (v := (x5 + (nI 1))) (lv' := [(5, .int (x5 + (nI 1))), (0, .ref h_tb), (1, .ref h_m), (2, .int x2), (3, .int x3), (4, .int x4)]) hx hb dX8_fill_114 hl (k := 5) rfl rfl (by decide) rfl (fun ls hl => ?_)
        refine lv_goto (tgt := 9) hx hb dX8_fill_117 (by decide) ?_
        exact ih_9 (x5 + (nI 1)) c_tb h _ _ hP hD hS _ (lv_sub hl [1, 2, 3, 4, 5, 0] rfl)
      have K_65 : ∀ (x5 : Int32) (x7 : Int32) (x8 : Int32) (n_65 : Nat) (x9 : Int32) (c_tb : Nat → Int32) , L_X8_fill_65 n_tb x4 x5 x7 x8 (L_X8_fill_9 n_tb c_m_states c_m_letters c_m_moves x2 x3 x4 Q n_9) n_65 x9 c_tb → ∀ (H : Heap) (locs : List Loc), va_P g.1 vwCl (cw_X8_fill g h_tb h_m h_m_moves h_m_lights h_m_prices h_m_shares n_tb c_tb c_m_states c_m_letters c_m_moves) H → va_D A (cw_X8_fill g h_tb h_m h_m_moves h_m_lights h_m_prices h_m_shares n_tb c_tb c_m_states c_m_letters c_m_moves) → va_S A s.heap H locs → ∀ ls : Array Slot, lv_has ls 11 [(0, .ref h_tb), (1, .ref h_m), (2, .int x2), (3, .int x3), (4, .int x4), (5, .int x5), (7, .int x7), (8, .int x8), (9, .int x9)] → W p l e rm_X8_fill s m args below meth c H locs 0 0 QQ (F0 m 65 ls []) := by
        intro x5 x7 x8 n_65
        induction n_65 with
        | zero => intro x9 c_tb; exact fun h => False.elim h
        | succ n_65 ih_65 =>
          intro x9 c_tb h H locs hP hD hS ls hl
          unfold L_X8_fill_65 at h
          have K_108 : ∀ (x9 : Int32) (c_tb : Nat → Int32) , J_X8_fill_108 (L_X8_fill_65 n_tb x4 x5 x7 x8 (L_X8_fill_9 n_tb c_m_states c_m_letters c_m_moves x2 x3 x4 Q n_9) n_65) x9 c_tb → ∀ (H : Heap) (locs : List Loc), va_P g.1 vwCl (cw_X8_fill g h_tb h_m h_m_moves h_m_lights h_m_prices h_m_shares n_tb c_tb c_m_states c_m_letters c_m_moves) H → va_D A (cw_X8_fill g h_tb h_m h_m_moves h_m_lights h_m_prices h_m_shares n_tb c_tb c_m_states c_m_letters c_m_moves) → va_S A s.heap H locs → ∀ ls : Array Slot, lv_has ls 11 [(0, .ref h_tb), (1, .ref h_m), (2, .int x2), (3, .int x3), (4, .int x4), (5, .int x5), (7, .int x7), (8, .int x8), (9, .int x9)] → W p l e rm_X8_fill s m args below meth c H locs 0 0 QQ (F0 m 108 ls []) := by
            intro x9 c_tb h H locs hP hD hS ls hl
            unfold J_X8_fill_108 at h
            refine lv_iinc (v := (x9 + (nI 1))) (lv' := [(9, .int (x9 + (nI 1))), (0, .ref h_tb), (1, .ref h_m), (2, .int x2), (3, .int x3), (4, .int x4), (5, .int x5), (7, .int x7), (8, .int x8)]) hx hb dX8_fill_108 hl (k := 8) rfl rfl (by decide) rfl (fun ls hl => ?_)
            refine lv_goto (tgt := 65) hx hb dX8_fill_111 (by decide) ?_
            exact ih_65 (x9 + (nI 1)) c_tb h _ _ hP hD hS _ (lv_sub hl [1, 2, 3, 4, 5, 6, 7, 8, 0] rfl)
          refine lv_iload hx hb dX8_fill_65 (lv_at hl 8 rfl) ?_
          refine lv_iload hx hb dX8_fill_67 (lv_at hl 7 rfl) ?_
          refine lv_icmp_ge (tgt := 114) hx hb dX8_fill_69 (by decide) (fun cq => ?_) (fun cq => ?_)
          · replace h := h.1 cq
            exact K_114 x5 c_tb h _ _ hP hD hS _ (lv_sub hl [0, 1, 2, 3, 4, 5] rfl)
          · replace h := h.2 cq
            refine lv_iload hx hb dX8_fill_72 (lv_at hl 4 rfl) ?_
            refine lv_iload hx hb dX8_fill_74 (lv_at hl 8 rfl) ?_
            refine lv_iadd hx hb dX8_fill_76 ?_
            refine lv_istore (lv' := [(10, .int (x4 + x9)), (0, .ref h_tb), (1, .ref h_m), (2, .int x2), (3, .int x3), (4, .int x4), (5, .int x5), (7, .int x7), (8, .int x8), (9, .int x9)]) hx hb dX8_fill_77 hl (by decide) rfl (fun ls hl => ?_)
            refine lv_iload hx hb dX8_fill_79 (lv_at hl 0 rfl) ?_
            refine lv_if_lt (tgt := 108) hx hb dX8_fill_81 (by decide) (fun cq => ?_) (fun cq => ?_)
            · replace h := h.1 cq
              exact K_108 x9 c_tb h _ _ hP hD hS _ (lv_sub hl [1, 2, 3, 4, 5, 6, 7, 8, 9] rfl)
            · replace h := h.2 cq
              refine lv_iload hx hb dX8_fill_84 (lv_at hl 0 rfl) ?_
              refine lv_iload hx hb dX8_fill_86 (lv_at hl 8 rfl) ?_
              refine lv_iadd hx hb dX8_fill_88 ?_
              refine lv_aload_n hx hb dX8_fill_89 rfl (lv_at hl 1 rfl) ?_
              refine va_alen (D := g.1) (v := (nI n_tb)) hx hb hK hP 0 0 rfl rfl rfl dX8_fill_90 ?_
              refine lv_icmp_ge (tgt := 108) hx hb dX8_fill_91 (by decide) (fun cq => ?_) (fun cq => ?_)
              · replace h := h.1 cq
                exact K_108 x9 c_tb h _ _ hP hD hS _ (lv_sub hl [1, 2, 3, 4, 5, 6, 7, 8, 9] rfl)
              · replace h := h.2 cq
                refine lv_aload_n hx hb dX8_fill_94 rfl (lv_at hl 1 rfl) ?_
                refine lv_iload hx hb dX8_fill_95 (lv_at hl 0 rfl) ?_
                refine lv_iload hx hb dX8_fill_97 (lv_at hl 8 rfl) ?_
                refine lv_iadd hx hb dX8_fill_99 ?_
                refine lv_aload_n hx hb dX8_fill_100 rfl (lv_at hl 1 rfl) ?_
                refine lv_iload hx hb dX8_fill_101 (lv_at hl 0 rfl) ?_
                obtain ⟨hi, h⟩ := h
                refine va_iald (D := g.1) (n := n_tb) (f := c_tb) hx hb hK hP 0 0 rfl rfl hi dX8_fill_103 ?_
                refine lv_iload hx hb dX8_fill_104 (lv_at hl 7 rfl) ?_
                refine lv_ior hx hb dX8_fill_106 ?_
                obtain ⟨hi, h⟩ := h
                refine va_iast (D := g.1) (n := n_tb) (f := c_tb) hx hb hK hP hD hS 0 0 rfl rfl hi dX8_fill_107 (fun H locs hP hD hS => ?_)
                have hP : va_P g.1 vwCl (cw_X8_fill g h_tb h_m h_m_moves h_m_lights h_m_prices h_m_shares n_tb (upd c_tb (Int32.toNatClampNeg ((x4 + x9) + x8)) ((c_tb (Int32.toNatClampNeg (x4 + x9))) ||| x7)) c_m_states c_m_letters c_m_moves) H := hP
                have hD : va_D A (cw_X8_fill g h_tb h_m h_m_moves h_m_lights h_m_prices h_m_shares n_tb (upd c_tb (Int32.toNatClampNeg ((x4 + x9) + x8)) ((c_tb (Int32.toNatClampNeg (x4 + x9))) ||| x7)) c_m_states c_m_letters c_m_moves) := hD
                exact K_108 x9 (upd c_tb (Int32.toNatClampNeg ((x4 + x9) + x8)) ((c_tb (Int32.toNatClampNeg (x4 + x9))) ||| x7)) h _ _ hP hD hS _ (lv_sub hl [1, 2, 3, 4, 5, 6, 7, 8, 9] rfl)
      have K_54 : ∀ (x5 : Int32) (c_tb : Nat → Int32) (t0 : Int32) , J_X8_fill_54 n_tb x4 (L_X8_fill_9 n_tb c_m_states c_m_letters c_m_moves x2 x3 x4 Q n_9) x5 c_tb t0 → ∀ (H : Heap) (locs : List Loc), va_P g.1 vwCl (cw_X8_fill g h_tb h_m h_m_moves h_m_lights h_m_prices h_m_shares n_tb c_tb c_m_states c_m_letters c_m_moves) H → va_D A (cw_X8_fill g h_tb h_m h_m_moves h_m_lights h_m_prices h_m_shares n_tb c_tb c_m_states c_m_letters c_m_moves) → va_S A s.heap H locs → ∀ ls : Array Slot, lv_has ls 11 [(0, .ref h_tb), (1, .ref h_m), (2, .int x2), (3, .int x3), (4, .int x4), (5, .int x5)] → W p l e rm_X8_fill s m args below meth c H locs 0 0 QQ (F0 m 54 ls [.int t0]) := by
        intro x5 c_tb t0 h H locs hP hD hS ls hl
        unfold J_X8_fill_54 at h
        refine lv_istore (lv' := [(7, .int t0), (0, .ref h_tb), (1, .ref h_m), (2, .int x2), (3, .int x3), (4, .int x4), (5, .int x5)]) hx hb dX8_fill_54 hl (by decide) rfl (fun ls hl => ?_)
        refine lv_iconst (v := (nI 1)) hx hb dX8_fill_56 (by decide) ?_
        refine lv_iload hx hb dX8_fill_57 (lv_at hl 6 rfl) ?_
        refine lv_ishl hx hb dX8_fill_59 ?_
        refine lv_istore (lv' := [(8, .int ((nI 1) <<< (x5 &&& 31))), (7, .int t0), (0, .ref h_tb), (1, .ref h_m), (2, .int x2), (3, .int x3), (4, .int x4), (5, .int x5)]) hx hb dX8_fill_60 hl (by decide) rfl (fun ls hl => ?_)
        refine lv_iconst (v := (nI 0)) hx hb dX8_fill_62 (by decide) ?_
        refine lv_istore (lv' := [(9, .int (nI 0)), (8, .int ((nI 1) <<< (x5 &&& 31))), (7, .int t0), (0, .ref h_tb), (1, .ref h_m), (2, .int x2), (3, .int x3), (4, .int x4), (5, .int x5)]) hx hb dX8_fill_63 hl (by decide) rfl (fun ls hl => ?_)
        obtain ⟨n, h⟩ := h
        exact K_65 x5 t0 ((nI 1) <<< (x5 &&& 31)) n (nI 0) c_tb h _ _ hP hD hS _ (lv_sub hl [3, 4, 5, 6, 7, 8, 2, 1, 0] rfl)
      refine lv_iload hx hb dX8_fill_9 (lv_at hl 5 rfl) ?_
      refine lv_bipush (v := (nI 6)) hx hb dX8_fill_11 (by decide) ?_
      refine lv_icmp_ge (tgt := 120) hx hb dX8_fill_13 (by decide) (fun cq => ?_) (fun cq => ?_)
      · replace h := h.1 cq
        exact hret c_tb _ _ _ _ h hP hD hS dX8_fill_120
      · replace h := h.2 cq
        refine lv_aload_n hx hb dX8_fill_16 rfl (lv_at hl 1 rfl) ?_
        refine lv_iload_n hx hb dX8_fill_17 rfl (lv_at hl 3 rfl) ?_
        refine lv_iload hx hb dX8_fill_18 (lv_at hl 5 rfl) ?_
        refine lv_iadd hx hb dX8_fill_20 ?_
        refine go_I E (run_V E ((k_X4_hasState l g h_m h_m_moves h_m_lights h_m_prices h_m_shares h) _) (cwV 1 hts gX8_fill_X4_hasState rfl rfl rfl (by decide +kernel) ⟨Nat.le_of_ble_eq_true rfl, Nat.le_of_ble_eq_true rfl⟩) hP hD hS [1] rfl rfl 0 3 rfl rfl rfl hl rfl rfl (Nat.le_of_ble_eq_true rfl) dX8_fill_21 ⟨Nat.le_of_ble_eq_true rfl, Nat.le_of_ble_eq_true rfl⟩) hP hD hS [1] rfl [(true, 0), (false, 0), (true, 2)] rfl (by decide) (fun _ => (cw_X8_fill g h_tb h_m h_m_moves h_m_lights h_m_prices h_m_shares n_tb c_tb c_m_states c_m_letters c_m_moves)) (fun _ => rfl) (fun r2 _ H locs h hP hD hS => ?_)
        try dsimp only at h
        have hP : va_P g.1 vwCl (cw_X8_fill g h_tb h_m h_m_moves h_m_lights h_m_prices h_m_shares n_tb c_tb c_m_states c_m_letters c_m_moves) H := hP
        have hD : va_D A (cw_X8_fill g h_tb h_m h_m_moves h_m_lights h_m_prices h_m_shares n_tb c_tb c_m_states c_m_letters c_m_moves) := hD
        refine lv_if_eq (tgt := 120) hx hb dX8_fill_24 (by decide) (fun cq => ?_) (fun cq => ?_)
        · replace h := h.1 cq
          exact hret c_tb _ _ _ _ h hP hD hS dX8_fill_120
        · replace h := h.2 cq
          refine lv_aload_n hx hb dX8_fill_27 rfl (lv_at hl 1 rfl) ?_
          refine lv_iload_n hx hb dX8_fill_28 rfl (lv_at hl 3 rfl) ?_
          refine lv_iload hx hb dX8_fill_29 (lv_at hl 5 rfl) ?_
          refine lv_iadd hx hb dX8_fill_31 ?_
          refine lv_iload_n hx hb dX8_fill_32 rfl (lv_at hl 2 rfl) ?_
          refine go_I E (run_V E ((k_X4_target l g h_m h_m_moves h_m_lights h_m_prices h_m_shares h) _) (cwV 2 hts gX8_fill_X4_target rfl rfl rfl (by decide +kernel) ⟨Nat.le_of_ble_eq_true rfl, Nat.le_of_ble_eq_true rfl⟩) hP hD hS [1, 2] rfl rfl 0 3 rfl rfl rfl hl rfl rfl (Nat.le_of_ble_eq_true rfl) dX8_fill_33 ⟨Nat.le_of_ble_eq_true rfl, Nat.le_of_ble_eq_true rfl⟩) hP hD hS [1, 2] rfl [(true, 0), (false, 0), (false, 1)] rfl (by decide) (fun _ => (cw_X8_fill g h_tb h_m h_m_moves h_m_lights h_m_prices h_m_shares n_tb c_tb c_m_states c_m_letters c_m_moves)) (fun _ => rfl) (fun r4 _ H locs h hP hD hS => ?_)
          try dsimp only at h
          have hP : va_P g.1 vwCl (cw_X8_fill g h_tb h_m h_m_moves h_m_lights h_m_prices h_m_shares n_tb c_tb c_m_states c_m_letters c_m_moves) H := hP
          have hD : va_D A (cw_X8_fill g h_tb h_m h_m_moves h_m_lights h_m_prices h_m_shares n_tb c_tb c_m_states c_m_letters c_m_moves) := hD
          refine lv_istore (lv' := [(6, .int r4), (0, .ref h_tb), (1, .ref h_m), (2, .int x2), (3, .int x3), (4, .int x4), (5, .int x5)]) hx hb dX8_fill_36 hl (by decide) rfl (fun ls hl => ?_)
          refine lv_iload hx hb dX8_fill_38 (lv_at hl 0 rfl) ?_
          refine lv_iconst (v := (-1)) hx hb dX8_fill_40 (by decide) ?_
          refine lv_icmp_ne (tgt := 50) hx hb dX8_fill_41 (by decide) (fun cq => ?_) (fun cq => ?_)
          · replace h := h.1 cq
            refine lv_iconst (v := (nI 1)) hx hb dX8_fill_50 (by decide) ?_
            refine lv_iload hx hb dX8_fill_51 (lv_at hl 0 rfl) ?_
            refine lv_ishl hx hb dX8_fill_53 ?_
            exact K_54 x5 c_tb ((nI 1) <<< (r4 &&& 31)) h _ _ hP hD hS _ (lv_sub hl [1, 2, 3, 4, 5, 6] rfl)
          · replace h := h.2 cq
            refine lv_sipush (v := (nI 4096)) hx hb dX8_fill_44 (by decide) ?_
            refine lv_goto (tgt := 54) hx hb dX8_fill_47 (by decide) ?_
            exact K_54 x5 c_tb (nI 4096) h _ _ hP hD hS _ (lv_sub hl [1, 2, 3, 4, 5, 6] rfl)
  refine lv_iload_n hx hb dX8_fill_0 rfl (lv_at hl 2 rfl) ?_
  refine lv_bipush (v := (nI 64)) hx hb dX8_fill_1 (by decide) ?_
  refine lv_imul hx hb dX8_fill_3 ?_
  refine lv_istore (lv' := [(4, .int (x2 * (nI 64))), (0, .ref h_tb), (1, .ref h_m), (2, .int x2), (3, .int x3)]) hx hb dX8_fill_4 hl (by decide) rfl (fun ls hl => ?_)
  refine lv_iconst (v := (nI 0)) hx hb dX8_fill_6 (by decide) ?_
  refine lv_istore (lv' := [(5, .int (nI 0)), (4, .int (x2 * (nI 64))), (0, .ref h_tb), (1, .ref h_m), (2, .int x2), (3, .int x3)]) hx hb dX8_fill_7 hl (by decide) rfl (fun ls hl => ?_)
  obtain ⟨n, h⟩ := h
  exact K_9 (x2 * (nI 64)) n (nI 0) c_tb h _ _ hP hD hS _ (lv_sub hl [2, 3, 4, 5, 1, 0] rfl)
abbrev cw_X8_load (g : GG) (h_this : Nat) (h_m : Nat) (h_this_low : Nat) (h_this_high : Nat) (h_m_moves : Nat) (h_m_lights : Nat) (h_m_prices : Nat) (h_m_shares : Nat) (c_letters : Int32) (c_low : Nat → Int32) (c_high : Nat → Int32) (c_m_states : Int32) (c_m_letters : Int32) (c_m_moves : Nat → Int32) : va_W := [(h_this, .inr (7, [.ref h_this_low, .ref h_this_high, .int c_letters])), (h_this_low, .inl (g.2.1, 256, .inl c_low)), (h_this_high, .inl (g.2.1, 256, .inl c_high)), (h_m, .inr (3, [.int c_m_states, .int c_m_letters, .ref h_m_moves, .ref h_m_lights, .ref h_m_prices, .ref h_m_shares])), (h_m_moves, .inl (g.2.1, 48, .inl c_m_moves))]
def L_X8_load_10 (c_letters : Int32) (c_m_states : Int32) (c_m_letters : Int32) (c_m_moves : Nat → Int32) (Q : Int32 → (Nat → Int32) → (Nat → Int32) → Prop) : Nat → Int32 → (Nat → Int32) → (Nat → Int32) → Prop
  | 0, _, _, _ => False
  | n_10 + 1, x2, c_low, c_high =>
    ((c_letters ≤ x2 → Q c_letters c_low c_high) ∧ (¬ c_letters ≤ x2 → wp_X8_fill 256 c_low c_m_states c_m_letters c_m_moves x2 (nI 0) (fun c_low => wp_X8_fill 256 c_high c_m_states c_m_letters c_m_moves x2 (nI 6) (fun c_high => (L_X8_load_10 c_letters c_m_states c_m_letters c_m_moves Q n_10) (x2 + (nI 1)) c_low c_high))))
def wp_X8_load (c_letters : Int32) (c_low : Nat → Int32) (c_high : Nat → Int32) (c_m_states : Int32) (c_m_letters : Int32) (c_m_moves : Nat → Int32) (Q : Int32 → (Nat → Int32) → (Nat → Int32) → Prop) : Prop :=
    ∃ n, L_X8_load_10 c_m_letters c_m_states c_m_letters c_m_moves Q n (nI 0) c_low c_high
abbrev rm_X8_load : Room := { frames := 2, cells := 0, slots := 0, locals := 53 }
set_option maxHeartbeats 4000000 in
set_option maxRecDepth 100000 in
theorem k_X8_load (l : Launch) (g : GG) (h_this : Nat) (h_m : Nat) (h_this_low : Nat) (h_this_high : Nat) (h_m_moves : Nat) (h_m_lights : Nat) (h_m_prices : Nat) (h_m_shares : Nat) {c_letters : Int32} {c_low : Nat → Int32} {c_high : Nat → Int32} {c_m_states : Int32} {c_m_letters : Int32} {c_m_moves : Nat → Int32} {Q : Int32 → (Nat → Int32) → (Nat → Int32) → Prop} (h : wp_X8_load c_letters c_low c_high c_m_states c_m_letters c_m_moves Q) : CV l g yX8_load wsX8_load rm_X8_load [.ref h_this, .ref h_m] (cw_X8_load g h_this h_m h_this_low h_this_high h_m_moves h_m_lights h_m_prices h_m_shares c_letters c_low c_high c_m_states c_m_letters c_m_moves) (S := Int32 × (Nat → Int32) × (Nat → Int32)) (fun u => (cw_X8_load g h_this h_m h_this_low h_this_high h_m_moves h_m_lights h_m_prices h_m_shares u.1 u.2.1 u.2.2 c_m_states c_m_letters c_m_moves)) (fun u => Q u.1 u.2.1 u.2.2) 0 0 := by
  refine mk_V (cc := cX8_load) (maxL := 3) (own := RX8) (by decide) rfl rfl (Nat.le_of_ble_eq_true rfl) ?_
  intro p e s m args below meth c A QQ E hret hP hD hS ls hl
  have E2 := E
  obtain ⟨hx, hb, hr, hml, hown, hts, hlocks, hA, hZ, hK, hnm⟩ := E2
  have f24 := hts (.fieldLink RX8 24 "WordBench$Steps" "letters" "I") (by decide +kernel)
  have f11 := hts (.fieldLink RX8 11 "WordBench$Steps" "low" "[I") (by decide +kernel)
  have f15 := hts (.fieldLink RX8 15 "WordBench$Steps" "high" "[I") (by decide +kernel)
  have iX8 : ∀ w ∈ wsX80, w ∈ wsX8_load := fun _ h => List.mem_cons_of_mem _ (List.mem_append_left _ (List.mem_append_right _ h))
  have hP : va_P g.1 vwCl (cw_X8_load g h_this h_m h_this_low h_this_high h_m_moves h_m_lights h_m_prices h_m_shares c_letters c_low c_high c_m_states c_m_letters c_m_moves) s.heap := hP
  have hD : va_D A (cw_X8_load g h_this h_m h_this_low h_this_high h_m_moves h_m_lights h_m_prices h_m_shares c_letters c_low c_high c_m_states c_m_letters c_m_moves) := hD
  have hl : lv_has ls 3 [(0, .ref h_this), (1, .ref h_m)] := hl
  unfold wp_X8_load at h
  have K_10 : ∀ (c_letters : Int32) (n_10 : Nat) (x2 : Int32) (c_low : Nat → Int32) (c_high : Nat → Int32) , L_X8_load_10 c_letters c_m_states c_m_letters c_m_moves Q n_10 x2 c_low c_high → ∀ (H : Heap) (locs : List Loc), va_P g.1 vwCl (cw_X8_load g h_this h_m h_this_low h_this_high h_m_moves h_m_lights h_m_prices h_m_shares c_letters c_low c_high c_m_states c_m_letters c_m_moves) H → va_D A (cw_X8_load g h_this h_m h_this_low h_this_high h_m_moves h_m_lights h_m_prices h_m_shares c_letters c_low c_high c_m_states c_m_letters c_m_moves) → va_S A s.heap H locs → ∀ ls : Array Slot, lv_has ls 3 [(0, .ref h_this), (1, .ref h_m), (2, .int x2)] → W p l e rm_X8_load s m args below meth c H locs 0 0 QQ (F0 m 10 ls []) := by
    intro c_letters n_10
    induction n_10 with
    | zero => intro x2 c_low c_high; exact fun h => False.elim h
    | succ n_10 ih_10 =>
      intro x2 c_low c_high h H locs hP hD hS ls hl
      unfold L_X8_load_10 at h
      refine lv_iload_n hx hb dX8_load_10 rfl (lv_at hl 2 rfl) ?_
      refine lv_aload_n hx hb dX8_load_11 rfl (lv_at hl 0 rfl) ?_
      refine va_get (D := g.1) (ci := 7) (v := .int c_letters) (C := RX8) (T := TX8) (N := 3) hx hb hts iX8 hown hK hP 0 rfl rfl 2 (by decide) f24 (fun _ h9 => h9) rfl dX8_load_12 ?_
      refine lv_icmp_ge (tgt := 45) hx hb dX8_load_15 (by decide) (fun cq => ?_) (fun cq => ?_)
      · replace h := h.1 cq
        exact hret (c_letters, c_low, c_high) _ _ _ _ h hP hD hS dX8_load_45
      · replace h := h.2 cq
        refine lv_aload_n hx hb dX8_load_18 rfl (lv_at hl 0 rfl) ?_
        refine va_get (D := g.1) (ci := 7) (v := .ref h_this_low) (C := RX8) (T := TX8) (N := 3) hx hb hts iX8 hown hK hP 0 rfl rfl 0 (by decide) f11 (fun _ h9 => h9) rfl dX8_load_19 ?_
        refine lv_aload_n hx hb dX8_load_22 rfl (lv_at hl 1 rfl) ?_
        refine lv_iload_n hx hb dX8_load_23 rfl (lv_at hl 2 rfl) ?_
        refine lv_iconst (v := (nI 0)) hx hb dX8_load_24 (by decide) ?_
        refine go_V E (run_S E ((k_X8_fill l g h_this_low h_m h_m_moves h_m_lights h_m_prices h_m_shares 256 h) _) (va_cwS 4 hts gX8_load_X8_fill rfl rfl rfl (by decide +kernel) ⟨Nat.le_of_ble_eq_true rfl, Nat.le_of_ble_eq_true rfl⟩) hP hD hS [1, 3, 4] rfl rfl hl rfl rfl (Nat.le_of_ble_eq_true rfl) dX8_load_25 ⟨Nat.le_of_ble_eq_true rfl, Nat.le_of_ble_eq_true rfl⟩) hP hD hS [1, 3, 4] rfl [(true, 0), (false, 0), (true, 2), (false, 1), (false, 2)] rfl (by decide) (fun u => (cw_X8_load g h_this h_m h_this_low h_this_high h_m_moves h_m_lights h_m_prices h_m_shares c_letters u c_high c_m_states c_m_letters c_m_moves)) (fun _ => rfl) (fun c_low H locs h hP hD hS => ?_)
        try dsimp only at h
        have hP : va_P g.1 vwCl (cw_X8_load g h_this h_m h_this_low h_this_high h_m_moves h_m_lights h_m_prices h_m_shares c_letters c_low c_high c_m_states c_m_letters c_m_moves) H := hP
        have hD : va_D A (cw_X8_load g h_this h_m h_this_low h_this_high h_m_moves h_m_lights h_m_prices h_m_shares c_letters c_low c_high c_m_states c_m_letters c_m_moves) := hD
        refine lv_aload_n hx hb dX8_load_28 rfl (lv_at hl 0 rfl) ?_
        refine va_get (D := g.1) (ci := 7) (v := .ref h_this_high) (C := RX8) (T := TX8) (N := 3) hx hb hts iX8 hown hK hP 0 rfl rfl 1 (by decide) f15 (fun _ h9 => h9) rfl dX8_load_29 ?_
        refine lv_aload_n hx hb dX8_load_32 rfl (lv_at hl 1 rfl) ?_
        refine lv_iload_n hx hb dX8_load_33 rfl (lv_at hl 2 rfl) ?_
        refine lv_bipush (v := (nI 6)) hx hb dX8_load_34 (by decide) ?_
        refine go_V E (run_S E ((k_X8_fill l g h_this_high h_m h_m_moves h_m_lights h_m_prices h_m_shares 256 h) _) (va_cwS 4 hts gX8_load_X8_fill rfl rfl rfl (by decide +kernel) ⟨Nat.le_of_ble_eq_true rfl, Nat.le_of_ble_eq_true rfl⟩) hP hD hS [2, 3, 4] rfl rfl hl rfl rfl (Nat.le_of_ble_eq_true rfl) dX8_load_36 ⟨Nat.le_of_ble_eq_true rfl, Nat.le_of_ble_eq_true rfl⟩) hP hD hS [2, 3, 4] rfl [(true, 0), (true, 1), (false, 0), (false, 1), (false, 2)] rfl (by decide) (fun u => (cw_X8_load g h_this h_m h_this_low h_this_high h_m_moves h_m_lights h_m_prices h_m_shares c_letters c_low u c_m_states c_m_letters c_m_moves)) (fun _ => rfl) (fun c_high H locs h hP hD hS => ?_)
        try dsimp only at h
        have hP : va_P g.1 vwCl (cw_X8_load g h_this h_m h_this_low h_this_high h_m_moves h_m_lights h_m_prices h_m_shares c_letters c_low c_high c_m_states c_m_letters c_m_moves) H := hP
        have hD : va_D A (cw_X8_load g h_this h_m h_this_low h_this_high h_m_moves h_m_lights h_m_prices h_m_shares c_letters c_low c_high c_m_states c_m_letters c_m_moves) := hD
        refine lv_iinc (v := (x2 + (nI 1))) (lv' := [(2, .int (x2 + (nI 1))), (0, .ref h_this), (1, .ref h_m)]) hx hb dX8_load_39 hl (k := 2) rfl rfl (by decide) rfl (fun ls hl => ?_)
        refine lv_goto (tgt := 10) hx hb dX8_load_42 (by decide) ?_
        exact ih_10 (x2 + (nI 1)) c_low c_high h _ _ hP hD hS _ (lv_sub hl [1, 2, 0] rfl)
  refine lv_aload_n hx hb dX8_load_0 rfl (lv_at hl 0 rfl) ?_
  refine lv_aload_n hx hb dX8_load_1 rfl (lv_at hl 1 rfl) ?_
  refine go_I E (run_V E ((k_X4_letters l g h_m h_m_moves h_m_lights h_m_prices h_m_shares (Q := fun r => r = c_m_letters) rfl) _) (cwV 0 hts gX8_load_X4_letters rfl rfl rfl (by decide +kernel) ⟨Nat.le_of_ble_eq_true rfl, Nat.le_of_ble_eq_true rfl⟩) hP hD hS [3] rfl rfl 0 3 rfl rfl rfl hl rfl rfl (Nat.le_of_ble_eq_true rfl) dX8_load_2 ⟨Nat.le_of_ble_eq_true rfl, Nat.le_of_ble_eq_true rfl⟩) hP hD hS [3] rfl [(true, 0), (true, 1), (true, 2), (false, 0), (true, 4)] rfl (by decide) (fun _ => (cw_X8_load g h_this h_m h_this_low h_this_high h_m_moves h_m_lights h_m_prices h_m_shares c_letters c_low c_high c_m_states c_m_letters c_m_moves)) (fun _ => rfl) (fun r2 _ H locs hr_ hP hD hS => ?_)
  have hr_ : c_m_letters = r2 := Eq.symm hr_
  subst hr_
  have hP : va_P g.1 vwCl (cw_X8_load g h_this h_m h_this_low h_this_high h_m_moves h_m_lights h_m_prices h_m_shares c_letters c_low c_high c_m_states c_m_letters c_m_moves) H := hP
  have hD : va_D A (cw_X8_load g h_this h_m h_this_low h_this_high h_m_moves h_m_lights h_m_prices h_m_shares c_letters c_low c_high c_m_states c_m_letters c_m_moves) := hD
  refine va_put (D := g.1) (ci := 7) (v := .int c_m_letters) (ty := .int) (C := RX8) (T := TX8) (N := 3) hx hb hts iX8 tyX8 tyX8_ok nmX8 hown hK hP hD hS 0 rfl rfl 2 (by decide) f24 (fun _ h9 => h9) rfl (by decide +kernel) rfl rfl (Nat.le_of_ble_eq_true rfl) dX8_load_5 (fun H locs hP hD hS => ?_)
  have hP : va_P g.1 vwCl (cw_X8_load g h_this h_m h_this_low h_this_high h_m_moves h_m_lights h_m_prices h_m_shares c_m_letters c_low c_high c_m_states c_m_letters c_m_moves) H := hP
  have hD : va_D A (cw_X8_load g h_this h_m h_this_low h_this_high h_m_moves h_m_lights h_m_prices h_m_shares c_m_letters c_low c_high c_m_states c_m_letters c_m_moves) := hD
  refine lv_iconst (v := (nI 0)) hx hb dX8_load_8 (by decide) ?_
  refine lv_istore_n (lv' := [(2, .int (nI 0)), (0, .ref h_this), (1, .ref h_m)]) hx hb dX8_load_9 rfl hl (by decide) rfl (fun ls hl => ?_)
  obtain ⟨n, h⟩ := h
  exact K_10 c_m_letters n (nI 0) c_low c_high h _ _ hP hD hS _ (lv_sub hl [1, 2, 0] rfl)
abbrev cw_X9_begin (g : GG) (h_this : Nat) (h_this_from : Nat) (c_from : Nat → Int32) : va_W := [(h_this, .inr (8, [.ref h_this_from])), (h_this_from, .inl (g.2.1, 4096, .inl c_from))]
def wp_X9_begin (c_from : Nat → Int32) (x1 : Int32) (Q : (Nat → Int32) → Prop) : Prop :=
    wp_J7_fill_53178 4096 c_from (nI 0) (fun c_from => ((x1 ≤ (nI 0) → Q c_from) ∧ (¬ x1 ≤ (nI 0) → (((nI 4096) ≤ x1 → Q c_from) ∧ (¬ (nI 4096) ≤ x1 → vp_in x1 4096 ∧ Q (upd c_from (Int32.toNatClampNeg x1) (nI 1)))))))
abbrev rm_X9_begin : Room := { frames := 1, cells := 0, slots := 0, locals := 23 }
set_option maxHeartbeats 4000000 in
set_option maxRecDepth 100000 in
theorem k_X9_begin (l : Launch) (g : GG) (h_this : Nat) (h_this_from : Nat) {c_from : Nat → Int32} {x1 : Int32} {Q : (Nat → Int32) → Prop} (h : wp_X9_begin c_from x1 Q) : CV l g yX9_begin wsX9_begin rm_X9_begin [.ref h_this, .int x1] (cw_X9_begin g h_this h_this_from c_from) (S := (Nat → Int32)) (fun u => (cw_X9_begin g h_this h_this_from u)) (fun u => Q u) 0 0 := by
  refine mk_V (cc := cX9_begin) (maxL := 2) (own := RX9) (by decide) rfl rfl (Nat.le_of_ble_eq_true rfl) ?_
  intro p e s m args below meth c A QQ E hret hP hD hS ls hl
  have E2 := E
  obtain ⟨hx, hb, hr, hml, hown, hts, hlocks, hA, hZ, hK, hnm⟩ := E2
  have f9 := hts (.fieldLink RX9 9 "WordBench$Trail" "from" "[I") (by decide +kernel)
  have iX9 : ∀ w ∈ wsX90, w ∈ wsX9_begin := fun _ h => List.mem_cons_of_mem _ (List.mem_append_right _ h)
  have hP : va_P g.1 vwCl (cw_X9_begin g h_this h_this_from c_from) s.heap := hP
  have hD : va_D A (cw_X9_begin g h_this h_this_from c_from) := hD
  have hl : lv_has ls 2 [(0, .ref h_this), (1, .int x1)] := hl
  unfold wp_X9_begin at h
  refine lv_aload_n hx hb dX9_begin_0 rfl (lv_at hl 0 rfl) ?_
  refine va_get (D := g.1) (ci := 8) (v := .ref h_this_from) (C := RX9) (T := TX9) (N := 1) hx hb hts iX9 hown hK hP 0 rfl rfl 0 (by decide) f9 (fun _ h9 => h9) rfl dX9_begin_1 ?_
  refine lv_iconst (v := (nI 0)) hx hb dX9_begin_4 (by decide) ?_
  refine go_V E (run_S E ((k_J7_fill_53178 l g h_this_from 4096 h) _) (va_cwS 2 hts gX9_begin_J7_fill_53178 rfl rfl rfl (by decide +kernel) ⟨Nat.le_of_ble_eq_true rfl, Nat.le_of_ble_eq_true rfl⟩) hP hD hS [1] rfl rfl hl rfl rfl (Nat.le_of_ble_eq_true rfl) dX9_begin_5 ⟨Nat.le_of_ble_eq_true rfl, Nat.le_of_ble_eq_true rfl⟩) hP hD hS [1] rfl [(true, 0), (false, 0)] rfl (by decide) (fun u => (cw_X9_begin g h_this h_this_from u)) (fun _ => rfl) (fun c_from H locs h hP hD hS => ?_)
  try dsimp only at h
  have hP : va_P g.1 vwCl (cw_X9_begin g h_this h_this_from c_from) H := hP
  have hD : va_D A (cw_X9_begin g h_this h_this_from c_from) := hD
  refine lv_iload_n hx hb dX9_begin_8 rfl (lv_at hl 1 rfl) ?_
  refine lv_if_le (tgt := 26) hx hb dX9_begin_9 (by decide) (fun cq => ?_) (fun cq => ?_)
  · replace h := h.1 cq
    exact hret c_from _ _ _ _ h hP hD hS dX9_begin_26
  · replace h := h.2 cq
    refine lv_iload_n hx hb dX9_begin_12 rfl (lv_at hl 1 rfl) ?_
    refine lv_sipush (v := (nI 4096)) hx hb dX9_begin_13 (by decide) ?_
    refine lv_icmp_ge (tgt := 26) hx hb dX9_begin_16 (by decide) (fun cq => ?_) (fun cq => ?_)
    · replace h := h.1 cq
      exact hret c_from _ _ _ _ h hP hD hS dX9_begin_26
    · replace h := h.2 cq
      refine lv_aload_n hx hb dX9_begin_19 rfl (lv_at hl 0 rfl) ?_
      refine va_get (D := g.1) (ci := 8) (v := .ref h_this_from) (C := RX9) (T := TX9) (N := 1) hx hb hts iX9 hown hK hP 0 rfl rfl 0 (by decide) f9 (fun _ h9 => h9) rfl dX9_begin_20 ?_
      refine lv_iload_n hx hb dX9_begin_23 rfl (lv_at hl 1 rfl) ?_
      refine lv_iconst (v := (nI 1)) hx hb dX9_begin_24 (by decide) ?_
      obtain ⟨hi, h⟩ := h
      refine va_iast (D := g.1) (n := 4096) (f := c_from) hx hb hK hP hD hS 1 0 rfl rfl hi dX9_begin_25 (fun H locs hP hD hS => ?_)
      have hP : va_P g.1 vwCl (cw_X9_begin g h_this h_this_from (upd c_from (Int32.toNatClampNeg x1) (nI 1))) H := hP
      have hD : va_D A (cw_X9_begin g h_this h_this_from (upd c_from (Int32.toNatClampNeg x1) (nI 1))) := hD
      exact hret (upd c_from (Int32.toNatClampNeg x1) (nI 1)) _ _ _ _ h hP hD hS dX9_begin_26
abbrev cw_X7_isOne (g : GG) : va_W := []
def wp_X7_isOne (x0 : Int32) (Q : Int32 → Prop) : Prop :=
    ((x0 ≤ (nI 0) → Q (nI 0)) ∧ (¬ x0 ≤ (nI 0) → ((¬ (x0 &&& (x0 - (nI 1))) = (nI 0) → Q (nI 0)) ∧ ((x0 &&& (x0 - (nI 1))) = (nI 0) → Q (nI 1)))))
abbrev rm_X7_isOne : Room := { frames := 0, cells := 0, slots := 0, locals := 0 }
set_option maxHeartbeats 4000000 in
set_option maxRecDepth 100000 in
theorem k_X7_isOne (l : Launch) (g : GG) {x0 : Int32} {Q : Int32 → Prop} (h : wp_X7_isOne x0 Q) : CI l g yX7_isOne wsX7_isOne rm_X7_isOne [.int x0] (cw_X7_isOne g) (S := Unit) (fun _ => (cw_X7_isOne g)) (fun r _ => Q r) 0 0 := by
  refine mk_I (cc := cX7_isOne) (maxL := 1) (own := RX7) (by decide) rfl rfl (Nat.le_of_ble_eq_true rfl) ?_
  intro p e s m args below meth c A QQ E hret hP hD hS ls hl
  have E2 := E
  obtain ⟨hx, hb, hr, hml, hown, hts, hlocks, hA, hZ, hK, hnm⟩ := E2
  have hP : va_P g.1 vwCl (cw_X7_isOne g) s.heap := hP
  have hD : va_D A (cw_X7_isOne g) := hD
  have hl : lv_has ls 1 [(0, .int x0)] := hl
  unfold wp_X7_isOne at h
  refine lv_iload_n hx hb dX7_isOne_0 rfl (lv_at hl 0 rfl) ?_
  refine lv_if_le (tgt := 16) hx hb dX7_isOne_1 (by decide) (fun cq => ?_) (fun cq => ?_)
  · replace h := h.1 cq
    refine lv_iconst (v := (nI 0)) hx hb dX7_isOne_16 (by decide) ?_
    exact hret (nI 0) () _ _ _ _ nbz h hP hD hS dX7_isOne_17
  · replace h := h.2 cq
    refine lv_iload_n hx hb dX7_isOne_4 rfl (lv_at hl 0 rfl) ?_
    refine lv_iload_n hx hb dX7_isOne_5 rfl (lv_at hl 0 rfl) ?_
    refine lv_iconst (v := (nI 1)) hx hb dX7_isOne_6 (by decide) ?_
    refine lv_isub hx hb dX7_isOne_7 ?_
    refine lv_iand hx hb dX7_isOne_8 ?_
    refine lv_if_ne (tgt := 16) hx hb dX7_isOne_9 (by decide) (fun cq => ?_) (fun cq => ?_)
    · replace h := h.1 cq
      refine lv_iconst (v := (nI 0)) hx hb dX7_isOne_16 (by decide) ?_
      exact hret (nI 0) () _ _ _ _ nbz h hP hD hS dX7_isOne_17
    · replace h := h.2 cq
      refine lv_iconst (v := (nI 1)) hx hb dX7_isOne_12 (by decide) ?_
      refine lv_goto (tgt := 17) hx hb dX7_isOne_13 (by decide) ?_
      exact hret (nI 1) () _ _ _ _ nbo h hP hD hS dX7_isOne_17
abbrev cw_X7_isWanted (g : GG) : va_W := []
def wp_X7_isWanted (x0 : Int32) (x1 : Int32) (Q : Int32 → Prop) : Prop :=
    ((¬ x1 = (nI 0) → ((¬ x0 = x1 → Q (nI 0)) ∧ (x0 = x1 → Q (nI 1)))) ∧ (x1 = (nI 0) → wp_X7_isOne x0 (fun r2 => (r2 = nI 0 ∨ r2 = nI 1) ∧ Q r2)))
abbrev rm_X7_isWanted : Room := { frames := 1, cells := 0, slots := 0, locals := 20 }
set_option maxHeartbeats 4000000 in
set_option maxRecDepth 100000 in
theorem k_X7_isWanted (l : Launch) (g : GG) {x0 : Int32} {x1 : Int32} {Q : Int32 → Prop} (h : wp_X7_isWanted x0 x1 Q) : CI l g yX7_isWanted wsX7_isWanted rm_X7_isWanted [.int x0, .int x1] (cw_X7_isWanted g) (S := Unit) (fun _ => (cw_X7_isWanted g)) (fun r _ => Q r) 0 0 := by
  refine mk_I (cc := cX7_isWanted) (maxL := 2) (own := RX7) (by decide) rfl rfl (Nat.le_of_ble_eq_true rfl) ?_
  intro p e s m args below meth c A QQ E hret hP hD hS ls hl
  have E2 := E
  obtain ⟨hx, hb, hr, hml, hown, hts, hlocks, hA, hZ, hK, hnm⟩ := E2
  have hP : va_P g.1 vwCl (cw_X7_isWanted g) s.heap := hP
  have hD : va_D A (cw_X7_isWanted g) := hD
  have hl : lv_has ls 2 [(0, .int x0), (1, .int x1)] := hl
  unfold wp_X7_isWanted at h
  refine lv_iload_n hx hb dX7_isWanted_0 rfl (lv_at hl 1 rfl) ?_
  refine lv_if_ne (tgt := 11) hx hb dX7_isWanted_1 (by decide) (fun cq => ?_) (fun cq => ?_)
  · replace h := h.1 cq
    refine lv_iload_n hx hb dX7_isWanted_11 rfl (lv_at hl 0 rfl) ?_
    refine lv_iload_n hx hb dX7_isWanted_12 rfl (lv_at hl 1 rfl) ?_
    refine lv_icmp_ne (tgt := 20) hx hb dX7_isWanted_13 (by decide) (fun cq => ?_) (fun cq => ?_)
    · replace h := h.1 cq
      refine lv_iconst (v := (nI 0)) hx hb dX7_isWanted_20 (by decide) ?_
      exact hret (nI 0) () _ _ _ _ nbz h hP hD hS dX7_isWanted_21
    · replace h := h.2 cq
      refine lv_iconst (v := (nI 1)) hx hb dX7_isWanted_16 (by decide) ?_
      refine lv_goto (tgt := 21) hx hb dX7_isWanted_17 (by decide) ?_
      exact hret (nI 1) () _ _ _ _ nbo h hP hD hS dX7_isWanted_21
  · replace h := h.2 cq
    refine lv_iload_n hx hb dX7_isWanted_4 rfl (lv_at hl 0 rfl) ?_
    refine go_I E (run_S E ((k_X7_isOne l g  h) _) (va_cwS 1 hts gX7_isWanted_X7_isOne rfl rfl rfl (by decide +kernel) ⟨Nat.le_of_ble_eq_true rfl, Nat.le_of_ble_eq_true rfl⟩) hP hD hS [] rfl rfl hl rfl rfl (Nat.le_of_ble_eq_true rfl) dX7_isWanted_5 ⟨Nat.le_of_ble_eq_true rfl, Nat.le_of_ble_eq_true rfl⟩) hP hD hS [] rfl [] rfl (by decide) (fun _ => (cw_X7_isWanted g)) (fun _ => rfl) (fun r2 _ H locs h hP hD hS => ?_)
    try dsimp only at h
    have hP : va_P g.1 vwCl (cw_X7_isWanted g) H := hP
    have hD : va_D A (cw_X7_isWanted g) := hD
    refine lv_goto (tgt := 21) hx hb dX7_isWanted_8 (by decide) ?_
    exact hret r2 () _ _ _ _ (nbv h.1) h.2 hP hD hS dX7_isWanted_21
abbrev cw_X8_letters (g : GG) (h_this : Nat) (h_this_low : Nat) (h_this_high : Nat) (c_letters : Int32) : va_W := [(h_this, .inr (7, [.ref h_this_low, .ref h_this_high, .int c_letters]))]
def wp_X8_letters (c_letters : Int32) (Q : Int32 → Prop) : Prop :=
    Q c_letters
abbrev rm_X8_letters : Room := { frames := 0, cells := 0, slots := 0, locals := 0 }
set_option maxHeartbeats 4000000 in
set_option maxRecDepth 100000 in
theorem k_X8_letters (l : Launch) (g : GG) (h_this : Nat) (h_this_low : Nat) (h_this_high : Nat) {c_letters : Int32} {Q : Int32 → Prop} (h : wp_X8_letters c_letters Q) : CI l g yX8_letters wsX8_letters rm_X8_letters [.ref h_this] (cw_X8_letters g h_this h_this_low h_this_high c_letters) (S := Unit) (fun _ => (cw_X8_letters g h_this h_this_low h_this_high c_letters)) (fun r _ => Q r) 0 0 := by
  refine mk_I (cc := cX8_letters) (maxL := 1) (own := RX8) (by decide) rfl rfl (Nat.le_of_ble_eq_true rfl) ?_
  intro p e s m args below meth c A QQ E hret hP hD hS ls hl
  have E2 := E
  obtain ⟨hx, hb, hr, hml, hown, hts, hlocks, hA, hZ, hK, hnm⟩ := E2
  have f24 := hts (.fieldLink RX8 24 "WordBench$Steps" "letters" "I") (by decide +kernel)
  have iX8 : ∀ w ∈ wsX80, w ∈ wsX8_letters := fun _ h => List.mem_cons_of_mem _ (List.mem_append_right _ h)
  have hP : va_P g.1 vwCl (cw_X8_letters g h_this h_this_low h_this_high c_letters) s.heap := hP
  have hD : va_D A (cw_X8_letters g h_this h_this_low h_this_high c_letters) := hD
  have hl : lv_has ls 1 [(0, .ref h_this)] := hl
  unfold wp_X8_letters at h
  refine lv_aload_n hx hb dX8_letters_0 rfl (lv_at hl 0 rfl) ?_
  refine va_get (D := g.1) (ci := 7) (v := .int c_letters) (C := RX8) (T := TX8) (N := 3) hx hb hts iX8 hown hK hP 0 rfl rfl 2 (by decide) f24 (fun _ h9 => h9) rfl dX8_letters_1 ?_
  exact hret c_letters () _ _ _ _ rfl h hP hD hS dX8_letters_4
abbrev cw_X8_after (g : GG) (h_this : Nat) (h_this_low : Nat) (h_this_high : Nat) (c_letters : Int32) (c_low : Nat → Int32) (c_high : Nat → Int32) : va_W := [(h_this, .inr (7, [.ref h_this_low, .ref h_this_high, .int c_letters])), (h_this_low, .inl (g.2.1, 256, .inl c_low)), (h_this_high, .inl (g.2.1, 256, .inl c_high))]
def wp_X8_after (c_letters : Int32) (c_low : Nat → Int32) (c_high : Nat → Int32) (x1 : Int32) (x2 : Int32) (Q : Int32 → Prop) : Prop :=
    ((x1 ≤ (nI 0) → Q (nI 0)) ∧ (¬ x1 ≤ (nI 0) → (((nI 4096) ≤ x1 → Q (nI 0)) ∧ (¬ (nI 4096) ≤ x1 → ((x2 < (nI 0) → Q (nI 0)) ∧ (¬ x2 < (nI 0) → ((x2 < (nI 4) → vp_in ((x2 * (nI 64)) + (x1 &&& (nI 63))) 256 ∧ vp_in ((x2 * (nI 64)) + (x1 >>> ((nI 6) &&& 31))) 256 ∧ ((((c_low (Int32.toNatClampNeg ((x2 * (nI 64)) + (x1 &&& (nI 63))))) ||| (c_high (Int32.toNatClampNeg ((x2 * (nI 64)) + (x1 >>> ((nI 6) &&& 31)))))) < (nI 4096) → Q ((c_low (Int32.toNatClampNeg ((x2 * (nI 64)) + (x1 &&& (nI 63))))) ||| (c_high (Int32.toNatClampNeg ((x2 * (nI 64)) + (x1 >>> ((nI 6) &&& 31))))))) ∧ (¬ ((c_low (Int32.toNatClampNeg ((x2 * (nI 64)) + (x1 &&& (nI 63))))) ||| (c_high (Int32.toNatClampNeg ((x2 * (nI 64)) + (x1 >>> ((nI 6) &&& 31)))))) < (nI 4096) → Q (nI 0)))) ∧ (¬ x2 < (nI 4) → Q (nI 0)))))))))
abbrev rm_X8_after : Room := { frames := 0, cells := 0, slots := 0, locals := 0 }
set_option maxHeartbeats 4000000 in
set_option maxRecDepth 100000 in
theorem k_X8_after (l : Launch) (g : GG) (h_this : Nat) (h_this_low : Nat) (h_this_high : Nat) {c_letters : Int32} {c_low : Nat → Int32} {c_high : Nat → Int32} {x1 : Int32} {x2 : Int32} {Q : Int32 → Prop} (h : wp_X8_after c_letters c_low c_high x1 x2 Q) : CI l g yX8_after wsX8_after rm_X8_after [.ref h_this, .int x1, .int x2] (cw_X8_after g h_this h_this_low h_this_high c_letters c_low c_high) (S := Unit) (fun _ => (cw_X8_after g h_this h_this_low h_this_high c_letters c_low c_high)) (fun r _ => Q r) 0 0 := by
  refine mk_I (cc := cX8_after) (maxL := 5) (own := RX8) (by decide) rfl rfl (Nat.le_of_ble_eq_true rfl) ?_
  intro p e s m args below meth c A QQ E hret hP hD hS ls hl
  have E2 := E
  obtain ⟨hx, hb, hr, hml, hown, hts, hlocks, hA, hZ, hK, hnm⟩ := E2
  have f11 := hts (.fieldLink RX8 11 "WordBench$Steps" "low" "[I") (by decide +kernel)
  have f15 := hts (.fieldLink RX8 15 "WordBench$Steps" "high" "[I") (by decide +kernel)
  have iX8 : ∀ w ∈ wsX80, w ∈ wsX8_after := fun _ h => List.mem_cons_of_mem _ (List.mem_append_right _ h)
  have hP : va_P g.1 vwCl (cw_X8_after g h_this h_this_low h_this_high c_letters c_low c_high) s.heap := hP
  have hD : va_D A (cw_X8_after g h_this h_this_low h_this_high c_letters c_low c_high) := hD
  have hl : lv_has ls 5 [(0, .ref h_this), (1, .int x1), (2, .int x2)] := hl
  unfold wp_X8_after at h
  refine lv_iload_n hx hb dX8_after_0 rfl (lv_at hl 1 rfl) ?_
  refine lv_if_le (tgt := 20) hx hb dX8_after_1 (by decide) (fun cq => ?_) (fun cq => ?_)
  · replace h := h.1 cq
    refine lv_iconst (v := (nI 0)) hx hb dX8_after_20 (by decide) ?_
    exact hret (nI 0) () _ _ _ _ rfl h hP hD hS dX8_after_21
  · replace h := h.2 cq
    refine lv_iload_n hx hb dX8_after_4 rfl (lv_at hl 1 rfl) ?_
    refine lv_sipush (v := (nI 4096)) hx hb dX8_after_5 (by decide) ?_
    refine lv_icmp_ge (tgt := 20) hx hb dX8_after_8 (by decide) (fun cq => ?_) (fun cq => ?_)
    · replace h := h.1 cq
      refine lv_iconst (v := (nI 0)) hx hb dX8_after_20 (by decide) ?_
      exact hret (nI 0) () _ _ _ _ rfl h hP hD hS dX8_after_21
    · replace h := h.2 cq
      refine lv_iload_n hx hb dX8_after_11 rfl (lv_at hl 2 rfl) ?_
      refine lv_if_lt (tgt := 20) hx hb dX8_after_12 (by decide) (fun cq => ?_) (fun cq => ?_)
      · replace h := h.1 cq
        refine lv_iconst (v := (nI 0)) hx hb dX8_after_20 (by decide) ?_
        exact hret (nI 0) () _ _ _ _ rfl h hP hD hS dX8_after_21
      · replace h := h.2 cq
        refine lv_iload_n hx hb dX8_after_15 rfl (lv_at hl 2 rfl) ?_
        refine lv_iconst (v := (nI 4)) hx hb dX8_after_16 (by decide) ?_
        refine lv_icmp_lt (tgt := 22) hx hb dX8_after_17 (by decide) (fun cq => ?_) (fun cq => ?_)
        · replace h := h.1 cq
          refine lv_iload_n hx hb dX8_after_22 rfl (lv_at hl 2 rfl) ?_
          refine lv_bipush (v := (nI 64)) hx hb dX8_after_23 (by decide) ?_
          refine lv_imul hx hb dX8_after_25 ?_
          refine lv_istore_n (lv' := [(3, .int (x2 * (nI 64))), (0, .ref h_this), (1, .int x1), (2, .int x2)]) hx hb dX8_after_26 rfl hl (by decide) rfl (fun ls hl => ?_)
          refine lv_aload_n hx hb dX8_after_27 rfl (lv_at hl 1 rfl) ?_
          refine va_get (D := g.1) (ci := 7) (v := .ref h_this_low) (C := RX8) (T := TX8) (N := 3) hx hb hts iX8 hown hK hP 0 rfl rfl 0 (by decide) f11 (fun _ h9 => h9) rfl dX8_after_28 ?_
          refine lv_iload_n hx hb dX8_after_31 rfl (lv_at hl 0 rfl) ?_
          refine lv_iload_n hx hb dX8_after_32 rfl (lv_at hl 2 rfl) ?_
          refine lv_bipush (v := (nI 63)) hx hb dX8_after_33 (by decide) ?_
          refine lv_iand hx hb dX8_after_35 ?_
          refine lv_iadd hx hb dX8_after_36 ?_
          obtain ⟨hi, h⟩ := h
          refine va_iald (D := g.1) (n := 256) (f := c_low) hx hb hK hP 1 0 rfl rfl hi dX8_after_37 ?_
          refine lv_aload_n hx hb dX8_after_38 rfl (lv_at hl 1 rfl) ?_
          refine va_get (D := g.1) (ci := 7) (v := .ref h_this_high) (C := RX8) (T := TX8) (N := 3) hx hb hts iX8 hown hK hP 0 rfl rfl 1 (by decide) f15 (fun _ h9 => h9) rfl dX8_after_39 ?_
          refine lv_iload_n hx hb dX8_after_42 rfl (lv_at hl 0 rfl) ?_
          refine lv_iload_n hx hb dX8_after_43 rfl (lv_at hl 2 rfl) ?_
          refine lv_bipush (v := (nI 6)) hx hb dX8_after_44 (by decide) ?_
          refine lv_ishr hx hb dX8_after_46 ?_
          refine lv_iadd hx hb dX8_after_47 ?_
          obtain ⟨hi, h⟩ := h
          refine va_iald (D := g.1) (n := 256) (f := c_high) hx hb hK hP 2 0 rfl rfl hi dX8_after_48 ?_
          refine lv_ior hx hb dX8_after_49 ?_
          refine lv_istore (lv' := [(4, .int ((c_low (Int32.toNatClampNeg ((x2 * (nI 64)) + (x1 &&& (nI 63))))) ||| (c_high (Int32.toNatClampNeg ((x2 * (nI 64)) + (x1 >>> ((nI 6) &&& 31))))))), (3, .int (x2 * (nI 64))), (0, .ref h_this), (1, .int x1), (2, .int x2)]) hx hb dX8_after_50 hl (by decide) rfl (fun ls hl => ?_)
          refine lv_iload hx hb dX8_after_52 (lv_at hl 0 rfl) ?_
          refine lv_sipush (v := (nI 4096)) hx hb dX8_after_54 (by decide) ?_
          refine lv_icmp_lt (tgt := 64) hx hb dX8_after_57 (by decide) (fun cq => ?_) (fun cq => ?_)
          · replace h := h.1 cq
            refine lv_iload hx hb dX8_after_64 (lv_at hl 0 rfl) ?_
            exact hret ((c_low (Int32.toNatClampNeg ((x2 * (nI 64)) + (x1 &&& (nI 63))))) ||| (c_high (Int32.toNatClampNeg ((x2 * (nI 64)) + (x1 >>> ((nI 6) &&& 31)))))) () _ _ _ _ rfl h hP hD hS dX8_after_66
          · replace h := h.2 cq
            refine lv_iconst (v := (nI 0)) hx hb dX8_after_60 (by decide) ?_
            refine lv_goto (tgt := 66) hx hb dX8_after_61 (by decide) ?_
            exact hret (nI 0) () _ _ _ _ rfl h hP hD hS dX8_after_66
        · replace h := h.2 cq
          refine lv_iconst (v := (nI 0)) hx hb dX8_after_20 (by decide) ?_
          exact hret (nI 0) () _ _ _ _ rfl h hP hD hS dX8_after_21
abbrev cw_X9_knows (g : GG) (h_this : Nat) (h_this_from : Nat) (c_from : Nat → Int32) : va_W := [(h_this, .inr (8, [.ref h_this_from])), (h_this_from, .inl (g.2.1, 4096, .inl c_from))]
def wp_X9_knows (c_from : Nat → Int32) (x1 : Int32) (Q : Int32 → Prop) : Prop :=
    ((x1 ≤ (nI 0) → Q (nI 0)) ∧ (¬ x1 ≤ (nI 0) → (((nI 4096) ≤ x1 → Q (nI 0)) ∧ (¬ (nI 4096) ≤ x1 → vp_in x1 4096 ∧ (((c_from (Int32.toNatClampNeg x1)) = (nI 0) → Q (nI 0)) ∧ (¬ (c_from (Int32.toNatClampNeg x1)) = (nI 0) → Q (nI 1)))))))
abbrev rm_X9_knows : Room := { frames := 0, cells := 0, slots := 0, locals := 0 }
set_option maxHeartbeats 4000000 in
set_option maxRecDepth 100000 in
theorem k_X9_knows (l : Launch) (g : GG) (h_this : Nat) (h_this_from : Nat) {c_from : Nat → Int32} {x1 : Int32} {Q : Int32 → Prop} (h : wp_X9_knows c_from x1 Q) : CI l g yX9_knows wsX9_knows rm_X9_knows [.ref h_this, .int x1] (cw_X9_knows g h_this h_this_from c_from) (S := Unit) (fun _ => (cw_X9_knows g h_this h_this_from c_from)) (fun r _ => Q r) 0 0 := by
  refine mk_I (cc := cX9_knows) (maxL := 2) (own := RX9) (by decide) rfl rfl (Nat.le_of_ble_eq_true rfl) ?_
  intro p e s m args below meth c A QQ E hret hP hD hS ls hl
  have E2 := E
  obtain ⟨hx, hb, hr, hml, hown, hts, hlocks, hA, hZ, hK, hnm⟩ := E2
  have f9 := hts (.fieldLink RX9 9 "WordBench$Trail" "from" "[I") (by decide +kernel)
  have iX9 : ∀ w ∈ wsX90, w ∈ wsX9_knows := fun _ h => List.mem_cons_of_mem _ (List.mem_append_right _ h)
  have hP : va_P g.1 vwCl (cw_X9_knows g h_this h_this_from c_from) s.heap := hP
  have hD : va_D A (cw_X9_knows g h_this h_this_from c_from) := hD
  have hl : lv_has ls 2 [(0, .ref h_this), (1, .int x1)] := hl
  unfold wp_X9_knows at h
  refine lv_iload_n hx hb dX9_knows_0 rfl (lv_at hl 1 rfl) ?_
  refine lv_if_le (tgt := 24) hx hb dX9_knows_1 (by decide) (fun cq => ?_) (fun cq => ?_)
  · replace h := h.1 cq
    refine lv_iconst (v := (nI 0)) hx hb dX9_knows_24 (by decide) ?_
    exact hret (nI 0) () _ _ _ _ nbz h hP hD hS dX9_knows_25
  · replace h := h.2 cq
    refine lv_iload_n hx hb dX9_knows_4 rfl (lv_at hl 1 rfl) ?_
    refine lv_sipush (v := (nI 4096)) hx hb dX9_knows_5 (by decide) ?_
    refine lv_icmp_ge (tgt := 24) hx hb dX9_knows_8 (by decide) (fun cq => ?_) (fun cq => ?_)
    · replace h := h.1 cq
      refine lv_iconst (v := (nI 0)) hx hb dX9_knows_24 (by decide) ?_
      exact hret (nI 0) () _ _ _ _ nbz h hP hD hS dX9_knows_25
    · replace h := h.2 cq
      refine lv_aload_n hx hb dX9_knows_11 rfl (lv_at hl 0 rfl) ?_
      refine va_get (D := g.1) (ci := 8) (v := .ref h_this_from) (C := RX9) (T := TX9) (N := 1) hx hb hts iX9 hown hK hP 0 rfl rfl 0 (by decide) f9 (fun _ h9 => h9) rfl dX9_knows_12 ?_
      refine lv_iload_n hx hb dX9_knows_15 rfl (lv_at hl 1 rfl) ?_
      obtain ⟨hi, h⟩ := h
      refine va_iald (D := g.1) (n := 4096) (f := c_from) hx hb hK hP 1 0 rfl rfl hi dX9_knows_16 ?_
      refine lv_if_eq (tgt := 24) hx hb dX9_knows_17 (by decide) (fun cq => ?_) (fun cq => ?_)
      · replace h := h.1 cq
        refine lv_iconst (v := (nI 0)) hx hb dX9_knows_24 (by decide) ?_
        exact hret (nI 0) () _ _ _ _ nbz h hP hD hS dX9_knows_25
      · replace h := h.2 cq
        refine lv_iconst (v := (nI 1)) hx hb dX9_knows_20 (by decide) ?_
        refine lv_goto (tgt := 25) hx hb dX9_knows_21 (by decide) ?_
        exact hret (nI 1) () _ _ _ _ nbo h hP hD hS dX9_knows_25
abbrev cw_X9_mark (g : GG) (h_this : Nat) (h_this_from : Nat) (c_from : Nat → Int32) : va_W := [(h_this, .inr (8, [.ref h_this_from])), (h_this_from, .inl (g.2.1, 4096, .inl c_from))]
def wp_X9_mark (c_from : Nat → Int32) (x1 : Int32) (x2 : Int32) (x3 : Int32) (Q : (Nat → Int32) → Prop) : Prop :=
    ((x1 ≤ (nI 0) → Q c_from) ∧ (¬ x1 ≤ (nI 0) → (((nI 4096) ≤ x1 → Q c_from) ∧ (¬ (nI 4096) ≤ x1 → vp_in x1 4096 ∧ Q (upd c_from (Int32.toNatClampNeg x1) ((x2 * (nI 4)) + x3))))))
abbrev rm_X9_mark : Room := { frames := 0, cells := 0, slots := 0, locals := 0 }
set_option maxHeartbeats 4000000 in
set_option maxRecDepth 100000 in
theorem k_X9_mark (l : Launch) (g : GG) (h_this : Nat) (h_this_from : Nat) {c_from : Nat → Int32} {x1 : Int32} {x2 : Int32} {x3 : Int32} {Q : (Nat → Int32) → Prop} (h : wp_X9_mark c_from x1 x2 x3 Q) : CV l g yX9_mark wsX9_mark rm_X9_mark [.ref h_this, .int x1, .int x2, .int x3] (cw_X9_mark g h_this h_this_from c_from) (S := (Nat → Int32)) (fun u => (cw_X9_mark g h_this h_this_from u)) (fun u => Q u) 0 0 := by
  refine mk_V (cc := cX9_mark) (maxL := 4) (own := RX9) (by decide) rfl rfl (Nat.le_of_ble_eq_true rfl) ?_
  intro p e s m args below meth c A QQ E hret hP hD hS ls hl
  have E2 := E
  obtain ⟨hx, hb, hr, hml, hown, hts, hlocks, hA, hZ, hK, hnm⟩ := E2
  have f9 := hts (.fieldLink RX9 9 "WordBench$Trail" "from" "[I") (by decide +kernel)
  have iX9 : ∀ w ∈ wsX90, w ∈ wsX9_mark := fun _ h => List.mem_cons_of_mem _ (List.mem_append_right _ h)
  have hP : va_P g.1 vwCl (cw_X9_mark g h_this h_this_from c_from) s.heap := hP
  have hD : va_D A (cw_X9_mark g h_this h_this_from c_from) := hD
  have hl : lv_has ls 4 [(0, .ref h_this), (1, .int x1), (2, .int x2), (3, .int x3)] := hl
  unfold wp_X9_mark at h
  refine lv_iload_n hx hb dX9_mark_0 rfl (lv_at hl 1 rfl) ?_
  refine lv_if_le (tgt := 22) hx hb dX9_mark_1 (by decide) (fun cq => ?_) (fun cq => ?_)
  · replace h := h.1 cq
    exact hret c_from _ _ _ _ h hP hD hS dX9_mark_22
  · replace h := h.2 cq
    refine lv_iload_n hx hb dX9_mark_4 rfl (lv_at hl 1 rfl) ?_
    refine lv_sipush (v := (nI 4096)) hx hb dX9_mark_5 (by decide) ?_
    refine lv_icmp_ge (tgt := 22) hx hb dX9_mark_8 (by decide) (fun cq => ?_) (fun cq => ?_)
    · replace h := h.1 cq
      exact hret c_from _ _ _ _ h hP hD hS dX9_mark_22
    · replace h := h.2 cq
      refine lv_aload_n hx hb dX9_mark_11 rfl (lv_at hl 0 rfl) ?_
      refine va_get (D := g.1) (ci := 8) (v := .ref h_this_from) (C := RX9) (T := TX9) (N := 1) hx hb hts iX9 hown hK hP 0 rfl rfl 0 (by decide) f9 (fun _ h9 => h9) rfl dX9_mark_12 ?_
      refine lv_iload_n hx hb dX9_mark_15 rfl (lv_at hl 1 rfl) ?_
      refine lv_iload_n hx hb dX9_mark_16 rfl (lv_at hl 2 rfl) ?_
      refine lv_iconst (v := (nI 4)) hx hb dX9_mark_17 (by decide) ?_
      refine lv_imul hx hb dX9_mark_18 ?_
      refine lv_iload_n hx hb dX9_mark_19 rfl (lv_at hl 3 rfl) ?_
      refine lv_iadd hx hb dX9_mark_20 ?_
      obtain ⟨hi, h⟩ := h
      refine va_iast (D := g.1) (n := 4096) (f := c_from) hx hb hK hP hD hS 1 0 rfl rfl hi dX9_mark_21 (fun H locs hP hD hS => ?_)
      have hP : va_P g.1 vwCl (cw_X9_mark g h_this h_this_from (upd c_from (Int32.toNatClampNeg x1) ((x2 * (nI 4)) + x3))) H := hP
      have hD : va_D A (cw_X9_mark g h_this h_this_from (upd c_from (Int32.toNatClampNeg x1) ((x2 * (nI 4)) + x3))) := hD
      exact hret (upd c_from (Int32.toNatClampNeg x1) ((x2 * (nI 4)) + x3)) _ _ _ _ h hP hD hS dX9_mark_22
abbrev cw_X7_lookFrom (g : GG) (h_this : Nat) (h_this_steps : Nat) (h_this_trail : Nat) (h_this_queue : Nat) (h_this_steps_low : Nat) (h_this_steps_high : Nat) (h_this_trail_from : Nat) (c_size : Int32) (c_steps_letters : Int32) (c_steps_low : Nat → Int32) (c_steps_high : Nat → Int32) (c_trail_from : Nat → Int32) (c_queue : Nat → Int32) : va_W := [(h_this, .inr (6, [.ref h_this_steps, .ref h_this_trail, .ref h_this_queue, .int c_size])), (h_this_steps, .inr (7, [.ref h_this_steps_low, .ref h_this_steps_high, .int c_steps_letters])), (h_this_steps_low, .inl (g.2.1, 256, .inl c_steps_low)), (h_this_steps_high, .inl (g.2.1, 256, .inl c_steps_high)), (h_this_trail, .inr (8, [.ref h_this_trail_from])), (h_this_trail_from, .inl (g.2.1, 4096, .inl c_trail_from)), (h_this_queue, .inl (g.2.1, 4096, .inl c_queue))]
def J_X7_lookFrom_98 (R_2 : Int32 → Int32 → (Nat → Int32) → (Nat → Int32) → Prop) (x3 : Int32) (c_size : Int32) (c_trail_from : Nat → Int32) (c_queue : Nat → Int32) : Prop :=
    R_2 (x3 + (nI 1)) c_size c_trail_from c_queue
def L_X7_lookFrom_2 (c_steps_letters : Int32) (c_steps_low : Nat → Int32) (c_steps_high : Nat → Int32) (x1 : Int32) (x2 : Int32) (Q : Int32 → Int32 → (Nat → Int32) → (Nat → Int32) → Prop) : Nat → Int32 → Int32 → (Nat → Int32) → (Nat → Int32) → Prop
  | 0, _, _, _, _ => False
  | n_2 + 1, x3, c_size, c_trail_from, c_queue =>
    ((c_steps_letters ≤ x3 → Q (nI 0) c_size c_trail_from c_queue) ∧ (¬ c_steps_letters ≤ x3 → wp_X8_after c_steps_letters c_steps_low c_steps_high x1 x3 (fun r4 => ((r4 = (nI 0) → J_X7_lookFrom_98 (L_X7_lookFrom_2 c_steps_letters c_steps_low c_steps_high x1 x2 Q n_2) x3 c_size c_trail_from c_queue) ∧ (¬ r4 = (nI 0) → wp_X9_knows c_trail_from r4 (fun r6 => ((¬ r6 = (nI 0) → J_X7_lookFrom_98 (L_X7_lookFrom_2 c_steps_letters c_steps_low c_steps_high x1 x2 Q n_2) x3 c_size c_trail_from c_queue) ∧ (r6 = (nI 0) → ((c_size < (nI 4096) → wp_X9_mark c_trail_from r4 x1 x3 (fun c_trail_from => vp_in c_size 4096 ∧ wp_X7_isWanted r4 x2 (fun r10 => ((r10 = (nI 0) → J_X7_lookFrom_98 (L_X7_lookFrom_2 c_steps_letters c_steps_low c_steps_high x1 x2 Q n_2) x3 (c_size + (nI 1)) c_trail_from (upd c_queue (Int32.toNatClampNeg c_size) r4)) ∧ (¬ r10 = (nI 0) → Q r4 (c_size + (nI 1)) c_trail_from (upd c_queue (Int32.toNatClampNeg c_size) r4)))))) ∧ (¬ c_size < (nI 4096) → J_X7_lookFrom_98 (L_X7_lookFrom_2 c_steps_letters c_steps_low c_steps_high x1 x2 Q n_2) x3 c_size c_trail_from c_queue))))))))))
def wp_X7_lookFrom (c_size : Int32) (c_steps_letters : Int32) (c_steps_low : Nat → Int32) (c_steps_high : Nat → Int32) (c_trail_from : Nat → Int32) (c_queue : Nat → Int32) (x1 : Int32) (x2 : Int32) (Q : Int32 → Int32 → (Nat → Int32) → (Nat → Int32) → Prop) : Prop :=
    ∃ n, L_X7_lookFrom_2 c_steps_letters c_steps_low c_steps_high x1 x2 Q n (nI 0) c_size c_trail_from c_queue
abbrev rm_X7_lookFrom : Room := { frames := 2, cells := 0, slots := 0, locals := 41 }
set_option maxHeartbeats 4000000 in
set_option maxRecDepth 100000 in
theorem k_X7_lookFrom (l : Launch) (g : GG) (h_this : Nat) (h_this_steps : Nat) (h_this_trail : Nat) (h_this_queue : Nat) (h_this_steps_low : Nat) (h_this_steps_high : Nat) (h_this_trail_from : Nat) {c_size : Int32} {c_steps_letters : Int32} {c_steps_low : Nat → Int32} {c_steps_high : Nat → Int32} {c_trail_from : Nat → Int32} {c_queue : Nat → Int32} {x1 : Int32} {x2 : Int32} {Q : Int32 → Int32 → (Nat → Int32) → (Nat → Int32) → Prop} (h : wp_X7_lookFrom c_size c_steps_letters c_steps_low c_steps_high c_trail_from c_queue x1 x2 Q) : CI l g yX7_lookFrom wsX7_lookFrom rm_X7_lookFrom [.ref h_this, .int x1, .int x2] (cw_X7_lookFrom g h_this h_this_steps h_this_trail h_this_queue h_this_steps_low h_this_steps_high h_this_trail_from c_size c_steps_letters c_steps_low c_steps_high c_trail_from c_queue) (S := Int32 × (Nat → Int32) × (Nat → Int32)) (fun u => (cw_X7_lookFrom g h_this h_this_steps h_this_trail h_this_queue h_this_steps_low h_this_steps_high h_this_trail_from u.1 c_steps_letters c_steps_low c_steps_high u.2.1 u.2.2)) (fun r u => Q r u.1 u.2.1 u.2.2) 0 0 := by
  refine mk_I (cc := cX7_lookFrom) (maxL := 5) (own := RX7) (by decide) rfl rfl (Nat.le_of_ble_eq_true rfl) ?_
  intro p e s m args below meth c A QQ E hret hP hD hS ls hl
  have E2 := E
  obtain ⟨hx, hb, hr, hml, hown, hts, hlocks, hA, hZ, hK, hnm⟩ := E2
  have f15 := hts (.fieldLink RX7 15 "WordBench$SetSearch" "steps" "LWordBench$Steps;") (by decide +kernel)
  have f19 := hts (.fieldLink RX7 19 "WordBench$SetSearch" "trail" "LWordBench$Trail;") (by decide +kernel)
  have f35 := hts (.fieldLink RX7 35 "WordBench$SetSearch" "size" "I") (by decide +kernel)
  have f9 := hts (.fieldLink RX7 9 "WordBench$SetSearch" "queue" "[I") (by decide +kernel)
  have iX7 : ∀ w ∈ wsX70, w ∈ wsX7_lookFrom := fun _ h => List.mem_cons_of_mem _ (List.mem_append_left _ (List.mem_append_left _ (List.mem_append_right _ h)))
  have hP : va_P g.1 vwCl (cw_X7_lookFrom g h_this h_this_steps h_this_trail h_this_queue h_this_steps_low h_this_steps_high h_this_trail_from c_size c_steps_letters c_steps_low c_steps_high c_trail_from c_queue) s.heap := hP
  have hD : va_D A (cw_X7_lookFrom g h_this h_this_steps h_this_trail h_this_queue h_this_steps_low h_this_steps_high h_this_trail_from c_size c_steps_letters c_steps_low c_steps_high c_trail_from c_queue) := hD
  have hl : lv_has ls 5 [(0, .ref h_this), (1, .int x1), (2, .int x2)] := hl
  unfold wp_X7_lookFrom at h
  have K_2 : ∀ (n_2 : Nat) (x3 : Int32) (c_size : Int32) (c_trail_from : Nat → Int32) (c_queue : Nat → Int32) , L_X7_lookFrom_2 c_steps_letters c_steps_low c_steps_high x1 x2 Q n_2 x3 c_size c_trail_from c_queue → ∀ (H : Heap) (locs : List Loc), va_P g.1 vwCl (cw_X7_lookFrom g h_this h_this_steps h_this_trail h_this_queue h_this_steps_low h_this_steps_high h_this_trail_from c_size c_steps_letters c_steps_low c_steps_high c_trail_from c_queue) H → va_D A (cw_X7_lookFrom g h_this h_this_steps h_this_trail h_this_queue h_this_steps_low h_this_steps_high h_this_trail_from c_size c_steps_letters c_steps_low c_steps_high c_trail_from c_queue) → va_S A s.heap H locs → ∀ ls : Array Slot, lv_has ls 5 [(0, .ref h_this), (1, .int x1), (2, .int x2), (3, .int x3)] → W p l e rm_X7_lookFrom s m args below meth c H locs 0 0 QQ (F0 m 2 ls []) := by
    intro n_2
    induction n_2 with
    | zero => intro x3 c_size c_trail_from c_queue; exact fun h => False.elim h
    | succ n_2 ih_2 =>
      intro x3 c_size c_trail_from c_queue h H locs hP hD hS ls hl
      unfold L_X7_lookFrom_2 at h
      have K_98 : ∀ (x3 : Int32) (c_size : Int32) (c_trail_from : Nat → Int32) (c_queue : Nat → Int32) , J_X7_lookFrom_98 (L_X7_lookFrom_2 c_steps_letters c_steps_low c_steps_high x1 x2 Q n_2) x3 c_size c_trail_from c_queue → ∀ (H : Heap) (locs : List Loc), va_P g.1 vwCl (cw_X7_lookFrom g h_this h_this_steps h_this_trail h_this_queue h_this_steps_low h_this_steps_high h_this_trail_from c_size c_steps_letters c_steps_low c_steps_high c_trail_from c_queue) H → va_D A (cw_X7_lookFrom g h_this h_this_steps h_this_trail h_this_queue h_this_steps_low h_this_steps_high h_this_trail_from c_size c_steps_letters c_steps_low c_steps_high c_trail_from c_queue) → va_S A s.heap H locs → ∀ ls : Array Slot, lv_has ls 5 [(0, .ref h_this), (1, .int x1), (2, .int x2), (3, .int x3)] → W p l e rm_X7_lookFrom s m args below meth c H locs 0 0 QQ (F0 m 98 ls []) := by
        intro x3 c_size c_trail_from c_queue h H locs hP hD hS ls hl
        unfold J_X7_lookFrom_98 at h
        refine lv_iinc (v := (x3 + (nI 1))) (lv' := [(3, .int (x3 + (nI 1))), (0, .ref h_this), (1, .int x1), (2, .int x2)]) hx hb dX7_lookFrom_98 hl (k := 3) rfl rfl (by decide) rfl (fun ls hl => ?_)
        refine lv_goto (tgt := 2) hx hb dX7_lookFrom_101 (by decide) ?_
        exact ih_2 (x3 + (nI 1)) c_size c_trail_from c_queue h _ _ hP hD hS _ (lv_sub hl [1, 2, 3, 0] rfl)
      refine lv_iload_n hx hb dX7_lookFrom_2 rfl (lv_at hl 3 rfl) ?_
      refine lv_aload_n hx hb dX7_lookFrom_3 rfl (lv_at hl 0 rfl) ?_
      refine va_get (D := g.1) (ci := 6) (v := .ref h_this_steps) (C := RX7) (T := TX7) (N := 4) hx hb hts iX7 hown hK hP 0 rfl rfl 0 (by decide) f15 (fun _ h9 => h9) rfl dX7_lookFrom_4 ?_
      refine go_I E (run_V E ((k_X8_letters l g h_this_steps h_this_steps_low h_this_steps_high (Q := fun r => r = c_steps_letters) rfl) _) (cwV 0 hts gX7_lookFrom_X8_letters rfl rfl rfl (by decide +kernel) ⟨Nat.le_of_ble_eq_true rfl, Nat.le_of_ble_eq_true rfl⟩) hP hD hS [1] rfl rfl 0 7 rfl rfl rfl hl rfl rfl (Nat.le_of_ble_eq_true rfl) dX7_lookFrom_7 ⟨Nat.le_of_ble_eq_true rfl, Nat.le_of_ble_eq_true rfl⟩) hP hD hS [1] rfl [(true, 0), (false, 0), (true, 2), (true, 3), (true, 4), (true, 5), (true, 6)] rfl (by decide) (fun _ => (cw_X7_lookFrom g h_this h_this_steps h_this_trail h_this_queue h_this_steps_low h_this_steps_high h_this_trail_from c_size c_steps_letters c_steps_low c_steps_high c_trail_from c_queue)) (fun _ => rfl) (fun r2 _ H locs hr_ hP hD hS => ?_)
      have hr_ : c_steps_letters = r2 := Eq.symm hr_
      subst hr_
      have hP : va_P g.1 vwCl (cw_X7_lookFrom g h_this h_this_steps h_this_trail h_this_queue h_this_steps_low h_this_steps_high h_this_trail_from c_size c_steps_letters c_steps_low c_steps_high c_trail_from c_queue) H := hP
      have hD : va_D A (cw_X7_lookFrom g h_this h_this_steps h_this_trail h_this_queue h_this_steps_low h_this_steps_high h_this_trail_from c_size c_steps_letters c_steps_low c_steps_high c_trail_from c_queue) := hD
      refine lv_icmp_ge (tgt := 104) hx hb dX7_lookFrom_10 (by decide) (fun cq => ?_) (fun cq => ?_)
      · replace h := h.1 cq
        refine lv_iconst (v := (nI 0)) hx hb dX7_lookFrom_104 (by decide) ?_
        exact hret (nI 0) (c_size, c_trail_from, c_queue) _ _ _ _ rfl h hP hD hS dX7_lookFrom_105
      · replace h := h.2 cq
        refine lv_aload_n hx hb dX7_lookFrom_13 rfl (lv_at hl 0 rfl) ?_
        refine va_get (D := g.1) (ci := 6) (v := .ref h_this_steps) (C := RX7) (T := TX7) (N := 4) hx hb hts iX7 hown hK hP 0 rfl rfl 0 (by decide) f15 (fun _ h9 => h9) rfl dX7_lookFrom_14 ?_
        refine lv_iload_n hx hb dX7_lookFrom_17 rfl (lv_at hl 1 rfl) ?_
        refine lv_iload_n hx hb dX7_lookFrom_18 rfl (lv_at hl 3 rfl) ?_
        refine go_I E (run_V E ((k_X8_after l g h_this_steps h_this_steps_low h_this_steps_high h) _) (cwV 2 hts gX7_lookFrom_X8_after rfl rfl rfl (by decide +kernel) ⟨Nat.le_of_ble_eq_true rfl, Nat.le_of_ble_eq_true rfl⟩) hP hD hS [1, 2, 3] rfl rfl 0 7 rfl rfl rfl hl rfl rfl (Nat.le_of_ble_eq_true rfl) dX7_lookFrom_19 ⟨Nat.le_of_ble_eq_true rfl, Nat.le_of_ble_eq_true rfl⟩) hP hD hS [1, 2, 3] rfl [(true, 0), (false, 0), (false, 1), (false, 2), (true, 4), (true, 5), (true, 6)] rfl (by decide) (fun _ => (cw_X7_lookFrom g h_this h_this_steps h_this_trail h_this_queue h_this_steps_low h_this_steps_high h_this_trail_from c_size c_steps_letters c_steps_low c_steps_high c_trail_from c_queue)) (fun _ => rfl) (fun r4 _ H locs h hP hD hS => ?_)
        try dsimp only at h
        have hP : va_P g.1 vwCl (cw_X7_lookFrom g h_this h_this_steps h_this_trail h_this_queue h_this_steps_low h_this_steps_high h_this_trail_from c_size c_steps_letters c_steps_low c_steps_high c_trail_from c_queue) H := hP
        have hD : va_D A (cw_X7_lookFrom g h_this h_this_steps h_this_trail h_this_queue h_this_steps_low h_this_steps_high h_this_trail_from c_size c_steps_letters c_steps_low c_steps_high c_trail_from c_queue) := hD
        refine lv_istore (lv' := [(4, .int r4), (0, .ref h_this), (1, .int x1), (2, .int x2), (3, .int x3)]) hx hb dX7_lookFrom_22 hl (by decide) rfl (fun ls hl => ?_)
        refine lv_iload hx hb dX7_lookFrom_24 (lv_at hl 0 rfl) ?_
        refine lv_if_eq (tgt := 98) hx hb dX7_lookFrom_26 (by decide) (fun cq => ?_) (fun cq => ?_)
        · replace h := h.1 cq
          exact K_98 x3 c_size c_trail_from c_queue h _ _ hP hD hS _ (lv_sub hl [1, 2, 3, 4] rfl)
        · replace h := h.2 cq
          refine lv_aload_n hx hb dX7_lookFrom_29 rfl (lv_at hl 1 rfl) ?_
          refine va_get (D := g.1) (ci := 6) (v := .ref h_this_trail) (C := RX7) (T := TX7) (N := 4) hx hb hts iX7 hown hK hP 0 rfl rfl 1 (by decide) f19 (fun _ h9 => h9) rfl dX7_lookFrom_30 ?_
          refine lv_iload hx hb dX7_lookFrom_33 (lv_at hl 0 rfl) ?_
          refine go_I E (run_V E ((k_X9_knows l g h_this_trail h_this_trail_from h) _) (cwV 1 hts gX7_lookFrom_X9_knows rfl rfl rfl (by decide +kernel) ⟨Nat.le_of_ble_eq_true rfl, Nat.le_of_ble_eq_true rfl⟩) hP hD hS [4, 5] rfl rfl 0 8 rfl rfl rfl hl rfl rfl (Nat.le_of_ble_eq_true rfl) dX7_lookFrom_35 ⟨Nat.le_of_ble_eq_true rfl, Nat.le_of_ble_eq_true rfl⟩) hP hD hS [4, 5] rfl [(true, 0), (true, 1), (true, 2), (true, 3), (false, 0), (false, 1), (true, 6)] rfl (by decide) (fun _ => (cw_X7_lookFrom g h_this h_this_steps h_this_trail h_this_queue h_this_steps_low h_this_steps_high h_this_trail_from c_size c_steps_letters c_steps_low c_steps_high c_trail_from c_queue)) (fun _ => rfl) (fun r6 _ H locs h hP hD hS => ?_)
          try dsimp only at h
          have hP : va_P g.1 vwCl (cw_X7_lookFrom g h_this h_this_steps h_this_trail h_this_queue h_this_steps_low h_this_steps_high h_this_trail_from c_size c_steps_letters c_steps_low c_steps_high c_trail_from c_queue) H := hP
          have hD : va_D A (cw_X7_lookFrom g h_this h_this_steps h_this_trail h_this_queue h_this_steps_low h_this_steps_high h_this_trail_from c_size c_steps_letters c_steps_low c_steps_high c_trail_from c_queue) := hD
          refine lv_if_ne (tgt := 98) hx hb dX7_lookFrom_38 (by decide) (fun cq => ?_) (fun cq => ?_)
          · replace h := h.1 cq
            exact K_98 x3 c_size c_trail_from c_queue h _ _ hP hD hS _ (lv_sub hl [1, 2, 3, 4] rfl)
          · replace h := h.2 cq
            refine lv_aload_n hx hb dX7_lookFrom_41 rfl (lv_at hl 1 rfl) ?_
            refine va_get (D := g.1) (ci := 6) (v := .int c_size) (C := RX7) (T := TX7) (N := 4) hx hb hts iX7 hown hK hP 0 rfl rfl 3 (by decide) f35 (fun _ h9 => h9) rfl dX7_lookFrom_42 ?_
            refine lv_sipush (v := (nI 4096)) hx hb dX7_lookFrom_45 (by decide) ?_
            refine lv_icmp_lt (tgt := 54) hx hb dX7_lookFrom_48 (by decide) (fun cq => ?_) (fun cq => ?_)
            · replace h := h.1 cq
              refine lv_aload_n hx hb dX7_lookFrom_54 rfl (lv_at hl 1 rfl) ?_
              refine va_get (D := g.1) (ci := 6) (v := .ref h_this_trail) (C := RX7) (T := TX7) (N := 4) hx hb hts iX7 hown hK hP 0 rfl rfl 1 (by decide) f19 (fun _ h9 => h9) rfl dX7_lookFrom_55 ?_
              refine lv_iload hx hb dX7_lookFrom_58 (lv_at hl 0 rfl) ?_
              refine lv_iload_n hx hb dX7_lookFrom_60 rfl (lv_at hl 2 rfl) ?_
              refine lv_iload_n hx hb dX7_lookFrom_61 rfl (lv_at hl 4 rfl) ?_
              refine go_V E (run_V E ((k_X9_mark l g h_this_trail h_this_trail_from h) _) (cwV 3 hts gX7_lookFrom_X9_mark rfl rfl rfl (by decide +kernel) ⟨Nat.le_of_ble_eq_true rfl, Nat.le_of_ble_eq_true rfl⟩) hP hD hS [4, 5] rfl rfl 0 8 rfl rfl rfl hl rfl rfl (Nat.le_of_ble_eq_true rfl) dX7_lookFrom_62 ⟨Nat.le_of_ble_eq_true rfl, Nat.le_of_ble_eq_true rfl⟩) hP hD hS [4, 5] rfl [(true, 0), (true, 1), (true, 2), (true, 3), (false, 0), (false, 1), (true, 6)] rfl (by decide) (fun u => (cw_X7_lookFrom g h_this h_this_steps h_this_trail h_this_queue h_this_steps_low h_this_steps_high h_this_trail_from c_size c_steps_letters c_steps_low c_steps_high u c_queue)) (fun _ => rfl) (fun c_trail_from H locs h hP hD hS => ?_)
              try dsimp only at h
              have hP : va_P g.1 vwCl (cw_X7_lookFrom g h_this h_this_steps h_this_trail h_this_queue h_this_steps_low h_this_steps_high h_this_trail_from c_size c_steps_letters c_steps_low c_steps_high c_trail_from c_queue) H := hP
              have hD : va_D A (cw_X7_lookFrom g h_this h_this_steps h_this_trail h_this_queue h_this_steps_low h_this_steps_high h_this_trail_from c_size c_steps_letters c_steps_low c_steps_high c_trail_from c_queue) := hD
              refine lv_aload_n hx hb dX7_lookFrom_65 rfl (lv_at hl 1 rfl) ?_
              refine va_get (D := g.1) (ci := 6) (v := .ref h_this_queue) (C := RX7) (T := TX7) (N := 4) hx hb hts iX7 hown hK hP 0 rfl rfl 2 (by decide) f9 (fun _ h9 => h9) rfl dX7_lookFrom_66 ?_
              refine lv_aload_n hx hb dX7_lookFrom_69 rfl (lv_at hl 1 rfl) ?_
              refine va_get (D := g.1) (ci := 6) (v := .int c_size) (C := RX7) (T := TX7) (N := 4) hx hb hts iX7 hown hK hP 0 rfl rfl 3 (by decide) f35 (fun _ h9 => h9) rfl dX7_lookFrom_70 ?_
              refine lv_iload hx hb dX7_lookFrom_73 (lv_at hl 0 rfl) ?_
              obtain ⟨hi, h⟩ := h
              refine va_iast (D := g.1) (n := 4096) (f := c_queue) hx hb hK hP hD hS 6 0 rfl rfl hi dX7_lookFrom_75 (fun H locs hP hD hS => ?_)
              have hP : va_P g.1 vwCl (cw_X7_lookFrom g h_this h_this_steps h_this_trail h_this_queue h_this_steps_low h_this_steps_high h_this_trail_from c_size c_steps_letters c_steps_low c_steps_high c_trail_from (upd c_queue (Int32.toNatClampNeg c_size) r4)) H := hP
              have hD : va_D A (cw_X7_lookFrom g h_this h_this_steps h_this_trail h_this_queue h_this_steps_low h_this_steps_high h_this_trail_from c_size c_steps_letters c_steps_low c_steps_high c_trail_from (upd c_queue (Int32.toNatClampNeg c_size) r4)) := hD
              refine lv_aload_n hx hb dX7_lookFrom_76 rfl (lv_at hl 1 rfl) ?_
              refine lv_dup hx hb dX7_lookFrom_77 rfl ?_
              refine va_get (D := g.1) (ci := 6) (v := .int c_size) (C := RX7) (T := TX7) (N := 4) hx hb hts iX7 hown hK hP 0 rfl rfl 3 (by decide) f35 (fun _ h9 => h9) rfl dX7_lookFrom_78 ?_
              refine lv_iconst (v := (nI 1)) hx hb dX7_lookFrom_81 (by decide) ?_
              refine lv_iadd hx hb dX7_lookFrom_82 ?_
              refine va_put (D := g.1) (ci := 6) (v := .int (c_size + (nI 1))) (ty := .int) (C := RX7) (T := TX7) (N := 4) hx hb hts iX7 tyX7 tyX7_ok nmX7 hown hK hP hD hS 0 rfl rfl 3 (by decide) f35 (fun _ h9 => h9) rfl (by decide +kernel) rfl rfl (Nat.le_of_ble_eq_true rfl) dX7_lookFrom_83 (fun H locs hP hD hS => ?_)
              have hP : va_P g.1 vwCl (cw_X7_lookFrom g h_this h_this_steps h_this_trail h_this_queue h_this_steps_low h_this_steps_high h_this_trail_from (c_size + (nI 1)) c_steps_letters c_steps_low c_steps_high c_trail_from (upd c_queue (Int32.toNatClampNeg c_size) r4)) H := hP
              have hD : va_D A (cw_X7_lookFrom g h_this h_this_steps h_this_trail h_this_queue h_this_steps_low h_this_steps_high h_this_trail_from (c_size + (nI 1)) c_steps_letters c_steps_low c_steps_high c_trail_from (upd c_queue (Int32.toNatClampNeg c_size) r4)) := hD
              refine lv_iload hx hb dX7_lookFrom_86 (lv_at hl 0 rfl) ?_
              refine lv_iload_n hx hb dX7_lookFrom_88 rfl (lv_at hl 3 rfl) ?_
              refine go_I E (run_S E ((k_X7_isWanted l g  h) _) (va_cwS 2 hts gX7_lookFrom_X7_isWanted rfl rfl rfl (by decide +kernel) ⟨Nat.le_of_ble_eq_true rfl, Nat.le_of_ble_eq_true rfl⟩) hP hD hS [] rfl rfl hl rfl rfl (Nat.le_of_ble_eq_true rfl) dX7_lookFrom_89 ⟨Nat.le_of_ble_eq_true rfl, Nat.le_of_ble_eq_true rfl⟩) hP hD hS [] rfl [(true, 0), (true, 1), (true, 2), (true, 3), (true, 4), (true, 5), (true, 6)] rfl (by decide) (fun _ => (cw_X7_lookFrom g h_this h_this_steps h_this_trail h_this_queue h_this_steps_low h_this_steps_high h_this_trail_from (c_size + (nI 1)) c_steps_letters c_steps_low c_steps_high c_trail_from (upd c_queue (Int32.toNatClampNeg c_size) r4))) (fun _ => rfl) (fun r10 _ H locs h hP hD hS => ?_)
              try dsimp only at h
              have hP : va_P g.1 vwCl (cw_X7_lookFrom g h_this h_this_steps h_this_trail h_this_queue h_this_steps_low h_this_steps_high h_this_trail_from (c_size + (nI 1)) c_steps_letters c_steps_low c_steps_high c_trail_from (upd c_queue (Int32.toNatClampNeg c_size) r4)) H := hP
              have hD : va_D A (cw_X7_lookFrom g h_this h_this_steps h_this_trail h_this_queue h_this_steps_low h_this_steps_high h_this_trail_from (c_size + (nI 1)) c_steps_letters c_steps_low c_steps_high c_trail_from (upd c_queue (Int32.toNatClampNeg c_size) r4)) := hD
              refine lv_if_eq (tgt := 98) hx hb dX7_lookFrom_92 (by decide) (fun cq => ?_) (fun cq => ?_)
              · replace h := h.1 cq
                exact K_98 x3 (c_size + (nI 1)) c_trail_from (upd c_queue (Int32.toNatClampNeg c_size) r4) h _ _ hP hD hS _ (lv_sub hl [1, 2, 3, 4] rfl)
              · replace h := h.2 cq
                refine lv_iload hx hb dX7_lookFrom_95 (lv_at hl 0 rfl) ?_
                exact hret r4 ((c_size + (nI 1)), c_trail_from, (upd c_queue (Int32.toNatClampNeg c_size) r4)) _ _ _ _ rfl h hP hD hS dX7_lookFrom_97
            · replace h := h.2 cq
              refine lv_goto (tgt := 98) hx hb dX7_lookFrom_51 (by decide) ?_
              exact K_98 x3 c_size c_trail_from c_queue h _ _ hP hD hS _ (lv_sub hl [1, 2, 3, 4] rfl)
  refine lv_iconst (v := (nI 0)) hx hb dX7_lookFrom_0 (by decide) ?_
  refine lv_istore_n (lv' := [(3, .int (nI 0)), (0, .ref h_this), (1, .int x1), (2, .int x2)]) hx hb dX7_lookFrom_1 rfl hl (by decide) rfl (fun ls hl => ?_)
  obtain ⟨n, h⟩ := h
  exact K_2 n (nI 0) c_size c_trail_from c_queue h _ _ hP hD hS _ (lv_sub hl [1, 2, 3, 0] rfl)
