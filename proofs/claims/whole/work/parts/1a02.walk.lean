abbrev cw_X0_all (g : GG) (h_this : Nat) (h_m : Nat) (h_this_steps : Nat) (h_this_search : Nat) (h_this_now : Nat) (h_this_next : Nat) (h_m_moves : Nat) (h_m_lights : Nat) (h_m_prices : Nat) (h_m_shares : Nat) (c_m_states : Int32) (c_m_letters : Int32) (c_m_shares : Nat → Int32) : va_W := [(h_this, .inr (0, [.ref h_this_steps, .ref h_this_search, .ref h_this_now, .ref h_this_next])), (h_m, .inr (3, [.int c_m_states, .int c_m_letters, .ref h_m_moves, .ref h_m_lights, .ref h_m_prices, .ref h_m_shares])), (h_m_shares, .inl (g.2.1, 4, .inl c_m_shares))]
def L_X0_all_36 (x2 : Int32) (x3 : Int64) (Q : Int64 → Prop) : Nat → Int64 → Int32 → Prop
  | 0, _, _ => False
  | n_36 + 1, x5, x7 =>
    ((x2 ≤ x7 → Q x5) ∧ (¬ x2 ≤ x7 → (L_X0_all_36 x2 x3 Q n_36) (x5 * x3) (x7 + (nI 1))))
def J_X0_all_30 (x2 : Int32) (Q : Int64 → Prop) (x3 : Int64) : Prop :=
    ∃ n, L_X0_all_36 x2 x3 Q n (lN 1) (nI 0)
def L_X0_all_5 (c_m_states : Int32) (c_m_letters : Int32) (c_m_shares : Nat → Int32) (x2 : Int32) (Q : Int64 → Prop) : Nat → Int64 → Int32 → Prop
  | 0, _, _ => False
  | n_5 + 1, x3, x5 =>
    ((c_m_letters ≤ x5 → J_X0_all_30 x2 Q x3) ∧ (¬ c_m_letters ≤ x5 → wp_X4_shareOf c_m_states c_m_letters c_m_shares x5 (fun r4 => (L_X0_all_5 c_m_states c_m_letters c_m_shares x2 Q n_5) (x3 + (Int32.toInt64 r4)) (x5 + (nI 1)))))
def wp_X0_all (c_m_states : Int32) (c_m_letters : Int32) (c_m_shares : Nat → Int32) (x2 : Int32) (Q : Int64 → Prop) : Prop :=
    ∃ n, L_X0_all_5 c_m_states c_m_letters c_m_shares x2 Q n (lN 0) (nI 0)
abbrev rm_X0_all : Room := { frames := 2, cells := 0, slots := 0, locals := 42 }
set_option maxHeartbeats 4000000 in
set_option maxRecDepth 100000 in
theorem k_X0_all (l : Launch) (g : GG) (h_this : Nat) (h_m : Nat) (h_this_steps : Nat) (h_this_search : Nat) (h_this_now : Nat) (h_this_next : Nat) (h_m_moves : Nat) (h_m_lights : Nat) (h_m_prices : Nat) (h_m_shares : Nat) {c_m_states : Int32} {c_m_letters : Int32} {c_m_shares : Nat → Int32} {x2 : Int32} {Q : Int64 → Prop} (h : wp_X0_all c_m_states c_m_letters c_m_shares x2 Q) : CL l g yX0_all wsX0_all rm_X0_all [.ref h_this, .ref h_m, .int x2] (cw_X0_all g h_this h_m h_this_steps h_this_search h_this_now h_this_next h_m_moves h_m_lights h_m_prices h_m_shares c_m_states c_m_letters c_m_shares) (S := Unit) (fun _ => (cw_X0_all g h_this h_m h_this_steps h_this_search h_this_now h_this_next h_m_moves h_m_lights h_m_prices h_m_shares c_m_states c_m_letters c_m_shares)) (fun r _ => Q r) 0 0 := by
  refine mk_L (cc := cX0_all) (maxL := 8) (own := RX0) (by decide) rfl rfl (Nat.le_of_ble_eq_true rfl) ?_
  intro p e s m args below meth c A QQ E hret hP hD hS ls hl
  have E2 := E
  obtain ⟨hx, hb, hr, hml, hown, hts, hlocks, hA, hZ, hK, hnm⟩ := E2
  have hP : va_P g.1 vwCl (cw_X0_all g h_this h_m h_this_steps h_this_search h_this_now h_this_next h_m_moves h_m_lights h_m_prices h_m_shares c_m_states c_m_letters c_m_shares) s.heap := hP
  have hD : va_D A (cw_X0_all g h_this h_m h_this_steps h_this_search h_this_now h_this_next h_m_moves h_m_lights h_m_prices h_m_shares c_m_states c_m_letters c_m_shares) := hD
  have hl : lv_has ls 8 [(0, .ref h_this), (1, .ref h_m), (2, .int x2)] := hl
  unfold wp_X0_all at h
  have K_36 : ∀ (x3 : Int64) (n_36 : Nat) (x5 : Int64) (x7 : Int32) , L_X0_all_36 x2 x3 Q n_36 x5 x7 → ∀ (H : Heap) (locs : List Loc), va_P g.1 vwCl (cw_X0_all g h_this h_m h_this_steps h_this_search h_this_now h_this_next h_m_moves h_m_lights h_m_prices h_m_shares c_m_states c_m_letters c_m_shares) H → va_D A (cw_X0_all g h_this h_m h_this_steps h_this_search h_this_now h_this_next h_m_moves h_m_lights h_m_prices h_m_shares c_m_states c_m_letters c_m_shares) → va_S A s.heap H locs → ∀ ls : Array Slot, lv_has ls 8 [(2, .int x2), (3, .long x3), (5, .long x5), (7, .int x7)] → W p l e rm_X0_all s m args below meth c H locs 0 0 QQ (F0 m 36 ls []) := by
    intro x3 n_36
    induction n_36 with
    | zero => intro x5 x7; exact fun h => False.elim h
    | succ n_36 ih_36 =>
      intro x5 x7 h H locs hP hD hS ls hl
      unfold L_X0_all_36 at h
      refine lv_iload hx hb dX0_all_36 (lv_at hl 3 rfl) ?_
      refine lv_iload_n hx hb dX0_all_38 rfl (lv_at hl 0 rfl) ?_
      refine lv_icmp_ge (tgt := 54) hx hb dX0_all_39 (by decide) (fun cq => ?_) (fun cq => ?_)
      · replace h := h.1 cq
        refine lv_lload hx hb dX0_all_54 (lv_at hl 2 rfl) ?_
        exact hret x5 () _ _ _ _ h hP hD hS dX0_all_56
      · replace h := h.2 cq
        refine lv_lload hx hb dX0_all_42 (lv_at hl 2 rfl) ?_
        refine lv_lload_n hx hb dX0_all_44 rfl (lv_at hl 1 rfl) ?_
        refine lv_lmul hx hb dX0_all_45 ?_
        refine lv_lstore (lv' := [(5, .long (x5 * x3)), (2, .int x2), (3, .long x3), (7, .int x7)]) hx hb dX0_all_46 hl (by decide) rfl (fun ls hl => ?_)
        refine lv_iinc (v := (x7 + (nI 1))) (lv' := [(7, .int (x7 + (nI 1))), (5, .long (x5 * x3)), (2, .int x2), (3, .long x3)]) hx hb dX0_all_48 hl (k := 3) rfl rfl (by decide) rfl (fun ls hl => ?_)
        refine lv_goto (tgt := 36) hx hb dX0_all_51 (by decide) ?_
        exact ih_36 (x5 * x3) (x7 + (nI 1)) h _ _ hP hD hS _ (lv_sub hl [2, 3, 1, 0] rfl)
  have K_30 : ∀ (x3 : Int64) , J_X0_all_30 x2 Q x3 → ∀ (H : Heap) (locs : List Loc), va_P g.1 vwCl (cw_X0_all g h_this h_m h_this_steps h_this_search h_this_now h_this_next h_m_moves h_m_lights h_m_prices h_m_shares c_m_states c_m_letters c_m_shares) H → va_D A (cw_X0_all g h_this h_m h_this_steps h_this_search h_this_now h_this_next h_m_moves h_m_lights h_m_prices h_m_shares c_m_states c_m_letters c_m_shares) → va_S A s.heap H locs → ∀ ls : Array Slot, lv_has ls 8 [(2, .int x2), (3, .long x3)] → W p l e rm_X0_all s m args below meth c H locs 0 0 QQ (F0 m 30 ls []) := by
    intro x3 h H locs hP hD hS ls hl
    unfold J_X0_all_30 at h
    refine lv_lconst (v := lN 1) hx hb dX0_all_30 (by decide) ?_
    refine lv_lstore (lv' := [(5, .long (lN 1)), (2, .int x2), (3, .long x3)]) hx hb dX0_all_31 hl (by decide) rfl (fun ls hl => ?_)
    refine lv_iconst (v := (nI 0)) hx hb dX0_all_33 (by decide) ?_
    refine lv_istore (lv' := [(7, .int (nI 0)), (5, .long (lN 1)), (2, .int x2), (3, .long x3)]) hx hb dX0_all_34 hl (by decide) rfl (fun ls hl => ?_)
    obtain ⟨n, h⟩ := h
    exact K_36 x3 n (lN 1) (nI 0) h _ _ hP hD hS _ (lv_sub hl [2, 3, 1, 0] rfl)
  have K_5 : ∀ (n_5 : Nat) (x3 : Int64) (x5 : Int32) , L_X0_all_5 c_m_states c_m_letters c_m_shares x2 Q n_5 x3 x5 → ∀ (H : Heap) (locs : List Loc), va_P g.1 vwCl (cw_X0_all g h_this h_m h_this_steps h_this_search h_this_now h_this_next h_m_moves h_m_lights h_m_prices h_m_shares c_m_states c_m_letters c_m_shares) H → va_D A (cw_X0_all g h_this h_m h_this_steps h_this_search h_this_now h_this_next h_m_moves h_m_lights h_m_prices h_m_shares c_m_states c_m_letters c_m_shares) → va_S A s.heap H locs → ∀ ls : Array Slot, lv_has ls 8 [(1, .ref h_m), (2, .int x2), (3, .long x3), (5, .int x5)] → W p l e rm_X0_all s m args below meth c H locs 0 0 QQ (F0 m 5 ls []) := by
    intro n_5
    induction n_5 with
    | zero => intro x3 x5; exact fun h => False.elim h
    | succ n_5 ih_5 =>
      intro x3 x5 h H locs hP hD hS ls hl
      unfold L_X0_all_5 at h
      refine lv_iload hx hb dX0_all_5 (lv_at hl 3 rfl) ?_
      refine lv_aload_n hx hb dX0_all_7 rfl (lv_at hl 0 rfl) ?_
      refine go_I E (run_V E ((k_X4_letters l g h_m h_m_moves h_m_lights h_m_prices h_m_shares (Q := fun r => r = c_m_letters) rfl) _) (cwV 0 hts gX0_all_X4_letters rfl rfl rfl (by decide +kernel) ⟨Nat.le_of_ble_eq_true rfl, Nat.le_of_ble_eq_true rfl⟩) hP hD hS [1] rfl rfl 0 3 rfl rfl rfl hl rfl rfl (Nat.le_of_ble_eq_true rfl) dX0_all_8 ⟨Nat.le_of_ble_eq_true rfl, Nat.le_of_ble_eq_true rfl⟩) hP hD hS [1] rfl [(true, 0), (false, 0), (true, 2)] rfl (by decide) (fun _ => (cw_X0_all g h_this h_m h_this_steps h_this_search h_this_now h_this_next h_m_moves h_m_lights h_m_prices h_m_shares c_m_states c_m_letters c_m_shares)) (fun _ => rfl) (fun r2 _ H locs hr_ hP hD hS => ?_)
      have hr_ : c_m_letters = r2 := Eq.symm hr_
      subst hr_
      have hP : va_P g.1 vwCl (cw_X0_all g h_this h_m h_this_steps h_this_search h_this_now h_this_next h_m_moves h_m_lights h_m_prices h_m_shares c_m_states c_m_letters c_m_shares) H := hP
      have hD : va_D A (cw_X0_all g h_this h_m h_this_steps h_this_search h_this_now h_this_next h_m_moves h_m_lights h_m_prices h_m_shares c_m_states c_m_letters c_m_shares) := hD
      refine lv_icmp_ge (tgt := 30) hx hb dX0_all_11 (by decide) (fun cq => ?_) (fun cq => ?_)
      · replace h := h.1 cq
        exact K_30 x3 h _ _ hP hD hS _ (lv_sub hl [1, 2] rfl)
      · replace h := h.2 cq
        refine lv_lload_n hx hb dX0_all_14 rfl (lv_at hl 2 rfl) ?_
        refine lv_aload_n hx hb dX0_all_15 rfl (lv_at hl 0 rfl) ?_
        refine lv_iload hx hb dX0_all_16 (lv_at hl 3 rfl) ?_
        refine go_I E (run_V E ((k_X4_shareOf l g h_m h_m_moves h_m_lights h_m_prices h_m_shares h) _) (cwV 1 hts gX0_all_X4_shareOf rfl rfl rfl (by decide +kernel) ⟨Nat.le_of_ble_eq_true rfl, Nat.le_of_ble_eq_true rfl⟩) hP hD hS [1, 2] rfl rfl 0 3 rfl rfl rfl hl rfl rfl (Nat.le_of_ble_eq_true rfl) dX0_all_18 ⟨Nat.le_of_ble_eq_true rfl, Nat.le_of_ble_eq_true rfl⟩) hP hD hS [1, 2] rfl [(true, 0), (false, 0), (false, 1)] rfl (by decide) (fun _ => (cw_X0_all g h_this h_m h_this_steps h_this_search h_this_now h_this_next h_m_moves h_m_lights h_m_prices h_m_shares c_m_states c_m_letters c_m_shares)) (fun _ => rfl) (fun r4 _ H locs h hP hD hS => ?_)
        try dsimp only at h
        have hP : va_P g.1 vwCl (cw_X0_all g h_this h_m h_this_steps h_this_search h_this_now h_this_next h_m_moves h_m_lights h_m_prices h_m_shares c_m_states c_m_letters c_m_shares) H := hP
        have hD : va_D A (cw_X0_all g h_this h_m h_this_steps h_this_search h_this_now h_this_next h_m_moves h_m_lights h_m_prices h_m_shares c_m_states c_m_letters c_m_shares) := hD
        refine lv_i2l (v := (Int32.toInt64 r4)) hx hb dX0_all_21 rfl ?_
        refine lv_ladd hx hb dX0_all_22 ?_
        refine lv_lstore_n (lv' := [(3, .long (x3 + (Int32.toInt64 r4))), (1, .ref h_m), (2, .int x2), (5, .int x5)]) hx hb dX0_all_23 rfl hl (by decide) rfl (fun ls hl => ?_)
        refine lv_iinc (v := (x5 + (nI 1))) (lv' := [(5, .int (x5 + (nI 1))), (3, .long (x3 + (Int32.toInt64 r4))), (1, .ref h_m), (2, .int x2)]) hx hb dX0_all_24 hl (k := 3) rfl rfl (by decide) rfl (fun ls hl => ?_)
        refine lv_goto (tgt := 5) hx hb dX0_all_27 (by decide) ?_
        exact ih_5 (x3 + (Int32.toInt64 r4)) (x5 + (nI 1)) h _ _ hP hD hS _ (lv_sub hl [2, 3, 1, 0] rfl)
  refine lv_lconst (v := lN 0) hx hb dX0_all_0 (by decide) ?_
  refine lv_lstore_n (lv' := [(3, .long (lN 0)), (0, .ref h_this), (1, .ref h_m), (2, .int x2)]) hx hb dX0_all_1 rfl hl (by decide) rfl (fun ls hl => ?_)
  refine lv_iconst (v := (nI 0)) hx hb dX0_all_2 (by decide) ?_
  refine lv_istore (lv' := [(5, .int (nI 0)), (3, .long (lN 0)), (0, .ref h_this), (1, .ref h_m), (2, .int x2)]) hx hb dX0_all_3 hl (by decide) rfl (fun ls hl => ?_)
  obtain ⟨n, h⟩ := h
  exact K_5 n (lN 0) (nI 0) h _ _ hP hD hS _ (lv_sub hl [3, 4, 1, 0] rfl)
abbrev cw_X4_states (g : GG) (h_this : Nat) (h_this_moves : Nat) (h_this_lights : Nat) (h_this_prices : Nat) (h_this_shares : Nat) (c_states : Int32) (c_letters : Int32) : va_W := [(h_this, .inr (3, [.int c_states, .int c_letters, .ref h_this_moves, .ref h_this_lights, .ref h_this_prices, .ref h_this_shares]))]
def wp_X4_states (c_states : Int32) (c_letters : Int32) (Q : Int32 → Prop) : Prop :=
    Q c_states
abbrev rm_X4_states : Room := { frames := 0, cells := 0, slots := 0, locals := 0 }
set_option maxHeartbeats 4000000 in
set_option maxRecDepth 100000 in
theorem k_X4_states (l : Launch) (g : GG) (h_this : Nat) (h_this_moves : Nat) (h_this_lights : Nat) (h_this_prices : Nat) (h_this_shares : Nat) {c_states : Int32} {c_letters : Int32} {Q : Int32 → Prop} (h : wp_X4_states c_states c_letters Q) : CI l g yX4_states wsX4_states rm_X4_states [.ref h_this] (cw_X4_states g h_this h_this_moves h_this_lights h_this_prices h_this_shares c_states c_letters) (S := Unit) (fun _ => (cw_X4_states g h_this h_this_moves h_this_lights h_this_prices h_this_shares c_states c_letters)) (fun r _ => Q r) 0 0 := by
  refine mk_I (cc := cX4_states) (maxL := 1) (own := RX4) (by decide) rfl rfl (Nat.le_of_ble_eq_true rfl) ?_
  intro p e s m args below meth c A QQ E hret hP hD hS ls hl
  have E2 := E
  obtain ⟨hx, hb, hr, hml, hown, hts, hlocks, hA, hZ, hK, hnm⟩ := E2
  have f24 := hts (.fieldLink RX4 24 "WordBench$Machine" "states" "I") (by decide +kernel)
  have iX4 : ∀ w ∈ wsX40, w ∈ wsX4_states := fun _ h => List.mem_cons_of_mem _ (List.mem_append_right _ h)
  have hP : va_P g.1 vwCl (cw_X4_states g h_this h_this_moves h_this_lights h_this_prices h_this_shares c_states c_letters) s.heap := hP
  have hD : va_D A (cw_X4_states g h_this h_this_moves h_this_lights h_this_prices h_this_shares c_states c_letters) := hD
  have hl : lv_has ls 1 [(0, .ref h_this)] := hl
  unfold wp_X4_states at h
  refine lv_aload_n hx hb dX4_states_0 rfl (lv_at hl 0 rfl) ?_
  refine va_get (D := g.1) (ci := 3) (v := .int c_states) (C := RX4) (T := TX4) (N := 6) hx hb hts iX4 hown hK hP 0 rfl rfl 0 (by decide) f24 (fun _ h9 => h9) rfl dX4_states_1 ?_
  exact hret c_states () _ _ _ _ rfl h hP hD hS dX4_states_4
abbrev cw_X1_orderOf (g : GG) (h_this : Nat) (h_this_orders : Nat) (h_this_together : Nat) (h_this_painted : Nat) (c_orders : Nat → Int32) : va_W := [(h_this, .inr (1, [.ref h_this_orders, .ref h_this_together, .ref h_this_painted])), (h_this_orders, .inl (g.2.1, 12, .inl c_orders))]
def wp_X1_orderOf (c_orders : Nat → Int32) (x1 : Int32) (Q : Int32 → Prop) : Prop :=
    ((x1 < (nI 0) → Q (nI 0)) ∧ (¬ x1 < (nI 0) → (((nI 12) ≤ x1 → Q (nI 0)) ∧ (¬ (nI 12) ≤ x1 → vp_in x1 12 ∧ Q (c_orders (Int32.toNatClampNeg x1))))))
abbrev rm_X1_orderOf : Room := { frames := 0, cells := 0, slots := 0, locals := 0 }
set_option maxHeartbeats 4000000 in
set_option maxRecDepth 100000 in
theorem k_X1_orderOf (l : Launch) (g : GG) (h_this : Nat) (h_this_orders : Nat) (h_this_together : Nat) (h_this_painted : Nat) {c_orders : Nat → Int32} {x1 : Int32} {Q : Int32 → Prop} (h : wp_X1_orderOf c_orders x1 Q) : CI l g yX1_orderOf wsX1_orderOf rm_X1_orderOf [.ref h_this, .int x1] (cw_X1_orderOf g h_this h_this_orders h_this_together h_this_painted c_orders) (S := Unit) (fun _ => (cw_X1_orderOf g h_this h_this_orders h_this_together h_this_painted c_orders)) (fun r _ => Q r) 0 0 := by
  refine mk_I (cc := cX1_orderOf) (maxL := 2) (own := RX1) (by decide) rfl rfl (Nat.le_of_ble_eq_true rfl) ?_
  intro p e s m args below meth c A QQ E hret hP hD hS ls hl
  have E2 := E
  obtain ⟨hx, hb, hr, hml, hown, hts, hlocks, hA, hZ, hK, hnm⟩ := E2
  have f9 := hts (.fieldLink RX1 9 "WordBench$Colouring" "orders" "[I") (by decide +kernel)
  have iX1 : ∀ w ∈ wsX10, w ∈ wsX1_orderOf := fun _ h => List.mem_cons_of_mem _ (List.mem_append_right _ h)
  have hP : va_P g.1 vwCl (cw_X1_orderOf g h_this h_this_orders h_this_together h_this_painted c_orders) s.heap := hP
  have hD : va_D A (cw_X1_orderOf g h_this h_this_orders h_this_together h_this_painted c_orders) := hD
  have hl : lv_has ls 2 [(0, .ref h_this), (1, .int x1)] := hl
  unfold wp_X1_orderOf at h
  refine lv_iload_n hx hb dX1_orderOf_0 rfl (lv_at hl 1 rfl) ?_
  refine lv_if_lt (tgt := 19) hx hb dX1_orderOf_1 (by decide) (fun cq => ?_) (fun cq => ?_)
  · replace h := h.1 cq
    refine lv_iconst (v := (nI 0)) hx hb dX1_orderOf_19 (by decide) ?_
    exact hret (nI 0) () _ _ _ _ rfl h hP hD hS dX1_orderOf_20
  · replace h := h.2 cq
    refine lv_iload_n hx hb dX1_orderOf_4 rfl (lv_at hl 1 rfl) ?_
    refine lv_bipush (v := (nI 12)) hx hb dX1_orderOf_5 (by decide) ?_
    refine lv_icmp_ge (tgt := 19) hx hb dX1_orderOf_7 (by decide) (fun cq => ?_) (fun cq => ?_)
    · replace h := h.1 cq
      refine lv_iconst (v := (nI 0)) hx hb dX1_orderOf_19 (by decide) ?_
      exact hret (nI 0) () _ _ _ _ rfl h hP hD hS dX1_orderOf_20
    · replace h := h.2 cq
      refine lv_aload_n hx hb dX1_orderOf_10 rfl (lv_at hl 0 rfl) ?_
      refine va_get (D := g.1) (ci := 1) (v := .ref h_this_orders) (C := RX1) (T := TX1) (N := 3) hx hb hts iX1 hown hK hP 0 rfl rfl 0 (by decide) f9 (fun _ h9 => h9) rfl dX1_orderOf_11 ?_
      refine lv_iload_n hx hb dX1_orderOf_14 rfl (lv_at hl 1 rfl) ?_
      obtain ⟨hi, h⟩ := h
      refine va_iald (D := g.1) (n := 12) (f := c_orders) hx hb hK hP 1 0 rfl rfl hi dX1_orderOf_15 ?_
      refine lv_goto (tgt := 20) hx hb dX1_orderOf_16 (by decide) ?_
      exact hret (c_orders (Int32.toNatClampNeg x1)) () _ _ _ _ rfl h hP hD hS dX1_orderOf_20
abbrev cw_X1_letterOf (g : GG) : va_W := []
def wp_X1_letterOf (x0 : Int32) (x1 : Int32) (x2 : Int32) (Q : Int32 → Prop) : Prop :=
    (((((x0 * (nI 4)) + ((nI 4) - x2)) + x1) < (nI 0) → Q (-1)) ∧ (¬ (((x0 * (nI 4)) + ((nI 4) - x2)) + x1) < (nI 0) → (((nI 96) ≤ (((x0 * (nI 4)) + ((nI 4) - x2)) + x1) → Q (-1)) ∧ (¬ (nI 96) ≤ (((x0 * (nI 4)) + ((nI 4) - x2)) + x1) → vp_in (((x0 * (nI 4)) + ((nI 4) - x2)) + x1) 96 ∧ Q ((ordV (Int32.toNatClampNeg (((x0 * (nI 4)) + ((nI 4) - x2)) + x1))) - ((nI 4) - x2))))))
abbrev rm_X1_letterOf : Room := { frames := 0, cells := 0, slots := 0, locals := 0 }
set_option maxHeartbeats 4000000 in
set_option maxRecDepth 100000 in
theorem k_X1_letterOf (l : Launch) (g : GG) {x0 : Int32} {x1 : Int32} {x2 : Int32} {Q : Int32 → Prop} (h : wp_X1_letterOf x0 x1 x2 Q) : CI l g yX1_letterOf wsX1_letterOf rm_X1_letterOf [.int x0, .int x1, .int x2] (cw_X1_letterOf g) (S := Unit) (fun _ => (cw_X1_letterOf g)) (fun r _ => Q r) 0 0 := by
  refine mk_I (cc := cX1_letterOf) (maxL := 5) (own := RX1) (by decide) rfl rfl (Nat.le_of_ble_eq_true rfl) ?_
  intro p e s m args below meth c A QQ E hret hP hD hS ls hl
  have E2 := E
  obtain ⟨hx, hb, hr, hml, hown, hts, hlocks, hA, hZ, hK, hnm⟩ := E2
  have f75 := hts (.fieldLink RX1 75 "WordBench$Colouring" "ORDERS" "[I") (by decide +kernel)
  have hP : va_P g.1 vwCl (cw_X1_letterOf g) s.heap := hP
  have hD : va_D A (cw_X1_letterOf g) := hD
  have hl : lv_has ls 5 [(0, .int x0), (1, .int x1), (2, .int x2)] := hl
  unfold wp_X1_letterOf at h
  refine lv_iconst (v := (nI 4)) hx hb dX1_letterOf_0 (by decide) ?_
  refine lv_iload_n hx hb dX1_letterOf_1 rfl (lv_at hl 2 rfl) ?_
  refine lv_isub hx hb dX1_letterOf_2 ?_
  refine lv_istore_n (lv' := [(3, .int ((nI 4) - x2)), (0, .int x0), (1, .int x1), (2, .int x2)]) hx hb dX1_letterOf_3 rfl hl (by decide) rfl (fun ls hl => ?_)
  refine lv_iload_n hx hb dX1_letterOf_4 rfl (lv_at hl 1 rfl) ?_
  refine lv_iconst (v := (nI 4)) hx hb dX1_letterOf_5 (by decide) ?_
  refine lv_imul hx hb dX1_letterOf_6 ?_
  refine lv_iload_n hx hb dX1_letterOf_7 rfl (lv_at hl 0 rfl) ?_
  refine lv_iadd hx hb dX1_letterOf_8 ?_
  refine lv_iload_n hx hb dX1_letterOf_9 rfl (lv_at hl 2 rfl) ?_
  refine lv_iadd hx hb dX1_letterOf_10 ?_
  refine lv_istore (lv' := [(4, .int (((x0 * (nI 4)) + ((nI 4) - x2)) + x1)), (3, .int ((nI 4) - x2)), (0, .int x0), (1, .int x1), (2, .int x2)]) hx hb dX1_letterOf_11 hl (by decide) rfl (fun ls hl => ?_)
  refine lv_iload hx hb dX1_letterOf_13 (lv_at hl 0 rfl) ?_
  refine lv_if_lt (tgt := 38) hx hb dX1_letterOf_15 (by decide) (fun cq => ?_) (fun cq => ?_)
  · replace h := h.1 cq
    refine lv_iconst (v := (-1)) hx hb dX1_letterOf_38 (by decide) ?_
    exact hret (-1) () _ _ _ _ rfl h hP hD hS dX1_letterOf_39
  · replace h := h.2 cq
    refine lv_iload hx hb dX1_letterOf_18 (lv_at hl 0 rfl) ?_
    obtain ⟨hh_or, hZ1, hZ2⟩ := hZ.2.1
    refine va_gets hx hb hZ1 hS hown f75 (fun _ h9 => h9) dX1_letterOf_20 ?_
    refine va_tlen (v := nI 96) hx hb hZ2 hS rfl dX1_letterOf_23 ?_
    refine lv_icmp_ge (tgt := 38) hx hb dX1_letterOf_24 (by decide) (fun cq => ?_) (fun cq => ?_)
    · replace h := h.1 cq
      refine lv_iconst (v := (-1)) hx hb dX1_letterOf_38 (by decide) ?_
      exact hret (-1) () _ _ _ _ rfl h hP hD hS dX1_letterOf_39
    · replace h := h.2 cq
      obtain ⟨hh_or, hZ1, hZ2⟩ := hZ.2.1
      refine va_gets hx hb hZ1 hS hown f75 (fun _ h9 => h9) dX1_letterOf_27 ?_
      refine lv_iload hx hb dX1_letterOf_30 (lv_at hl 0 rfl) ?_
      obtain ⟨hi, h⟩ := h
      refine va_ti (v := .int (ordV (Int32.toNatClampNeg (((x0 * (nI 4)) + ((nI 4) - x2)) + x1)))) hx hb hZ2 hS hi rfl dX1_letterOf_32 ?_
      refine lv_iload_n hx hb dX1_letterOf_33 rfl (lv_at hl 1 rfl) ?_
      refine lv_isub hx hb dX1_letterOf_34 ?_
      refine lv_goto (tgt := 39) hx hb dX1_letterOf_35 (by decide) ?_
      exact hret ((ordV (Int32.toNatClampNeg (((x0 * (nI 4)) + ((nI 4) - x2)) + x1))) - ((nI 4) - x2)) () _ _ _ _ rfl h hP hD hS dX1_letterOf_39
abbrev cw_X4_lead (g : GG) (h_this : Nat) (h_this_moves : Nat) (h_this_lights : Nat) (h_this_prices : Nat) (h_this_shares : Nat) (c_states : Int32) (c_letters : Int32) (c_moves : Nat → Int32) : va_W := [(h_this, .inr (3, [.int c_states, .int c_letters, .ref h_this_moves, .ref h_this_lights, .ref h_this_prices, .ref h_this_shares])), (h_this_moves, .inl (g.2.1, 48, .inl c_moves))]
def J_X4_lead_38 (Q : (Nat → Int32) → Prop) (c_moves : Nat → Int32) (t0 : Int32) (t1 : Int32) : Prop :=
    vp_in t1 48 ∧ Q (upd c_moves (Int32.toNatClampNeg t1) t0)
def wp_X4_lead (c_states : Int32) (c_letters : Int32) (c_moves : Nat → Int32) (x1 : Int32) (x2 : Int32) (x3 : Int32) (Q : (Nat → Int32) → Prop) : Prop :=
    wp_X4_hasState c_states c_letters x1 (fun r2 => ((r2 = (nI 0) → Q c_moves) ∧ (¬ r2 = (nI 0) → wp_X4_hasLetter c_states c_letters x2 (fun r4 => ((r4 = (nI 0) → Q c_moves) ∧ (¬ r4 = (nI 0) → wp_X4_hasState c_states c_letters x3 (fun r6 => ((r6 = (nI 0) → J_X4_lead_38 Q c_moves (-1) ((x1 * (nI 4)) + x2)) ∧ (¬ r6 = (nI 0) → J_X4_lead_38 Q c_moves x3 ((x1 * (nI 4)) + x2))))))))))
abbrev rm_X4_lead : Room := { frames := 1, cells := 0, slots := 0, locals := 21 }
set_option maxHeartbeats 4000000 in
set_option maxRecDepth 100000 in
theorem k_X4_lead (l : Launch) (g : GG) (h_this : Nat) (h_this_moves : Nat) (h_this_lights : Nat) (h_this_prices : Nat) (h_this_shares : Nat) {c_states : Int32} {c_letters : Int32} {c_moves : Nat → Int32} {x1 : Int32} {x2 : Int32} {x3 : Int32} {Q : (Nat → Int32) → Prop} (h : wp_X4_lead c_states c_letters c_moves x1 x2 x3 Q) : CV l g yX4_lead wsX4_lead rm_X4_lead [.ref h_this, .int x1, .int x2, .int x3] (cw_X4_lead g h_this h_this_moves h_this_lights h_this_prices h_this_shares c_states c_letters c_moves) (S := (Nat → Int32)) (fun u => (cw_X4_lead g h_this h_this_moves h_this_lights h_this_prices h_this_shares c_states c_letters u)) (fun u => Q u) 0 0 := by
  refine mk_V (cc := cX4_lead) (maxL := 4) (own := RX4) (by decide) rfl rfl (Nat.le_of_ble_eq_true rfl) ?_
  intro p e s m args below meth c A QQ E hret hP hD hS ls hl
  have E2 := E
  obtain ⟨hx, hb, hr, hml, hown, hts, hlocks, hA, hZ, hK, hnm⟩ := E2
  have f9 := hts (.fieldLink RX4 9 "WordBench$Machine" "moves" "[I") (by decide +kernel)
  have iX4 : ∀ w ∈ wsX40, w ∈ wsX4_lead := fun _ h => List.mem_cons_of_mem _ (List.mem_append_right _ h)
  have hP : va_P g.1 vwCl (cw_X4_lead g h_this h_this_moves h_this_lights h_this_prices h_this_shares c_states c_letters c_moves) s.heap := hP
  have hD : va_D A (cw_X4_lead g h_this h_this_moves h_this_lights h_this_prices h_this_shares c_states c_letters c_moves) := hD
  have hl : lv_has ls 4 [(0, .ref h_this), (1, .int x1), (2, .int x2), (3, .int x3)] := hl
  unfold wp_X4_lead at h
  have K_38 : ∀ (c_moves : Nat → Int32) (t0 : Int32) (t1 : Int32) , J_X4_lead_38 Q c_moves t0 t1 → ∀ (H : Heap) (locs : List Loc), va_P g.1 vwCl (cw_X4_lead g h_this h_this_moves h_this_lights h_this_prices h_this_shares c_states c_letters c_moves) H → va_D A (cw_X4_lead g h_this h_this_moves h_this_lights h_this_prices h_this_shares c_states c_letters c_moves) → va_S A s.heap H locs → ∀ ls : Array Slot, lv_has ls 4 [] → W p l e rm_X4_lead s m args below meth c H locs 0 0 QQ (F0 m 38 ls [.int t0, .int t1, .ref h_this_moves]) := by
    intro c_moves t0 t1 h H locs hP hD hS ls hl
    unfold J_X4_lead_38 at h
    obtain ⟨hi, h⟩ := h
    refine va_iast (D := g.1) (n := 48) (f := c_moves) hx hb hK hP hD hS 1 0 rfl rfl hi dX4_lead_38 (fun H locs hP hD hS => ?_)
    have hP : va_P g.1 vwCl (cw_X4_lead g h_this h_this_moves h_this_lights h_this_prices h_this_shares c_states c_letters (upd c_moves (Int32.toNatClampNeg t1) t0)) H := hP
    have hD : va_D A (cw_X4_lead g h_this h_this_moves h_this_lights h_this_prices h_this_shares c_states c_letters (upd c_moves (Int32.toNatClampNeg t1) t0)) := hD
    exact hret (upd c_moves (Int32.toNatClampNeg t1) t0) _ _ _ _ h hP hD hS dX4_lead_39
  refine lv_aload_n hx hb dX4_lead_0 rfl (lv_at hl 0 rfl) ?_
  refine lv_iload_n hx hb dX4_lead_1 rfl (lv_at hl 1 rfl) ?_
  refine go_I E (run_V E ((k_X4_hasState l g h_this h_this_moves h_this_lights h_this_prices h_this_shares h) _) (cwV 1 hts gX4_lead_X4_hasState rfl rfl rfl (by decide +kernel) ⟨Nat.le_of_ble_eq_true rfl, Nat.le_of_ble_eq_true rfl⟩) hP hD hS [0] rfl rfl 0 3 rfl rfl rfl hl rfl rfl (Nat.le_of_ble_eq_true rfl) dX4_lead_2 ⟨Nat.le_of_ble_eq_true rfl, Nat.le_of_ble_eq_true rfl⟩) hP hD hS [0] rfl [(false, 0), (true, 1)] rfl (by decide) (fun _ => (cw_X4_lead g h_this h_this_moves h_this_lights h_this_prices h_this_shares c_states c_letters c_moves)) (fun _ => rfl) (fun r2 _ H locs h hP hD hS => ?_)
  try dsimp only at h
  have hP : va_P g.1 vwCl (cw_X4_lead g h_this h_this_moves h_this_lights h_this_prices h_this_shares c_states c_letters c_moves) H := hP
  have hD : va_D A (cw_X4_lead g h_this h_this_moves h_this_lights h_this_prices h_this_shares c_states c_letters c_moves) := hD
  refine lv_if_eq (tgt := 39) hx hb dX4_lead_5 (by decide) (fun cq => ?_) (fun cq => ?_)
  · replace h := h.1 cq
    exact hret c_moves _ _ _ _ h hP hD hS dX4_lead_39
  · replace h := h.2 cq
    refine lv_aload_n hx hb dX4_lead_8 rfl (lv_at hl 0 rfl) ?_
    refine lv_iload_n hx hb dX4_lead_9 rfl (lv_at hl 2 rfl) ?_
    refine go_I E (run_V E ((k_X4_hasLetter l g h_this h_this_moves h_this_lights h_this_prices h_this_shares h) _) (cwV 1 hts gX4_lead_X4_hasLetter rfl rfl rfl (by decide +kernel) ⟨Nat.le_of_ble_eq_true rfl, Nat.le_of_ble_eq_true rfl⟩) hP hD hS [0] rfl rfl 0 3 rfl rfl rfl hl rfl rfl (Nat.le_of_ble_eq_true rfl) dX4_lead_10 ⟨Nat.le_of_ble_eq_true rfl, Nat.le_of_ble_eq_true rfl⟩) hP hD hS [0] rfl [(false, 0), (true, 1)] rfl (by decide) (fun _ => (cw_X4_lead g h_this h_this_moves h_this_lights h_this_prices h_this_shares c_states c_letters c_moves)) (fun _ => rfl) (fun r4 _ H locs h hP hD hS => ?_)
    try dsimp only at h
    have hP : va_P g.1 vwCl (cw_X4_lead g h_this h_this_moves h_this_lights h_this_prices h_this_shares c_states c_letters c_moves) H := hP
    have hD : va_D A (cw_X4_lead g h_this h_this_moves h_this_lights h_this_prices h_this_shares c_states c_letters c_moves) := hD
    refine lv_if_eq (tgt := 39) hx hb dX4_lead_13 (by decide) (fun cq => ?_) (fun cq => ?_)
    · replace h := h.1 cq
      exact hret c_moves _ _ _ _ h hP hD hS dX4_lead_39
    · replace h := h.2 cq
      refine lv_aload_n hx hb dX4_lead_16 rfl (lv_at hl 0 rfl) ?_
      refine va_get (D := g.1) (ci := 3) (v := .ref h_this_moves) (C := RX4) (T := TX4) (N := 6) hx hb hts iX4 hown hK hP 0 rfl rfl 2 (by decide) f9 (fun _ h9 => h9) rfl dX4_lead_17 ?_
      refine lv_iload_n hx hb dX4_lead_20 rfl (lv_at hl 1 rfl) ?_
      refine lv_iconst (v := (nI 4)) hx hb dX4_lead_21 (by decide) ?_
      refine lv_imul hx hb dX4_lead_22 ?_
      refine lv_iload_n hx hb dX4_lead_23 rfl (lv_at hl 2 rfl) ?_
      refine lv_iadd hx hb dX4_lead_24 ?_
      refine lv_aload_n hx hb dX4_lead_25 rfl (lv_at hl 0 rfl) ?_
      refine lv_iload_n hx hb dX4_lead_26 rfl (lv_at hl 3 rfl) ?_
      refine go_I E (run_V E ((k_X4_hasState l g h_this h_this_moves h_this_lights h_this_prices h_this_shares h) _) (cwV 1 hts gX4_lead_X4_hasState rfl rfl rfl (by decide +kernel) ⟨Nat.le_of_ble_eq_true rfl, Nat.le_of_ble_eq_true rfl⟩) hP hD hS [0] rfl rfl 0 3 rfl rfl rfl hl rfl rfl (Nat.le_of_ble_eq_true rfl) dX4_lead_27 ⟨Nat.le_of_ble_eq_true rfl, Nat.le_of_ble_eq_true rfl⟩) hP hD hS [0] rfl [(false, 0), (true, 1)] rfl (by decide) (fun _ => (cw_X4_lead g h_this h_this_moves h_this_lights h_this_prices h_this_shares c_states c_letters c_moves)) (fun _ => rfl) (fun r6 _ H locs h hP hD hS => ?_)
      try dsimp only at h
      have hP : va_P g.1 vwCl (cw_X4_lead g h_this h_this_moves h_this_lights h_this_prices h_this_shares c_states c_letters c_moves) H := hP
      have hD : va_D A (cw_X4_lead g h_this h_this_moves h_this_lights h_this_prices h_this_shares c_states c_letters c_moves) := hD
      refine lv_if_eq (tgt := 37) hx hb dX4_lead_30 (by decide) (fun cq => ?_) (fun cq => ?_)
      · replace h := h.1 cq
        refine lv_iconst (v := (-1)) hx hb dX4_lead_37 (by decide) ?_
        exact K_38 c_moves (-1) ((x1 * (nI 4)) + x2) h _ _ hP hD hS _ (lv_sub hl [] rfl)
      · replace h := h.2 cq
        refine lv_iload_n hx hb dX4_lead_33 rfl (lv_at hl 3 rfl) ?_
        refine lv_goto (tgt := 38) hx hb dX4_lead_34 (by decide) ?_
        exact K_38 c_moves x3 ((x1 * (nI 4)) + x2) h _ _ hP hD hS _ (lv_sub hl [] rfl)
abbrev cw_X1_exchange (g : GG) (h_this : Nat) (h_m : Nat) (h_this_orders : Nat) (h_this_together : Nat) (h_this_painted : Nat) (h_this_painted_moves : Nat) (h_this_painted_lights : Nat) (h_this_painted_prices : Nat) (h_this_painted_shares : Nat) (h_m_moves : Nat) (h_m_lights : Nat) (h_m_prices : Nat) (h_m_shares : Nat) (c_orders : Nat → Int32) (c_painted_states : Int32) (c_painted_letters : Int32) (c_painted_moves : Nat → Int32) (c_m_states : Int32) (c_m_letters : Int32) (c_m_moves : Nat → Int32) : va_W := [(h_this, .inr (1, [.ref h_this_orders, .ref h_this_together, .ref h_this_painted])), (h_this_orders, .inl (g.2.1, 12, .inl c_orders)), (h_this_painted, .inr (3, [.int c_painted_states, .int c_painted_letters, .ref h_this_painted_moves, .ref h_this_painted_lights, .ref h_this_painted_prices, .ref h_this_painted_shares])), (h_this_painted_moves, .inl (g.2.1, 48, .inl c_painted_moves)), (h_m, .inr (3, [.int c_m_states, .int c_m_letters, .ref h_m_moves, .ref h_m_lights, .ref h_m_prices, .ref h_m_shares])), (h_m_moves, .inl (g.2.1, 48, .inl c_m_moves))]
def L_X1_exchange_2 (c_orders : Nat → Int32) (c_painted_states : Int32) (c_painted_letters : Int32) (c_m_states : Int32) (c_m_letters : Int32) (c_m_moves : Nat → Int32) (x2 : Int32) (Q : (Nat → Int32) → Prop) : Nat → Int32 → (Nat → Int32) → Prop
  | 0, _, _ => False
  | n_2 + 1, x3, c_painted_moves =>
    ((c_m_letters ≤ x3 → Q c_painted_moves) ∧ (¬ c_m_letters ≤ x3 → wp_X1_orderOf c_orders x2 (fun r4 => wp_X1_letterOf r4 x3 c_m_letters (fun r8 => wp_X4_target c_m_states c_m_letters c_m_moves x2 r8 (fun r10 => wp_X4_lead c_painted_states c_painted_letters c_painted_moves x2 x3 r10 (fun c_painted_moves => (L_X1_exchange_2 c_orders c_painted_states c_painted_letters c_m_states c_m_letters c_m_moves x2 Q n_2) (x3 + (nI 1)) c_painted_moves))))))
def wp_X1_exchange (c_orders : Nat → Int32) (c_painted_states : Int32) (c_painted_letters : Int32) (c_painted_moves : Nat → Int32) (c_m_states : Int32) (c_m_letters : Int32) (c_m_moves : Nat → Int32) (x2 : Int32) (Q : (Nat → Int32) → Prop) : Prop :=
    ∃ n, L_X1_exchange_2 c_orders c_painted_states c_painted_letters c_m_states c_m_letters c_m_moves x2 Q n (nI 0) c_painted_moves
abbrev rm_X1_exchange : Room := { frames := 2, cells := 0, slots := 0, locals := 44 }
set_option maxHeartbeats 4000000 in
set_option maxRecDepth 100000 in
theorem k_X1_exchange (l : Launch) (g : GG) (h_this : Nat) (h_m : Nat) (h_this_orders : Nat) (h_this_together : Nat) (h_this_painted : Nat) (h_this_painted_moves : Nat) (h_this_painted_lights : Nat) (h_this_painted_prices : Nat) (h_this_painted_shares : Nat) (h_m_moves : Nat) (h_m_lights : Nat) (h_m_prices : Nat) (h_m_shares : Nat) {c_orders : Nat → Int32} {c_painted_states : Int32} {c_painted_letters : Int32} {c_painted_moves : Nat → Int32} {c_m_states : Int32} {c_m_letters : Int32} {c_m_moves : Nat → Int32} {x2 : Int32} {Q : (Nat → Int32) → Prop} (h : wp_X1_exchange c_orders c_painted_states c_painted_letters c_painted_moves c_m_states c_m_letters c_m_moves x2 Q) : CV l g yX1_exchange wsX1_exchange rm_X1_exchange [.ref h_this, .ref h_m, .int x2] (cw_X1_exchange g h_this h_m h_this_orders h_this_together h_this_painted h_this_painted_moves h_this_painted_lights h_this_painted_prices h_this_painted_shares h_m_moves h_m_lights h_m_prices h_m_shares c_orders c_painted_states c_painted_letters c_painted_moves c_m_states c_m_letters c_m_moves) (S := (Nat → Int32)) (fun u => (cw_X1_exchange g h_this h_m h_this_orders h_this_together h_this_painted h_this_painted_moves h_this_painted_lights h_this_painted_prices h_this_painted_shares h_m_moves h_m_lights h_m_prices h_m_shares c_orders c_painted_states c_painted_letters u c_m_states c_m_letters c_m_moves)) (fun u => Q u) 0 0 := by
  refine mk_V (cc := cX1_exchange) (maxL := 4) (own := RX1) (by decide) rfl rfl (Nat.le_of_ble_eq_true rfl) ?_
  intro p e s m args below meth c A QQ E hret hP hD hS ls hl
  have E2 := E
  obtain ⟨hx, hb, hr, hml, hown, hts, hlocks, hA, hZ, hK, hnm⟩ := E2
  have f23 := hts (.fieldLink RX1 23 "WordBench$Colouring" "painted" "LWordBench$Machine;") (by decide +kernel)
  have iX1 : ∀ w ∈ wsX10, w ∈ wsX1_exchange := fun _ h => List.mem_cons_of_mem _ (List.mem_append_left _ (List.mem_append_right _ h))
  have hP : va_P g.1 vwCl (cw_X1_exchange g h_this h_m h_this_orders h_this_together h_this_painted h_this_painted_moves h_this_painted_lights h_this_painted_prices h_this_painted_shares h_m_moves h_m_lights h_m_prices h_m_shares c_orders c_painted_states c_painted_letters c_painted_moves c_m_states c_m_letters c_m_moves) s.heap := hP
  have hD : va_D A (cw_X1_exchange g h_this h_m h_this_orders h_this_together h_this_painted h_this_painted_moves h_this_painted_lights h_this_painted_prices h_this_painted_shares h_m_moves h_m_lights h_m_prices h_m_shares c_orders c_painted_states c_painted_letters c_painted_moves c_m_states c_m_letters c_m_moves) := hD
  have hl : lv_has ls 4 [(0, .ref h_this), (1, .ref h_m), (2, .int x2)] := hl
  unfold wp_X1_exchange at h
  have K_2 : ∀ (n_2 : Nat) (x3 : Int32) (c_painted_moves : Nat → Int32) , L_X1_exchange_2 c_orders c_painted_states c_painted_letters c_m_states c_m_letters c_m_moves x2 Q n_2 x3 c_painted_moves → ∀ (H : Heap) (locs : List Loc), va_P g.1 vwCl (cw_X1_exchange g h_this h_m h_this_orders h_this_together h_this_painted h_this_painted_moves h_this_painted_lights h_this_painted_prices h_this_painted_shares h_m_moves h_m_lights h_m_prices h_m_shares c_orders c_painted_states c_painted_letters c_painted_moves c_m_states c_m_letters c_m_moves) H → va_D A (cw_X1_exchange g h_this h_m h_this_orders h_this_together h_this_painted h_this_painted_moves h_this_painted_lights h_this_painted_prices h_this_painted_shares h_m_moves h_m_lights h_m_prices h_m_shares c_orders c_painted_states c_painted_letters c_painted_moves c_m_states c_m_letters c_m_moves) → va_S A s.heap H locs → ∀ ls : Array Slot, lv_has ls 4 [(0, .ref h_this), (1, .ref h_m), (2, .int x2), (3, .int x3)] → W p l e rm_X1_exchange s m args below meth c H locs 0 0 QQ (F0 m 2 ls []) := by
    intro n_2
    induction n_2 with
    | zero => intro x3 c_painted_moves; exact fun h => False.elim h
    | succ n_2 ih_2 =>
      intro x3 c_painted_moves h H locs hP hD hS ls hl
      unfold L_X1_exchange_2 at h
      refine lv_iload_n hx hb dX1_exchange_2 rfl (lv_at hl 3 rfl) ?_
      refine lv_aload_n hx hb dX1_exchange_3 rfl (lv_at hl 1 rfl) ?_
      refine go_I E (run_V E ((k_X4_letters l g h_m h_m_moves h_m_lights h_m_prices h_m_shares (Q := fun r => r = c_m_letters) rfl) _) (cwV 0 hts gX1_exchange_X4_letters rfl rfl rfl (by decide +kernel) ⟨Nat.le_of_ble_eq_true rfl, Nat.le_of_ble_eq_true rfl⟩) hP hD hS [4] rfl rfl 0 3 rfl rfl rfl hl rfl rfl (Nat.le_of_ble_eq_true rfl) dX1_exchange_4 ⟨Nat.le_of_ble_eq_true rfl, Nat.le_of_ble_eq_true rfl⟩) hP hD hS [4] rfl [(true, 0), (true, 1), (true, 2), (true, 3), (false, 0), (true, 5)] rfl (by decide) (fun _ => (cw_X1_exchange g h_this h_m h_this_orders h_this_together h_this_painted h_this_painted_moves h_this_painted_lights h_this_painted_prices h_this_painted_shares h_m_moves h_m_lights h_m_prices h_m_shares c_orders c_painted_states c_painted_letters c_painted_moves c_m_states c_m_letters c_m_moves)) (fun _ => rfl) (fun r2 _ H locs hr_ hP hD hS => ?_)
      have hr_ : c_m_letters = r2 := Eq.symm hr_
      subst hr_
      have hP : va_P g.1 vwCl (cw_X1_exchange g h_this h_m h_this_orders h_this_together h_this_painted h_this_painted_moves h_this_painted_lights h_this_painted_prices h_this_painted_shares h_m_moves h_m_lights h_m_prices h_m_shares c_orders c_painted_states c_painted_letters c_painted_moves c_m_states c_m_letters c_m_moves) H := hP
      have hD : va_D A (cw_X1_exchange g h_this h_m h_this_orders h_this_together h_this_painted h_this_painted_moves h_this_painted_lights h_this_painted_prices h_this_painted_shares h_m_moves h_m_lights h_m_prices h_m_shares c_orders c_painted_states c_painted_letters c_painted_moves c_m_states c_m_letters c_m_moves) := hD
      refine lv_icmp_ge (tgt := 43) hx hb dX1_exchange_7 (by decide) (fun cq => ?_) (fun cq => ?_)
      · replace h := h.1 cq
        exact hret c_painted_moves _ _ _ _ h hP hD hS dX1_exchange_43
      · replace h := h.2 cq
        refine lv_aload_n hx hb dX1_exchange_10 rfl (lv_at hl 0 rfl) ?_
        refine va_get (D := g.1) (ci := 1) (v := .ref h_this_painted) (C := RX1) (T := TX1) (N := 3) hx hb hts iX1 hown hK hP 0 rfl rfl 2 (by decide) f23 (fun _ h9 => h9) rfl dX1_exchange_11 ?_
        refine lv_iload_n hx hb dX1_exchange_14 rfl (lv_at hl 2 rfl) ?_
        refine lv_iload_n hx hb dX1_exchange_15 rfl (lv_at hl 3 rfl) ?_
        refine lv_aload_n hx hb dX1_exchange_16 rfl (lv_at hl 1 rfl) ?_
        refine lv_iload_n hx hb dX1_exchange_17 rfl (lv_at hl 2 rfl) ?_
        refine lv_aload_n hx hb dX1_exchange_18 rfl (lv_at hl 0 rfl) ?_
        refine lv_iload_n hx hb dX1_exchange_19 rfl (lv_at hl 2 rfl) ?_
        refine go_I E (run_V E ((k_X1_orderOf l g h_this h_this_orders h_this_together h_this_painted h) _) (cwV 1 hts gX1_exchange_X1_orderOf rfl rfl rfl (by decide +kernel) ⟨Nat.le_of_ble_eq_true rfl, Nat.le_of_ble_eq_true rfl⟩) hP hD hS [0, 1] rfl rfl 0 1 rfl rfl rfl hl rfl rfl (Nat.le_of_ble_eq_true rfl) dX1_exchange_20 ⟨Nat.le_of_ble_eq_true rfl, Nat.le_of_ble_eq_true rfl⟩) hP hD hS [0, 1] rfl [(false, 0), (false, 1), (true, 2), (true, 3), (true, 4), (true, 5)] rfl (by decide) (fun _ => (cw_X1_exchange g h_this h_m h_this_orders h_this_together h_this_painted h_this_painted_moves h_this_painted_lights h_this_painted_prices h_this_painted_shares h_m_moves h_m_lights h_m_prices h_m_shares c_orders c_painted_states c_painted_letters c_painted_moves c_m_states c_m_letters c_m_moves)) (fun _ => rfl) (fun r4 _ H locs h hP hD hS => ?_)
        try dsimp only at h
        have hP : va_P g.1 vwCl (cw_X1_exchange g h_this h_m h_this_orders h_this_together h_this_painted h_this_painted_moves h_this_painted_lights h_this_painted_prices h_this_painted_shares h_m_moves h_m_lights h_m_prices h_m_shares c_orders c_painted_states c_painted_letters c_painted_moves c_m_states c_m_letters c_m_moves) H := hP
        have hD : va_D A (cw_X1_exchange g h_this h_m h_this_orders h_this_together h_this_painted h_this_painted_moves h_this_painted_lights h_this_painted_prices h_this_painted_shares h_m_moves h_m_lights h_m_prices h_m_shares c_orders c_painted_states c_painted_letters c_painted_moves c_m_states c_m_letters c_m_moves) := hD
        refine lv_iload_n hx hb dX1_exchange_23 rfl (lv_at hl 3 rfl) ?_
        refine lv_aload_n hx hb dX1_exchange_24 rfl (lv_at hl 1 rfl) ?_
        refine go_I E (run_V E ((k_X4_letters l g h_m h_m_moves h_m_lights h_m_prices h_m_shares (Q := fun r => r = c_m_letters) rfl) _) (cwV 0 hts gX1_exchange_X4_letters rfl rfl rfl (by decide +kernel) ⟨Nat.le_of_ble_eq_true rfl, Nat.le_of_ble_eq_true rfl⟩) hP hD hS [4] rfl rfl 0 3 rfl rfl rfl hl rfl rfl (Nat.le_of_ble_eq_true rfl) dX1_exchange_25 ⟨Nat.le_of_ble_eq_true rfl, Nat.le_of_ble_eq_true rfl⟩) hP hD hS [4] rfl [(true, 0), (true, 1), (true, 2), (true, 3), (false, 0), (true, 5)] rfl (by decide) (fun _ => (cw_X1_exchange g h_this h_m h_this_orders h_this_together h_this_painted h_this_painted_moves h_this_painted_lights h_this_painted_prices h_this_painted_shares h_m_moves h_m_lights h_m_prices h_m_shares c_orders c_painted_states c_painted_letters c_painted_moves c_m_states c_m_letters c_m_moves)) (fun _ => rfl) (fun r6 _ H locs hr_ hP hD hS => ?_)
        have hr_ : c_m_letters = r6 := Eq.symm hr_
        subst hr_
        have hP : va_P g.1 vwCl (cw_X1_exchange g h_this h_m h_this_orders h_this_together h_this_painted h_this_painted_moves h_this_painted_lights h_this_painted_prices h_this_painted_shares h_m_moves h_m_lights h_m_prices h_m_shares c_orders c_painted_states c_painted_letters c_painted_moves c_m_states c_m_letters c_m_moves) H := hP
        have hD : va_D A (cw_X1_exchange g h_this h_m h_this_orders h_this_together h_this_painted h_this_painted_moves h_this_painted_lights h_this_painted_prices h_this_painted_shares h_m_moves h_m_lights h_m_prices h_m_shares c_orders c_painted_states c_painted_letters c_painted_moves c_m_states c_m_letters c_m_moves) := hD
        refine go_I E (run_S E ((k_X1_letterOf l g  h) _) (va_cwS 3 hts gX1_exchange_X1_letterOf rfl rfl rfl (by decide +kernel) ⟨Nat.le_of_ble_eq_true rfl, Nat.le_of_ble_eq_true rfl⟩) hP hD hS [] rfl rfl hl rfl rfl (Nat.le_of_ble_eq_true rfl) dX1_exchange_28 ⟨Nat.le_of_ble_eq_true rfl, Nat.le_of_ble_eq_true rfl⟩) hP hD hS [] rfl [(true, 0), (true, 1), (true, 2), (true, 3), (true, 4), (true, 5)] rfl (by decide) (fun _ => (cw_X1_exchange g h_this h_m h_this_orders h_this_together h_this_painted h_this_painted_moves h_this_painted_lights h_this_painted_prices h_this_painted_shares h_m_moves h_m_lights h_m_prices h_m_shares c_orders c_painted_states c_painted_letters c_painted_moves c_m_states c_m_letters c_m_moves)) (fun _ => rfl) (fun r8 _ H locs h hP hD hS => ?_)
        try dsimp only at h
        have hP : va_P g.1 vwCl (cw_X1_exchange g h_this h_m h_this_orders h_this_together h_this_painted h_this_painted_moves h_this_painted_lights h_this_painted_prices h_this_painted_shares h_m_moves h_m_lights h_m_prices h_m_shares c_orders c_painted_states c_painted_letters c_painted_moves c_m_states c_m_letters c_m_moves) H := hP
        have hD : va_D A (cw_X1_exchange g h_this h_m h_this_orders h_this_together h_this_painted h_this_painted_moves h_this_painted_lights h_this_painted_prices h_this_painted_shares h_m_moves h_m_lights h_m_prices h_m_shares c_orders c_painted_states c_painted_letters c_painted_moves c_m_states c_m_letters c_m_moves) := hD
        refine go_I E (run_V E ((k_X4_target l g h_m h_m_moves h_m_lights h_m_prices h_m_shares h) _) (cwV 2 hts gX1_exchange_X4_target rfl rfl rfl (by decide +kernel) ⟨Nat.le_of_ble_eq_true rfl, Nat.le_of_ble_eq_true rfl⟩) hP hD hS [4, 5] rfl rfl 0 3 rfl rfl rfl hl rfl rfl (Nat.le_of_ble_eq_true rfl) dX1_exchange_31 ⟨Nat.le_of_ble_eq_true rfl, Nat.le_of_ble_eq_true rfl⟩) hP hD hS [4, 5] rfl [(true, 0), (true, 1), (true, 2), (true, 3), (false, 0), (false, 1)] rfl (by decide) (fun _ => (cw_X1_exchange g h_this h_m h_this_orders h_this_together h_this_painted h_this_painted_moves h_this_painted_lights h_this_painted_prices h_this_painted_shares h_m_moves h_m_lights h_m_prices h_m_shares c_orders c_painted_states c_painted_letters c_painted_moves c_m_states c_m_letters c_m_moves)) (fun _ => rfl) (fun r10 _ H locs h hP hD hS => ?_)
        try dsimp only at h
        have hP : va_P g.1 vwCl (cw_X1_exchange g h_this h_m h_this_orders h_this_together h_this_painted h_this_painted_moves h_this_painted_lights h_this_painted_prices h_this_painted_shares h_m_moves h_m_lights h_m_prices h_m_shares c_orders c_painted_states c_painted_letters c_painted_moves c_m_states c_m_letters c_m_moves) H := hP
        have hD : va_D A (cw_X1_exchange g h_this h_m h_this_orders h_this_together h_this_painted h_this_painted_moves h_this_painted_lights h_this_painted_prices h_this_painted_shares h_m_moves h_m_lights h_m_prices h_m_shares c_orders c_painted_states c_painted_letters c_painted_moves c_m_states c_m_letters c_m_moves) := hD
        refine go_V E (run_V E ((k_X4_lead l g h_this_painted h_this_painted_moves h_this_painted_lights h_this_painted_prices h_this_painted_shares h) _) (cwV 3 hts gX1_exchange_X4_lead rfl rfl rfl (by decide +kernel) ⟨Nat.le_of_ble_eq_true rfl, Nat.le_of_ble_eq_true rfl⟩) hP hD hS [2, 3] rfl rfl 0 3 rfl rfl rfl hl rfl rfl (Nat.le_of_ble_eq_true rfl) dX1_exchange_34 ⟨Nat.le_of_ble_eq_true rfl, Nat.le_of_ble_eq_true rfl⟩) hP hD hS [2, 3] rfl [(true, 0), (true, 1), (false, 0), (false, 1), (true, 4), (true, 5)] rfl (by decide) (fun u => (cw_X1_exchange g h_this h_m h_this_orders h_this_together h_this_painted h_this_painted_moves h_this_painted_lights h_this_painted_prices h_this_painted_shares h_m_moves h_m_lights h_m_prices h_m_shares c_orders c_painted_states c_painted_letters u c_m_states c_m_letters c_m_moves)) (fun _ => rfl) (fun c_painted_moves H locs h hP hD hS => ?_)
        try dsimp only at h
        have hP : va_P g.1 vwCl (cw_X1_exchange g h_this h_m h_this_orders h_this_together h_this_painted h_this_painted_moves h_this_painted_lights h_this_painted_prices h_this_painted_shares h_m_moves h_m_lights h_m_prices h_m_shares c_orders c_painted_states c_painted_letters c_painted_moves c_m_states c_m_letters c_m_moves) H := hP
        have hD : va_D A (cw_X1_exchange g h_this h_m h_this_orders h_this_together h_this_painted h_this_painted_moves h_this_painted_lights h_this_painted_prices h_this_painted_shares h_m_moves h_m_lights h_m_prices h_m_shares c_orders c_painted_states c_painted_letters c_painted_moves c_m_states c_m_letters c_m_moves) := hD
        refine lv_iinc (v := (x3 + (nI 1))) (lv' := [(3, .int (x3 + (nI 1))), (0, .ref h_this), (1, .ref h_m), (2, .int x2)]) hx hb dX1_exchange_37 hl (k := 3) rfl rfl (by decide) rfl (fun ls hl => ?_)
        refine lv_goto (tgt := 2) hx hb dX1_exchange_40 (by decide) ?_
        exact ih_2 (x3 + (nI 1)) c_painted_moves h _ _ hP hD hS _ (lv_sub hl [1, 2, 3, 0] rfl)
  refine lv_iconst (v := (nI 0)) hx hb dX1_exchange_0 (by decide) ?_
  refine lv_istore_n (lv' := [(3, .int (nI 0)), (0, .ref h_this), (1, .ref h_m), (2, .int x2)]) hx hb dX1_exchange_1 rfl hl (by decide) rfl (fun ls hl => ?_)
  obtain ⟨n, h⟩ := h
  exact K_2 n (nI 0) c_painted_moves h _ _ hP hD hS _ (lv_sub hl [1, 2, 3, 0] rfl)
abbrev cw_X1_targets (g : GG) (h_m : Nat) (h_m_moves : Nat) (h_m_lights : Nat) (h_m_prices : Nat) (h_m_shares : Nat) (c_m_states : Int32) (c_m_letters : Int32) (c_m_moves : Nat → Int32) : va_W := [(h_m, .inr (3, [.int c_m_states, .int c_m_letters, .ref h_m_moves, .ref h_m_lights, .ref h_m_prices, .ref h_m_shares])), (h_m_moves, .inl (g.2.1, 48, .inl c_m_moves))]
def L_X1_targets_4 (c_m_states : Int32) (c_m_letters : Int32) (c_m_moves : Nat → Int32) (x1 : Int32) (Q : Int32 → Prop) : Nat → Int32 → Int32 → Prop
  | 0, _, _ => False
  | n_4 + 1, x2, x3 =>
    ((c_m_letters ≤ x3 → Q x2) ∧ (¬ c_m_letters ≤ x3 → wp_X4_target c_m_states c_m_letters c_m_moves x1 x3 (fun r4 => (L_X1_targets_4 c_m_states c_m_letters c_m_moves x1 Q n_4) (x2 ||| ((nI 1) <<< (r4 &&& 31))) (x3 + (nI 1)))))
def wp_X1_targets (c_m_states : Int32) (c_m_letters : Int32) (c_m_moves : Nat → Int32) (x1 : Int32) (Q : Int32 → Prop) : Prop :=
    ∃ n, L_X1_targets_4 c_m_states c_m_letters c_m_moves x1 Q n (nI 0) (nI 0)
abbrev rm_X1_targets : Room := { frames := 1, cells := 0, slots := 0, locals := 23 }
set_option maxHeartbeats 4000000 in
set_option maxRecDepth 100000 in
theorem k_X1_targets (l : Launch) (g : GG) (h_m : Nat) (h_m_moves : Nat) (h_m_lights : Nat) (h_m_prices : Nat) (h_m_shares : Nat) {c_m_states : Int32} {c_m_letters : Int32} {c_m_moves : Nat → Int32} {x1 : Int32} {Q : Int32 → Prop} (h : wp_X1_targets c_m_states c_m_letters c_m_moves x1 Q) : CI l g yX1_targets wsX1_targets rm_X1_targets [.ref h_m, .int x1] (cw_X1_targets g h_m h_m_moves h_m_lights h_m_prices h_m_shares c_m_states c_m_letters c_m_moves) (S := Unit) (fun _ => (cw_X1_targets g h_m h_m_moves h_m_lights h_m_prices h_m_shares c_m_states c_m_letters c_m_moves)) (fun r _ => Q r) 0 0 := by
  refine mk_I (cc := cX1_targets) (maxL := 4) (own := RX1) (by decide) rfl rfl (Nat.le_of_ble_eq_true rfl) ?_
  intro p e s m args below meth c A QQ E hret hP hD hS ls hl
  have E2 := E
  obtain ⟨hx, hb, hr, hml, hown, hts, hlocks, hA, hZ, hK, hnm⟩ := E2
  have hP : va_P g.1 vwCl (cw_X1_targets g h_m h_m_moves h_m_lights h_m_prices h_m_shares c_m_states c_m_letters c_m_moves) s.heap := hP
  have hD : va_D A (cw_X1_targets g h_m h_m_moves h_m_lights h_m_prices h_m_shares c_m_states c_m_letters c_m_moves) := hD
  have hl : lv_has ls 4 [(0, .ref h_m), (1, .int x1)] := hl
  unfold wp_X1_targets at h
  have K_4 : ∀ (n_4 : Nat) (x2 : Int32) (x3 : Int32) , L_X1_targets_4 c_m_states c_m_letters c_m_moves x1 Q n_4 x2 x3 → ∀ (H : Heap) (locs : List Loc), va_P g.1 vwCl (cw_X1_targets g h_m h_m_moves h_m_lights h_m_prices h_m_shares c_m_states c_m_letters c_m_moves) H → va_D A (cw_X1_targets g h_m h_m_moves h_m_lights h_m_prices h_m_shares c_m_states c_m_letters c_m_moves) → va_S A s.heap H locs → ∀ ls : Array Slot, lv_has ls 4 [(0, .ref h_m), (1, .int x1), (2, .int x2), (3, .int x3)] → W p l e rm_X1_targets s m args below meth c H locs 0 0 QQ (F0 m 4 ls []) := by
    intro n_4
    induction n_4 with
    | zero => intro x2 x3; exact fun h => False.elim h
    | succ n_4 ih_4 =>
      intro x2 x3 h H locs hP hD hS ls hl
      unfold L_X1_targets_4 at h
      refine lv_iload_n hx hb dX1_targets_4 rfl (lv_at hl 3 rfl) ?_
      refine lv_aload_n hx hb dX1_targets_5 rfl (lv_at hl 0 rfl) ?_
      refine go_I E (run_V E ((k_X4_letters l g h_m h_m_moves h_m_lights h_m_prices h_m_shares (Q := fun r => r = c_m_letters) rfl) _) (cwV 0 hts gX1_targets_X4_letters rfl rfl rfl (by decide +kernel) ⟨Nat.le_of_ble_eq_true rfl, Nat.le_of_ble_eq_true rfl⟩) hP hD hS [0] rfl rfl 0 3 rfl rfl rfl hl rfl rfl (Nat.le_of_ble_eq_true rfl) dX1_targets_6 ⟨Nat.le_of_ble_eq_true rfl, Nat.le_of_ble_eq_true rfl⟩) hP hD hS [0] rfl [(false, 0), (true, 1)] rfl (by decide) (fun _ => (cw_X1_targets g h_m h_m_moves h_m_lights h_m_prices h_m_shares c_m_states c_m_letters c_m_moves)) (fun _ => rfl) (fun r2 _ H locs hr_ hP hD hS => ?_)
      have hr_ : c_m_letters = r2 := Eq.symm hr_
      subst hr_
      have hP : va_P g.1 vwCl (cw_X1_targets g h_m h_m_moves h_m_lights h_m_prices h_m_shares c_m_states c_m_letters c_m_moves) H := hP
      have hD : va_D A (cw_X1_targets g h_m h_m_moves h_m_lights h_m_prices h_m_shares c_m_states c_m_letters c_m_moves) := hD
      refine lv_icmp_ge (tgt := 29) hx hb dX1_targets_9 (by decide) (fun cq => ?_) (fun cq => ?_)
      · replace h := h.1 cq
        refine lv_iload_n hx hb dX1_targets_29 rfl (lv_at hl 2 rfl) ?_
        exact hret x2 () _ _ _ _ rfl h hP hD hS dX1_targets_30
      · replace h := h.2 cq
        refine lv_iload_n hx hb dX1_targets_12 rfl (lv_at hl 2 rfl) ?_
        refine lv_iconst (v := (nI 1)) hx hb dX1_targets_13 (by decide) ?_
        refine lv_aload_n hx hb dX1_targets_14 rfl (lv_at hl 0 rfl) ?_
        refine lv_iload_n hx hb dX1_targets_15 rfl (lv_at hl 1 rfl) ?_
        refine lv_iload_n hx hb dX1_targets_16 rfl (lv_at hl 3 rfl) ?_
        refine go_I E (run_V E ((k_X4_target l g h_m h_m_moves h_m_lights h_m_prices h_m_shares h) _) (cwV 2 hts gX1_targets_X4_target rfl rfl rfl (by decide +kernel) ⟨Nat.le_of_ble_eq_true rfl, Nat.le_of_ble_eq_true rfl⟩) hP hD hS [0, 1] rfl rfl 0 3 rfl rfl rfl hl rfl rfl (Nat.le_of_ble_eq_true rfl) dX1_targets_17 ⟨Nat.le_of_ble_eq_true rfl, Nat.le_of_ble_eq_true rfl⟩) hP hD hS [0, 1] rfl [(false, 0), (false, 1)] rfl (by decide) (fun _ => (cw_X1_targets g h_m h_m_moves h_m_lights h_m_prices h_m_shares c_m_states c_m_letters c_m_moves)) (fun _ => rfl) (fun r4 _ H locs h hP hD hS => ?_)
        try dsimp only at h
        have hP : va_P g.1 vwCl (cw_X1_targets g h_m h_m_moves h_m_lights h_m_prices h_m_shares c_m_states c_m_letters c_m_moves) H := hP
        have hD : va_D A (cw_X1_targets g h_m h_m_moves h_m_lights h_m_prices h_m_shares c_m_states c_m_letters c_m_moves) := hD
        refine lv_ishl hx hb dX1_targets_20 ?_
        refine lv_ior hx hb dX1_targets_21 ?_
        refine lv_istore_n (lv' := [(2, .int (x2 ||| ((nI 1) <<< (r4 &&& 31)))), (0, .ref h_m), (1, .int x1), (3, .int x3)]) hx hb dX1_targets_22 rfl hl (by decide) rfl (fun ls hl => ?_)
        refine lv_iinc (v := (x3 + (nI 1))) (lv' := [(3, .int (x3 + (nI 1))), (2, .int (x2 ||| ((nI 1) <<< (r4 &&& 31)))), (0, .ref h_m), (1, .int x1)]) hx hb dX1_targets_23 hl (k := 3) rfl rfl (by decide) rfl (fun ls hl => ?_)
        refine lv_goto (tgt := 4) hx hb dX1_targets_26 (by decide) ?_
        exact ih_4 (x2 ||| ((nI 1) <<< (r4 &&& 31))) (x3 + (nI 1)) h _ _ hP hD hS _ (lv_sub hl [2, 3, 1, 0] rfl)
  refine lv_iconst (v := (nI 0)) hx hb dX1_targets_0 (by decide) ?_
  refine lv_istore_n (lv' := [(2, .int (nI 0)), (0, .ref h_m), (1, .int x1)]) hx hb dX1_targets_1 rfl hl (by decide) rfl (fun ls hl => ?_)
  refine lv_iconst (v := (nI 0)) hx hb dX1_targets_2 (by decide) ?_
  refine lv_istore_n (lv' := [(3, .int (nI 0)), (2, .int (nI 0)), (0, .ref h_m), (1, .int x1)]) hx hb dX1_targets_3 rfl hl (by decide) rfl (fun ls hl => ?_)
  obtain ⟨n, h⟩ := h
  exact K_4 n (nI 0) (nI 0) h _ _ hP hD hS _ (lv_sub hl [2, 3, 1, 0] rfl)
abbrev cw_X1_comeTogether (g : GG) (h_this : Nat) (h_m : Nat) (h_this_orders : Nat) (h_this_together : Nat) (h_this_painted : Nat) (h_this_painted_moves : Nat) (h_this_painted_lights : Nat) (h_this_painted_prices : Nat) (h_this_painted_shares : Nat) (h_m_moves : Nat) (h_m_lights : Nat) (h_m_prices : Nat) (h_m_shares : Nat) (c_together : Nat → Int32) (c_painted_states : Int32) (c_painted_letters : Int32) (c_painted_moves : Nat → Int32) (c_m_states : Int32) (c_m_letters : Int32) (c_m_moves : Nat → Int32) : va_W := [(h_this, .inr (1, [.ref h_this_orders, .ref h_this_together, .ref h_this_painted])), (h_this_together, .inl (g.2.1, 12, .inl c_together)), (h_this_painted, .inr (3, [.int c_painted_states, .int c_painted_letters, .ref h_this_painted_moves, .ref h_this_painted_lights, .ref h_this_painted_prices, .ref h_this_painted_shares])), (h_this_painted_moves, .inl (g.2.1, 48, .inl c_painted_moves)), (h_m, .inr (3, [.int c_m_states, .int c_m_letters, .ref h_m_moves, .ref h_m_lights, .ref h_m_prices, .ref h_m_shares])), (h_m_moves, .inl (g.2.1, 48, .inl c_m_moves))]
def J_X1_comeTogether_78 (R_3 : Int32 → Prop) (x5 : Int32) : Prop :=
    R_3 (x5 + (nI 1))
def J_X1_comeTogether_49 (c_together : Nat → Int32) (R_3 : Int32 → Prop) (Q : Int32 → Prop) (x5 : Int32) (x6 : Int32) (t0 : Int32) : Prop :=
    ((x6 < (nI 0) → J_X1_comeTogether_78 R_3 x5) ∧ (¬ x6 < (nI 0) → (((nI 12) ≤ x6 → J_X1_comeTogether_78 R_3 x5) ∧ (¬ (nI 12) ≤ x6 → vp_in x6 12 ∧ ((((c_together (Int32.toNatClampNeg x6)) &&& t0) = (nI 0) → J_X1_comeTogether_78 R_3 x5) ∧ (¬ ((c_together (Int32.toNatClampNeg x6)) &&& t0) = (nI 0) → Q (nI 1)))))))
def L_X1_comeTogether_3 (c_together : Nat → Int32) (c_painted_states : Int32) (c_painted_letters : Int32) (c_painted_moves : Nat → Int32) (c_m_states : Int32) (c_m_letters : Int32) (c_m_moves : Nat → Int32) (x2 : Int32) (x3 : Int32) (x4 : Int32) (Q : Int32 → Prop) : Nat → Int32 → Prop
  | 0, _ => False
  | n_3 + 1, x5 =>
    ((c_m_letters ≤ x5 → Q (nI 0)) ∧ (¬ c_m_letters ≤ x5 → wp_X4_target c_painted_states c_painted_letters c_painted_moves x2 x5 (fun r4 => ((x4 = (nI 0) → wp_X4_target c_painted_states c_painted_letters c_painted_moves x3 x5 (fun r6 => J_X1_comeTogether_49 c_together (L_X1_comeTogether_3 c_together c_painted_states c_painted_letters c_painted_moves c_m_states c_m_letters c_m_moves x2 x3 x4 Q n_3) Q x5 r4 ((nI 1) <<< (r6 &&& 31)))) ∧ (¬ x4 = (nI 0) → wp_X1_targets c_m_states c_m_letters c_m_moves x3 (fun r8 => J_X1_comeTogether_49 c_together (L_X1_comeTogether_3 c_together c_painted_states c_painted_letters c_painted_moves c_m_states c_m_letters c_m_moves x2 x3 x4 Q n_3) Q x5 r4 r8))))))
def wp_X1_comeTogether (c_together : Nat → Int32) (c_painted_states : Int32) (c_painted_letters : Int32) (c_painted_moves : Nat → Int32) (c_m_states : Int32) (c_m_letters : Int32) (c_m_moves : Nat → Int32) (x2 : Int32) (x3 : Int32) (x4 : Int32) (Q : Int32 → Prop) : Prop :=
    ∃ n, L_X1_comeTogether_3 c_together c_painted_states c_painted_letters c_painted_moves c_m_states c_m_letters c_m_moves x2 x3 x4 Q n (nI 0)
abbrev rm_X1_comeTogether : Room := { frames := 2, cells := 0, slots := 0, locals := 46 }
set_option maxHeartbeats 4000000 in
set_option maxRecDepth 100000 in
theorem k_X1_comeTogether (l : Launch) (g : GG) (h_this : Nat) (h_m : Nat) (h_this_orders : Nat) (h_this_together : Nat) (h_this_painted : Nat) (h_this_painted_moves : Nat) (h_this_painted_lights : Nat) (h_this_painted_prices : Nat) (h_this_painted_shares : Nat) (h_m_moves : Nat) (h_m_lights : Nat) (h_m_prices : Nat) (h_m_shares : Nat) {c_together : Nat → Int32} {c_painted_states : Int32} {c_painted_letters : Int32} {c_painted_moves : Nat → Int32} {c_m_states : Int32} {c_m_letters : Int32} {c_m_moves : Nat → Int32} {x2 : Int32} {x3 : Int32} {x4 : Int32} {Q : Int32 → Prop} (h : wp_X1_comeTogether c_together c_painted_states c_painted_letters c_painted_moves c_m_states c_m_letters c_m_moves x2 x3 x4 Q) : CI l g yX1_comeTogether wsX1_comeTogether rm_X1_comeTogether [.ref h_this, .ref h_m, .int x2, .int x3, .int x4] (cw_X1_comeTogether g h_this h_m h_this_orders h_this_together h_this_painted h_this_painted_moves h_this_painted_lights h_this_painted_prices h_this_painted_shares h_m_moves h_m_lights h_m_prices h_m_shares c_together c_painted_states c_painted_letters c_painted_moves c_m_states c_m_letters c_m_moves) (S := Unit) (fun _ => (cw_X1_comeTogether g h_this h_m h_this_orders h_this_together h_this_painted h_this_painted_moves h_this_painted_lights h_this_painted_prices h_this_painted_shares h_m_moves h_m_lights h_m_prices h_m_shares c_together c_painted_states c_painted_letters c_painted_moves c_m_states c_m_letters c_m_moves)) (fun r _ => Q r) 0 0 := by
  refine mk_I (cc := cX1_comeTogether) (maxL := 8) (own := RX1) (by decide) rfl rfl (Nat.le_of_ble_eq_true rfl) ?_
  intro p e s m args below meth c A QQ E hret hP hD hS ls hl
  have E2 := E
  obtain ⟨hx, hb, hr, hml, hown, hts, hlocks, hA, hZ, hK, hnm⟩ := E2
  have f23 := hts (.fieldLink RX1 23 "WordBench$Colouring" "painted" "LWordBench$Machine;") (by decide +kernel)
  have f15 := hts (.fieldLink RX1 15 "WordBench$Colouring" "together" "[I") (by decide +kernel)
  have iX1 : ∀ w ∈ wsX10, w ∈ wsX1_comeTogether := fun _ h => List.mem_cons_of_mem _ (List.mem_append_left _ (List.mem_append_right _ h))
  have hP : va_P g.1 vwCl (cw_X1_comeTogether g h_this h_m h_this_orders h_this_together h_this_painted h_this_painted_moves h_this_painted_lights h_this_painted_prices h_this_painted_shares h_m_moves h_m_lights h_m_prices h_m_shares c_together c_painted_states c_painted_letters c_painted_moves c_m_states c_m_letters c_m_moves) s.heap := hP
  have hD : va_D A (cw_X1_comeTogether g h_this h_m h_this_orders h_this_together h_this_painted h_this_painted_moves h_this_painted_lights h_this_painted_prices h_this_painted_shares h_m_moves h_m_lights h_m_prices h_m_shares c_together c_painted_states c_painted_letters c_painted_moves c_m_states c_m_letters c_m_moves) := hD
  have hl : lv_has ls 8 [(0, .ref h_this), (1, .ref h_m), (2, .int x2), (3, .int x3), (4, .int x4)] := hl
  unfold wp_X1_comeTogether at h
  have K_3 : ∀ (n_3 : Nat) (x5 : Int32) , L_X1_comeTogether_3 c_together c_painted_states c_painted_letters c_painted_moves c_m_states c_m_letters c_m_moves x2 x3 x4 Q n_3 x5 → ∀ (H : Heap) (locs : List Loc), va_P g.1 vwCl (cw_X1_comeTogether g h_this h_m h_this_orders h_this_together h_this_painted h_this_painted_moves h_this_painted_lights h_this_painted_prices h_this_painted_shares h_m_moves h_m_lights h_m_prices h_m_shares c_together c_painted_states c_painted_letters c_painted_moves c_m_states c_m_letters c_m_moves) H → va_D A (cw_X1_comeTogether g h_this h_m h_this_orders h_this_together h_this_painted h_this_painted_moves h_this_painted_lights h_this_painted_prices h_this_painted_shares h_m_moves h_m_lights h_m_prices h_m_shares c_together c_painted_states c_painted_letters c_painted_moves c_m_states c_m_letters c_m_moves) → va_S A s.heap H locs → ∀ ls : Array Slot, lv_has ls 8 [(0, .ref h_this), (1, .ref h_m), (2, .int x2), (3, .int x3), (4, .int x4), (5, .int x5)] → W p l e rm_X1_comeTogether s m args below meth c H locs 0 0 QQ (F0 m 3 ls []) := by
    intro n_3
    induction n_3 with
    | zero => intro x5; exact fun h => False.elim h
    | succ n_3 ih_3 =>
      intro x5 h H locs hP hD hS ls hl
      unfold L_X1_comeTogether_3 at h
      have K_78 : ∀ (x5 : Int32) , J_X1_comeTogether_78 (L_X1_comeTogether_3 c_together c_painted_states c_painted_letters c_painted_moves c_m_states c_m_letters c_m_moves x2 x3 x4 Q n_3) x5 → ∀ (H : Heap) (locs : List Loc), va_P g.1 vwCl (cw_X1_comeTogether g h_this h_m h_this_orders h_this_together h_this_painted h_this_painted_moves h_this_painted_lights h_this_painted_prices h_this_painted_shares h_m_moves h_m_lights h_m_prices h_m_shares c_together c_painted_states c_painted_letters c_painted_moves c_m_states c_m_letters c_m_moves) H → va_D A (cw_X1_comeTogether g h_this h_m h_this_orders h_this_together h_this_painted h_this_painted_moves h_this_painted_lights h_this_painted_prices h_this_painted_shares h_m_moves h_m_lights h_m_prices h_m_shares c_together c_painted_states c_painted_letters c_painted_moves c_m_states c_m_letters c_m_moves) → va_S A s.heap H locs → ∀ ls : Array Slot, lv_has ls 8 [(0, .ref h_this), (1, .ref h_m), (2, .int x2), (3, .int x3), (4, .int x4), (5, .int x5)] → W p l e rm_X1_comeTogether s m args below meth c H locs 0 0 QQ (F0 m 78 ls []) := by
        intro x5 h H locs hP hD hS ls hl
        unfold J_X1_comeTogether_78 at h
        refine lv_iinc (v := (x5 + (nI 1))) (lv' := [(5, .int (x5 + (nI 1))), (0, .ref h_this), (1, .ref h_m), (2, .int x2), (3, .int x3), (4, .int x4)]) hx hb dX1_comeTogether_78 hl (k := 5) rfl rfl (by decide) rfl (fun ls hl => ?_)
        refine lv_goto (tgt := 3) hx hb dX1_comeTogether_81 (by decide) ?_
        exact ih_3 (x5 + (nI 1)) h _ _ hP hD hS _ (lv_sub hl [1, 2, 3, 4, 5, 0] rfl)
      have K_49 : ∀ (x5 : Int32) (x6 : Int32) (t0 : Int32) , J_X1_comeTogether_49 c_together (L_X1_comeTogether_3 c_together c_painted_states c_painted_letters c_painted_moves c_m_states c_m_letters c_m_moves x2 x3 x4 Q n_3) Q x5 x6 t0 → ∀ (H : Heap) (locs : List Loc), va_P g.1 vwCl (cw_X1_comeTogether g h_this h_m h_this_orders h_this_together h_this_painted h_this_painted_moves h_this_painted_lights h_this_painted_prices h_this_painted_shares h_m_moves h_m_lights h_m_prices h_m_shares c_together c_painted_states c_painted_letters c_painted_moves c_m_states c_m_letters c_m_moves) H → va_D A (cw_X1_comeTogether g h_this h_m h_this_orders h_this_together h_this_painted h_this_painted_moves h_this_painted_lights h_this_painted_prices h_this_painted_shares h_m_moves h_m_lights h_m_prices h_m_shares c_together c_painted_states c_painted_letters c_painted_moves c_m_states c_m_letters c_m_moves) → va_S A s.heap H locs → ∀ ls : Array Slot, lv_has ls 8 [(0, .ref h_this), (1, .ref h_m), (2, .int x2), (3, .int x3), (4, .int x4), (5, .int x5), (6, .int x6)] → W p l e rm_X1_comeTogether s m args below meth c H locs 0 0 QQ (F0 m 49 ls [.int t0]) := by
        intro x5 x6 t0 h H locs hP hD hS ls hl
        unfold J_X1_comeTogether_49 at h
        refine lv_istore (lv' := [(7, .int t0), (0, .ref h_this), (1, .ref h_m), (2, .int x2), (3, .int x3), (4, .int x4), (5, .int x5), (6, .int x6)]) hx hb dX1_comeTogether_49 hl (by decide) rfl (fun ls hl => ?_)
        refine lv_iload hx hb dX1_comeTogether_51 (lv_at hl 7 rfl) ?_
        refine lv_if_lt (tgt := 78) hx hb dX1_comeTogether_53 (by decide) (fun cq => ?_) (fun cq => ?_)
        · replace h := h.1 cq
          exact K_78 x5 h _ _ hP hD hS _ (lv_sub hl [1, 2, 3, 4, 5, 6] rfl)
        · replace h := h.2 cq
          refine lv_iload hx hb dX1_comeTogether_56 (lv_at hl 7 rfl) ?_
          refine lv_bipush (v := (nI 12)) hx hb dX1_comeTogether_58 (by decide) ?_
          refine lv_icmp_ge (tgt := 78) hx hb dX1_comeTogether_60 (by decide) (fun cq => ?_) (fun cq => ?_)
          · replace h := h.1 cq
            exact K_78 x5 h _ _ hP hD hS _ (lv_sub hl [1, 2, 3, 4, 5, 6] rfl)
          · replace h := h.2 cq
            refine lv_aload_n hx hb dX1_comeTogether_63 rfl (lv_at hl 1 rfl) ?_
            refine va_get (D := g.1) (ci := 1) (v := .ref h_this_together) (C := RX1) (T := TX1) (N := 3) hx hb hts iX1 hown hK hP 0 rfl rfl 1 (by decide) f15 (fun _ h9 => h9) rfl dX1_comeTogether_64 ?_
            refine lv_iload hx hb dX1_comeTogether_67 (lv_at hl 7 rfl) ?_
            obtain ⟨hi, h⟩ := h
            refine va_iald (D := g.1) (n := 12) (f := c_together) hx hb hK hP 1 0 rfl rfl hi dX1_comeTogether_69 ?_
            refine lv_iload hx hb dX1_comeTogether_70 (lv_at hl 0 rfl) ?_
            refine lv_iand hx hb dX1_comeTogether_72 ?_
            refine lv_if_eq (tgt := 78) hx hb dX1_comeTogether_73 (by decide) (fun cq => ?_) (fun cq => ?_)
            · replace h := h.1 cq
              exact K_78 x5 h _ _ hP hD hS _ (lv_sub hl [1, 2, 3, 4, 5, 6] rfl)
            · replace h := h.2 cq
              refine lv_iconst (v := (nI 1)) hx hb dX1_comeTogether_76 (by decide) ?_
              exact hret (nI 1) () _ _ _ _ nbo h hP hD hS dX1_comeTogether_77
      refine lv_iload hx hb dX1_comeTogether_3 (lv_at hl 5 rfl) ?_
      refine lv_aload_n hx hb dX1_comeTogether_5 rfl (lv_at hl 1 rfl) ?_
      refine go_I E (run_V E ((k_X4_letters l g h_m h_m_moves h_m_lights h_m_prices h_m_shares (Q := fun r => r = c_m_letters) rfl) _) (cwV 0 hts gX1_comeTogether_X4_letters rfl rfl rfl (by decide +kernel) ⟨Nat.le_of_ble_eq_true rfl, Nat.le_of_ble_eq_true rfl⟩) hP hD hS [4] rfl rfl 0 3 rfl rfl rfl hl rfl rfl (Nat.le_of_ble_eq_true rfl) dX1_comeTogether_6 ⟨Nat.le_of_ble_eq_true rfl, Nat.le_of_ble_eq_true rfl⟩) hP hD hS [4] rfl [(true, 0), (true, 1), (true, 2), (true, 3), (false, 0), (true, 5)] rfl (by decide) (fun _ => (cw_X1_comeTogether g h_this h_m h_this_orders h_this_together h_this_painted h_this_painted_moves h_this_painted_lights h_this_painted_prices h_this_painted_shares h_m_moves h_m_lights h_m_prices h_m_shares c_together c_painted_states c_painted_letters c_painted_moves c_m_states c_m_letters c_m_moves)) (fun _ => rfl) (fun r2 _ H locs hr_ hP hD hS => ?_)
      have hr_ : c_m_letters = r2 := Eq.symm hr_
      subst hr_
      have hP : va_P g.1 vwCl (cw_X1_comeTogether g h_this h_m h_this_orders h_this_together h_this_painted h_this_painted_moves h_this_painted_lights h_this_painted_prices h_this_painted_shares h_m_moves h_m_lights h_m_prices h_m_shares c_together c_painted_states c_painted_letters c_painted_moves c_m_states c_m_letters c_m_moves) H := hP
      have hD : va_D A (cw_X1_comeTogether g h_this h_m h_this_orders h_this_together h_this_painted h_this_painted_moves h_this_painted_lights h_this_painted_prices h_this_painted_shares h_m_moves h_m_lights h_m_prices h_m_shares c_together c_painted_states c_painted_letters c_painted_moves c_m_states c_m_letters c_m_moves) := hD
      refine lv_icmp_ge (tgt := 84) hx hb dX1_comeTogether_9 (by decide) (fun cq => ?_) (fun cq => ?_)
      · replace h := h.1 cq
        refine lv_iconst (v := (nI 0)) hx hb dX1_comeTogether_84 (by decide) ?_
        exact hret (nI 0) () _ _ _ _ nbz h hP hD hS dX1_comeTogether_85
      · replace h := h.2 cq
        refine lv_aload_n hx hb dX1_comeTogether_12 rfl (lv_at hl 0 rfl) ?_
        refine va_get (D := g.1) (ci := 1) (v := .ref h_this_painted) (C := RX1) (T := TX1) (N := 3) hx hb hts iX1 hown hK hP 0 rfl rfl 2 (by decide) f23 (fun _ h9 => h9) rfl dX1_comeTogether_13 ?_
        refine lv_iload_n hx hb dX1_comeTogether_16 rfl (lv_at hl 2 rfl) ?_
        refine lv_iload hx hb dX1_comeTogether_17 (lv_at hl 5 rfl) ?_
        refine go_I E (run_V E ((k_X4_target l g h_this_painted h_this_painted_moves h_this_painted_lights h_this_painted_prices h_this_painted_shares h) _) (cwV 2 hts gX1_comeTogether_X4_target rfl rfl rfl (by decide +kernel) ⟨Nat.le_of_ble_eq_true rfl, Nat.le_of_ble_eq_true rfl⟩) hP hD hS [2, 3] rfl rfl 0 3 rfl rfl rfl hl rfl rfl (Nat.le_of_ble_eq_true rfl) dX1_comeTogether_19 ⟨Nat.le_of_ble_eq_true rfl, Nat.le_of_ble_eq_true rfl⟩) hP hD hS [2, 3] rfl [(true, 0), (true, 1), (false, 0), (false, 1), (true, 4), (true, 5)] rfl (by decide) (fun _ => (cw_X1_comeTogether g h_this h_m h_this_orders h_this_together h_this_painted h_this_painted_moves h_this_painted_lights h_this_painted_prices h_this_painted_shares h_m_moves h_m_lights h_m_prices h_m_shares c_together c_painted_states c_painted_letters c_painted_moves c_m_states c_m_letters c_m_moves)) (fun _ => rfl) (fun r4 _ H locs h hP hD hS => ?_)
        try dsimp only at h
        have hP : va_P g.1 vwCl (cw_X1_comeTogether g h_this h_m h_this_orders h_this_together h_this_painted h_this_painted_moves h_this_painted_lights h_this_painted_prices h_this_painted_shares h_m_moves h_m_lights h_m_prices h_m_shares c_together c_painted_states c_painted_letters c_painted_moves c_m_states c_m_letters c_m_moves) H := hP
        have hD : va_D A (cw_X1_comeTogether g h_this h_m h_this_orders h_this_together h_this_painted h_this_painted_moves h_this_painted_lights h_this_painted_prices h_this_painted_shares h_m_moves h_m_lights h_m_prices h_m_shares c_together c_painted_states c_painted_letters c_painted_moves c_m_states c_m_letters c_m_moves) := hD
        refine lv_istore (lv' := [(6, .int r4), (0, .ref h_this), (1, .ref h_m), (2, .int x2), (3, .int x3), (4, .int x4), (5, .int x5)]) hx hb dX1_comeTogether_22 hl (by decide) rfl (fun ls hl => ?_)
        refine lv_iload hx hb dX1_comeTogether_24 (lv_at hl 5 rfl) ?_
        refine lv_if_eq (tgt := 37) hx hb dX1_comeTogether_26 (by decide) (fun cq => ?_) (fun cq => ?_)
        · replace h := h.1 cq
          refine lv_iconst (v := (nI 1)) hx hb dX1_comeTogether_37 (by decide) ?_
          refine lv_aload_n hx hb dX1_comeTogether_38 rfl (lv_at hl 1 rfl) ?_
          refine va_get (D := g.1) (ci := 1) (v := .ref h_this_painted) (C := RX1) (T := TX1) (N := 3) hx hb hts iX1 hown hK hP 0 rfl rfl 2 (by decide) f23 (fun _ h9 => h9) rfl dX1_comeTogether_39 ?_
          refine lv_iload_n hx hb dX1_comeTogether_42 rfl (lv_at hl 4 rfl) ?_
          refine lv_iload hx hb dX1_comeTogether_43 (lv_at hl 6 rfl) ?_
          refine go_I E (run_V E ((k_X4_target l g h_this_painted h_this_painted_moves h_this_painted_lights h_this_painted_prices h_this_painted_shares h) _) (cwV 2 hts gX1_comeTogether_X4_target rfl rfl rfl (by decide +kernel) ⟨Nat.le_of_ble_eq_true rfl, Nat.le_of_ble_eq_true rfl⟩) hP hD hS [2, 3] rfl rfl 0 3 rfl rfl rfl hl rfl rfl (Nat.le_of_ble_eq_true rfl) dX1_comeTogether_45 ⟨Nat.le_of_ble_eq_true rfl, Nat.le_of_ble_eq_true rfl⟩) hP hD hS [2, 3] rfl [(true, 0), (true, 1), (false, 0), (false, 1), (true, 4), (true, 5)] rfl (by decide) (fun _ => (cw_X1_comeTogether g h_this h_m h_this_orders h_this_together h_this_painted h_this_painted_moves h_this_painted_lights h_this_painted_prices h_this_painted_shares h_m_moves h_m_lights h_m_prices h_m_shares c_together c_painted_states c_painted_letters c_painted_moves c_m_states c_m_letters c_m_moves)) (fun _ => rfl) (fun r6 _ H locs h hP hD hS => ?_)
          try dsimp only at h
          have hP : va_P g.1 vwCl (cw_X1_comeTogether g h_this h_m h_this_orders h_this_together h_this_painted h_this_painted_moves h_this_painted_lights h_this_painted_prices h_this_painted_shares h_m_moves h_m_lights h_m_prices h_m_shares c_together c_painted_states c_painted_letters c_painted_moves c_m_states c_m_letters c_m_moves) H := hP
          have hD : va_D A (cw_X1_comeTogether g h_this h_m h_this_orders h_this_together h_this_painted h_this_painted_moves h_this_painted_lights h_this_painted_prices h_this_painted_shares h_m_moves h_m_lights h_m_prices h_m_shares c_together c_painted_states c_painted_letters c_painted_moves c_m_states c_m_letters c_m_moves) := hD
          refine lv_ishl hx hb dX1_comeTogether_48 ?_
          exact K_49 x5 r4 ((nI 1) <<< (r6 &&& 31)) h _ _ hP hD hS _ (lv_sub hl [1, 2, 3, 4, 5, 6, 0] rfl)
        · replace h := h.2 cq
          refine lv_aload_n hx hb dX1_comeTogether_29 rfl (lv_at hl 2 rfl) ?_
          refine lv_iload_n hx hb dX1_comeTogether_30 rfl (lv_at hl 4 rfl) ?_
          refine go_I E (run_S E ((k_X1_targets l g h_m h_m_moves h_m_lights h_m_prices h_m_shares h) _) (va_cwS 2 hts gX1_comeTogether_X1_targets rfl rfl rfl (by decide +kernel) ⟨Nat.le_of_ble_eq_true rfl, Nat.le_of_ble_eq_true rfl⟩) hP hD hS [4, 5] rfl rfl hl rfl rfl (Nat.le_of_ble_eq_true rfl) dX1_comeTogether_31 ⟨Nat.le_of_ble_eq_true rfl, Nat.le_of_ble_eq_true rfl⟩) hP hD hS [4, 5] rfl [(true, 0), (true, 1), (true, 2), (true, 3), (false, 0), (false, 1)] rfl (by decide) (fun _ => (cw_X1_comeTogether g h_this h_m h_this_orders h_this_together h_this_painted h_this_painted_moves h_this_painted_lights h_this_painted_prices h_this_painted_shares h_m_moves h_m_lights h_m_prices h_m_shares c_together c_painted_states c_painted_letters c_painted_moves c_m_states c_m_letters c_m_moves)) (fun _ => rfl) (fun r8 _ H locs h hP hD hS => ?_)
          try dsimp only at h
          have hP : va_P g.1 vwCl (cw_X1_comeTogether g h_this h_m h_this_orders h_this_together h_this_painted h_this_painted_moves h_this_painted_lights h_this_painted_prices h_this_painted_shares h_m_moves h_m_lights h_m_prices h_m_shares c_together c_painted_states c_painted_letters c_painted_moves c_m_states c_m_letters c_m_moves) H := hP
          have hD : va_D A (cw_X1_comeTogether g h_this h_m h_this_orders h_this_together h_this_painted h_this_painted_moves h_this_painted_lights h_this_painted_prices h_this_painted_shares h_m_moves h_m_lights h_m_prices h_m_shares c_together c_painted_states c_painted_letters c_painted_moves c_m_states c_m_letters c_m_moves) := hD
          refine lv_goto (tgt := 49) hx hb dX1_comeTogether_34 (by decide) ?_
          exact K_49 x5 r4 r8 h _ _ hP hD hS _ (lv_sub hl [1, 2, 3, 4, 5, 6, 0] rfl)
  refine lv_iconst (v := (nI 0)) hx hb dX1_comeTogether_0 (by decide) ?_
  refine lv_istore (lv' := [(5, .int (nI 0)), (0, .ref h_this), (1, .ref h_m), (2, .int x2), (3, .int x3), (4, .int x4)]) hx hb dX1_comeTogether_1 hl (by decide) rfl (fun ls hl => ?_)
  obtain ⟨n, h⟩ := h
  exact K_3 n (nI 0) h _ _ hP hD hS _ (lv_sub hl [1, 2, 3, 4, 5, 0] rfl)
abbrev cw_X1_sweepPairs (g : GG) (h_this : Nat) (h_m : Nat) (h_this_orders : Nat) (h_this_together : Nat) (h_this_painted : Nat) (h_this_painted_moves : Nat) (h_this_painted_lights : Nat) (h_this_painted_prices : Nat) (h_this_painted_shares : Nat) (h_m_moves : Nat) (h_m_lights : Nat) (h_m_prices : Nat) (h_m_shares : Nat) (c_together : Nat → Int32) (c_painted_states : Int32) (c_painted_letters : Int32) (c_painted_moves : Nat → Int32) (c_m_states : Int32) (c_m_letters : Int32) (c_m_moves : Nat → Int32) : va_W := [(h_this, .inr (1, [.ref h_this_orders, .ref h_this_together, .ref h_this_painted])), (h_this_together, .inl (g.2.1, 12, .inl c_together)), (h_this_painted, .inr (3, [.int c_painted_states, .int c_painted_letters, .ref h_this_painted_moves, .ref h_this_painted_lights, .ref h_this_painted_prices, .ref h_this_painted_shares])), (h_this_painted_moves, .inl (g.2.1, 48, .inl c_painted_moves)), (h_m, .inr (3, [.int c_m_states, .int c_m_letters, .ref h_m_moves, .ref h_m_lights, .ref h_m_prices, .ref h_m_shares])), (h_m_moves, .inl (g.2.1, 48, .inl c_m_moves))]
def J_X1_sweepPairs_108 (R_5 : Int32 → Int32 → (Nat → Int32) → Prop) (x3 : Int32) (x4 : Int32) (c_together : Nat → Int32) : Prop :=
    R_5 x3 (x4 + (nI 1)) c_together
def J_X1_sweepPairs_102 (R_27 : Int32 → Int32 → (Nat → Int32) → Prop) (x3 : Int32) (x5 : Int32) (c_together : Nat → Int32) : Prop :=
    R_27 x3 (x5 + (nI 1)) c_together
def L_X1_sweepPairs_27 (c_painted_states : Int32) (c_painted_letters : Int32) (c_painted_moves : Nat → Int32) (c_m_states : Int32) (c_m_letters : Int32) (c_m_moves : Nat → Int32) (x2 : Int32) (x4 : Int32) (R_5 : Int32 → Int32 → (Nat → Int32) → Prop) : Nat → Int32 → Int32 → (Nat → Int32) → Prop
  | 0, _, _, _ => False
  | n_27 + 1, x3, x5, c_together =>
    ((c_m_states ≤ x5 → J_X1_sweepPairs_108 R_5 x3 x4 c_together) ∧ (¬ c_m_states ≤ x5 → (((nI 12) ≤ x5 → J_X1_sweepPairs_108 R_5 x3 x4 c_together) ∧ (¬ (nI 12) ≤ x5 → vp_in x4 12 ∧ ((¬ (((c_together (Int32.toNatClampNeg x4)) >>> (x5 &&& 31)) &&& (nI 1)) = (nI 0) → J_X1_sweepPairs_102 (L_X1_sweepPairs_27 c_painted_states c_painted_letters c_painted_moves c_m_states c_m_letters c_m_moves x2 x4 R_5 n_27) x3 x5 c_together) ∧ ((((c_together (Int32.toNatClampNeg x4)) >>> (x5 &&& 31)) &&& (nI 1)) = (nI 0) → wp_X1_comeTogether c_together c_painted_states c_painted_letters c_painted_moves c_m_states c_m_letters c_m_moves x4 x5 x2 (fun r6 => ((r6 = (nI 0) → J_X1_sweepPairs_102 (L_X1_sweepPairs_27 c_painted_states c_painted_letters c_painted_moves c_m_states c_m_letters c_m_moves x2 x4 R_5 n_27) x3 x5 c_together) ∧ (¬ r6 = (nI 0) → vp_in x4 12 ∧ vp_in x4 12 ∧ vp_in x5 12 ∧ vp_in x5 12 ∧ J_X1_sweepPairs_102 (L_X1_sweepPairs_27 c_painted_states c_painted_letters c_painted_moves c_m_states c_m_letters c_m_moves x2 x4 R_5 n_27) (x3 + (nI 1)) x5 (upd (upd c_together (Int32.toNatClampNeg x4) ((c_together (Int32.toNatClampNeg x4)) ||| ((nI 1) <<< (x5 &&& 31)))) (Int32.toNatClampNeg x5) (((upd c_together (Int32.toNatClampNeg x4) ((c_together (Int32.toNatClampNeg x4)) ||| ((nI 1) <<< (x5 &&& 31)))) (Int32.toNatClampNeg x5)) ||| ((nI 1) <<< (x4 &&& 31)))))))))))))
def L_X1_sweepPairs_5 (c_painted_states : Int32) (c_painted_letters : Int32) (c_painted_moves : Nat → Int32) (c_m_states : Int32) (c_m_letters : Int32) (c_m_moves : Nat → Int32) (x2 : Int32) (Q : Int32 → (Nat → Int32) → Prop) : Nat → Int32 → Int32 → (Nat → Int32) → Prop
  | 0, _, _, _ => False
  | n_5 + 1, x3, x4, c_together =>
    ((c_m_states ≤ x4 → Q x3 c_together) ∧ (¬ c_m_states ≤ x4 → (((nI 12) ≤ x4 → Q x3 c_together) ∧ (¬ (nI 12) ≤ x4 → ∃ n, L_X1_sweepPairs_27 c_painted_states c_painted_letters c_painted_moves c_m_states c_m_letters c_m_moves x2 x4 (L_X1_sweepPairs_5 c_painted_states c_painted_letters c_painted_moves c_m_states c_m_letters c_m_moves x2 Q n_5) n x3 (x4 + (nI 1)) c_together))))
def wp_X1_sweepPairs (c_together : Nat → Int32) (c_painted_states : Int32) (c_painted_letters : Int32) (c_painted_moves : Nat → Int32) (c_m_states : Int32) (c_m_letters : Int32) (c_m_moves : Nat → Int32) (x2 : Int32) (Q : Int32 → (Nat → Int32) → Prop) : Prop :=
    ∃ n, L_X1_sweepPairs_5 c_painted_states c_painted_letters c_painted_moves c_m_states c_m_letters c_m_moves x2 Q n (nI 0) (nI 0) c_together
abbrev rm_X1_sweepPairs : Room := { frames := 3, cells := 0, slots := 0, locals := 73 }
set_option maxHeartbeats 4000000 in
set_option maxRecDepth 100000 in
theorem k_X1_sweepPairs (l : Launch) (g : GG) (h_this : Nat) (h_m : Nat) (h_this_orders : Nat) (h_this_together : Nat) (h_this_painted : Nat) (h_this_painted_moves : Nat) (h_this_painted_lights : Nat) (h_this_painted_prices : Nat) (h_this_painted_shares : Nat) (h_m_moves : Nat) (h_m_lights : Nat) (h_m_prices : Nat) (h_m_shares : Nat) {c_together : Nat → Int32} {c_painted_states : Int32} {c_painted_letters : Int32} {c_painted_moves : Nat → Int32} {c_m_states : Int32} {c_m_letters : Int32} {c_m_moves : Nat → Int32} {x2 : Int32} {Q : Int32 → (Nat → Int32) → Prop} (h : wp_X1_sweepPairs c_together c_painted_states c_painted_letters c_painted_moves c_m_states c_m_letters c_m_moves x2 Q) : CI l g yX1_sweepPairs wsX1_sweepPairs rm_X1_sweepPairs [.ref h_this, .ref h_m, .int x2] (cw_X1_sweepPairs g h_this h_m h_this_orders h_this_together h_this_painted h_this_painted_moves h_this_painted_lights h_this_painted_prices h_this_painted_shares h_m_moves h_m_lights h_m_prices h_m_shares c_together c_painted_states c_painted_letters c_painted_moves c_m_states c_m_letters c_m_moves) (S := (Nat → Int32)) (fun u => (cw_X1_sweepPairs g h_this h_m h_this_orders h_this_together h_this_painted h_this_painted_moves h_this_painted_lights h_this_painted_prices h_this_painted_shares h_m_moves h_m_lights h_m_prices h_m_shares u c_painted_states c_painted_letters c_painted_moves c_m_states c_m_letters c_m_moves)) (fun r u => Q r u) 0 0 := by
  refine mk_I (cc := cX1_sweepPairs) (maxL := 6) (own := RX1) (by decide) rfl rfl (Nat.le_of_ble_eq_true rfl) ?_
  intro p e s m args below meth c A QQ E hret hP hD hS ls hl
  have E2 := E
  obtain ⟨hx, hb, hr, hml, hown, hts, hlocks, hA, hZ, hK, hnm⟩ := E2
  have f15 := hts (.fieldLink RX1 15 "WordBench$Colouring" "together" "[I") (by decide +kernel)
  have iX1 : ∀ w ∈ wsX10, w ∈ wsX1_sweepPairs := fun _ h => List.mem_cons_of_mem _ (List.mem_append_left _ (List.mem_append_right _ h))
  have hP : va_P g.1 vwCl (cw_X1_sweepPairs g h_this h_m h_this_orders h_this_together h_this_painted h_this_painted_moves h_this_painted_lights h_this_painted_prices h_this_painted_shares h_m_moves h_m_lights h_m_prices h_m_shares c_together c_painted_states c_painted_letters c_painted_moves c_m_states c_m_letters c_m_moves) s.heap := hP
  have hD : va_D A (cw_X1_sweepPairs g h_this h_m h_this_orders h_this_together h_this_painted h_this_painted_moves h_this_painted_lights h_this_painted_prices h_this_painted_shares h_m_moves h_m_lights h_m_prices h_m_shares c_together c_painted_states c_painted_letters c_painted_moves c_m_states c_m_letters c_m_moves) := hD
  have hl : lv_has ls 6 [(0, .ref h_this), (1, .ref h_m), (2, .int x2)] := hl
  unfold wp_X1_sweepPairs at h
  have K_5 : ∀ (n_5 : Nat) (x3 : Int32) (x4 : Int32) (c_together : Nat → Int32) , L_X1_sweepPairs_5 c_painted_states c_painted_letters c_painted_moves c_m_states c_m_letters c_m_moves x2 Q n_5 x3 x4 c_together → ∀ (H : Heap) (locs : List Loc), va_P g.1 vwCl (cw_X1_sweepPairs g h_this h_m h_this_orders h_this_together h_this_painted h_this_painted_moves h_this_painted_lights h_this_painted_prices h_this_painted_shares h_m_moves h_m_lights h_m_prices h_m_shares c_together c_painted_states c_painted_letters c_painted_moves c_m_states c_m_letters c_m_moves) H → va_D A (cw_X1_sweepPairs g h_this h_m h_this_orders h_this_together h_this_painted h_this_painted_moves h_this_painted_lights h_this_painted_prices h_this_painted_shares h_m_moves h_m_lights h_m_prices h_m_shares c_together c_painted_states c_painted_letters c_painted_moves c_m_states c_m_letters c_m_moves) → va_S A s.heap H locs → ∀ ls : Array Slot, lv_has ls 6 [(0, .ref h_this), (1, .ref h_m), (2, .int x2), (3, .int x3), (4, .int x4)] → W p l e rm_X1_sweepPairs s m args below meth c H locs 0 0 QQ (F0 m 5 ls []) := by
    intro n_5
    induction n_5 with
    | zero => intro x3 x4 c_together; exact fun h => False.elim h
    | succ n_5 ih_5 =>
      intro x3 x4 c_together h H locs hP hD hS ls hl
      unfold L_X1_sweepPairs_5 at h
      have K_108 : ∀ (x3 : Int32) (x4 : Int32) (c_together : Nat → Int32) , J_X1_sweepPairs_108 (L_X1_sweepPairs_5 c_painted_states c_painted_letters c_painted_moves c_m_states c_m_letters c_m_moves x2 Q n_5) x3 x4 c_together → ∀ (H : Heap) (locs : List Loc), va_P g.1 vwCl (cw_X1_sweepPairs g h_this h_m h_this_orders h_this_together h_this_painted h_this_painted_moves h_this_painted_lights h_this_painted_prices h_this_painted_shares h_m_moves h_m_lights h_m_prices h_m_shares c_together c_painted_states c_painted_letters c_painted_moves c_m_states c_m_letters c_m_moves) H → va_D A (cw_X1_sweepPairs g h_this h_m h_this_orders h_this_together h_this_painted h_this_painted_moves h_this_painted_lights h_this_painted_prices h_this_painted_shares h_m_moves h_m_lights h_m_prices h_m_shares c_together c_painted_states c_painted_letters c_painted_moves c_m_states c_m_letters c_m_moves) → va_S A s.heap H locs → ∀ ls : Array Slot, lv_has ls 6 [(0, .ref h_this), (1, .ref h_m), (2, .int x2), (3, .int x3), (4, .int x4)] → W p l e rm_X1_sweepPairs s m args below meth c H locs 0 0 QQ (F0 m 108 ls []) := by
        intro x3 x4 c_together h H locs hP hD hS ls hl
        unfold J_X1_sweepPairs_108 at h
        refine lv_iinc (v := (x4 + (nI 1))) (lv' := [(4, .int (x4 + (nI 1))), (0, .ref h_this), (1, .ref h_m), (2, .int x2), (3, .int x3)]) hx hb dX1_sweepPairs_108 hl (k := 4) rfl rfl (by decide) rfl (fun ls hl => ?_)
        refine lv_goto (tgt := 5) hx hb dX1_sweepPairs_111 (by decide) ?_
        exact ih_5 x3 (x4 + (nI 1)) c_together h _ _ hP hD hS _ (lv_sub hl [1, 2, 3, 4, 0] rfl)
      have K_27 : ∀ (x4 : Int32) (n_27 : Nat) (x3 : Int32) (x5 : Int32) (c_together : Nat → Int32) , L_X1_sweepPairs_27 c_painted_states c_painted_letters c_painted_moves c_m_states c_m_letters c_m_moves x2 x4 (L_X1_sweepPairs_5 c_painted_states c_painted_letters c_painted_moves c_m_states c_m_letters c_m_moves x2 Q n_5) n_27 x3 x5 c_together → ∀ (H : Heap) (locs : List Loc), va_P g.1 vwCl (cw_X1_sweepPairs g h_this h_m h_this_orders h_this_together h_this_painted h_this_painted_moves h_this_painted_lights h_this_painted_prices h_this_painted_shares h_m_moves h_m_lights h_m_prices h_m_shares c_together c_painted_states c_painted_letters c_painted_moves c_m_states c_m_letters c_m_moves) H → va_D A (cw_X1_sweepPairs g h_this h_m h_this_orders h_this_together h_this_painted h_this_painted_moves h_this_painted_lights h_this_painted_prices h_this_painted_shares h_m_moves h_m_lights h_m_prices h_m_shares c_together c_painted_states c_painted_letters c_painted_moves c_m_states c_m_letters c_m_moves) → va_S A s.heap H locs → ∀ ls : Array Slot, lv_has ls 6 [(0, .ref h_this), (1, .ref h_m), (2, .int x2), (3, .int x3), (4, .int x4), (5, .int x5)] → W p l e rm_X1_sweepPairs s m args below meth c H locs 0 0 QQ (F0 m 27 ls []) := by
        intro x4 n_27
        induction n_27 with
        | zero => intro x3 x5 c_together; exact fun h => False.elim h
        | succ n_27 ih_27 =>
          intro x3 x5 c_together h H locs hP hD hS ls hl
          unfold L_X1_sweepPairs_27 at h
          have K_102 : ∀ (x3 : Int32) (x5 : Int32) (c_together : Nat → Int32) , J_X1_sweepPairs_102 (L_X1_sweepPairs_27 c_painted_states c_painted_letters c_painted_moves c_m_states c_m_letters c_m_moves x2 x4 (L_X1_sweepPairs_5 c_painted_states c_painted_letters c_painted_moves c_m_states c_m_letters c_m_moves x2 Q n_5) n_27) x3 x5 c_together → ∀ (H : Heap) (locs : List Loc), va_P g.1 vwCl (cw_X1_sweepPairs g h_this h_m h_this_orders h_this_together h_this_painted h_this_painted_moves h_this_painted_lights h_this_painted_prices h_this_painted_shares h_m_moves h_m_lights h_m_prices h_m_shares c_together c_painted_states c_painted_letters c_painted_moves c_m_states c_m_letters c_m_moves) H → va_D A (cw_X1_sweepPairs g h_this h_m h_this_orders h_this_together h_this_painted h_this_painted_moves h_this_painted_lights h_this_painted_prices h_this_painted_shares h_m_moves h_m_lights h_m_prices h_m_shares c_together c_painted_states c_painted_letters c_painted_moves c_m_states c_m_letters c_m_moves) → va_S A s.heap H locs → ∀ ls : Array Slot, lv_has ls 6 [(0, .ref h_this), (1, .ref h_m), (2, .int x2), (3, .int x3), (4, .int x4), (5, .int x5)] → W p l e rm_X1_sweepPairs s m args below meth c H locs 0 0 QQ (F0 m 102 ls []) := by
            intro x3 x5 c_together h H locs hP hD hS ls hl
            unfold J_X1_sweepPairs_102 at h
            refine lv_iinc (v := (x5 + (nI 1))) (lv' := [(5, .int (x5 + (nI 1))), (0, .ref h_this), (1, .ref h_m), (2, .int x2), (3, .int x3), (4, .int x4)]) hx hb dX1_sweepPairs_102 hl (k := 5) rfl rfl (by decide) rfl (fun ls hl => ?_)
            refine lv_goto (tgt := 27) hx hb dX1_sweepPairs_105 (by decide) ?_
            exact ih_27 x3 (x5 + (nI 1)) c_together h _ _ hP hD hS _ (lv_sub hl [1, 2, 3, 4, 5, 0] rfl)
          refine lv_iload hx hb dX1_sweepPairs_27 (lv_at hl 5 rfl) ?_
          refine lv_aload_n hx hb dX1_sweepPairs_29 rfl (lv_at hl 1 rfl) ?_
          refine go_I E (run_V E ((k_X4_states l g h_m h_m_moves h_m_lights h_m_prices h_m_shares (Q := fun r => r = c_m_states) rfl) _) (cwV 0 hts gX1_sweepPairs_X4_states rfl rfl rfl (by decide +kernel) ⟨Nat.le_of_ble_eq_true rfl, Nat.le_of_ble_eq_true rfl⟩) hP hD hS [4] rfl rfl 0 3 rfl rfl rfl hl rfl rfl (Nat.le_of_ble_eq_true rfl) dX1_sweepPairs_30 ⟨Nat.le_of_ble_eq_true rfl, Nat.le_of_ble_eq_true rfl⟩) hP hD hS [4] rfl [(true, 0), (true, 1), (true, 2), (true, 3), (false, 0), (true, 5)] rfl (by decide) (fun _ => (cw_X1_sweepPairs g h_this h_m h_this_orders h_this_together h_this_painted h_this_painted_moves h_this_painted_lights h_this_painted_prices h_this_painted_shares h_m_moves h_m_lights h_m_prices h_m_shares c_together c_painted_states c_painted_letters c_painted_moves c_m_states c_m_letters c_m_moves)) (fun _ => rfl) (fun r4 _ H locs hr_ hP hD hS => ?_)
          have hr_ : c_m_states = r4 := Eq.symm hr_
          subst hr_
          have hP : va_P g.1 vwCl (cw_X1_sweepPairs g h_this h_m h_this_orders h_this_together h_this_painted h_this_painted_moves h_this_painted_lights h_this_painted_prices h_this_painted_shares h_m_moves h_m_lights h_m_prices h_m_shares c_together c_painted_states c_painted_letters c_painted_moves c_m_states c_m_letters c_m_moves) H := hP
          have hD : va_D A (cw_X1_sweepPairs g h_this h_m h_this_orders h_this_together h_this_painted h_this_painted_moves h_this_painted_lights h_this_painted_prices h_this_painted_shares h_m_moves h_m_lights h_m_prices h_m_shares c_together c_painted_states c_painted_letters c_painted_moves c_m_states c_m_letters c_m_moves) := hD
          refine lv_icmp_ge (tgt := 108) hx hb dX1_sweepPairs_33 (by decide) (fun cq => ?_) (fun cq => ?_)
          · replace h := h.1 cq
            exact K_108 x3 x4 c_together h _ _ hP hD hS _ (lv_sub hl [0, 1, 2, 3, 4] rfl)
          · replace h := h.2 cq
            refine lv_iload hx hb dX1_sweepPairs_36 (lv_at hl 5 rfl) ?_
            refine lv_bipush (v := (nI 12)) hx hb dX1_sweepPairs_38 (by decide) ?_
            refine lv_icmp_ge (tgt := 108) hx hb dX1_sweepPairs_40 (by decide) (fun cq => ?_) (fun cq => ?_)
            · replace h := h.1 cq
              exact K_108 x3 x4 c_together h _ _ hP hD hS _ (lv_sub hl [0, 1, 2, 3, 4] rfl)
            · replace h := h.2 cq
              refine lv_aload_n hx hb dX1_sweepPairs_43 rfl (lv_at hl 0 rfl) ?_
              refine va_get (D := g.1) (ci := 1) (v := .ref h_this_together) (C := RX1) (T := TX1) (N := 3) hx hb hts iX1 hown hK hP 0 rfl rfl 1 (by decide) f15 (fun _ h9 => h9) rfl dX1_sweepPairs_44 ?_
              refine lv_iload hx hb dX1_sweepPairs_47 (lv_at hl 4 rfl) ?_
              obtain ⟨hi, h⟩ := h
              refine va_iald (D := g.1) (n := 12) (f := c_together) hx hb hK hP 1 0 rfl rfl hi dX1_sweepPairs_49 ?_
              refine lv_iload hx hb dX1_sweepPairs_50 (lv_at hl 5 rfl) ?_
              refine lv_ishr hx hb dX1_sweepPairs_52 ?_
              refine lv_iconst (v := (nI 1)) hx hb dX1_sweepPairs_53 (by decide) ?_
              refine lv_iand hx hb dX1_sweepPairs_54 ?_
              refine lv_if_ne (tgt := 102) hx hb dX1_sweepPairs_55 (by decide) (fun cq => ?_) (fun cq => ?_)
              · replace h := h.1 cq
                exact K_102 x3 x5 c_together h _ _ hP hD hS _ (lv_sub hl [0, 1, 2, 3, 4, 5] rfl)
              · replace h := h.2 cq
                refine lv_aload_n hx hb dX1_sweepPairs_58 rfl (lv_at hl 0 rfl) ?_
                refine lv_aload_n hx hb dX1_sweepPairs_59 rfl (lv_at hl 1 rfl) ?_
                refine lv_iload hx hb dX1_sweepPairs_60 (lv_at hl 4 rfl) ?_
                refine lv_iload hx hb dX1_sweepPairs_62 (lv_at hl 5 rfl) ?_
                refine lv_iload_n hx hb dX1_sweepPairs_64 rfl (lv_at hl 2 rfl) ?_
                refine go_I E (run_V E ((k_X1_comeTogether l g h_this h_m h_this_orders h_this_together h_this_painted h_this_painted_moves h_this_painted_lights h_this_painted_prices h_this_painted_shares h_m_moves h_m_lights h_m_prices h_m_shares h) _) (cwV 4 hts gX1_sweepPairs_X1_comeTogether rfl rfl rfl (by decide +kernel) ⟨Nat.le_of_ble_eq_true rfl, Nat.le_of_ble_eq_true rfl⟩) hP hD hS [0, 1, 2, 3, 4, 5] rfl rfl 0 1 rfl rfl rfl hl rfl rfl (Nat.le_of_ble_eq_true rfl) dX1_sweepPairs_65 ⟨Nat.le_of_ble_eq_true rfl, Nat.le_of_ble_eq_true rfl⟩) hP hD hS [0, 1, 2, 3, 4, 5] rfl [(false, 0), (false, 1), (false, 2), (false, 3), (false, 4), (false, 5)] rfl (by decide) (fun _ => (cw_X1_sweepPairs g h_this h_m h_this_orders h_this_together h_this_painted h_this_painted_moves h_this_painted_lights h_this_painted_prices h_this_painted_shares h_m_moves h_m_lights h_m_prices h_m_shares c_together c_painted_states c_painted_letters c_painted_moves c_m_states c_m_letters c_m_moves)) (fun _ => rfl) (fun r6 _ H locs h hP hD hS => ?_)
                try dsimp only at h
                have hP : va_P g.1 vwCl (cw_X1_sweepPairs g h_this h_m h_this_orders h_this_together h_this_painted h_this_painted_moves h_this_painted_lights h_this_painted_prices h_this_painted_shares h_m_moves h_m_lights h_m_prices h_m_shares c_together c_painted_states c_painted_letters c_painted_moves c_m_states c_m_letters c_m_moves) H := hP
                have hD : va_D A (cw_X1_sweepPairs g h_this h_m h_this_orders h_this_together h_this_painted h_this_painted_moves h_this_painted_lights h_this_painted_prices h_this_painted_shares h_m_moves h_m_lights h_m_prices h_m_shares c_together c_painted_states c_painted_letters c_painted_moves c_m_states c_m_letters c_m_moves) := hD
                refine lv_if_eq (tgt := 102) hx hb dX1_sweepPairs_68 (by decide) (fun cq => ?_) (fun cq => ?_)
                · replace h := h.1 cq
                  exact K_102 x3 x5 c_together h _ _ hP hD hS _ (lv_sub hl [0, 1, 2, 3, 4, 5] rfl)
                · replace h := h.2 cq
                  refine lv_aload_n hx hb dX1_sweepPairs_71 rfl (lv_at hl 0 rfl) ?_
                  refine va_get (D := g.1) (ci := 1) (v := .ref h_this_together) (C := RX1) (T := TX1) (N := 3) hx hb hts iX1 hown hK hP 0 rfl rfl 1 (by decide) f15 (fun _ h9 => h9) rfl dX1_sweepPairs_72 ?_
                  refine lv_iload hx hb dX1_sweepPairs_75 (lv_at hl 4 rfl) ?_
                  refine lv_dup2_11 hx hb dX1_sweepPairs_77 rfl rfl ?_
                  obtain ⟨hi, h⟩ := h
                  refine va_iald (D := g.1) (n := 12) (f := c_together) hx hb hK hP 1 0 rfl rfl hi dX1_sweepPairs_78 ?_
                  refine lv_iconst (v := (nI 1)) hx hb dX1_sweepPairs_79 (by decide) ?_
                  refine lv_iload hx hb dX1_sweepPairs_80 (lv_at hl 5 rfl) ?_
                  refine lv_ishl hx hb dX1_sweepPairs_82 ?_
                  refine lv_ior hx hb dX1_sweepPairs_83 ?_
                  obtain ⟨hi, h⟩ := h
                  refine va_iast (D := g.1) (n := 12) (f := c_together) hx hb hK hP hD hS 1 0 rfl rfl hi dX1_sweepPairs_84 (fun H locs hP hD hS => ?_)
                  have hP : va_P g.1 vwCl (cw_X1_sweepPairs g h_this h_m h_this_orders h_this_together h_this_painted h_this_painted_moves h_this_painted_lights h_this_painted_prices h_this_painted_shares h_m_moves h_m_lights h_m_prices h_m_shares (upd c_together (Int32.toNatClampNeg x4) ((c_together (Int32.toNatClampNeg x4)) ||| ((nI 1) <<< (x5 &&& 31)))) c_painted_states c_painted_letters c_painted_moves c_m_states c_m_letters c_m_moves) H := hP
                  have hD : va_D A (cw_X1_sweepPairs g h_this h_m h_this_orders h_this_together h_this_painted h_this_painted_moves h_this_painted_lights h_this_painted_prices h_this_painted_shares h_m_moves h_m_lights h_m_prices h_m_shares (upd c_together (Int32.toNatClampNeg x4) ((c_together (Int32.toNatClampNeg x4)) ||| ((nI 1) <<< (x5 &&& 31)))) c_painted_states c_painted_letters c_painted_moves c_m_states c_m_letters c_m_moves) := hD
                  refine lv_aload_n hx hb dX1_sweepPairs_85 rfl (lv_at hl 0 rfl) ?_
                  refine va_get (D := g.1) (ci := 1) (v := .ref h_this_together) (C := RX1) (T := TX1) (N := 3) hx hb hts iX1 hown hK hP 0 rfl rfl 1 (by decide) f15 (fun _ h9 => h9) rfl dX1_sweepPairs_86 ?_
                  refine lv_iload hx hb dX1_sweepPairs_89 (lv_at hl 5 rfl) ?_
                  refine lv_dup2_11 hx hb dX1_sweepPairs_91 rfl rfl ?_
                  obtain ⟨hi, h⟩ := h
                  refine va_iald (D := g.1) (n := 12) (f := (upd c_together (Int32.toNatClampNeg x4) ((c_together (Int32.toNatClampNeg x4)) ||| ((nI 1) <<< (x5 &&& 31))))) hx hb hK hP 1 0 rfl rfl hi dX1_sweepPairs_92 ?_
                  refine lv_iconst (v := (nI 1)) hx hb dX1_sweepPairs_93 (by decide) ?_
                  refine lv_iload hx hb dX1_sweepPairs_94 (lv_at hl 4 rfl) ?_
                  refine lv_ishl hx hb dX1_sweepPairs_96 ?_
                  refine lv_ior hx hb dX1_sweepPairs_97 ?_
                  obtain ⟨hi, h⟩ := h
                  refine va_iast (D := g.1) (n := 12) (f := (upd c_together (Int32.toNatClampNeg x4) ((c_together (Int32.toNatClampNeg x4)) ||| ((nI 1) <<< (x5 &&& 31))))) hx hb hK hP hD hS 1 0 rfl rfl hi dX1_sweepPairs_98 (fun H locs hP hD hS => ?_)
                  have hP : va_P g.1 vwCl (cw_X1_sweepPairs g h_this h_m h_this_orders h_this_together h_this_painted h_this_painted_moves h_this_painted_lights h_this_painted_prices h_this_painted_shares h_m_moves h_m_lights h_m_prices h_m_shares (upd (upd c_together (Int32.toNatClampNeg x4) ((c_together (Int32.toNatClampNeg x4)) ||| ((nI 1) <<< (x5 &&& 31)))) (Int32.toNatClampNeg x5) (((upd c_together (Int32.toNatClampNeg x4) ((c_together (Int32.toNatClampNeg x4)) ||| ((nI 1) <<< (x5 &&& 31)))) (Int32.toNatClampNeg x5)) ||| ((nI 1) <<< (x4 &&& 31)))) c_painted_states c_painted_letters c_painted_moves c_m_states c_m_letters c_m_moves) H := hP
                  have hD : va_D A (cw_X1_sweepPairs g h_this h_m h_this_orders h_this_together h_this_painted h_this_painted_moves h_this_painted_lights h_this_painted_prices h_this_painted_shares h_m_moves h_m_lights h_m_prices h_m_shares (upd (upd c_together (Int32.toNatClampNeg x4) ((c_together (Int32.toNatClampNeg x4)) ||| ((nI 1) <<< (x5 &&& 31)))) (Int32.toNatClampNeg x5) (((upd c_together (Int32.toNatClampNeg x4) ((c_together (Int32.toNatClampNeg x4)) ||| ((nI 1) <<< (x5 &&& 31)))) (Int32.toNatClampNeg x5)) ||| ((nI 1) <<< (x4 &&& 31)))) c_painted_states c_painted_letters c_painted_moves c_m_states c_m_letters c_m_moves) := hD
                  refine lv_iinc (v := (x3 + (nI 1))) (lv' := [(3, .int (x3 + (nI 1))), (0, .ref h_this), (1, .ref h_m), (2, .int x2), (4, .int x4), (5, .int x5)]) hx hb dX1_sweepPairs_99 hl (k := 3) rfl rfl (by decide) rfl (fun ls hl => ?_)
                  exact K_102 (x3 + (nI 1)) x5 (upd (upd c_together (Int32.toNatClampNeg x4) ((c_together (Int32.toNatClampNeg x4)) ||| ((nI 1) <<< (x5 &&& 31)))) (Int32.toNatClampNeg x5) (((upd c_together (Int32.toNatClampNeg x4) ((c_together (Int32.toNatClampNeg x4)) ||| ((nI 1) <<< (x5 &&& 31)))) (Int32.toNatClampNeg x5)) ||| ((nI 1) <<< (x4 &&& 31)))) h _ _ hP hD hS _ (lv_sub hl [1, 2, 3, 0, 4, 5] rfl)
      refine lv_iload hx hb dX1_sweepPairs_5 (lv_at hl 4 rfl) ?_
      refine lv_aload_n hx hb dX1_sweepPairs_7 rfl (lv_at hl 1 rfl) ?_
      refine go_I E (run_V E ((k_X4_states l g h_m h_m_moves h_m_lights h_m_prices h_m_shares (Q := fun r => r = c_m_states) rfl) _) (cwV 0 hts gX1_sweepPairs_X4_states rfl rfl rfl (by decide +kernel) ⟨Nat.le_of_ble_eq_true rfl, Nat.le_of_ble_eq_true rfl⟩) hP hD hS [4] rfl rfl 0 3 rfl rfl rfl hl rfl rfl (Nat.le_of_ble_eq_true rfl) dX1_sweepPairs_8 ⟨Nat.le_of_ble_eq_true rfl, Nat.le_of_ble_eq_true rfl⟩) hP hD hS [4] rfl [(true, 0), (true, 1), (true, 2), (true, 3), (false, 0), (true, 5)] rfl (by decide) (fun _ => (cw_X1_sweepPairs g h_this h_m h_this_orders h_this_together h_this_painted h_this_painted_moves h_this_painted_lights h_this_painted_prices h_this_painted_shares h_m_moves h_m_lights h_m_prices h_m_shares c_together c_painted_states c_painted_letters c_painted_moves c_m_states c_m_letters c_m_moves)) (fun _ => rfl) (fun r2 _ H locs hr_ hP hD hS => ?_)
      have hr_ : c_m_states = r2 := Eq.symm hr_
      subst hr_
      have hP : va_P g.1 vwCl (cw_X1_sweepPairs g h_this h_m h_this_orders h_this_together h_this_painted h_this_painted_moves h_this_painted_lights h_this_painted_prices h_this_painted_shares h_m_moves h_m_lights h_m_prices h_m_shares c_together c_painted_states c_painted_letters c_painted_moves c_m_states c_m_letters c_m_moves) H := hP
      have hD : va_D A (cw_X1_sweepPairs g h_this h_m h_this_orders h_this_together h_this_painted h_this_painted_moves h_this_painted_lights h_this_painted_prices h_this_painted_shares h_m_moves h_m_lights h_m_prices h_m_shares c_together c_painted_states c_painted_letters c_painted_moves c_m_states c_m_letters c_m_moves) := hD
      refine lv_icmp_ge (tgt := 114) hx hb dX1_sweepPairs_11 (by decide) (fun cq => ?_) (fun cq => ?_)
      · replace h := h.1 cq
        refine lv_iload_n hx hb dX1_sweepPairs_114 rfl (lv_at hl 3 rfl) ?_
        exact hret x3 c_together _ _ _ _ rfl h hP hD hS dX1_sweepPairs_115
      · replace h := h.2 cq
        refine lv_iload hx hb dX1_sweepPairs_14 (lv_at hl 4 rfl) ?_
        refine lv_bipush (v := (nI 12)) hx hb dX1_sweepPairs_16 (by decide) ?_
        refine lv_icmp_ge (tgt := 114) hx hb dX1_sweepPairs_18 (by decide) (fun cq => ?_) (fun cq => ?_)
        · replace h := h.1 cq
          refine lv_iload_n hx hb dX1_sweepPairs_114 rfl (lv_at hl 3 rfl) ?_
          exact hret x3 c_together _ _ _ _ rfl h hP hD hS dX1_sweepPairs_115
        · replace h := h.2 cq
          refine lv_iload hx hb dX1_sweepPairs_21 (lv_at hl 4 rfl) ?_
          refine lv_iconst (v := (nI 1)) hx hb dX1_sweepPairs_23 (by decide) ?_
          refine lv_iadd hx hb dX1_sweepPairs_24 ?_
          refine lv_istore (lv' := [(5, .int (x4 + (nI 1))), (0, .ref h_this), (1, .ref h_m), (2, .int x2), (3, .int x3), (4, .int x4)]) hx hb dX1_sweepPairs_25 hl (by decide) rfl (fun ls hl => ?_)
          obtain ⟨n, h⟩ := h
          exact K_27 x4 n x3 (x4 + (nI 1)) c_together h _ _ hP hD hS _ (lv_sub hl [1, 2, 3, 4, 5, 0] rfl)
  refine lv_iconst (v := (nI 0)) hx hb dX1_sweepPairs_0 (by decide) ?_
  refine lv_istore_n (lv' := [(3, .int (nI 0)), (0, .ref h_this), (1, .ref h_m), (2, .int x2)]) hx hb dX1_sweepPairs_1 rfl hl (by decide) rfl (fun ls hl => ?_)
  refine lv_iconst (v := (nI 0)) hx hb dX1_sweepPairs_2 (by decide) ?_
  refine lv_istore (lv' := [(4, .int (nI 0)), (3, .int (nI 0)), (0, .ref h_this), (1, .ref h_m), (2, .int x2)]) hx hb dX1_sweepPairs_3 hl (by decide) rfl (fun ls hl => ?_)
  obtain ⟨n, h⟩ := h
  exact K_5 n (nI 0) (nI 0) c_together h _ _ hP hD hS _ (lv_sub hl [2, 3, 4, 1, 0] rfl)
