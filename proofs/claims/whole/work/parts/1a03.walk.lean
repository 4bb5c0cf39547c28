abbrev cw_X1_allComeTogether (g : GG) (h_this : Nat) (h_m : Nat) (h_this_orders : Nat) (h_this_together : Nat) (h_this_painted : Nat) (h_this_painted_moves : Nat) (h_this_painted_lights : Nat) (h_this_painted_prices : Nat) (h_this_painted_shares : Nat) (h_m_moves : Nat) (h_m_lights : Nat) (h_m_prices : Nat) (h_m_shares : Nat) (c_together : Nat → Int32) (c_painted_states : Int32) (c_painted_letters : Int32) (c_painted_moves : Nat → Int32) (c_m_states : Int32) (c_m_letters : Int32) (c_m_moves : Nat → Int32) : va_W := [(h_this, .inr (1, [.ref h_this_orders, .ref h_this_together, .ref h_this_painted])), (h_this_together, .inl (g.2.1, 12, .inl c_together)), (h_this_painted, .inr (3, [.int c_painted_states, .int c_painted_letters, .ref h_this_painted_moves, .ref h_this_painted_lights, .ref h_this_painted_prices, .ref h_this_painted_shares])), (h_this_painted_moves, .inl (g.2.1, 48, .inl c_painted_moves)), (h_m, .inr (3, [.int c_m_states, .int c_m_letters, .ref h_m_moves, .ref h_m_lights, .ref h_m_prices, .ref h_m_shares])), (h_m_moves, .inl (g.2.1, 48, .inl c_m_moves))]
def J_X1_allComeTogether_81 (Q : Int32 → (Nat → Int32) → Prop) (x3 : Int32) (c_together : Nat → Int32) : Prop :=
    ((¬ x3 = (nI 0) → Q (nI 0) c_together) ∧ (x3 = (nI 0) → Q (nI 1) c_together))
def L_X1_allComeTogether_45 (c_painted_states : Int32) (c_painted_letters : Int32) (c_painted_moves : Nat → Int32) (c_m_states : Int32) (c_m_letters : Int32) (c_m_moves : Nat → Int32) (x2 : Int32) (Q : Int32 → (Nat → Int32) → Prop) : Nat → Int32 → Int32 → Int32 → (Nat → Int32) → Prop
  | 0, _, _, _, _ => False
  | n_45 + 1, x3, x4, x5, c_together =>
    (((nI 144) ≤ x5 → J_X1_allComeTogether_81 Q x3 c_together) ∧ (¬ (nI 144) ≤ x5 → ((x3 ≤ (nI 0) → J_X1_allComeTogether_81 Q x3 c_together) ∧ (¬ x3 ≤ (nI 0) → ((x4 ≤ x3 → J_X1_allComeTogether_81 Q x3 c_together) ∧ (¬ x4 ≤ x3 → wp_X1_sweepPairs c_together c_painted_states c_painted_letters c_painted_moves c_m_states c_m_letters c_m_moves x2 (fun r6 c_together => (L_X1_allComeTogether_45 c_painted_states c_painted_letters c_painted_moves c_m_states c_m_letters c_m_moves x2 Q n_45) (x3 - r6) x3 (x5 + (nI 1)) c_together)))))))
def J_X1_allComeTogether_23 (c_painted_states : Int32) (c_painted_letters : Int32) (c_painted_moves : Nat → Int32) (c_m_states : Int32) (c_m_letters : Int32) (c_m_moves : Nat → Int32) (x2 : Int32) (Q : Int32 → (Nat → Int32) → Prop) (c_together : Nat → Int32) : Prop :=
    ∃ n, L_X1_allComeTogether_45 c_painted_states c_painted_letters c_painted_moves c_m_states c_m_letters c_m_moves x2 Q n ((c_m_states * (c_m_states - (nI 1))) / (nI 2)) (((c_m_states * (c_m_states - (nI 1))) / (nI 2)) + (nI 1)) (nI 0) c_together
def L_X1_allComeTogether_2 (c_painted_states : Int32) (c_painted_letters : Int32) (c_painted_moves : Nat → Int32) (c_m_states : Int32) (c_m_letters : Int32) (c_m_moves : Nat → Int32) (x2 : Int32) (Q : Int32 → (Nat → Int32) → Prop) : Nat → Int32 → (Nat → Int32) → Prop
  | 0, _, _ => False
  | n_2 + 1, x3, c_together =>
    (((nI 12) ≤ x3 → J_X1_allComeTogether_23 c_painted_states c_painted_letters c_painted_moves c_m_states c_m_letters c_m_moves x2 Q c_together) ∧ (¬ (nI 12) ≤ x3 → vp_in x3 12 ∧ (L_X1_allComeTogether_2 c_painted_states c_painted_letters c_painted_moves c_m_states c_m_letters c_m_moves x2 Q n_2) (x3 + (nI 1)) (upd c_together (Int32.toNatClampNeg x3) ((nI 1) <<< (x3 &&& 31)))))
def wp_X1_allComeTogether (c_together : Nat → Int32) (c_painted_states : Int32) (c_painted_letters : Int32) (c_painted_moves : Nat → Int32) (c_m_states : Int32) (c_m_letters : Int32) (c_m_moves : Nat → Int32) (x2 : Int32) (Q : Int32 → (Nat → Int32) → Prop) : Prop :=
    ∃ n, L_X1_allComeTogether_2 c_painted_states c_painted_letters c_painted_moves c_m_states c_m_letters c_m_moves x2 Q n (nI 0) c_together
abbrev rm_X1_allComeTogether : Room := { frames := 4, cells := 0, slots := 0, locals := 98 }
set_option maxHeartbeats 4000000 in
set_option maxRecDepth 100000 in
theorem k_X1_allComeTogether (l : Launch) (g : GG) (h_this : Nat) (h_m : Nat) (h_this_orders : Nat) (h_this_together : Nat) (h_this_painted : Nat) (h_this_painted_moves : Nat) (h_this_painted_lights : Nat) (h_this_painted_prices : Nat) (h_this_painted_shares : Nat) (h_m_moves : Nat) (h_m_lights : Nat) (h_m_prices : Nat) (h_m_shares : Nat) {c_together : Nat → Int32} {c_painted_states : Int32} {c_painted_letters : Int32} {c_painted_moves : Nat → Int32} {c_m_states : Int32} {c_m_letters : Int32} {c_m_moves : Nat → Int32} {x2 : Int32} {Q : Int32 → (Nat → Int32) → Prop} (h : wp_X1_allComeTogether c_together c_painted_states c_painted_letters c_painted_moves c_m_states c_m_letters c_m_moves x2 Q) : CI l g yX1_allComeTogether wsX1_allComeTogether rm_X1_allComeTogether [.ref h_this, .ref h_m, .int x2] (cw_X1_allComeTogether g h_this h_m h_this_orders h_this_together h_this_painted h_this_painted_moves h_this_painted_lights h_this_painted_prices h_this_painted_shares h_m_moves h_m_lights h_m_prices h_m_shares c_together c_painted_states c_painted_letters c_painted_moves c_m_states c_m_letters c_m_moves) (S := (Nat → Int32)) (fun u => (cw_X1_allComeTogether g h_this h_m h_this_orders h_this_together h_this_painted h_this_painted_moves h_this_painted_lights h_this_painted_prices h_this_painted_shares h_m_moves h_m_lights h_m_prices h_m_shares u c_painted_states c_painted_letters c_painted_moves c_m_states c_m_letters c_m_moves)) (fun r u => Q r u) 0 0 := by
  refine mk_I (cc := cX1_allComeTogether) (maxL := 6) (own := RX1) (by decide) rfl rfl (Nat.le_of_ble_eq_true rfl) ?_
  intro p e s m args below meth c A QQ E hret hP hD hS ls hl
  have E2 := E
  obtain ⟨hx, hb, hr, hml, hown, hts, hlocks, hA, hZ, hK, hnm⟩ := E2
  have f15 := hts (.fieldLink RX1 15 "WordBench$Colouring" "together" "[I") (by decide +kernel)
  have iX1 : ∀ w ∈ wsX10, w ∈ wsX1_allComeTogether := fun _ h => List.mem_cons_of_mem _ (List.mem_append_left _ (List.mem_append_right _ h))
  have hP : va_P g.1 vwCl (cw_X1_allComeTogether g h_this h_m h_this_orders h_this_together h_this_painted h_this_painted_moves h_this_painted_lights h_this_painted_prices h_this_painted_shares h_m_moves h_m_lights h_m_prices h_m_shares c_together c_painted_states c_painted_letters c_painted_moves c_m_states c_m_letters c_m_moves) s.heap := hP
  have hD : va_D A (cw_X1_allComeTogether g h_this h_m h_this_orders h_this_together h_this_painted h_this_painted_moves h_this_painted_lights h_this_painted_prices h_this_painted_shares h_m_moves h_m_lights h_m_prices h_m_shares c_together c_painted_states c_painted_letters c_painted_moves c_m_states c_m_letters c_m_moves) := hD
  have hl : lv_has ls 6 [(0, .ref h_this), (1, .ref h_m), (2, .int x2)] := hl
  unfold wp_X1_allComeTogether at h
  have K_81 : ∀ (x3 : Int32) (c_together : Nat → Int32) , J_X1_allComeTogether_81 Q x3 c_together → ∀ (H : Heap) (locs : List Loc), va_P g.1 vwCl (cw_X1_allComeTogether g h_this h_m h_this_orders h_this_together h_this_painted h_this_painted_moves h_this_painted_lights h_this_painted_prices h_this_painted_shares h_m_moves h_m_lights h_m_prices h_m_shares c_together c_painted_states c_painted_letters c_painted_moves c_m_states c_m_letters c_m_moves) H → va_D A (cw_X1_allComeTogether g h_this h_m h_this_orders h_this_together h_this_painted h_this_painted_moves h_this_painted_lights h_this_painted_prices h_this_painted_shares h_m_moves h_m_lights h_m_prices h_m_shares c_together c_painted_states c_painted_letters c_painted_moves c_m_states c_m_letters c_m_moves) → va_S A s.heap H locs → ∀ ls : Array Slot, lv_has ls 6 [(3, .int x3)] → W p l e rm_X1_allComeTogether s m args below meth c H locs 0 0 QQ (F0 m 81 ls []) := by
    intro x3 c_together h H locs hP hD hS ls hl
    unfold J_X1_allComeTogether_81 at h
    refine lv_iload_n hx hb dX1_allComeTogether_81 rfl (lv_at hl 0 rfl) ?_
    refine lv_if_ne (tgt := 89) hx hb dX1_allComeTogether_82 (by decide) (fun cq => ?_) (fun cq => ?_)
    · replace h := h.1 cq
      refine lv_iconst (v := (nI 0)) hx hb dX1_allComeTogether_89 (by decide) ?_
      exact hret (nI 0) c_together _ _ _ _ nbz h hP hD hS dX1_allComeTogether_90
    · replace h := h.2 cq
      refine lv_iconst (v := (nI 1)) hx hb dX1_allComeTogether_85 (by decide) ?_
      refine lv_goto (tgt := 90) hx hb dX1_allComeTogether_86 (by decide) ?_
      exact hret (nI 1) c_together _ _ _ _ nbo h hP hD hS dX1_allComeTogether_90
  have K_45 : ∀ (n_45 : Nat) (x3 : Int32) (x4 : Int32) (x5 : Int32) (c_together : Nat → Int32) , L_X1_allComeTogether_45 c_painted_states c_painted_letters c_painted_moves c_m_states c_m_letters c_m_moves x2 Q n_45 x3 x4 x5 c_together → ∀ (H : Heap) (locs : List Loc), va_P g.1 vwCl (cw_X1_allComeTogether g h_this h_m h_this_orders h_this_together h_this_painted h_this_painted_moves h_this_painted_lights h_this_painted_prices h_this_painted_shares h_m_moves h_m_lights h_m_prices h_m_shares c_together c_painted_states c_painted_letters c_painted_moves c_m_states c_m_letters c_m_moves) H → va_D A (cw_X1_allComeTogether g h_this h_m h_this_orders h_this_together h_this_painted h_this_painted_moves h_this_painted_lights h_this_painted_prices h_this_painted_shares h_m_moves h_m_lights h_m_prices h_m_shares c_together c_painted_states c_painted_letters c_painted_moves c_m_states c_m_letters c_m_moves) → va_S A s.heap H locs → ∀ ls : Array Slot, lv_has ls 6 [(0, .ref h_this), (1, .ref h_m), (2, .int x2), (3, .int x3), (4, .int x4), (5, .int x5)] → W p l e rm_X1_allComeTogether s m args below meth c H locs 0 0 QQ (F0 m 45 ls []) := by
    intro n_45
    induction n_45 with
    | zero => intro x3 x4 x5 c_together; exact fun h => False.elim h
    | succ n_45 ih_45 =>
      intro x3 x4 x5 c_together h H locs hP hD hS ls hl
      unfold L_X1_allComeTogether_45 at h
      refine lv_iload hx hb dX1_allComeTogether_45 (lv_at hl 5 rfl) ?_
      refine lv_sipush (v := (nI 144)) hx hb dX1_allComeTogether_47 (by decide) ?_
      refine lv_icmp_ge (tgt := 81) hx hb dX1_allComeTogether_50 (by decide) (fun cq => ?_) (fun cq => ?_)
      · replace h := h.1 cq
        exact K_81 x3 c_together h _ _ hP hD hS _ (lv_sub hl [3] rfl)
      · replace h := h.2 cq
        refine lv_iload_n hx hb dX1_allComeTogether_53 rfl (lv_at hl 3 rfl) ?_
        refine lv_if_le (tgt := 81) hx hb dX1_allComeTogether_54 (by decide) (fun cq => ?_) (fun cq => ?_)
        · replace h := h.1 cq
          exact K_81 x3 c_together h _ _ hP hD hS _ (lv_sub hl [3] rfl)
        · replace h := h.2 cq
          refine lv_iload_n hx hb dX1_allComeTogether_57 rfl (lv_at hl 3 rfl) ?_
          refine lv_iload hx hb dX1_allComeTogether_58 (lv_at hl 4 rfl) ?_
          refine lv_icmp_ge (tgt := 81) hx hb dX1_allComeTogether_60 (by decide) (fun cq => ?_) (fun cq => ?_)
          · replace h := h.1 cq
            exact K_81 x3 c_together h _ _ hP hD hS _ (lv_sub hl [3] rfl)
          · replace h := h.2 cq
            refine lv_iload_n hx hb dX1_allComeTogether_63 rfl (lv_at hl 3 rfl) ?_
            refine lv_istore (lv' := [(4, .int x3), (0, .ref h_this), (1, .ref h_m), (2, .int x2), (3, .int x3), (5, .int x5)]) hx hb dX1_allComeTogether_64 hl (by decide) rfl (fun ls hl => ?_)
            refine lv_iload_n hx hb dX1_allComeTogether_66 rfl (lv_at hl 4 rfl) ?_
            refine lv_aload_n hx hb dX1_allComeTogether_67 rfl (lv_at hl 1 rfl) ?_
            refine lv_aload_n hx hb dX1_allComeTogether_68 rfl (lv_at hl 2 rfl) ?_
            refine lv_iload_n hx hb dX1_allComeTogether_69 rfl (lv_at hl 3 rfl) ?_
            refine go_I E (run_V E ((k_X1_sweepPairs l g h_this h_m h_this_orders h_this_together h_this_painted h_this_painted_moves h_this_painted_lights h_this_painted_prices h_this_painted_shares h_m_moves h_m_lights h_m_prices h_m_shares h) _) (cwV 2 hts gX1_allComeTogether_X1_sweepPairs rfl rfl rfl (by decide +kernel) ⟨Nat.le_of_ble_eq_true rfl, Nat.le_of_ble_eq_true rfl⟩) hP hD hS [0, 1, 2, 3, 4, 5] rfl rfl 0 1 rfl rfl rfl hl rfl rfl (Nat.le_of_ble_eq_true rfl) dX1_allComeTogether_70 ⟨Nat.le_of_ble_eq_true rfl, Nat.le_of_ble_eq_true rfl⟩) hP hD hS [0, 1, 2, 3, 4, 5] rfl [(false, 0), (false, 1), (false, 2), (false, 3), (false, 4), (false, 5)] rfl (by decide) (fun u => (cw_X1_allComeTogether g h_this h_m h_this_orders h_this_together h_this_painted h_this_painted_moves h_this_painted_lights h_this_painted_prices h_this_painted_shares h_m_moves h_m_lights h_m_prices h_m_shares u c_painted_states c_painted_letters c_painted_moves c_m_states c_m_letters c_m_moves)) (fun _ => rfl) (fun r6 c_together H locs h hP hD hS => ?_)
            try dsimp only at h
            have hP : va_P g.1 vwCl (cw_X1_allComeTogether g h_this h_m h_this_orders h_this_together h_this_painted h_this_painted_moves h_this_painted_lights h_this_painted_prices h_this_painted_shares h_m_moves h_m_lights h_m_prices h_m_shares c_together c_painted_states c_painted_letters c_painted_moves c_m_states c_m_letters c_m_moves) H := hP
            have hD : va_D A (cw_X1_allComeTogether g h_this h_m h_this_orders h_this_together h_this_painted h_this_painted_moves h_this_painted_lights h_this_painted_prices h_this_painted_shares h_m_moves h_m_lights h_m_prices h_m_shares c_together c_painted_states c_painted_letters c_painted_moves c_m_states c_m_letters c_m_moves) := hD
            refine lv_isub hx hb dX1_allComeTogether_73 ?_
            refine lv_istore_n (lv' := [(3, .int (x3 - r6)), (4, .int x3), (0, .ref h_this), (1, .ref h_m), (2, .int x2), (5, .int x5)]) hx hb dX1_allComeTogether_74 rfl hl (by decide) rfl (fun ls hl => ?_)
            refine lv_iinc (v := (x5 + (nI 1))) (lv' := [(5, .int (x5 + (nI 1))), (3, .int (x3 - r6)), (4, .int x3), (0, .ref h_this), (1, .ref h_m), (2, .int x2)]) hx hb dX1_allComeTogether_75 hl (k := 5) rfl rfl (by decide) rfl (fun ls hl => ?_)
            refine lv_goto (tgt := 45) hx hb dX1_allComeTogether_78 (by decide) ?_
            exact ih_45 (x3 - r6) x3 (x5 + (nI 1)) c_together h _ _ hP hD hS _ (lv_sub hl [3, 4, 5, 1, 2, 0] rfl)
  have K_23 : ∀ (c_together : Nat → Int32) , J_X1_allComeTogether_23 c_painted_states c_painted_letters c_painted_moves c_m_states c_m_letters c_m_moves x2 Q c_together → ∀ (H : Heap) (locs : List Loc), va_P g.1 vwCl (cw_X1_allComeTogether g h_this h_m h_this_orders h_this_together h_this_painted h_this_painted_moves h_this_painted_lights h_this_painted_prices h_this_painted_shares h_m_moves h_m_lights h_m_prices h_m_shares c_together c_painted_states c_painted_letters c_painted_moves c_m_states c_m_letters c_m_moves) H → va_D A (cw_X1_allComeTogether g h_this h_m h_this_orders h_this_together h_this_painted h_this_painted_moves h_this_painted_lights h_this_painted_prices h_this_painted_shares h_m_moves h_m_lights h_m_prices h_m_shares c_together c_painted_states c_painted_letters c_painted_moves c_m_states c_m_letters c_m_moves) → va_S A s.heap H locs → ∀ ls : Array Slot, lv_has ls 6 [(0, .ref h_this), (1, .ref h_m), (2, .int x2)] → W p l e rm_X1_allComeTogether s m args below meth c H locs 0 0 QQ (F0 m 23 ls []) := by
    intro c_together h H locs hP hD hS ls hl
    unfold J_X1_allComeTogether_23 at h
    refine lv_aload_n hx hb dX1_allComeTogether_23 rfl (lv_at hl 1 rfl) ?_
    refine go_I E (run_V E ((k_X4_states l g h_m h_m_moves h_m_lights h_m_prices h_m_shares (Q := fun r => r = c_m_states) rfl) _) (cwV 0 hts gX1_allComeTogether_X4_states rfl rfl rfl (by decide +kernel) ⟨Nat.le_of_ble_eq_true rfl, Nat.le_of_ble_eq_true rfl⟩) hP hD hS [4] rfl rfl 0 3 rfl rfl rfl hl rfl rfl (Nat.le_of_ble_eq_true rfl) dX1_allComeTogether_24 ⟨Nat.le_of_ble_eq_true rfl, Nat.le_of_ble_eq_true rfl⟩) hP hD hS [4] rfl [(true, 0), (true, 1), (true, 2), (true, 3), (false, 0), (true, 5)] rfl (by decide) (fun _ => (cw_X1_allComeTogether g h_this h_m h_this_orders h_this_together h_this_painted h_this_painted_moves h_this_painted_lights h_this_painted_prices h_this_painted_shares h_m_moves h_m_lights h_m_prices h_m_shares c_together c_painted_states c_painted_letters c_painted_moves c_m_states c_m_letters c_m_moves)) (fun _ => rfl) (fun r2 _ H locs hr_ hP hD hS => ?_)
    have hr_ : c_m_states = r2 := Eq.symm hr_
    subst hr_
    have hP : va_P g.1 vwCl (cw_X1_allComeTogether g h_this h_m h_this_orders h_this_together h_this_painted h_this_painted_moves h_this_painted_lights h_this_painted_prices h_this_painted_shares h_m_moves h_m_lights h_m_prices h_m_shares c_together c_painted_states c_painted_letters c_painted_moves c_m_states c_m_letters c_m_moves) H := hP
    have hD : va_D A (cw_X1_allComeTogether g h_this h_m h_this_orders h_this_together h_this_painted h_this_painted_moves h_this_painted_lights h_this_painted_prices h_this_painted_shares h_m_moves h_m_lights h_m_prices h_m_shares c_together c_painted_states c_painted_letters c_painted_moves c_m_states c_m_letters c_m_moves) := hD
    refine lv_aload_n hx hb dX1_allComeTogether_27 rfl (lv_at hl 1 rfl) ?_
    refine go_I E (run_V E ((k_X4_states l g h_m h_m_moves h_m_lights h_m_prices h_m_shares (Q := fun r => r = c_m_states) rfl) _) (cwV 0 hts gX1_allComeTogether_X4_states rfl rfl rfl (by decide +kernel) ⟨Nat.le_of_ble_eq_true rfl, Nat.le_of_ble_eq_true rfl⟩) hP hD hS [4] rfl rfl 0 3 rfl rfl rfl hl rfl rfl (Nat.le_of_ble_eq_true rfl) dX1_allComeTogether_28 ⟨Nat.le_of_ble_eq_true rfl, Nat.le_of_ble_eq_true rfl⟩) hP hD hS [4] rfl [(true, 0), (true, 1), (true, 2), (true, 3), (false, 0), (true, 5)] rfl (by decide) (fun _ => (cw_X1_allComeTogether g h_this h_m h_this_orders h_this_together h_this_painted h_this_painted_moves h_this_painted_lights h_this_painted_prices h_this_painted_shares h_m_moves h_m_lights h_m_prices h_m_shares c_together c_painted_states c_painted_letters c_painted_moves c_m_states c_m_letters c_m_moves)) (fun _ => rfl) (fun r4 _ H locs hr_ hP hD hS => ?_)
    have hr_ : c_m_states = r4 := Eq.symm hr_
    subst hr_
    have hP : va_P g.1 vwCl (cw_X1_allComeTogether g h_this h_m h_this_orders h_this_together h_this_painted h_this_painted_moves h_this_painted_lights h_this_painted_prices h_this_painted_shares h_m_moves h_m_lights h_m_prices h_m_shares c_together c_painted_states c_painted_letters c_painted_moves c_m_states c_m_letters c_m_moves) H := hP
    have hD : va_D A (cw_X1_allComeTogether g h_this h_m h_this_orders h_this_together h_this_painted h_this_painted_moves h_this_painted_lights h_this_painted_prices h_this_painted_shares h_m_moves h_m_lights h_m_prices h_m_shares c_together c_painted_states c_painted_letters c_painted_moves c_m_states c_m_letters c_m_moves) := hD
    refine lv_iconst (v := (nI 1)) hx hb dX1_allComeTogether_31 (by decide) ?_
    refine lv_isub hx hb dX1_allComeTogether_32 ?_
    refine lv_imul hx hb dX1_allComeTogether_33 ?_
    refine lv_iconst (v := (nI 2)) hx hb dX1_allComeTogether_34 (by decide) ?_
    refine lv_idiv hx hb dX1_allComeTogether_35 (by decide) ?_
    refine lv_istore_n (lv' := [(3, .int ((c_m_states * (c_m_states - (nI 1))) / (nI 2))), (0, .ref h_this), (1, .ref h_m), (2, .int x2)]) hx hb dX1_allComeTogether_36 rfl hl (by decide) rfl (fun ls hl => ?_)
    refine lv_iload_n hx hb dX1_allComeTogether_37 rfl (lv_at hl 0 rfl) ?_
    refine lv_iconst (v := (nI 1)) hx hb dX1_allComeTogether_38 (by decide) ?_
    refine lv_iadd hx hb dX1_allComeTogether_39 ?_
    refine lv_istore (lv' := [(4, .int (((c_m_states * (c_m_states - (nI 1))) / (nI 2)) + (nI 1))), (3, .int ((c_m_states * (c_m_states - (nI 1))) / (nI 2))), (0, .ref h_this), (1, .ref h_m), (2, .int x2)]) hx hb dX1_allComeTogether_40 hl (by decide) rfl (fun ls hl => ?_)
    refine lv_iconst (v := (nI 0)) hx hb dX1_allComeTogether_42 (by decide) ?_
    refine lv_istore (lv' := [(5, .int (nI 0)), (4, .int (((c_m_states * (c_m_states - (nI 1))) / (nI 2)) + (nI 1))), (3, .int ((c_m_states * (c_m_states - (nI 1))) / (nI 2))), (0, .ref h_this), (1, .ref h_m), (2, .int x2)]) hx hb dX1_allComeTogether_43 hl (by decide) rfl (fun ls hl => ?_)
    obtain ⟨n, h⟩ := h
    exact K_45 n ((c_m_states * (c_m_states - (nI 1))) / (nI 2)) (((c_m_states * (c_m_states - (nI 1))) / (nI 2)) + (nI 1)) (nI 0) c_together h _ _ hP hD hS _ (lv_sub hl [3, 4, 5, 2, 1, 0] rfl)
  have K_2 : ∀ (n_2 : Nat) (x3 : Int32) (c_together : Nat → Int32) , L_X1_allComeTogether_2 c_painted_states c_painted_letters c_painted_moves c_m_states c_m_letters c_m_moves x2 Q n_2 x3 c_together → ∀ (H : Heap) (locs : List Loc), va_P g.1 vwCl (cw_X1_allComeTogether g h_this h_m h_this_orders h_this_together h_this_painted h_this_painted_moves h_this_painted_lights h_this_painted_prices h_this_painted_shares h_m_moves h_m_lights h_m_prices h_m_shares c_together c_painted_states c_painted_letters c_painted_moves c_m_states c_m_letters c_m_moves) H → va_D A (cw_X1_allComeTogether g h_this h_m h_this_orders h_this_together h_this_painted h_this_painted_moves h_this_painted_lights h_this_painted_prices h_this_painted_shares h_m_moves h_m_lights h_m_prices h_m_shares c_together c_painted_states c_painted_letters c_painted_moves c_m_states c_m_letters c_m_moves) → va_S A s.heap H locs → ∀ ls : Array Slot, lv_has ls 6 [(0, .ref h_this), (1, .ref h_m), (2, .int x2), (3, .int x3)] → W p l e rm_X1_allComeTogether s m args below meth c H locs 0 0 QQ (F0 m 2 ls []) := by
    intro n_2
    induction n_2 with
    | zero => intro x3 c_together; exact fun h => False.elim h
    | succ n_2 ih_2 =>
      intro x3 c_together h H locs hP hD hS ls hl
      unfold L_X1_allComeTogether_2 at h
      refine lv_iload_n hx hb dX1_allComeTogether_2 rfl (lv_at hl 3 rfl) ?_
      refine lv_bipush (v := (nI 12)) hx hb dX1_allComeTogether_3 (by decide) ?_
      refine lv_icmp_ge (tgt := 23) hx hb dX1_allComeTogether_5 (by decide) (fun cq => ?_) (fun cq => ?_)
      · replace h := h.1 cq
        exact K_23 c_together h _ _ hP hD hS _ (lv_sub hl [0, 1, 2] rfl)
      · replace h := h.2 cq
        refine lv_aload_n hx hb dX1_allComeTogether_8 rfl (lv_at hl 0 rfl) ?_
        refine va_get (D := g.1) (ci := 1) (v := .ref h_this_together) (C := RX1) (T := TX1) (N := 3) hx hb hts iX1 hown hK hP 0 rfl rfl 1 (by decide) f15 (fun _ h9 => h9) rfl dX1_allComeTogether_9 ?_
        refine lv_iload_n hx hb dX1_allComeTogether_12 rfl (lv_at hl 3 rfl) ?_
        refine lv_iconst (v := (nI 1)) hx hb dX1_allComeTogether_13 (by decide) ?_
        refine lv_iload_n hx hb dX1_allComeTogether_14 rfl (lv_at hl 3 rfl) ?_
        refine lv_ishl hx hb dX1_allComeTogether_15 ?_
        obtain ⟨hi, h⟩ := h
        refine va_iast (D := g.1) (n := 12) (f := c_together) hx hb hK hP hD hS 1 0 rfl rfl hi dX1_allComeTogether_16 (fun H locs hP hD hS => ?_)
        have hP : va_P g.1 vwCl (cw_X1_allComeTogether g h_this h_m h_this_orders h_this_together h_this_painted h_this_painted_moves h_this_painted_lights h_this_painted_prices h_this_painted_shares h_m_moves h_m_lights h_m_prices h_m_shares (upd c_together (Int32.toNatClampNeg x3) ((nI 1) <<< (x3 &&& 31))) c_painted_states c_painted_letters c_painted_moves c_m_states c_m_letters c_m_moves) H := hP
        have hD : va_D A (cw_X1_allComeTogether g h_this h_m h_this_orders h_this_together h_this_painted h_this_painted_moves h_this_painted_lights h_this_painted_prices h_this_painted_shares h_m_moves h_m_lights h_m_prices h_m_shares (upd c_together (Int32.toNatClampNeg x3) ((nI 1) <<< (x3 &&& 31))) c_painted_states c_painted_letters c_painted_moves c_m_states c_m_letters c_m_moves) := hD
        refine lv_iinc (v := (x3 + (nI 1))) (lv' := [(3, .int (x3 + (nI 1))), (0, .ref h_this), (1, .ref h_m), (2, .int x2)]) hx hb dX1_allComeTogether_17 hl (k := 3) rfl rfl (by decide) rfl (fun ls hl => ?_)
        refine lv_goto (tgt := 2) hx hb dX1_allComeTogether_20 (by decide) ?_
        exact ih_2 (x3 + (nI 1)) (upd c_together (Int32.toNatClampNeg x3) ((nI 1) <<< (x3 &&& 31))) h _ _ hP hD hS _ (lv_sub hl [1, 2, 3, 0] rfl)
  refine lv_iconst (v := (nI 0)) hx hb dX1_allComeTogether_0 (by decide) ?_
  refine lv_istore_n (lv' := [(3, .int (nI 0)), (0, .ref h_this), (1, .ref h_m), (2, .int x2)]) hx hb dX1_allComeTogether_1 rfl hl (by decide) rfl (fun ls hl => ?_)
  obtain ⟨n, h⟩ := h
  exact K_2 n (nI 0) c_together h _ _ hP hD hS _ (lv_sub hl [1, 2, 3, 0] rfl)
abbrev cw_X1_takeOver (g : GG) (h_this : Nat) (h_m : Nat) (h_this_orders : Nat) (h_this_together : Nat) (h_this_painted : Nat) (h_this_painted_moves : Nat) (h_this_painted_lights : Nat) (h_this_painted_prices : Nat) (h_this_painted_shares : Nat) (h_m_moves : Nat) (h_m_lights : Nat) (h_m_prices : Nat) (h_m_shares : Nat) (c_painted_states : Int32) (c_painted_letters : Int32) (c_painted_moves : Nat → Int32) (c_m_states : Int32) (c_m_letters : Int32) (c_m_moves : Nat → Int32) : va_W := [(h_this, .inr (1, [.ref h_this_orders, .ref h_this_together, .ref h_this_painted])), (h_this_painted, .inr (3, [.int c_painted_states, .int c_painted_letters, .ref h_this_painted_moves, .ref h_this_painted_lights, .ref h_this_painted_prices, .ref h_this_painted_shares])), (h_this_painted_moves, .inl (g.2.1, 48, .inl c_painted_moves)), (h_m, .inr (3, [.int c_m_states, .int c_m_letters, .ref h_m_moves, .ref h_m_lights, .ref h_m_prices, .ref h_m_shares])), (h_m_moves, .inl (g.2.1, 48, .inl c_m_moves))]
def J_X1_takeOver_41 (R_2 : Int32 → (Nat → Int32) → Prop) (x2 : Int32) (c_m_moves : Nat → Int32) : Prop :=
    R_2 (x2 + (nI 1)) c_m_moves
def L_X1_takeOver_12 (c_painted_states : Int32) (c_painted_letters : Int32) (c_painted_moves : Nat → Int32) (c_m_states : Int32) (c_m_letters : Int32) (x2 : Int32) (R_2 : Int32 → (Nat → Int32) → Prop) : Nat → Int32 → (Nat → Int32) → Prop
  | 0, _, _ => False
  | n_12 + 1, x3, c_m_moves =>
    ((c_m_letters ≤ x3 → J_X1_takeOver_41 R_2 x2 c_m_moves) ∧ (¬ c_m_letters ≤ x3 → wp_X4_target c_painted_states c_painted_letters c_painted_moves x2 x3 (fun r6 => wp_X4_lead c_m_states c_m_letters c_m_moves x2 x3 r6 (fun c_m_moves => (L_X1_takeOver_12 c_painted_states c_painted_letters c_painted_moves c_m_states c_m_letters x2 R_2 n_12) (x3 + (nI 1)) c_m_moves))))
def L_X1_takeOver_2 (c_painted_states : Int32) (c_painted_letters : Int32) (c_painted_moves : Nat → Int32) (c_m_states : Int32) (c_m_letters : Int32) (Q : (Nat → Int32) → Prop) : Nat → Int32 → (Nat → Int32) → Prop
  | 0, _, _ => False
  | n_2 + 1, x2, c_m_moves =>
    ((c_m_states ≤ x2 → Q c_m_moves) ∧ (¬ c_m_states ≤ x2 → ∃ n, L_X1_takeOver_12 c_painted_states c_painted_letters c_painted_moves c_m_states c_m_letters x2 (L_X1_takeOver_2 c_painted_states c_painted_letters c_painted_moves c_m_states c_m_letters Q n_2) n (nI 0) c_m_moves))
def wp_X1_takeOver (c_painted_states : Int32) (c_painted_letters : Int32) (c_painted_moves : Nat → Int32) (c_m_states : Int32) (c_m_letters : Int32) (c_m_moves : Nat → Int32) (Q : (Nat → Int32) → Prop) : Prop :=
    ∃ n, L_X1_takeOver_2 c_painted_states c_painted_letters c_painted_moves c_m_states c_m_letters Q n (nI 0) c_m_moves
abbrev rm_X1_takeOver : Room := { frames := 2, cells := 0, slots := 0, locals := 44 }
set_option maxHeartbeats 4000000 in
set_option maxRecDepth 100000 in
theorem k_X1_takeOver (l : Launch) (g : GG) (h_this : Nat) (h_m : Nat) (h_this_orders : Nat) (h_this_together : Nat) (h_this_painted : Nat) (h_this_painted_moves : Nat) (h_this_painted_lights : Nat) (h_this_painted_prices : Nat) (h_this_painted_shares : Nat) (h_m_moves : Nat) (h_m_lights : Nat) (h_m_prices : Nat) (h_m_shares : Nat) {c_painted_states : Int32} {c_painted_letters : Int32} {c_painted_moves : Nat → Int32} {c_m_states : Int32} {c_m_letters : Int32} {c_m_moves : Nat → Int32} {Q : (Nat → Int32) → Prop} (h : wp_X1_takeOver c_painted_states c_painted_letters c_painted_moves c_m_states c_m_letters c_m_moves Q) : CV l g yX1_takeOver wsX1_takeOver rm_X1_takeOver [.ref h_this, .ref h_m] (cw_X1_takeOver g h_this h_m h_this_orders h_this_together h_this_painted h_this_painted_moves h_this_painted_lights h_this_painted_prices h_this_painted_shares h_m_moves h_m_lights h_m_prices h_m_shares c_painted_states c_painted_letters c_painted_moves c_m_states c_m_letters c_m_moves) (S := (Nat → Int32)) (fun u => (cw_X1_takeOver g h_this h_m h_this_orders h_this_together h_this_painted h_this_painted_moves h_this_painted_lights h_this_painted_prices h_this_painted_shares h_m_moves h_m_lights h_m_prices h_m_shares c_painted_states c_painted_letters c_painted_moves c_m_states c_m_letters u)) (fun u => Q u) 0 0 := by
  refine mk_V (cc := cX1_takeOver) (maxL := 4) (own := RX1) (by decide) rfl rfl (Nat.le_of_ble_eq_true rfl) ?_
  intro p e s m args below meth c A QQ E hret hP hD hS ls hl
  have E2 := E
  obtain ⟨hx, hb, hr, hml, hown, hts, hlocks, hA, hZ, hK, hnm⟩ := E2
  have f23 := hts (.fieldLink RX1 23 "WordBench$Colouring" "painted" "LWordBench$Machine;") (by decide +kernel)
  have iX1 : ∀ w ∈ wsX10, w ∈ wsX1_takeOver := fun _ h => List.mem_cons_of_mem _ (List.mem_append_left _ (List.mem_append_right _ h))
  have hP : va_P g.1 vwCl (cw_X1_takeOver g h_this h_m h_this_orders h_this_together h_this_painted h_this_painted_moves h_this_painted_lights h_this_painted_prices h_this_painted_shares h_m_moves h_m_lights h_m_prices h_m_shares c_painted_states c_painted_letters c_painted_moves c_m_states c_m_letters c_m_moves) s.heap := hP
  have hD : va_D A (cw_X1_takeOver g h_this h_m h_this_orders h_this_together h_this_painted h_this_painted_moves h_this_painted_lights h_this_painted_prices h_this_painted_shares h_m_moves h_m_lights h_m_prices h_m_shares c_painted_states c_painted_letters c_painted_moves c_m_states c_m_letters c_m_moves) := hD
  have hl : lv_has ls 4 [(0, .ref h_this), (1, .ref h_m)] := hl
  unfold wp_X1_takeOver at h
  have K_2 : ∀ (n_2 : Nat) (x2 : Int32) (c_m_moves : Nat → Int32) , L_X1_takeOver_2 c_painted_states c_painted_letters c_painted_moves c_m_states c_m_letters Q n_2 x2 c_m_moves → ∀ (H : Heap) (locs : List Loc), va_P g.1 vwCl (cw_X1_takeOver g h_this h_m h_this_orders h_this_together h_this_painted h_this_painted_moves h_this_painted_lights h_this_painted_prices h_this_painted_shares h_m_moves h_m_lights h_m_prices h_m_shares c_painted_states c_painted_letters c_painted_moves c_m_states c_m_letters c_m_moves) H → va_D A (cw_X1_takeOver g h_this h_m h_this_orders h_this_together h_this_painted h_this_painted_moves h_this_painted_lights h_this_painted_prices h_this_painted_shares h_m_moves h_m_lights h_m_prices h_m_shares c_painted_states c_painted_letters c_painted_moves c_m_states c_m_letters c_m_moves) → va_S A s.heap H locs → ∀ ls : Array Slot, lv_has ls 4 [(0, .ref h_this), (1, .ref h_m), (2, .int x2)] → W p l e rm_X1_takeOver s m args below meth c H locs 0 0 QQ (F0 m 2 ls []) := by
    intro n_2
    induction n_2 with
    | zero => intro x2 c_m_moves; exact fun h => False.elim h
    | succ n_2 ih_2 =>
      intro x2 c_m_moves h H locs hP hD hS ls hl
      unfold L_X1_takeOver_2 at h
      have K_41 : ∀ (x2 : Int32) (c_m_moves : Nat → Int32) , J_X1_takeOver_41 (L_X1_takeOver_2 c_painted_states c_painted_letters c_painted_moves c_m_states c_m_letters Q n_2) x2 c_m_moves → ∀ (H : Heap) (locs : List Loc), va_P g.1 vwCl (cw_X1_takeOver g h_this h_m h_this_orders h_this_together h_this_painted h_this_painted_moves h_this_painted_lights h_this_painted_prices h_this_painted_shares h_m_moves h_m_lights h_m_prices h_m_shares c_painted_states c_painted_letters c_painted_moves c_m_states c_m_letters c_m_moves) H → va_D A (cw_X1_takeOver g h_this h_m h_this_orders h_this_together h_this_painted h_this_painted_moves h_this_painted_lights h_this_painted_prices h_this_painted_shares h_m_moves h_m_lights h_m_prices h_m_shares c_painted_states c_painted_letters c_painted_moves c_m_states c_m_letters c_m_moves) → va_S A s.heap H locs → ∀ ls : Array Slot, lv_has ls 4 [(0, .ref h_this), (1, .ref h_m), (2, .int x2)] → W p l e rm_X1_takeOver s m args below meth c H locs 0 0 QQ (F0 m 41 ls []) := by
        intro x2 c_m_moves h H locs hP hD hS ls hl
        unfold J_X1_takeOver_41 at h
        refine lv_iinc (v := (x2 + (nI 1))) (lv' := [(2, .int (x2 + (nI 1))), (0, .ref h_this), (1, .ref h_m)]) hx hb dX1_takeOver_41 hl (k := 2) rfl rfl (by decide) rfl (fun ls hl => ?_)
        refine lv_goto (tgt := 2) hx hb dX1_takeOver_44 (by decide) ?_
        exact ih_2 (x2 + (nI 1)) c_m_moves h _ _ hP hD hS _ (lv_sub hl [1, 2, 0] rfl)
      have K_12 : ∀ (x2 : Int32) (n_12 : Nat) (x3 : Int32) (c_m_moves : Nat → Int32) , L_X1_takeOver_12 c_painted_states c_painted_letters c_painted_moves c_m_states c_m_letters x2 (L_X1_takeOver_2 c_painted_states c_painted_letters c_painted_moves c_m_states c_m_letters Q n_2) n_12 x3 c_m_moves → ∀ (H : Heap) (locs : List Loc), va_P g.1 vwCl (cw_X1_takeOver g h_this h_m h_this_orders h_this_together h_this_painted h_this_painted_moves h_this_painted_lights h_this_painted_prices h_this_painted_shares h_m_moves h_m_lights h_m_prices h_m_shares c_painted_states c_painted_letters c_painted_moves c_m_states c_m_letters c_m_moves) H → va_D A (cw_X1_takeOver g h_this h_m h_this_orders h_this_together h_this_painted h_this_painted_moves h_this_painted_lights h_this_painted_prices h_this_painted_shares h_m_moves h_m_lights h_m_prices h_m_shares c_painted_states c_painted_letters c_painted_moves c_m_states c_m_letters c_m_moves) → va_S A s.heap H locs → ∀ ls : Array Slot, lv_has ls 4 [(0, .ref h_this), (1, .ref h_m), (2, .int x2), (3, .int x3)] → W p l e rm_X1_takeOver s m args below meth c H locs 0 0 QQ (F0 m 12 ls []) := by
        intro x2 n_12
        induction n_12 with
        | zero => intro x3 c_m_moves; exact fun h => False.elim h
        | succ n_12 ih_12 =>
          intro x3 c_m_moves h H locs hP hD hS ls hl
          unfold L_X1_takeOver_12 at h
          refine lv_iload_n hx hb dX1_takeOver_12 rfl (lv_at hl 3 rfl) ?_
          refine lv_aload_n hx hb dX1_takeOver_13 rfl (lv_at hl 1 rfl) ?_
          refine go_I E (run_V E ((k_X4_letters l g h_m h_m_moves h_m_lights h_m_prices h_m_shares (Q := fun r => r = c_m_letters) rfl) _) (cwV 0 hts gX1_takeOver_X4_letters rfl rfl rfl (by decide +kernel) ⟨Nat.le_of_ble_eq_true rfl, Nat.le_of_ble_eq_true rfl⟩) hP hD hS [3] rfl rfl 0 3 rfl rfl rfl hl rfl rfl (Nat.le_of_ble_eq_true rfl) dX1_takeOver_14 ⟨Nat.le_of_ble_eq_true rfl, Nat.le_of_ble_eq_true rfl⟩) hP hD hS [3] rfl [(true, 0), (true, 1), (true, 2), (false, 0), (true, 4)] rfl (by decide) (fun _ => (cw_X1_takeOver g h_this h_m h_this_orders h_this_together h_this_painted h_this_painted_moves h_this_painted_lights h_this_painted_prices h_this_painted_shares h_m_moves h_m_lights h_m_prices h_m_shares c_painted_states c_painted_letters c_painted_moves c_m_states c_m_letters c_m_moves)) (fun _ => rfl) (fun r4 _ H locs hr_ hP hD hS => ?_)
          have hr_ : c_m_letters = r4 := Eq.symm hr_
          subst hr_
          have hP : va_P g.1 vwCl (cw_X1_takeOver g h_this h_m h_this_orders h_this_together h_this_painted h_this_painted_moves h_this_painted_lights h_this_painted_prices h_this_painted_shares h_m_moves h_m_lights h_m_prices h_m_shares c_painted_states c_painted_letters c_painted_moves c_m_states c_m_letters c_m_moves) H := hP
          have hD : va_D A (cw_X1_takeOver g h_this h_m h_this_orders h_this_together h_this_painted h_this_painted_moves h_this_painted_lights h_this_painted_prices h_this_painted_shares h_m_moves h_m_lights h_m_prices h_m_shares c_painted_states c_painted_letters c_painted_moves c_m_states c_m_letters c_m_moves) := hD
          refine lv_icmp_ge (tgt := 41) hx hb dX1_takeOver_17 (by decide) (fun cq => ?_) (fun cq => ?_)
          · replace h := h.1 cq
            exact K_41 x2 c_m_moves h _ _ hP hD hS _ (lv_sub hl [0, 1, 2] rfl)
          · replace h := h.2 cq
            refine lv_aload_n hx hb dX1_takeOver_20 rfl (lv_at hl 1 rfl) ?_
            refine lv_iload_n hx hb dX1_takeOver_21 rfl (lv_at hl 2 rfl) ?_
            refine lv_iload_n hx hb dX1_takeOver_22 rfl (lv_at hl 3 rfl) ?_
            refine lv_aload_n hx hb dX1_takeOver_23 rfl (lv_at hl 0 rfl) ?_
            refine va_get (D := g.1) (ci := 1) (v := .ref h_this_painted) (C := RX1) (T := TX1) (N := 3) hx hb hts iX1 hown hK hP 0 rfl rfl 2 (by decide) f23 (fun _ h9 => h9) rfl dX1_takeOver_24 ?_
            refine lv_iload_n hx hb dX1_takeOver_27 rfl (lv_at hl 2 rfl) ?_
            refine lv_iload_n hx hb dX1_takeOver_28 rfl (lv_at hl 3 rfl) ?_
            refine go_I E (run_V E ((k_X4_target l g h_this_painted h_this_painted_moves h_this_painted_lights h_this_painted_prices h_this_painted_shares h) _) (cwV 2 hts gX1_takeOver_X4_target rfl rfl rfl (by decide +kernel) ⟨Nat.le_of_ble_eq_true rfl, Nat.le_of_ble_eq_true rfl⟩) hP hD hS [1, 2] rfl rfl 0 3 rfl rfl rfl hl rfl rfl (Nat.le_of_ble_eq_true rfl) dX1_takeOver_29 ⟨Nat.le_of_ble_eq_true rfl, Nat.le_of_ble_eq_true rfl⟩) hP hD hS [1, 2] rfl [(true, 0), (false, 0), (false, 1), (true, 3), (true, 4)] rfl (by decide) (fun _ => (cw_X1_takeOver g h_this h_m h_this_orders h_this_together h_this_painted h_this_painted_moves h_this_painted_lights h_this_painted_prices h_this_painted_shares h_m_moves h_m_lights h_m_prices h_m_shares c_painted_states c_painted_letters c_painted_moves c_m_states c_m_letters c_m_moves)) (fun _ => rfl) (fun r6 _ H locs h hP hD hS => ?_)
            try dsimp only at h
            have hP : va_P g.1 vwCl (cw_X1_takeOver g h_this h_m h_this_orders h_this_together h_this_painted h_this_painted_moves h_this_painted_lights h_this_painted_prices h_this_painted_shares h_m_moves h_m_lights h_m_prices h_m_shares c_painted_states c_painted_letters c_painted_moves c_m_states c_m_letters c_m_moves) H := hP
            have hD : va_D A (cw_X1_takeOver g h_this h_m h_this_orders h_this_together h_this_painted h_this_painted_moves h_this_painted_lights h_this_painted_prices h_this_painted_shares h_m_moves h_m_lights h_m_prices h_m_shares c_painted_states c_painted_letters c_painted_moves c_m_states c_m_letters c_m_moves) := hD
            refine go_V E (run_V E ((k_X4_lead l g h_m h_m_moves h_m_lights h_m_prices h_m_shares h) _) (cwV 3 hts gX1_takeOver_X4_lead rfl rfl rfl (by decide +kernel) ⟨Nat.le_of_ble_eq_true rfl, Nat.le_of_ble_eq_true rfl⟩) hP hD hS [3, 4] rfl rfl 0 3 rfl rfl rfl hl rfl rfl (Nat.le_of_ble_eq_true rfl) dX1_takeOver_32 ⟨Nat.le_of_ble_eq_true rfl, Nat.le_of_ble_eq_true rfl⟩) hP hD hS [3, 4] rfl [(true, 0), (true, 1), (true, 2), (false, 0), (false, 1)] rfl (by decide) (fun u => (cw_X1_takeOver g h_this h_m h_this_orders h_this_together h_this_painted h_this_painted_moves h_this_painted_lights h_this_painted_prices h_this_painted_shares h_m_moves h_m_lights h_m_prices h_m_shares c_painted_states c_painted_letters c_painted_moves c_m_states c_m_letters u)) (fun _ => rfl) (fun c_m_moves H locs h hP hD hS => ?_)
            try dsimp only at h
            have hP : va_P g.1 vwCl (cw_X1_takeOver g h_this h_m h_this_orders h_this_together h_this_painted h_this_painted_moves h_this_painted_lights h_this_painted_prices h_this_painted_shares h_m_moves h_m_lights h_m_prices h_m_shares c_painted_states c_painted_letters c_painted_moves c_m_states c_m_letters c_m_moves) H := hP
            have hD : va_D A (cw_X1_takeOver g h_this h_m h_this_orders h_this_together h_this_painted h_this_painted_moves h_this_painted_lights h_this_painted_prices h_this_painted_shares h_m_moves h_m_lights h_m_prices h_m_shares c_painted_states c_painted_letters c_painted_moves c_m_states c_m_letters c_m_moves) := hD
            refine lv_iinc (v := (x3 + (nI 1))) (lv' := [(3, .int (x3 + (nI 1))), (0, .ref h_this), (1, .ref h_m), (2, .int x2)]) hx hb dX1_takeOver_35 hl (k := 3) rfl rfl (by decide) rfl (fun ls hl => ?_)
            refine lv_goto (tgt := 12) hx hb dX1_takeOver_38 (by decide) ?_
            exact ih_12 (x3 + (nI 1)) c_m_moves h _ _ hP hD hS _ (lv_sub hl [1, 2, 3, 0] rfl)
      refine lv_iload_n hx hb dX1_takeOver_2 rfl (lv_at hl 2 rfl) ?_
      refine lv_aload_n hx hb dX1_takeOver_3 rfl (lv_at hl 1 rfl) ?_
      refine go_I E (run_V E ((k_X4_states l g h_m h_m_moves h_m_lights h_m_prices h_m_shares (Q := fun r => r = c_m_states) rfl) _) (cwV 0 hts gX1_takeOver_X4_states rfl rfl rfl (by decide +kernel) ⟨Nat.le_of_ble_eq_true rfl, Nat.le_of_ble_eq_true rfl⟩) hP hD hS [3] rfl rfl 0 3 rfl rfl rfl hl rfl rfl (Nat.le_of_ble_eq_true rfl) dX1_takeOver_4 ⟨Nat.le_of_ble_eq_true rfl, Nat.le_of_ble_eq_true rfl⟩) hP hD hS [3] rfl [(true, 0), (true, 1), (true, 2), (false, 0), (true, 4)] rfl (by decide) (fun _ => (cw_X1_takeOver g h_this h_m h_this_orders h_this_together h_this_painted h_this_painted_moves h_this_painted_lights h_this_painted_prices h_this_painted_shares h_m_moves h_m_lights h_m_prices h_m_shares c_painted_states c_painted_letters c_painted_moves c_m_states c_m_letters c_m_moves)) (fun _ => rfl) (fun r2 _ H locs hr_ hP hD hS => ?_)
      have hr_ : c_m_states = r2 := Eq.symm hr_
      subst hr_
      have hP : va_P g.1 vwCl (cw_X1_takeOver g h_this h_m h_this_orders h_this_together h_this_painted h_this_painted_moves h_this_painted_lights h_this_painted_prices h_this_painted_shares h_m_moves h_m_lights h_m_prices h_m_shares c_painted_states c_painted_letters c_painted_moves c_m_states c_m_letters c_m_moves) H := hP
      have hD : va_D A (cw_X1_takeOver g h_this h_m h_this_orders h_this_together h_this_painted h_this_painted_moves h_this_painted_lights h_this_painted_prices h_this_painted_shares h_m_moves h_m_lights h_m_prices h_m_shares c_painted_states c_painted_letters c_painted_moves c_m_states c_m_letters c_m_moves) := hD
      refine lv_icmp_ge (tgt := 47) hx hb dX1_takeOver_7 (by decide) (fun cq => ?_) (fun cq => ?_)
      · replace h := h.1 cq
        exact hret c_m_moves _ _ _ _ h hP hD hS dX1_takeOver_47
      · replace h := h.2 cq
        refine lv_iconst (v := (nI 0)) hx hb dX1_takeOver_10 (by decide) ?_
        refine lv_istore_n (lv' := [(3, .int (nI 0)), (0, .ref h_this), (1, .ref h_m), (2, .int x2)]) hx hb dX1_takeOver_11 rfl hl (by decide) rfl (fun ls hl => ?_)
        obtain ⟨n, h⟩ := h
        exact K_12 x2 n (nI 0) c_m_moves h _ _ hP hD hS _ (lv_sub hl [1, 2, 3, 0] rfl)
  refine lv_iconst (v := (nI 0)) hx hb dX1_takeOver_0 (by decide) ?_
  refine lv_istore_n (lv' := [(2, .int (nI 0)), (0, .ref h_this), (1, .ref h_m)]) hx hb dX1_takeOver_1 rfl hl (by decide) rfl (fun ls hl => ?_)
  obtain ⟨n, h⟩ := h
  exact K_2 n (nI 0) c_m_moves h _ _ hP hD hS _ (lv_sub hl [1, 2, 0] rfl)
abbrev cw_X1_ordersOf (g : GG) : va_W := []
def L_X1_ordersOf_4 (x0 : Int32) (Q : Int32 → Prop) : Nat → Int32 → Int32 → Prop
  | 0, _, _ => False
  | n_4 + 1, x1, x2 =>
    ((x0 < x2 → Q x1) ∧ (¬ x0 < x2 → (L_X1_ordersOf_4 x0 Q n_4) (x1 * x2) (x2 + (nI 1))))
def wp_X1_ordersOf (x0 : Int32) (Q : Int32 → Prop) : Prop :=
    ∃ n, L_X1_ordersOf_4 x0 Q n (nI 1) (nI 2)
abbrev rm_X1_ordersOf : Room := { frames := 0, cells := 0, slots := 0, locals := 0 }
set_option maxHeartbeats 4000000 in
set_option maxRecDepth 100000 in
theorem k_X1_ordersOf (l : Launch) (g : GG) {x0 : Int32} {Q : Int32 → Prop} (h : wp_X1_ordersOf x0 Q) : CI l g yX1_ordersOf wsX1_ordersOf rm_X1_ordersOf [.int x0] (cw_X1_ordersOf g) (S := Unit) (fun _ => (cw_X1_ordersOf g)) (fun r _ => Q r) 0 0 := by
  refine mk_I (cc := cX1_ordersOf) (maxL := 3) (own := RX1) (by decide) rfl rfl (Nat.le_of_ble_eq_true rfl) ?_
  intro p e s m args below meth c A QQ E hret hP hD hS ls hl
  have E2 := E
  obtain ⟨hx, hb, hr, hml, hown, hts, hlocks, hA, hZ, hK, hnm⟩ := E2
  have hP : va_P g.1 vwCl (cw_X1_ordersOf g) s.heap := hP
  have hD : va_D A (cw_X1_ordersOf g) := hD
  have hl : lv_has ls 3 [(0, .int x0)] := hl
  unfold wp_X1_ordersOf at h
  have K_4 : ∀ (n_4 : Nat) (x1 : Int32) (x2 : Int32) , L_X1_ordersOf_4 x0 Q n_4 x1 x2 → ∀ (H : Heap) (locs : List Loc), va_P g.1 vwCl (cw_X1_ordersOf g) H → va_D A (cw_X1_ordersOf g) → va_S A s.heap H locs → ∀ ls : Array Slot, lv_has ls 3 [(0, .int x0), (1, .int x1), (2, .int x2)] → W p l e rm_X1_ordersOf s m args below meth c H locs 0 0 QQ (F0 m 4 ls []) := by
    intro n_4
    induction n_4 with
    | zero => intro x1 x2; exact fun h => False.elim h
    | succ n_4 ih_4 =>
      intro x1 x2 h H locs hP hD hS ls hl
      unfold L_X1_ordersOf_4 at h
      refine lv_iload_n hx hb dX1_ordersOf_4 rfl (lv_at hl 2 rfl) ?_
      refine lv_iload_n hx hb dX1_ordersOf_5 rfl (lv_at hl 0 rfl) ?_
      refine lv_icmp_gt (tgt := 19) hx hb dX1_ordersOf_6 (by decide) (fun cq => ?_) (fun cq => ?_)
      · replace h := h.1 cq
        refine lv_iload_n hx hb dX1_ordersOf_19 rfl (lv_at hl 1 rfl) ?_
        exact hret x1 () _ _ _ _ rfl h hP hD hS dX1_ordersOf_20
      · replace h := h.2 cq
        refine lv_iload_n hx hb dX1_ordersOf_9 rfl (lv_at hl 1 rfl) ?_
        refine lv_iload_n hx hb dX1_ordersOf_10 rfl (lv_at hl 2 rfl) ?_
        refine lv_imul hx hb dX1_ordersOf_11 ?_
        refine lv_istore_n (lv' := [(1, .int (x1 * x2)), (0, .int x0), (2, .int x2)]) hx hb dX1_ordersOf_12 rfl hl (by decide) rfl (fun ls hl => ?_)
        refine lv_iinc (v := (x2 + (nI 1))) (lv' := [(2, .int (x2 + (nI 1))), (1, .int (x1 * x2)), (0, .int x0)]) hx hb dX1_ordersOf_13 hl (k := 2) rfl rfl (by decide) rfl (fun ls hl => ?_)
        refine lv_goto (tgt := 4) hx hb dX1_ordersOf_16 (by decide) ?_
        exact ih_4 (x1 * x2) (x2 + (nI 1)) h _ _ hP hD hS _ (lv_sub hl [2, 1, 0] rfl)
  refine lv_iconst (v := (nI 1)) hx hb dX1_ordersOf_0 (by decide) ?_
  refine lv_istore_n (lv' := [(1, .int (nI 1)), (0, .int x0)]) hx hb dX1_ordersOf_1 rfl hl (by decide) rfl (fun ls hl => ?_)
  refine lv_iconst (v := (nI 2)) hx hb dX1_ordersOf_2 (by decide) ?_
  refine lv_istore_n (lv' := [(2, .int (nI 2)), (1, .int (nI 1)), (0, .int x0)]) hx hb dX1_ordersOf_3 rfl hl (by decide) rfl (fun ls hl => ?_)
  obtain ⟨n, h⟩ := h
  exact K_4 n (nI 1) (nI 2) h _ _ hP hD hS _ (lv_sub hl [2, 1, 0] rfl)
abbrev cw_X1_turnOn (g : GG) (h_this : Nat) (h_m : Nat) (h_this_orders : Nat) (h_this_together : Nat) (h_this_painted : Nat) (h_this_painted_moves : Nat) (h_this_painted_lights : Nat) (h_this_painted_prices : Nat) (h_this_painted_shares : Nat) (h_m_moves : Nat) (h_m_lights : Nat) (h_m_prices : Nat) (h_m_shares : Nat) (c_orders : Nat → Int32) (c_painted_states : Int32) (c_painted_letters : Int32) (c_painted_moves : Nat → Int32) (c_m_states : Int32) (c_m_letters : Int32) (c_m_moves : Nat → Int32) : va_W := [(h_this, .inr (1, [.ref h_this_orders, .ref h_this_together, .ref h_this_painted])), (h_this_orders, .inl (g.2.1, 12, .inl c_orders)), (h_this_painted, .inr (3, [.int c_painted_states, .int c_painted_letters, .ref h_this_painted_moves, .ref h_this_painted_lights, .ref h_this_painted_prices, .ref h_this_painted_shares])), (h_this_painted_moves, .inl (g.2.1, 48, .inl c_painted_moves)), (h_m, .inr (3, [.int c_m_states, .int c_m_letters, .ref h_m_moves, .ref h_m_lights, .ref h_m_prices, .ref h_m_shares])), (h_m_moves, .inl (g.2.1, 48, .inl c_m_moves))]
def J_X1_turnOn_64 (c_painted_states : Int32) (c_painted_letters : Int32) (c_m_states : Int32) (c_m_letters : Int32) (c_m_moves : Nat → Int32) (R_15 : Int32 → (Nat → Int32) → (Nat → Int32) → Prop) (Q : Int32 → (Nat → Int32) → (Nat → Int32) → Prop) (x3 : Int32) (x4 : Int32) (c_orders : Nat → Int32) (c_painted_moves : Nat → Int32) : Prop :=
    wp_X1_exchange c_orders c_painted_states c_painted_letters c_painted_moves c_m_states c_m_letters c_m_moves x3 (fun c_painted_moves => ((x4 = (nI 0) → R_15 (x3 + (-1)) c_orders c_painted_moves) ∧ (¬ x4 = (nI 0) → Q (nI 1) c_orders c_painted_moves)))
def J_X1_turnOn_50 (c_painted_states : Int32) (c_painted_letters : Int32) (c_m_states : Int32) (c_m_letters : Int32) (c_m_moves : Nat → Int32) (R_15 : Int32 → (Nat → Int32) → (Nat → Int32) → Prop) (Q : Int32 → (Nat → Int32) → (Nat → Int32) → Prop) (x3 : Int32) (c_orders : Nat → Int32) (c_painted_moves : Nat → Int32) (t0 : Int32) : Prop :=
    ((¬ t0 = (nI 0) → J_X1_turnOn_64 c_painted_states c_painted_letters c_m_states c_m_letters c_m_moves R_15 Q x3 t0 c_orders c_painted_moves) ∧ (t0 = (nI 0) → vp_in x3 12 ∧ J_X1_turnOn_64 c_painted_states c_painted_letters c_m_states c_m_letters c_m_moves R_15 Q x3 t0 (upd c_orders (Int32.toNatClampNeg x3) (nI 0)) c_painted_moves))
def L_X1_turnOn_15 (c_painted_states : Int32) (c_painted_letters : Int32) (c_m_states : Int32) (c_m_letters : Int32) (c_m_moves : Nat → Int32) (x2 : Int32) (Q : Int32 → (Nat → Int32) → (Nat → Int32) → Prop) : Nat → Int32 → (Nat → Int32) → (Nat → Int32) → Prop
  | 0, _, _, _ => False
  | n_15 + 1, x3, c_orders, c_painted_moves =>
    ((x3 < (nI 0) → Q (nI 0) c_orders c_painted_moves) ∧ (¬ x3 < (nI 0) → (((nI 12) ≤ x3 → Q (nI 0) c_orders c_painted_moves) ∧ (¬ (nI 12) ≤ x3 → vp_in x3 12 ∧ vp_in x3 12 ∧ vp_in x3 12 ∧ ((x2 ≤ ((upd c_orders (Int32.toNatClampNeg x3) ((c_orders (Int32.toNatClampNeg x3)) + (nI 1))) (Int32.toNatClampNeg x3)) → J_X1_turnOn_50 c_painted_states c_painted_letters c_m_states c_m_letters c_m_moves (L_X1_turnOn_15 c_painted_states c_painted_letters c_m_states c_m_letters c_m_moves x2 Q n_15) Q x3 (upd c_orders (Int32.toNatClampNeg x3) ((c_orders (Int32.toNatClampNeg x3)) + (nI 1))) c_painted_moves (nI 0)) ∧ (¬ x2 ≤ ((upd c_orders (Int32.toNatClampNeg x3) ((c_orders (Int32.toNatClampNeg x3)) + (nI 1))) (Int32.toNatClampNeg x3)) → J_X1_turnOn_50 c_painted_states c_painted_letters c_m_states c_m_letters c_m_moves (L_X1_turnOn_15 c_painted_states c_painted_letters c_m_states c_m_letters c_m_moves x2 Q n_15) Q x3 (upd c_orders (Int32.toNatClampNeg x3) ((c_orders (Int32.toNatClampNeg x3)) + (nI 1))) c_painted_moves (nI 1)))))))
def wp_X1_turnOn (c_orders : Nat → Int32) (c_painted_states : Int32) (c_painted_letters : Int32) (c_painted_moves : Nat → Int32) (c_m_states : Int32) (c_m_letters : Int32) (c_m_moves : Nat → Int32) (Q : Int32 → (Nat → Int32) → (Nat → Int32) → Prop) : Prop :=
    wp_X1_ordersOf c_m_letters (fun r4 => ∃ n, L_X1_turnOn_15 c_painted_states c_painted_letters c_m_states c_m_letters c_m_moves r4 Q n (c_m_states - (nI 1)) c_orders c_painted_moves)
abbrev rm_X1_turnOn : Room := { frames := 3, cells := 0, slots := 0, locals := 67 }
set_option maxHeartbeats 4000000 in
set_option maxRecDepth 100000 in
theorem k_X1_turnOn (l : Launch) (g : GG) (h_this : Nat) (h_m : Nat) (h_this_orders : Nat) (h_this_together : Nat) (h_this_painted : Nat) (h_this_painted_moves : Nat) (h_this_painted_lights : Nat) (h_this_painted_prices : Nat) (h_this_painted_shares : Nat) (h_m_moves : Nat) (h_m_lights : Nat) (h_m_prices : Nat) (h_m_shares : Nat) {c_orders : Nat → Int32} {c_painted_states : Int32} {c_painted_letters : Int32} {c_painted_moves : Nat → Int32} {c_m_states : Int32} {c_m_letters : Int32} {c_m_moves : Nat → Int32} {Q : Int32 → (Nat → Int32) → (Nat → Int32) → Prop} (h : wp_X1_turnOn c_orders c_painted_states c_painted_letters c_painted_moves c_m_states c_m_letters c_m_moves Q) : CI l g yX1_turnOn wsX1_turnOn rm_X1_turnOn [.ref h_this, .ref h_m] (cw_X1_turnOn g h_this h_m h_this_orders h_this_together h_this_painted h_this_painted_moves h_this_painted_lights h_this_painted_prices h_this_painted_shares h_m_moves h_m_lights h_m_prices h_m_shares c_orders c_painted_states c_painted_letters c_painted_moves c_m_states c_m_letters c_m_moves) (S := (Nat → Int32) × (Nat → Int32)) (fun u => (cw_X1_turnOn g h_this h_m h_this_orders h_this_together h_this_painted h_this_painted_moves h_this_painted_lights h_this_painted_prices h_this_painted_shares h_m_moves h_m_lights h_m_prices h_m_shares u.1 c_painted_states c_painted_letters u.2 c_m_states c_m_letters c_m_moves)) (fun r u => Q r u.1 u.2) 0 0 := by
  refine mk_I (cc := cX1_turnOn) (maxL := 5) (own := RX1) (by decide) rfl rfl (Nat.le_of_ble_eq_true rfl) ?_
  intro p e s m args below meth c A QQ E hret hP hD hS ls hl
  have E2 := E
  obtain ⟨hx, hb, hr, hml, hown, hts, hlocks, hA, hZ, hK, hnm⟩ := E2
  have f9 := hts (.fieldLink RX1 9 "WordBench$Colouring" "orders" "[I") (by decide +kernel)
  have iX1 : ∀ w ∈ wsX10, w ∈ wsX1_turnOn := fun _ h => List.mem_cons_of_mem _ (List.mem_append_left _ (List.mem_append_right _ h))
  have hP : va_P g.1 vwCl (cw_X1_turnOn g h_this h_m h_this_orders h_this_together h_this_painted h_this_painted_moves h_this_painted_lights h_this_painted_prices h_this_painted_shares h_m_moves h_m_lights h_m_prices h_m_shares c_orders c_painted_states c_painted_letters c_painted_moves c_m_states c_m_letters c_m_moves) s.heap := hP
  have hD : va_D A (cw_X1_turnOn g h_this h_m h_this_orders h_this_together h_this_painted h_this_painted_moves h_this_painted_lights h_this_painted_prices h_this_painted_shares h_m_moves h_m_lights h_m_prices h_m_shares c_orders c_painted_states c_painted_letters c_painted_moves c_m_states c_m_letters c_m_moves) := hD
  have hl : lv_has ls 5 [(0, .ref h_this), (1, .ref h_m)] := hl
  unfold wp_X1_turnOn at h
  have K_15 : ∀ (x2 : Int32) (n_15 : Nat) (x3 : Int32) (c_orders : Nat → Int32) (c_painted_moves : Nat → Int32) , L_X1_turnOn_15 c_painted_states c_painted_letters c_m_states c_m_letters c_m_moves x2 Q n_15 x3 c_orders c_painted_moves → ∀ (H : Heap) (locs : List Loc), va_P g.1 vwCl (cw_X1_turnOn g h_this h_m h_this_orders h_this_together h_this_painted h_this_painted_moves h_this_painted_lights h_this_painted_prices h_this_painted_shares h_m_moves h_m_lights h_m_prices h_m_shares c_orders c_painted_states c_painted_letters c_painted_moves c_m_states c_m_letters c_m_moves) H → va_D A (cw_X1_turnOn g h_this h_m h_this_orders h_this_together h_this_painted h_this_painted_moves h_this_painted_lights h_this_painted_prices h_this_painted_shares h_m_moves h_m_lights h_m_prices h_m_shares c_orders c_painted_states c_painted_letters c_painted_moves c_m_states c_m_letters c_m_moves) → va_S A s.heap H locs → ∀ ls : Array Slot, lv_has ls 5 [(0, .ref h_this), (1, .ref h_m), (2, .int x2), (3, .int x3)] → W p l e rm_X1_turnOn s m args below meth c H locs 0 0 QQ (F0 m 15 ls []) := by
    intro x2 n_15
    induction n_15 with
    | zero => intro x3 c_orders c_painted_moves; exact fun h => False.elim h
    | succ n_15 ih_15 =>
      intro x3 c_orders c_painted_moves h H locs hP hD hS ls hl
      unfold L_X1_turnOn_15 at h
      have K_64 : ∀ (x3 : Int32) (x4 : Int32) (c_orders : Nat → Int32) (c_painted_moves : Nat → Int32) , J_X1_turnOn_64 c_painted_states c_painted_letters c_m_states c_m_letters c_m_moves (L_X1_turnOn_15 c_painted_states c_painted_letters c_m_states c_m_letters c_m_moves x2 Q n_15) Q x3 x4 c_orders c_painted_moves → ∀ (H : Heap) (locs : List Loc), va_P g.1 vwCl (cw_X1_turnOn g h_this h_m h_this_orders h_this_together h_this_painted h_this_painted_moves h_this_painted_lights h_this_painted_prices h_this_painted_shares h_m_moves h_m_lights h_m_prices h_m_shares c_orders c_painted_states c_painted_letters c_painted_moves c_m_states c_m_letters c_m_moves) H → va_D A (cw_X1_turnOn g h_this h_m h_this_orders h_this_together h_this_painted h_this_painted_moves h_this_painted_lights h_this_painted_prices h_this_painted_shares h_m_moves h_m_lights h_m_prices h_m_shares c_orders c_painted_states c_painted_letters c_painted_moves c_m_states c_m_letters c_m_moves) → va_S A s.heap H locs → ∀ ls : Array Slot, lv_has ls 5 [(0, .ref h_this), (1, .ref h_m), (2, .int x2), (3, .int x3), (4, .int x4)] → W p l e rm_X1_turnOn s m args below meth c H locs 0 0 QQ (F0 m 64 ls []) := by
        intro x3 x4 c_orders c_painted_moves h H locs hP hD hS ls hl
        unfold J_X1_turnOn_64 at h
        refine lv_aload_n hx hb dX1_turnOn_64 rfl (lv_at hl 0 rfl) ?_
        refine lv_aload_n hx hb dX1_turnOn_65 rfl (lv_at hl 1 rfl) ?_
        refine lv_iload_n hx hb dX1_turnOn_66 rfl (lv_at hl 3 rfl) ?_
        refine go_V E (run_V E ((k_X1_exchange l g h_this h_m h_this_orders h_this_together h_this_painted h_this_painted_moves h_this_painted_lights h_this_painted_prices h_this_painted_shares h_m_moves h_m_lights h_m_prices h_m_shares h) _) (cwV 2 hts gX1_turnOn_X1_exchange rfl rfl rfl (by decide +kernel) ⟨Nat.le_of_ble_eq_true rfl, Nat.le_of_ble_eq_true rfl⟩) hP hD hS [0, 1, 2, 3, 4, 5] rfl rfl 0 1 rfl rfl rfl hl rfl rfl (Nat.le_of_ble_eq_true rfl) dX1_turnOn_67 ⟨Nat.le_of_ble_eq_true rfl, Nat.le_of_ble_eq_true rfl⟩) hP hD hS [0, 1, 2, 3, 4, 5] rfl [(false, 0), (false, 1), (false, 2), (false, 3), (false, 4), (false, 5)] rfl (by decide) (fun u => (cw_X1_turnOn g h_this h_m h_this_orders h_this_together h_this_painted h_this_painted_moves h_this_painted_lights h_this_painted_prices h_this_painted_shares h_m_moves h_m_lights h_m_prices h_m_shares c_orders c_painted_states c_painted_letters u c_m_states c_m_letters c_m_moves)) (fun _ => rfl) (fun c_painted_moves H locs h hP hD hS => ?_)
        try dsimp only at h
        have hP : va_P g.1 vwCl (cw_X1_turnOn g h_this h_m h_this_orders h_this_together h_this_painted h_this_painted_moves h_this_painted_lights h_this_painted_prices h_this_painted_shares h_m_moves h_m_lights h_m_prices h_m_shares c_orders c_painted_states c_painted_letters c_painted_moves c_m_states c_m_letters c_m_moves) H := hP
        have hD : va_D A (cw_X1_turnOn g h_this h_m h_this_orders h_this_together h_this_painted h_this_painted_moves h_this_painted_lights h_this_painted_prices h_this_painted_shares h_m_moves h_m_lights h_m_prices h_m_shares c_orders c_painted_states c_painted_letters c_painted_moves c_m_states c_m_letters c_m_moves) := hD
        refine lv_iload hx hb dX1_turnOn_70 (lv_at hl 4 rfl) ?_
        refine lv_if_eq (tgt := 77) hx hb dX1_turnOn_72 (by decide) (fun cq => ?_) (fun cq => ?_)
        · replace h := h.1 cq
          refine lv_iinc (v := (x3 + (-1))) (lv' := [(3, .int (x3 + (-1))), (0, .ref h_this), (1, .ref h_m), (2, .int x2), (4, .int x4)]) hx hb dX1_turnOn_77 hl (k := 3) rfl rfl (by decide) rfl (fun ls hl => ?_)
          refine lv_goto (tgt := 15) hx hb dX1_turnOn_80 (by decide) ?_
          exact ih_15 (x3 + (-1)) c_orders c_painted_moves h _ _ hP hD hS _ (lv_sub hl [1, 2, 3, 0] rfl)
        · replace h := h.2 cq
          refine lv_iconst (v := (nI 1)) hx hb dX1_turnOn_75 (by decide) ?_
          exact hret (nI 1) (c_orders, c_painted_moves) _ _ _ _ nbo h hP hD hS dX1_turnOn_76
      have K_50 : ∀ (x3 : Int32) (c_orders : Nat → Int32) (c_painted_moves : Nat → Int32) (t0 : Int32) , J_X1_turnOn_50 c_painted_states c_painted_letters c_m_states c_m_letters c_m_moves (L_X1_turnOn_15 c_painted_states c_painted_letters c_m_states c_m_letters c_m_moves x2 Q n_15) Q x3 c_orders c_painted_moves t0 → ∀ (H : Heap) (locs : List Loc), va_P g.1 vwCl (cw_X1_turnOn g h_this h_m h_this_orders h_this_together h_this_painted h_this_painted_moves h_this_painted_lights h_this_painted_prices h_this_painted_shares h_m_moves h_m_lights h_m_prices h_m_shares c_orders c_painted_states c_painted_letters c_painted_moves c_m_states c_m_letters c_m_moves) H → va_D A (cw_X1_turnOn g h_this h_m h_this_orders h_this_together h_this_painted h_this_painted_moves h_this_painted_lights h_this_painted_prices h_this_painted_shares h_m_moves h_m_lights h_m_prices h_m_shares c_orders c_painted_states c_painted_letters c_painted_moves c_m_states c_m_letters c_m_moves) → va_S A s.heap H locs → ∀ ls : Array Slot, lv_has ls 5 [(0, .ref h_this), (1, .ref h_m), (2, .int x2), (3, .int x3)] → W p l e rm_X1_turnOn s m args below meth c H locs 0 0 QQ (F0 m 50 ls [.int t0]) := by
        intro x3 c_orders c_painted_moves t0 h H locs hP hD hS ls hl
        unfold J_X1_turnOn_50 at h
        refine lv_istore (lv' := [(4, .int t0), (0, .ref h_this), (1, .ref h_m), (2, .int x2), (3, .int x3)]) hx hb dX1_turnOn_50 hl (by decide) rfl (fun ls hl => ?_)
        refine lv_iload hx hb dX1_turnOn_52 (lv_at hl 0 rfl) ?_
        refine lv_if_ne (tgt := 64) hx hb dX1_turnOn_54 (by decide) (fun cq => ?_) (fun cq => ?_)
        · replace h := h.1 cq
          exact K_64 x3 t0 c_orders c_painted_moves h _ _ hP hD hS _ (lv_sub hl [1, 2, 3, 4, 0] rfl)
        · replace h := h.2 cq
          refine lv_aload_n hx hb dX1_turnOn_57 rfl (lv_at hl 1 rfl) ?_
          refine va_get (D := g.1) (ci := 1) (v := .ref h_this_orders) (C := RX1) (T := TX1) (N := 3) hx hb hts iX1 hown hK hP 0 rfl rfl 0 (by decide) f9 (fun _ h9 => h9) rfl dX1_turnOn_58 ?_
          refine lv_iload_n hx hb dX1_turnOn_61 rfl (lv_at hl 4 rfl) ?_
          refine lv_iconst (v := (nI 0)) hx hb dX1_turnOn_62 (by decide) ?_
          obtain ⟨hi, h⟩ := h
          refine va_iast (D := g.1) (n := 12) (f := c_orders) hx hb hK hP hD hS 1 0 rfl rfl hi dX1_turnOn_63 (fun H locs hP hD hS => ?_)
          have hP : va_P g.1 vwCl (cw_X1_turnOn g h_this h_m h_this_orders h_this_together h_this_painted h_this_painted_moves h_this_painted_lights h_this_painted_prices h_this_painted_shares h_m_moves h_m_lights h_m_prices h_m_shares (upd c_orders (Int32.toNatClampNeg x3) (nI 0)) c_painted_states c_painted_letters c_painted_moves c_m_states c_m_letters c_m_moves) H := hP
          have hD : va_D A (cw_X1_turnOn g h_this h_m h_this_orders h_this_together h_this_painted h_this_painted_moves h_this_painted_lights h_this_painted_prices h_this_painted_shares h_m_moves h_m_lights h_m_prices h_m_shares (upd c_orders (Int32.toNatClampNeg x3) (nI 0)) c_painted_states c_painted_letters c_painted_moves c_m_states c_m_letters c_m_moves) := hD
          exact K_64 x3 t0 (upd c_orders (Int32.toNatClampNeg x3) (nI 0)) c_painted_moves h _ _ hP hD hS _ (lv_sub hl [1, 2, 3, 4, 0] rfl)
      refine lv_iload_n hx hb dX1_turnOn_15 rfl (lv_at hl 3 rfl) ?_
      refine lv_if_lt (tgt := 83) hx hb dX1_turnOn_16 (by decide) (fun cq => ?_) (fun cq => ?_)
      · replace h := h.1 cq
        refine lv_iconst (v := (nI 0)) hx hb dX1_turnOn_83 (by decide) ?_
        exact hret (nI 0) (c_orders, c_painted_moves) _ _ _ _ nbz h hP hD hS dX1_turnOn_84
      · replace h := h.2 cq
        refine lv_iload_n hx hb dX1_turnOn_19 rfl (lv_at hl 3 rfl) ?_
        refine lv_bipush (v := (nI 12)) hx hb dX1_turnOn_20 (by decide) ?_
        refine lv_icmp_ge (tgt := 83) hx hb dX1_turnOn_22 (by decide) (fun cq => ?_) (fun cq => ?_)
        · replace h := h.1 cq
          refine lv_iconst (v := (nI 0)) hx hb dX1_turnOn_83 (by decide) ?_
          exact hret (nI 0) (c_orders, c_painted_moves) _ _ _ _ nbz h hP hD hS dX1_turnOn_84
        · replace h := h.2 cq
          refine lv_aload_n hx hb dX1_turnOn_25 rfl (lv_at hl 0 rfl) ?_
          refine va_get (D := g.1) (ci := 1) (v := .ref h_this_orders) (C := RX1) (T := TX1) (N := 3) hx hb hts iX1 hown hK hP 0 rfl rfl 0 (by decide) f9 (fun _ h9 => h9) rfl dX1_turnOn_26 ?_
          refine lv_iload_n hx hb dX1_turnOn_29 rfl (lv_at hl 3 rfl) ?_
          refine lv_dup2_11 hx hb dX1_turnOn_30 rfl rfl ?_
          obtain ⟨hi, h⟩ := h
          refine va_iald (D := g.1) (n := 12) (f := c_orders) hx hb hK hP 1 0 rfl rfl hi dX1_turnOn_31 ?_
          refine lv_iconst (v := (nI 1)) hx hb dX1_turnOn_32 (by decide) ?_
          refine lv_iadd hx hb dX1_turnOn_33 ?_
          obtain ⟨hi, h⟩ := h
          refine va_iast (D := g.1) (n := 12) (f := c_orders) hx hb hK hP hD hS 1 0 rfl rfl hi dX1_turnOn_34 (fun H locs hP hD hS => ?_)
          have hP : va_P g.1 vwCl (cw_X1_turnOn g h_this h_m h_this_orders h_this_together h_this_painted h_this_painted_moves h_this_painted_lights h_this_painted_prices h_this_painted_shares h_m_moves h_m_lights h_m_prices h_m_shares (upd c_orders (Int32.toNatClampNeg x3) ((c_orders (Int32.toNatClampNeg x3)) + (nI 1))) c_painted_states c_painted_letters c_painted_moves c_m_states c_m_letters c_m_moves) H := hP
          have hD : va_D A (cw_X1_turnOn g h_this h_m h_this_orders h_this_together h_this_painted h_this_painted_moves h_this_painted_lights h_this_painted_prices h_this_painted_shares h_m_moves h_m_lights h_m_prices h_m_shares (upd c_orders (Int32.toNatClampNeg x3) ((c_orders (Int32.toNatClampNeg x3)) + (nI 1))) c_painted_states c_painted_letters c_painted_moves c_m_states c_m_letters c_m_moves) := hD
          refine lv_aload_n hx hb dX1_turnOn_35 rfl (lv_at hl 0 rfl) ?_
          refine va_get (D := g.1) (ci := 1) (v := .ref h_this_orders) (C := RX1) (T := TX1) (N := 3) hx hb hts iX1 hown hK hP 0 rfl rfl 0 (by decide) f9 (fun _ h9 => h9) rfl dX1_turnOn_36 ?_
          refine lv_iload_n hx hb dX1_turnOn_39 rfl (lv_at hl 3 rfl) ?_
          obtain ⟨hi, h⟩ := h
          refine va_iald (D := g.1) (n := 12) (f := (upd c_orders (Int32.toNatClampNeg x3) ((c_orders (Int32.toNatClampNeg x3)) + (nI 1)))) hx hb hK hP 1 0 rfl rfl hi dX1_turnOn_40 ?_
          refine lv_iload_n hx hb dX1_turnOn_41 rfl (lv_at hl 2 rfl) ?_
          refine lv_icmp_ge (tgt := 49) hx hb dX1_turnOn_42 (by decide) (fun cq => ?_) (fun cq => ?_)
          · replace h := h.1 cq
            refine lv_iconst (v := (nI 0)) hx hb dX1_turnOn_49 (by decide) ?_
            exact K_50 x3 (upd c_orders (Int32.toNatClampNeg x3) ((c_orders (Int32.toNatClampNeg x3)) + (nI 1))) c_painted_moves (nI 0) h _ _ hP hD hS _ (lv_sub hl [0, 1, 2, 3] rfl)
          · replace h := h.2 cq
            refine lv_iconst (v := (nI 1)) hx hb dX1_turnOn_45 (by decide) ?_
            refine lv_goto (tgt := 50) hx hb dX1_turnOn_46 (by decide) ?_
            exact K_50 x3 (upd c_orders (Int32.toNatClampNeg x3) ((c_orders (Int32.toNatClampNeg x3)) + (nI 1))) c_painted_moves (nI 1) h _ _ hP hD hS _ (lv_sub hl [0, 1, 2, 3] rfl)
  refine lv_aload_n hx hb dX1_turnOn_0 rfl (lv_at hl 1 rfl) ?_
  refine go_I E (run_V E ((k_X4_letters l g h_m h_m_moves h_m_lights h_m_prices h_m_shares (Q := fun r => r = c_m_letters) rfl) _) (cwV 0 hts gX1_turnOn_X4_letters rfl rfl rfl (by decide +kernel) ⟨Nat.le_of_ble_eq_true rfl, Nat.le_of_ble_eq_true rfl⟩) hP hD hS [4] rfl rfl 0 3 rfl rfl rfl hl rfl rfl (Nat.le_of_ble_eq_true rfl) dX1_turnOn_1 ⟨Nat.le_of_ble_eq_true rfl, Nat.le_of_ble_eq_true rfl⟩) hP hD hS [4] rfl [(true, 0), (true, 1), (true, 2), (true, 3), (false, 0), (true, 5)] rfl (by decide) (fun _ => (cw_X1_turnOn g h_this h_m h_this_orders h_this_together h_this_painted h_this_painted_moves h_this_painted_lights h_this_painted_prices h_this_painted_shares h_m_moves h_m_lights h_m_prices h_m_shares c_orders c_painted_states c_painted_letters c_painted_moves c_m_states c_m_letters c_m_moves)) (fun _ => rfl) (fun r2 _ H locs hr_ hP hD hS => ?_)
  have hr_ : c_m_letters = r2 := Eq.symm hr_
  subst hr_
  have hP : va_P g.1 vwCl (cw_X1_turnOn g h_this h_m h_this_orders h_this_together h_this_painted h_this_painted_moves h_this_painted_lights h_this_painted_prices h_this_painted_shares h_m_moves h_m_lights h_m_prices h_m_shares c_orders c_painted_states c_painted_letters c_painted_moves c_m_states c_m_letters c_m_moves) H := hP
  have hD : va_D A (cw_X1_turnOn g h_this h_m h_this_orders h_this_together h_this_painted h_this_painted_moves h_this_painted_lights h_this_painted_prices h_this_painted_shares h_m_moves h_m_lights h_m_prices h_m_shares c_orders c_painted_states c_painted_letters c_painted_moves c_m_states c_m_letters c_m_moves) := hD
  refine go_I E (run_S E ((k_X1_ordersOf l g  h) _) (va_cwS 1 hts gX1_turnOn_X1_ordersOf rfl rfl rfl (by decide +kernel) ⟨Nat.le_of_ble_eq_true rfl, Nat.le_of_ble_eq_true rfl⟩) hP hD hS [] rfl rfl hl rfl rfl (Nat.le_of_ble_eq_true rfl) dX1_turnOn_4 ⟨Nat.le_of_ble_eq_true rfl, Nat.le_of_ble_eq_true rfl⟩) hP hD hS [] rfl [(true, 0), (true, 1), (true, 2), (true, 3), (true, 4), (true, 5)] rfl (by decide) (fun _ => (cw_X1_turnOn g h_this h_m h_this_orders h_this_together h_this_painted h_this_painted_moves h_this_painted_lights h_this_painted_prices h_this_painted_shares h_m_moves h_m_lights h_m_prices h_m_shares c_orders c_painted_states c_painted_letters c_painted_moves c_m_states c_m_letters c_m_moves)) (fun _ => rfl) (fun r4 _ H locs h hP hD hS => ?_)
  try dsimp only at h
  have hP : va_P g.1 vwCl (cw_X1_turnOn g h_this h_m h_this_orders h_this_together h_this_painted h_this_painted_moves h_this_painted_lights h_this_painted_prices h_this_painted_shares h_m_moves h_m_lights h_m_prices h_m_shares c_orders c_painted_states c_painted_letters c_painted_moves c_m_states c_m_letters c_m_moves) H := hP
  have hD : va_D A (cw_X1_turnOn g h_this h_m h_this_orders h_this_together h_this_painted h_this_painted_moves h_this_painted_lights h_this_painted_prices h_this_painted_shares h_m_moves h_m_lights h_m_prices h_m_shares c_orders c_painted_states c_painted_letters c_painted_moves c_m_states c_m_letters c_m_moves) := hD
  refine lv_istore_n (lv' := [(2, .int r4), (0, .ref h_this), (1, .ref h_m)]) hx hb dX1_turnOn_7 rfl hl (by decide) rfl (fun ls hl => ?_)
  refine lv_aload_n hx hb dX1_turnOn_8 rfl (lv_at hl 2 rfl) ?_
  refine go_I E (run_V E ((k_X4_states l g h_m h_m_moves h_m_lights h_m_prices h_m_shares (Q := fun r => r = c_m_states) rfl) _) (cwV 0 hts gX1_turnOn_X4_states rfl rfl rfl (by decide +kernel) ⟨Nat.le_of_ble_eq_true rfl, Nat.le_of_ble_eq_true rfl⟩) hP hD hS [4] rfl rfl 0 3 rfl rfl rfl hl rfl rfl (Nat.le_of_ble_eq_true rfl) dX1_turnOn_9 ⟨Nat.le_of_ble_eq_true rfl, Nat.le_of_ble_eq_true rfl⟩) hP hD hS [4] rfl [(true, 0), (true, 1), (true, 2), (true, 3), (false, 0), (true, 5)] rfl (by decide) (fun _ => (cw_X1_turnOn g h_this h_m h_this_orders h_this_together h_this_painted h_this_painted_moves h_this_painted_lights h_this_painted_prices h_this_painted_shares h_m_moves h_m_lights h_m_prices h_m_shares c_orders c_painted_states c_painted_letters c_painted_moves c_m_states c_m_letters c_m_moves)) (fun _ => rfl) (fun r6 _ H locs hr_ hP hD hS => ?_)
  have hr_ : c_m_states = r6 := Eq.symm hr_
  subst hr_
  have hP : va_P g.1 vwCl (cw_X1_turnOn g h_this h_m h_this_orders h_this_together h_this_painted h_this_painted_moves h_this_painted_lights h_this_painted_prices h_this_painted_shares h_m_moves h_m_lights h_m_prices h_m_shares c_orders c_painted_states c_painted_letters c_painted_moves c_m_states c_m_letters c_m_moves) H := hP
  have hD : va_D A (cw_X1_turnOn g h_this h_m h_this_orders h_this_together h_this_painted h_this_painted_moves h_this_painted_lights h_this_painted_prices h_this_painted_shares h_m_moves h_m_lights h_m_prices h_m_shares c_orders c_painted_states c_painted_letters c_painted_moves c_m_states c_m_letters c_m_moves) := hD
  refine lv_iconst (v := (nI 1)) hx hb dX1_turnOn_12 (by decide) ?_
  refine lv_isub hx hb dX1_turnOn_13 ?_
  refine lv_istore_n (lv' := [(3, .int (c_m_states - (nI 1))), (2, .int r4), (0, .ref h_this), (1, .ref h_m)]) hx hb dX1_turnOn_14 rfl hl (by decide) rfl (fun ls hl => ?_)
  obtain ⟨n, h⟩ := h
  exact K_15 r4 n (c_m_states - (nI 1)) c_orders c_painted_moves h _ _ hP hD hS _ (lv_sub hl [2, 3, 1, 0] rfl)
abbrev cw_X1_paint (g : GG) (h_this : Nat) (h_m : Nat) (h_this_orders : Nat) (h_this_together : Nat) (h_this_painted : Nat) (h_this_painted_moves : Nat) (h_this_painted_lights : Nat) (h_this_painted_prices : Nat) (h_this_painted_shares : Nat) (h_m_moves : Nat) (h_m_lights : Nat) (h_m_prices : Nat) (h_m_shares : Nat) (c_orders : Nat → Int32) (c_together : Nat → Int32) (c_painted_states : Int32) (c_painted_letters : Int32) (c_painted_moves : Nat → Int32) (c_m_states : Int32) (c_m_letters : Int32) (c_m_moves : Nat → Int32) : va_W := [(h_this, .inr (1, [.ref h_this_orders, .ref h_this_together, .ref h_this_painted])), (h_this_orders, .inl (g.2.1, 12, .inl c_orders)), (h_this_together, .inl (g.2.1, 12, .inl c_together)), (h_this_painted, .inr (3, [.int c_painted_states, .int c_painted_letters, .ref h_this_painted_moves, .ref h_this_painted_lights, .ref h_this_painted_prices, .ref h_this_painted_shares])), (h_this_painted_moves, .inl (g.2.1, 48, .inl c_painted_moves)), (h_m, .inr (3, [.int c_m_states, .int c_m_letters, .ref h_m_moves, .ref h_m_lights, .ref h_m_prices, .ref h_m_shares])), (h_m_moves, .inl (g.2.1, 48, .inl c_m_moves))]
def J_X1_paint_59 (c_painted_states : Int32) (c_painted_letters : Int32) (c_m_states : Int32) (c_m_letters : Int32) (Q : Int32 → (Nat → Int32) → (Nat → Int32) → (Nat → Int32) → (Nat → Int32) → Prop) (x2 : Int32) (c_orders : Nat → Int32) (c_together : Nat → Int32) (c_painted_moves : Nat → Int32) (c_m_moves : Nat → Int32) : Prop :=
    wp_X1_takeOver c_painted_states c_painted_letters c_painted_moves c_m_states c_m_letters c_m_moves (fun c_m_moves => Q x2 c_orders c_together c_painted_moves c_m_moves)
def L_X1_paint_43 (c_painted_states : Int32) (c_painted_letters : Int32) (c_m_states : Int32) (c_m_letters : Int32) (c_m_moves : Nat → Int32) (Q : Int32 → (Nat → Int32) → (Nat → Int32) → (Nat → Int32) → (Nat → Int32) → Prop) : Nat → Int32 → (Nat → Int32) → (Nat → Int32) → (Nat → Int32) → Prop
  | 0, _, _, _, _ => False
  | n_43 + 1, x2, c_orders, c_together, c_painted_moves =>
    (((nI 1500) ≤ x2 → Q (-1) c_orders c_together c_painted_moves c_m_moves) ∧ (¬ (nI 1500) ≤ x2 → wp_X1_allComeTogether c_together c_painted_states c_painted_letters c_painted_moves c_m_states c_m_letters c_m_moves (nI 0) (fun r8 c_together => ((r8 = (nI 0) → wp_X1_turnOn c_orders c_painted_states c_painted_letters c_painted_moves c_m_states c_m_letters c_m_moves (fun r10 c_orders c_painted_moves => ((¬ r10 = (nI 0) → (L_X1_paint_43 c_painted_states c_painted_letters c_m_states c_m_letters c_m_moves Q n_43) (x2 + (nI 1)) c_orders c_together c_painted_moves) ∧ (r10 = (nI 0) → Q (-1) c_orders c_together c_painted_moves c_m_moves)))) ∧ (¬ r8 = (nI 0) → J_X1_paint_59 c_painted_states c_painted_letters c_m_states c_m_letters Q x2 c_orders c_together c_painted_moves c_m_moves)))))
def J_X1_paint_30 (c_painted_states : Int32) (c_painted_letters : Int32) (c_m_states : Int32) (c_m_letters : Int32) (Q : Int32 → (Nat → Int32) → (Nat → Int32) → (Nat → Int32) → (Nat → Int32) → Prop) (c_orders : Nat → Int32) (c_together : Nat → Int32) (c_painted_moves : Nat → Int32) (c_m_moves : Nat → Int32) : Prop :=
    wp_X1_allComeTogether c_together c_painted_states c_painted_letters c_painted_moves c_m_states c_m_letters c_m_moves (nI 1) (fun r6 c_together => ((¬ r6 = (nI 0) → ∃ n, L_X1_paint_43 c_painted_states c_painted_letters c_m_states c_m_letters c_m_moves Q n (nI 0) c_orders c_together c_painted_moves) ∧ (r6 = (nI 0) → Q (-1) c_orders c_together c_painted_moves c_m_moves)))
def L_X1_paint_10 (c_orders : Nat → Int32) (c_together : Nat → Int32) (c_painted_states : Int32) (c_painted_letters : Int32) (c_m_states : Int32) (c_m_letters : Int32) (c_m_moves : Nat → Int32) (Q : Int32 → (Nat → Int32) → (Nat → Int32) → (Nat → Int32) → (Nat → Int32) → Prop) : Nat → Int32 → (Nat → Int32) → Prop
  | 0, _, _ => False
  | n_10 + 1, x2, c_painted_moves =>
    ((c_m_states ≤ x2 → J_X1_paint_30 c_painted_states c_painted_letters c_m_states c_m_letters Q c_orders c_together c_painted_moves c_m_moves) ∧ (¬ c_m_states ≤ x2 → wp_X1_exchange c_orders c_painted_states c_painted_letters c_painted_moves c_m_states c_m_letters c_m_moves x2 (fun c_painted_moves => (L_X1_paint_10 c_orders c_together c_painted_states c_painted_letters c_m_states c_m_letters c_m_moves Q n_10) (x2 + (nI 1)) c_painted_moves)))
def wp_X1_paint (c_orders : Nat → Int32) (c_together : Nat → Int32) (c_painted_states : Int32) (c_painted_letters : Int32) (c_painted_moves : Nat → Int32) (c_m_states : Int32) (c_m_letters : Int32) (c_m_moves : Nat → Int32) (Q : Int32 → (Nat → Int32) → (Nat → Int32) → (Nat → Int32) → (Nat → Int32) → Prop) : Prop :=
    wp_J7_fill_53178 12 c_orders (nI 0) (fun c_orders => ∃ n, L_X1_paint_10 c_orders c_together c_painted_states c_painted_letters c_m_states c_m_letters c_m_moves Q n (nI 0) c_painted_moves)
abbrev rm_X1_paint : Room := { frames := 5, cells := 0, slots := 0, locals := 123 }
set_option maxHeartbeats 4000000 in
set_option maxRecDepth 100000 in
theorem k_X1_paint (l : Launch) (g : GG) (h_this : Nat) (h_m : Nat) (h_this_orders : Nat) (h_this_together : Nat) (h_this_painted : Nat) (h_this_painted_moves : Nat) (h_this_painted_lights : Nat) (h_this_painted_prices : Nat) (h_this_painted_shares : Nat) (h_m_moves : Nat) (h_m_lights : Nat) (h_m_prices : Nat) (h_m_shares : Nat) {c_orders : Nat → Int32} {c_together : Nat → Int32} {c_painted_states : Int32} {c_painted_letters : Int32} {c_painted_moves : Nat → Int32} {c_m_states : Int32} {c_m_letters : Int32} {c_m_moves : Nat → Int32} {Q : Int32 → (Nat → Int32) → (Nat → Int32) → (Nat → Int32) → (Nat → Int32) → Prop} (h : wp_X1_paint c_orders c_together c_painted_states c_painted_letters c_painted_moves c_m_states c_m_letters c_m_moves Q) : CI l g yX1_paint wsX1_paint rm_X1_paint [.ref h_this, .ref h_m] (cw_X1_paint g h_this h_m h_this_orders h_this_together h_this_painted h_this_painted_moves h_this_painted_lights h_this_painted_prices h_this_painted_shares h_m_moves h_m_lights h_m_prices h_m_shares c_orders c_together c_painted_states c_painted_letters c_painted_moves c_m_states c_m_letters c_m_moves) (S := (Nat → Int32) × (Nat → Int32) × (Nat → Int32) × (Nat → Int32)) (fun u => (cw_X1_paint g h_this h_m h_this_orders h_this_together h_this_painted h_this_painted_moves h_this_painted_lights h_this_painted_prices h_this_painted_shares h_m_moves h_m_lights h_m_prices h_m_shares u.1 u.2.1 c_painted_states c_painted_letters u.2.2.1 c_m_states c_m_letters u.2.2.2)) (fun r u => Q r u.1 u.2.1 u.2.2.1 u.2.2.2) 0 0 := by
  refine mk_I (cc := cX1_paint) (maxL := 3) (own := RX1) (by decide) rfl rfl (Nat.le_of_ble_eq_true rfl) ?_
  intro p e s m args below meth c A QQ E hret hP hD hS ls hl
  have E2 := E
  obtain ⟨hx, hb, hr, hml, hown, hts, hlocks, hA, hZ, hK, hnm⟩ := E2
  have f9 := hts (.fieldLink RX1 9 "WordBench$Colouring" "orders" "[I") (by decide +kernel)
  have iX1 : ∀ w ∈ wsX10, w ∈ wsX1_paint := fun _ h => List.mem_cons_of_mem _ (List.mem_append_left _ (List.mem_append_right _ h))
  have hP : va_P g.1 vwCl (cw_X1_paint g h_this h_m h_this_orders h_this_together h_this_painted h_this_painted_moves h_this_painted_lights h_this_painted_prices h_this_painted_shares h_m_moves h_m_lights h_m_prices h_m_shares c_orders c_together c_painted_states c_painted_letters c_painted_moves c_m_states c_m_letters c_m_moves) s.heap := hP
  have hD : va_D A (cw_X1_paint g h_this h_m h_this_orders h_this_together h_this_painted h_this_painted_moves h_this_painted_lights h_this_painted_prices h_this_painted_shares h_m_moves h_m_lights h_m_prices h_m_shares c_orders c_together c_painted_states c_painted_letters c_painted_moves c_m_states c_m_letters c_m_moves) := hD
  have hl : lv_has ls 3 [(0, .ref h_this), (1, .ref h_m)] := hl
  unfold wp_X1_paint at h
  have K_59 : ∀ (x2 : Int32) (c_orders : Nat → Int32) (c_together : Nat → Int32) (c_painted_moves : Nat → Int32) (c_m_moves : Nat → Int32) , J_X1_paint_59 c_painted_states c_painted_letters c_m_states c_m_letters Q x2 c_orders c_together c_painted_moves c_m_moves → ∀ (H : Heap) (locs : List Loc), va_P g.1 vwCl (cw_X1_paint g h_this h_m h_this_orders h_this_together h_this_painted h_this_painted_moves h_this_painted_lights h_this_painted_prices h_this_painted_shares h_m_moves h_m_lights h_m_prices h_m_shares c_orders c_together c_painted_states c_painted_letters c_painted_moves c_m_states c_m_letters c_m_moves) H → va_D A (cw_X1_paint g h_this h_m h_this_orders h_this_together h_this_painted h_this_painted_moves h_this_painted_lights h_this_painted_prices h_this_painted_shares h_m_moves h_m_lights h_m_prices h_m_shares c_orders c_together c_painted_states c_painted_letters c_painted_moves c_m_states c_m_letters c_m_moves) → va_S A s.heap H locs → ∀ ls : Array Slot, lv_has ls 3 [(0, .ref h_this), (1, .ref h_m), (2, .int x2)] → W p l e rm_X1_paint s m args below meth c H locs 0 0 QQ (F0 m 59 ls []) := by
    intro x2 c_orders c_together c_painted_moves c_m_moves h H locs hP hD hS ls hl
    unfold J_X1_paint_59 at h
    refine lv_aload_n hx hb dX1_paint_59 rfl (lv_at hl 0 rfl) ?_
    refine lv_aload_n hx hb dX1_paint_60 rfl (lv_at hl 1 rfl) ?_
    refine go_V E (run_V E ((k_X1_takeOver l g h_this h_m h_this_orders h_this_together h_this_painted h_this_painted_moves h_this_painted_lights h_this_painted_prices h_this_painted_shares h_m_moves h_m_lights h_m_prices h_m_shares h) _) (cwV 1 hts gX1_paint_X1_takeOver rfl rfl rfl (by decide +kernel) ⟨Nat.le_of_ble_eq_true rfl, Nat.le_of_ble_eq_true rfl⟩) hP hD hS [0, 3, 4, 5, 6] rfl rfl 0 1 rfl rfl rfl hl rfl rfl (Nat.le_of_ble_eq_true rfl) dX1_paint_61 ⟨Nat.le_of_ble_eq_true rfl, Nat.le_of_ble_eq_true rfl⟩) hP hD hS [0, 3, 4, 5, 6] rfl [(false, 0), (true, 1), (true, 2), (false, 1), (false, 2), (false, 3), (false, 4)] rfl (by decide) (fun u => (cw_X1_paint g h_this h_m h_this_orders h_this_together h_this_painted h_this_painted_moves h_this_painted_lights h_this_painted_prices h_this_painted_shares h_m_moves h_m_lights h_m_prices h_m_shares c_orders c_together c_painted_states c_painted_letters c_painted_moves c_m_states c_m_letters u)) (fun _ => rfl) (fun c_m_moves H locs h hP hD hS => ?_)
    try dsimp only at h
    have hP : va_P g.1 vwCl (cw_X1_paint g h_this h_m h_this_orders h_this_together h_this_painted h_this_painted_moves h_this_painted_lights h_this_painted_prices h_this_painted_shares h_m_moves h_m_lights h_m_prices h_m_shares c_orders c_together c_painted_states c_painted_letters c_painted_moves c_m_states c_m_letters c_m_moves) H := hP
    have hD : va_D A (cw_X1_paint g h_this h_m h_this_orders h_this_together h_this_painted h_this_painted_moves h_this_painted_lights h_this_painted_prices h_this_painted_shares h_m_moves h_m_lights h_m_prices h_m_shares c_orders c_together c_painted_states c_painted_letters c_painted_moves c_m_states c_m_letters c_m_moves) := hD
    refine lv_iload_n hx hb dX1_paint_64 rfl (lv_at hl 2 rfl) ?_
    exact hret x2 (c_orders, c_together, c_painted_moves, c_m_moves) _ _ _ _ rfl h hP hD hS dX1_paint_65
  have K_43 : ∀ (c_m_moves : Nat → Int32) (n_43 : Nat) (x2 : Int32) (c_orders : Nat → Int32) (c_together : Nat → Int32) (c_painted_moves : Nat → Int32) , L_X1_paint_43 c_painted_states c_painted_letters c_m_states c_m_letters c_m_moves Q n_43 x2 c_orders c_together c_painted_moves → ∀ (H : Heap) (locs : List Loc), va_P g.1 vwCl (cw_X1_paint g h_this h_m h_this_orders h_this_together h_this_painted h_this_painted_moves h_this_painted_lights h_this_painted_prices h_this_painted_shares h_m_moves h_m_lights h_m_prices h_m_shares c_orders c_together c_painted_states c_painted_letters c_painted_moves c_m_states c_m_letters c_m_moves) H → va_D A (cw_X1_paint g h_this h_m h_this_orders h_this_together h_this_painted h_this_painted_moves h_this_painted_lights h_this_painted_prices h_this_painted_shares h_m_moves h_m_lights h_m_prices h_m_shares c_orders c_together c_painted_states c_painted_letters c_painted_moves c_m_states c_m_letters c_m_moves) → va_S A s.heap H locs → ∀ ls : Array Slot, lv_has ls 3 [(0, .ref h_this), (1, .ref h_m), (2, .int x2)] → W p l e rm_X1_paint s m args below meth c H locs 0 0 QQ (F0 m 43 ls []) := by
    intro c_m_moves n_43
    induction n_43 with
    | zero => intro x2 c_orders c_together c_painted_moves; exact fun h => False.elim h
    | succ n_43 ih_43 =>
      intro x2 c_orders c_together c_painted_moves h H locs hP hD hS ls hl
      unfold L_X1_paint_43 at h
      refine lv_iload_n hx hb dX1_paint_43 rfl (lv_at hl 2 rfl) ?_
      refine lv_sipush (v := (nI 1500)) hx hb dX1_paint_44 (by decide) ?_
      refine lv_icmp_ge (tgt := 82) hx hb dX1_paint_47 (by decide) (fun cq => ?_) (fun cq => ?_)
      · replace h := h.1 cq
        refine lv_iconst (v := (-1)) hx hb dX1_paint_82 (by decide) ?_
        exact hret (-1) (c_orders, c_together, c_painted_moves, c_m_moves) _ _ _ _ rfl h hP hD hS dX1_paint_83
      · replace h := h.2 cq
        refine lv_aload_n hx hb dX1_paint_50 rfl (lv_at hl 0 rfl) ?_
        refine lv_aload_n hx hb dX1_paint_51 rfl (lv_at hl 1 rfl) ?_
        refine lv_iconst (v := (nI 0)) hx hb dX1_paint_52 (by decide) ?_
        refine go_I E (run_V E ((k_X1_allComeTogether l g h_this h_m h_this_orders h_this_together h_this_painted h_this_painted_moves h_this_painted_lights h_this_painted_prices h_this_painted_shares h_m_moves h_m_lights h_m_prices h_m_shares h) _) (cwV 2 hts gX1_paint_X1_allComeTogether rfl rfl rfl (by decide +kernel) ⟨Nat.le_of_ble_eq_true rfl, Nat.le_of_ble_eq_true rfl⟩) hP hD hS [0, 2, 3, 4, 5, 6] rfl rfl 0 1 rfl rfl rfl hl rfl rfl (Nat.le_of_ble_eq_true rfl) dX1_paint_53 ⟨Nat.le_of_ble_eq_true rfl, Nat.le_of_ble_eq_true rfl⟩) hP hD hS [0, 2, 3, 4, 5, 6] rfl [(false, 0), (true, 1), (false, 1), (false, 2), (false, 3), (false, 4), (false, 5)] rfl (by decide) (fun u => (cw_X1_paint g h_this h_m h_this_orders h_this_together h_this_painted h_this_painted_moves h_this_painted_lights h_this_painted_prices h_this_painted_shares h_m_moves h_m_lights h_m_prices h_m_shares c_orders u c_painted_states c_painted_letters c_painted_moves c_m_states c_m_letters c_m_moves)) (fun _ => rfl) (fun r8 c_together H locs h hP hD hS => ?_)
        try dsimp only at h
        have hP : va_P g.1 vwCl (cw_X1_paint g h_this h_m h_this_orders h_this_together h_this_painted h_this_painted_moves h_this_painted_lights h_this_painted_prices h_this_painted_shares h_m_moves h_m_lights h_m_prices h_m_shares c_orders c_together c_painted_states c_painted_letters c_painted_moves c_m_states c_m_letters c_m_moves) H := hP
        have hD : va_D A (cw_X1_paint g h_this h_m h_this_orders h_this_together h_this_painted h_this_painted_moves h_this_painted_lights h_this_painted_prices h_this_painted_shares h_m_moves h_m_lights h_m_prices h_m_shares c_orders c_together c_painted_states c_painted_letters c_painted_moves c_m_states c_m_letters c_m_moves) := hD
        refine lv_if_eq (tgt := 66) hx hb dX1_paint_56 (by decide) (fun cq => ?_) (fun cq => ?_)
        · replace h := h.1 cq
          refine lv_aload_n hx hb dX1_paint_66 rfl (lv_at hl 0 rfl) ?_
          refine lv_aload_n hx hb dX1_paint_67 rfl (lv_at hl 1 rfl) ?_
          refine go_I E (run_V E ((k_X1_turnOn l g h_this h_m h_this_orders h_this_together h_this_painted h_this_painted_moves h_this_painted_lights h_this_painted_prices h_this_painted_shares h_m_moves h_m_lights h_m_prices h_m_shares h) _) (cwV 1 hts gX1_paint_X1_turnOn rfl rfl rfl (by decide +kernel) ⟨Nat.le_of_ble_eq_true rfl, Nat.le_of_ble_eq_true rfl⟩) hP hD hS [0, 1, 3, 4, 5, 6] rfl rfl 0 1 rfl rfl rfl hl rfl rfl (Nat.le_of_ble_eq_true rfl) dX1_paint_68 ⟨Nat.le_of_ble_eq_true rfl, Nat.le_of_ble_eq_true rfl⟩) hP hD hS [0, 1, 3, 4, 5, 6] rfl [(false, 0), (false, 1), (true, 2), (false, 2), (false, 3), (false, 4), (false, 5)] rfl (by decide) (fun u => (cw_X1_paint g h_this h_m h_this_orders h_this_together h_this_painted h_this_painted_moves h_this_painted_lights h_this_painted_prices h_this_painted_shares h_m_moves h_m_lights h_m_prices h_m_shares u.1 c_together c_painted_states c_painted_letters u.2 c_m_states c_m_letters c_m_moves)) (fun _ => rfl) (fun r10 u H locs h hP hD hS => ?_)
          obtain ⟨c_orders, c_painted_moves⟩ := u
          try dsimp only at h
          have hP : va_P g.1 vwCl (cw_X1_paint g h_this h_m h_this_orders h_this_together h_this_painted h_this_painted_moves h_this_painted_lights h_this_painted_prices h_this_painted_shares h_m_moves h_m_lights h_m_prices h_m_shares c_orders c_together c_painted_states c_painted_letters c_painted_moves c_m_states c_m_letters c_m_moves) H := hP
          have hD : va_D A (cw_X1_paint g h_this h_m h_this_orders h_this_together h_this_painted h_this_painted_moves h_this_painted_lights h_this_painted_prices h_this_painted_shares h_m_moves h_m_lights h_m_prices h_m_shares c_orders c_together c_painted_states c_painted_letters c_painted_moves c_m_states c_m_letters c_m_moves) := hD
          refine lv_if_ne (tgt := 76) hx hb dX1_paint_71 (by decide) (fun cq => ?_) (fun cq => ?_)
          · replace h := h.1 cq
            refine lv_iinc (v := (x2 + (nI 1))) (lv' := [(2, .int (x2 + (nI 1))), (0, .ref h_this), (1, .ref h_m)]) hx hb dX1_paint_76 hl (k := 2) rfl rfl (by decide) rfl (fun ls hl => ?_)
            refine lv_goto (tgt := 43) hx hb dX1_paint_79 (by decide) ?_
            exact ih_43 (x2 + (nI 1)) c_orders c_together c_painted_moves h _ _ hP hD hS _ (lv_sub hl [1, 2, 0] rfl)
          · replace h := h.2 cq
            refine lv_iconst (v := (-1)) hx hb dX1_paint_74 (by decide) ?_
            exact hret (-1) (c_orders, c_together, c_painted_moves, c_m_moves) _ _ _ _ rfl h hP hD hS dX1_paint_75
        · replace h := h.2 cq
          exact K_59 x2 c_orders c_together c_painted_moves c_m_moves h _ _ hP hD hS _ (lv_sub hl [0, 1, 2] rfl)
  have K_30 : ∀ (c_orders : Nat → Int32) (c_together : Nat → Int32) (c_painted_moves : Nat → Int32) (c_m_moves : Nat → Int32) , J_X1_paint_30 c_painted_states c_painted_letters c_m_states c_m_letters Q c_orders c_together c_painted_moves c_m_moves → ∀ (H : Heap) (locs : List Loc), va_P g.1 vwCl (cw_X1_paint g h_this h_m h_this_orders h_this_together h_this_painted h_this_painted_moves h_this_painted_lights h_this_painted_prices h_this_painted_shares h_m_moves h_m_lights h_m_prices h_m_shares c_orders c_together c_painted_states c_painted_letters c_painted_moves c_m_states c_m_letters c_m_moves) H → va_D A (cw_X1_paint g h_this h_m h_this_orders h_this_together h_this_painted h_this_painted_moves h_this_painted_lights h_this_painted_prices h_this_painted_shares h_m_moves h_m_lights h_m_prices h_m_shares c_orders c_together c_painted_states c_painted_letters c_painted_moves c_m_states c_m_letters c_m_moves) → va_S A s.heap H locs → ∀ ls : Array Slot, lv_has ls 3 [(0, .ref h_this), (1, .ref h_m)] → W p l e rm_X1_paint s m args below meth c H locs 0 0 QQ (F0 m 30 ls []) := by
    intro c_orders c_together c_painted_moves c_m_moves h H locs hP hD hS ls hl
    unfold J_X1_paint_30 at h
    refine lv_aload_n hx hb dX1_paint_30 rfl (lv_at hl 0 rfl) ?_
    refine lv_aload_n hx hb dX1_paint_31 rfl (lv_at hl 1 rfl) ?_
    refine lv_iconst (v := (nI 1)) hx hb dX1_paint_32 (by decide) ?_
    refine go_I E (run_V E ((k_X1_allComeTogether l g h_this h_m h_this_orders h_this_together h_this_painted h_this_painted_moves h_this_painted_lights h_this_painted_prices h_this_painted_shares h_m_moves h_m_lights h_m_prices h_m_shares h) _) (cwV 2 hts gX1_paint_X1_allComeTogether rfl rfl rfl (by decide +kernel) ⟨Nat.le_of_ble_eq_true rfl, Nat.le_of_ble_eq_true rfl⟩) hP hD hS [0, 2, 3, 4, 5, 6] rfl rfl 0 1 rfl rfl rfl hl rfl rfl (Nat.le_of_ble_eq_true rfl) dX1_paint_33 ⟨Nat.le_of_ble_eq_true rfl, Nat.le_of_ble_eq_true rfl⟩) hP hD hS [0, 2, 3, 4, 5, 6] rfl [(false, 0), (true, 1), (false, 1), (false, 2), (false, 3), (false, 4), (false, 5)] rfl (by decide) (fun u => (cw_X1_paint g h_this h_m h_this_orders h_this_together h_this_painted h_this_painted_moves h_this_painted_lights h_this_painted_prices h_this_painted_shares h_m_moves h_m_lights h_m_prices h_m_shares c_orders u c_painted_states c_painted_letters c_painted_moves c_m_states c_m_letters c_m_moves)) (fun _ => rfl) (fun r6 c_together H locs h hP hD hS => ?_)
    try dsimp only at h
    have hP : va_P g.1 vwCl (cw_X1_paint g h_this h_m h_this_orders h_this_together h_this_painted h_this_painted_moves h_this_painted_lights h_this_painted_prices h_this_painted_shares h_m_moves h_m_lights h_m_prices h_m_shares c_orders c_together c_painted_states c_painted_letters c_painted_moves c_m_states c_m_letters c_m_moves) H := hP
    have hD : va_D A (cw_X1_paint g h_this h_m h_this_orders h_this_together h_this_painted h_this_painted_moves h_this_painted_lights h_this_painted_prices h_this_painted_shares h_m_moves h_m_lights h_m_prices h_m_shares c_orders c_together c_painted_states c_painted_letters c_painted_moves c_m_states c_m_letters c_m_moves) := hD
    refine lv_if_ne (tgt := 41) hx hb dX1_paint_36 (by decide) (fun cq => ?_) (fun cq => ?_)
    · replace h := h.1 cq
      refine lv_iconst (v := (nI 0)) hx hb dX1_paint_41 (by decide) ?_
      refine lv_istore_n (lv' := [(2, .int (nI 0)), (0, .ref h_this), (1, .ref h_m)]) hx hb dX1_paint_42 rfl hl (by decide) rfl (fun ls hl => ?_)
      obtain ⟨n, h⟩ := h
      exact K_43 c_m_moves n (nI 0) c_orders c_together c_painted_moves h _ _ hP hD hS _ (lv_sub hl [1, 2, 0] rfl)
    · replace h := h.2 cq
      refine lv_iconst (v := (-1)) hx hb dX1_paint_39 (by decide) ?_
      exact hret (-1) (c_orders, c_together, c_painted_moves, c_m_moves) _ _ _ _ rfl h hP hD hS dX1_paint_40
  have K_10 : ∀ (c_orders : Nat → Int32) (c_together : Nat → Int32) (c_m_moves : Nat → Int32) (n_10 : Nat) (x2 : Int32) (c_painted_moves : Nat → Int32) , L_X1_paint_10 c_orders c_together c_painted_states c_painted_letters c_m_states c_m_letters c_m_moves Q n_10 x2 c_painted_moves → ∀ (H : Heap) (locs : List Loc), va_P g.1 vwCl (cw_X1_paint g h_this h_m h_this_orders h_this_together h_this_painted h_this_painted_moves h_this_painted_lights h_this_painted_prices h_this_painted_shares h_m_moves h_m_lights h_m_prices h_m_shares c_orders c_together c_painted_states c_painted_letters c_painted_moves c_m_states c_m_letters c_m_moves) H → va_D A (cw_X1_paint g h_this h_m h_this_orders h_this_together h_this_painted h_this_painted_moves h_this_painted_lights h_this_painted_prices h_this_painted_shares h_m_moves h_m_lights h_m_prices h_m_shares c_orders c_together c_painted_states c_painted_letters c_painted_moves c_m_states c_m_letters c_m_moves) → va_S A s.heap H locs → ∀ ls : Array Slot, lv_has ls 3 [(0, .ref h_this), (1, .ref h_m), (2, .int x2)] → W p l e rm_X1_paint s m args below meth c H locs 0 0 QQ (F0 m 10 ls []) := by
    intro c_orders c_together c_m_moves n_10
    induction n_10 with
    | zero => intro x2 c_painted_moves; exact fun h => False.elim h
    | succ n_10 ih_10 =>
      intro x2 c_painted_moves h H locs hP hD hS ls hl
      unfold L_X1_paint_10 at h
      refine lv_iload_n hx hb dX1_paint_10 rfl (lv_at hl 2 rfl) ?_
      refine lv_aload_n hx hb dX1_paint_11 rfl (lv_at hl 1 rfl) ?_
      refine go_I E (run_V E ((k_X4_states l g h_m h_m_moves h_m_lights h_m_prices h_m_shares (Q := fun r => r = c_m_states) rfl) _) (cwV 0 hts gX1_paint_X4_states rfl rfl rfl (by decide +kernel) ⟨Nat.le_of_ble_eq_true rfl, Nat.le_of_ble_eq_true rfl⟩) hP hD hS [5] rfl rfl 0 3 rfl rfl rfl hl rfl rfl (Nat.le_of_ble_eq_true rfl) dX1_paint_12 ⟨Nat.le_of_ble_eq_true rfl, Nat.le_of_ble_eq_true rfl⟩) hP hD hS [5] rfl [(true, 0), (true, 1), (true, 2), (true, 3), (true, 4), (false, 0), (true, 6)] rfl (by decide) (fun _ => (cw_X1_paint g h_this h_m h_this_orders h_this_together h_this_painted h_this_painted_moves h_this_painted_lights h_this_painted_prices h_this_painted_shares h_m_moves h_m_lights h_m_prices h_m_shares c_orders c_together c_painted_states c_painted_letters c_painted_moves c_m_states c_m_letters c_m_moves)) (fun _ => rfl) (fun r4 _ H locs hr_ hP hD hS => ?_)
      have hr_ : c_m_states = r4 := Eq.symm hr_
      subst hr_
      have hP : va_P g.1 vwCl (cw_X1_paint g h_this h_m h_this_orders h_this_together h_this_painted h_this_painted_moves h_this_painted_lights h_this_painted_prices h_this_painted_shares h_m_moves h_m_lights h_m_prices h_m_shares c_orders c_together c_painted_states c_painted_letters c_painted_moves c_m_states c_m_letters c_m_moves) H := hP
      have hD : va_D A (cw_X1_paint g h_this h_m h_this_orders h_this_together h_this_painted h_this_painted_moves h_this_painted_lights h_this_painted_prices h_this_painted_shares h_m_moves h_m_lights h_m_prices h_m_shares c_orders c_together c_painted_states c_painted_letters c_painted_moves c_m_states c_m_letters c_m_moves) := hD
      refine lv_icmp_ge (tgt := 30) hx hb dX1_paint_15 (by decide) (fun cq => ?_) (fun cq => ?_)
      · replace h := h.1 cq
        exact K_30 c_orders c_together c_painted_moves c_m_moves h _ _ hP hD hS _ (lv_sub hl [0, 1] rfl)
      · replace h := h.2 cq
        refine lv_aload_n hx hb dX1_paint_18 rfl (lv_at hl 0 rfl) ?_
        refine lv_aload_n hx hb dX1_paint_19 rfl (lv_at hl 1 rfl) ?_
        refine lv_iload_n hx hb dX1_paint_20 rfl (lv_at hl 2 rfl) ?_
        refine go_V E (run_V E ((k_X1_exchange l g h_this h_m h_this_orders h_this_together h_this_painted h_this_painted_moves h_this_painted_lights h_this_painted_prices h_this_painted_shares h_m_moves h_m_lights h_m_prices h_m_shares h) _) (cwV 2 hts gX1_paint_X1_exchange rfl rfl rfl (by decide +kernel) ⟨Nat.le_of_ble_eq_true rfl, Nat.le_of_ble_eq_true rfl⟩) hP hD hS [0, 1, 3, 4, 5, 6] rfl rfl 0 1 rfl rfl rfl hl rfl rfl (Nat.le_of_ble_eq_true rfl) dX1_paint_21 ⟨Nat.le_of_ble_eq_true rfl, Nat.le_of_ble_eq_true rfl⟩) hP hD hS [0, 1, 3, 4, 5, 6] rfl [(false, 0), (false, 1), (true, 2), (false, 2), (false, 3), (false, 4), (false, 5)] rfl (by decide) (fun u => (cw_X1_paint g h_this h_m h_this_orders h_this_together h_this_painted h_this_painted_moves h_this_painted_lights h_this_painted_prices h_this_painted_shares h_m_moves h_m_lights h_m_prices h_m_shares c_orders c_together c_painted_states c_painted_letters u c_m_states c_m_letters c_m_moves)) (fun _ => rfl) (fun c_painted_moves H locs h hP hD hS => ?_)
        try dsimp only at h
        have hP : va_P g.1 vwCl (cw_X1_paint g h_this h_m h_this_orders h_this_together h_this_painted h_this_painted_moves h_this_painted_lights h_this_painted_prices h_this_painted_shares h_m_moves h_m_lights h_m_prices h_m_shares c_orders c_together c_painted_states c_painted_letters c_painted_moves c_m_states c_m_letters c_m_moves) H := hP
        have hD : va_D A (cw_X1_paint g h_this h_m h_this_orders h_this_together h_this_painted h_this_painted_moves h_this_painted_lights h_this_painted_prices h_this_painted_shares h_m_moves h_m_lights h_m_prices h_m_shares c_orders c_together c_painted_states c_painted_letters c_painted_moves c_m_states c_m_letters c_m_moves) := hD
        refine lv_iinc (v := (x2 + (nI 1))) (lv' := [(2, .int (x2 + (nI 1))), (0, .ref h_this), (1, .ref h_m)]) hx hb dX1_paint_24 hl (k := 2) rfl rfl (by decide) rfl (fun ls hl => ?_)
        refine lv_goto (tgt := 10) hx hb dX1_paint_27 (by decide) ?_
        exact ih_10 (x2 + (nI 1)) c_painted_moves h _ _ hP hD hS _ (lv_sub hl [1, 2, 0] rfl)
  refine lv_aload_n hx hb dX1_paint_0 rfl (lv_at hl 0 rfl) ?_
  refine va_get (D := g.1) (ci := 1) (v := .ref h_this_orders) (C := RX1) (T := TX1) (N := 3) hx hb hts iX1 hown hK hP 0 rfl rfl 0 (by decide) f9 (fun _ h9 => h9) rfl dX1_paint_1 ?_
  refine lv_iconst (v := (nI 0)) hx hb dX1_paint_4 (by decide) ?_
  refine go_V E (run_S E ((k_J7_fill_53178 l g h_this_orders 12 h) _) (va_cwS 2 hts gX1_paint_J7_fill_53178 rfl rfl rfl (by decide +kernel) ⟨Nat.le_of_ble_eq_true rfl, Nat.le_of_ble_eq_true rfl⟩) hP hD hS [1] rfl rfl hl rfl rfl (Nat.le_of_ble_eq_true rfl) dX1_paint_5 ⟨Nat.le_of_ble_eq_true rfl, Nat.le_of_ble_eq_true rfl⟩) hP hD hS [1] rfl [(true, 0), (false, 0), (true, 2), (true, 3), (true, 4), (true, 5), (true, 6)] rfl (by decide) (fun u => (cw_X1_paint g h_this h_m h_this_orders h_this_together h_this_painted h_this_painted_moves h_this_painted_lights h_this_painted_prices h_this_painted_shares h_m_moves h_m_lights h_m_prices h_m_shares u c_together c_painted_states c_painted_letters c_painted_moves c_m_states c_m_letters c_m_moves)) (fun _ => rfl) (fun c_orders H locs h hP hD hS => ?_)
  try dsimp only at h
  have hP : va_P g.1 vwCl (cw_X1_paint g h_this h_m h_this_orders h_this_together h_this_painted h_this_painted_moves h_this_painted_lights h_this_painted_prices h_this_painted_shares h_m_moves h_m_lights h_m_prices h_m_shares c_orders c_together c_painted_states c_painted_letters c_painted_moves c_m_states c_m_letters c_m_moves) H := hP
  have hD : va_D A (cw_X1_paint g h_this h_m h_this_orders h_this_together h_this_painted h_this_painted_moves h_this_painted_lights h_this_painted_prices h_this_painted_shares h_m_moves h_m_lights h_m_prices h_m_shares c_orders c_together c_painted_states c_painted_letters c_painted_moves c_m_states c_m_letters c_m_moves) := hD
  refine lv_iconst (v := (nI 0)) hx hb dX1_paint_8 (by decide) ?_
  refine lv_istore_n (lv' := [(2, .int (nI 0)), (0, .ref h_this), (1, .ref h_m)]) hx hb dX1_paint_9 rfl hl (by decide) rfl (fun ls hl => ?_)
  obtain ⟨n, h⟩ := h
  exact K_10 c_orders c_together c_m_moves n (nI 0) c_painted_moves h _ _ hP hD hS _ (lv_sub hl [1, 2, 0] rfl)
abbrev cw_X5_setLength (g : GG) (h_this : Nat) (h_this_lengths : Nat) (h_this_queue : Nat) (c_without : Int32) (c_lengths : Nat → Int32) : va_W := [(h_this, .inr (4, [.ref h_this_lengths, .ref h_this_queue, .int c_without])), (h_this_lengths, .inl (g.2.1, 144, .inl c_lengths))]
def wp_X5_setLength (c_without : Int32) (c_lengths : Nat → Int32) (x1 : Int32) (x2 : Int32) (x3 : Int32) (Q : (Nat → Int32) → Prop) : Prop :=
    ((x1 < (nI 0) → Q c_lengths) ∧ (¬ x1 < (nI 0) → (((nI 12) ≤ x1 → Q c_lengths) ∧ (¬ (nI 12) ≤ x1 → ((x2 < (nI 0) → Q c_lengths) ∧ (¬ x2 < (nI 0) → (((nI 12) ≤ x2 → Q c_lengths) ∧ (¬ (nI 12) ≤ x2 → vp_in ((x1 * (nI 12)) + x2) 144 ∧ Q (upd c_lengths (Int32.toNatClampNeg ((x1 * (nI 12)) + x2)) x3)))))))))
abbrev rm_X5_setLength : Room := { frames := 0, cells := 0, slots := 0, locals := 0 }
set_option maxHeartbeats 4000000 in
set_option maxRecDepth 100000 in
theorem k_X5_setLength (l : Launch) (g : GG) (h_this : Nat) (h_this_lengths : Nat) (h_this_queue : Nat) {c_without : Int32} {c_lengths : Nat → Int32} {x1 : Int32} {x2 : Int32} {x3 : Int32} {Q : (Nat → Int32) → Prop} (h : wp_X5_setLength c_without c_lengths x1 x2 x3 Q) : CV l g yX5_setLength wsX5_setLength rm_X5_setLength [.ref h_this, .int x1, .int x2, .int x3] (cw_X5_setLength g h_this h_this_lengths h_this_queue c_without c_lengths) (S := (Nat → Int32)) (fun u => (cw_X5_setLength g h_this h_this_lengths h_this_queue c_without u)) (fun u => Q u) 0 0 := by
  refine mk_V (cc := cX5_setLength) (maxL := 4) (own := RX5) (by decide) rfl rfl (Nat.le_of_ble_eq_true rfl) ?_
  intro p e s m args below meth c A QQ E hret hP hD hS ls hl
  have E2 := E
  obtain ⟨hx, hb, hr, hml, hown, hts, hlocks, hA, hZ, hK, hnm⟩ := E2
  have f9 := hts (.fieldLink RX5 9 "WordBench$Pairs" "lengths" "[I") (by decide +kernel)
  have iX5 : ∀ w ∈ wsX50, w ∈ wsX5_setLength := fun _ h => List.mem_cons_of_mem _ (List.mem_append_right _ h)
  have hP : va_P g.1 vwCl (cw_X5_setLength g h_this h_this_lengths h_this_queue c_without c_lengths) s.heap := hP
  have hD : va_D A (cw_X5_setLength g h_this h_this_lengths h_this_queue c_without c_lengths) := hD
  have hl : lv_has ls 4 [(0, .ref h_this), (1, .int x1), (2, .int x2), (3, .int x3)] := hl
  unfold wp_X5_setLength at h
  refine lv_iload_n hx hb dX5_setLength_0 rfl (lv_at hl 1 rfl) ?_
  refine lv_if_lt (tgt := 32) hx hb dX5_setLength_1 (by decide) (fun cq => ?_) (fun cq => ?_)
  · replace h := h.1 cq
    exact hret c_lengths _ _ _ _ h hP hD hS dX5_setLength_32
  · replace h := h.2 cq
    refine lv_iload_n hx hb dX5_setLength_4 rfl (lv_at hl 1 rfl) ?_
    refine lv_bipush (v := (nI 12)) hx hb dX5_setLength_5 (by decide) ?_
    refine lv_icmp_ge (tgt := 32) hx hb dX5_setLength_7 (by decide) (fun cq => ?_) (fun cq => ?_)
    · replace h := h.1 cq
      exact hret c_lengths _ _ _ _ h hP hD hS dX5_setLength_32
    · replace h := h.2 cq
      refine lv_iload_n hx hb dX5_setLength_10 rfl (lv_at hl 2 rfl) ?_
      refine lv_if_lt (tgt := 32) hx hb dX5_setLength_11 (by decide) (fun cq => ?_) (fun cq => ?_)
      · replace h := h.1 cq
        exact hret c_lengths _ _ _ _ h hP hD hS dX5_setLength_32
      · replace h := h.2 cq
        refine lv_iload_n hx hb dX5_setLength_14 rfl (lv_at hl 2 rfl) ?_
        refine lv_bipush (v := (nI 12)) hx hb dX5_setLength_15 (by decide) ?_
        refine lv_icmp_ge (tgt := 32) hx hb dX5_setLength_17 (by decide) (fun cq => ?_) (fun cq => ?_)
        · replace h := h.1 cq
          exact hret c_lengths _ _ _ _ h hP hD hS dX5_setLength_32
        · replace h := h.2 cq
          refine lv_aload_n hx hb dX5_setLength_20 rfl (lv_at hl 0 rfl) ?_
          refine va_get (D := g.1) (ci := 4) (v := .ref h_this_lengths) (C := RX5) (T := TX5) (N := 3) hx hb hts iX5 hown hK hP 0 rfl rfl 0 (by decide) f9 (fun _ h9 => h9) rfl dX5_setLength_21 ?_
          refine lv_iload_n hx hb dX5_setLength_24 rfl (lv_at hl 1 rfl) ?_
          refine lv_bipush (v := (nI 12)) hx hb dX5_setLength_25 (by decide) ?_
          refine lv_imul hx hb dX5_setLength_27 ?_
          refine lv_iload_n hx hb dX5_setLength_28 rfl (lv_at hl 2 rfl) ?_
          refine lv_iadd hx hb dX5_setLength_29 ?_
          refine lv_iload_n hx hb dX5_setLength_30 rfl (lv_at hl 3 rfl) ?_
          obtain ⟨hi, h⟩ := h
          refine va_iast (D := g.1) (n := 144) (f := c_lengths) hx hb hK hP hD hS 1 0 rfl rfl hi dX5_setLength_31 (fun H locs hP hD hS => ?_)
          have hP : va_P g.1 vwCl (cw_X5_setLength g h_this h_this_lengths h_this_queue c_without (upd c_lengths (Int32.toNatClampNeg ((x1 * (nI 12)) + x2)) x3)) H := hP
          have hD : va_D A (cw_X5_setLength g h_this h_this_lengths h_this_queue c_without (upd c_lengths (Int32.toNatClampNeg ((x1 * (nI 12)) + x2)) x3)) := hD
          exact hret (upd c_lengths (Int32.toNatClampNeg ((x1 * (nI 12)) + x2)) x3) _ _ _ _ h hP hD hS dX5_setLength_32
abbrev cw_X5_lengthOf (g : GG) (h_this : Nat) (h_this_lengths : Nat) (h_this_queue : Nat) (c_without : Int32) (c_lengths : Nat → Int32) : va_W := [(h_this, .inr (4, [.ref h_this_lengths, .ref h_this_queue, .int c_without])), (h_this_lengths, .inl (g.2.1, 144, .inl c_lengths))]
def wp_X5_lengthOf (c_without : Int32) (c_lengths : Nat → Int32) (x1 : Int32) (x2 : Int32) (Q : Int32 → Prop) : Prop :=
    ((x1 < (nI 0) → Q (-1)) ∧ (¬ x1 < (nI 0) → (((nI 12) ≤ x1 → Q (-1)) ∧ (¬ (nI 12) ≤ x1 → ((x2 < (nI 0) → Q (-1)) ∧ (¬ x2 < (nI 0) → (((nI 12) ≤ x2 → Q (-1)) ∧ (¬ (nI 12) ≤ x2 → vp_in ((x1 * (nI 12)) + x2) 144 ∧ Q (c_lengths (Int32.toNatClampNeg ((x1 * (nI 12)) + x2)))))))))))
abbrev rm_X5_lengthOf : Room := { frames := 0, cells := 0, slots := 0, locals := 0 }
set_option maxHeartbeats 4000000 in
set_option maxRecDepth 100000 in
theorem k_X5_lengthOf (l : Launch) (g : GG) (h_this : Nat) (h_this_lengths : Nat) (h_this_queue : Nat) {c_without : Int32} {c_lengths : Nat → Int32} {x1 : Int32} {x2 : Int32} {Q : Int32 → Prop} (h : wp_X5_lengthOf c_without c_lengths x1 x2 Q) : CI l g yX5_lengthOf wsX5_lengthOf rm_X5_lengthOf [.ref h_this, .int x1, .int x2] (cw_X5_lengthOf g h_this h_this_lengths h_this_queue c_without c_lengths) (S := Unit) (fun _ => (cw_X5_lengthOf g h_this h_this_lengths h_this_queue c_without c_lengths)) (fun r _ => Q r) 0 0 := by
  refine mk_I (cc := cX5_lengthOf) (maxL := 3) (own := RX5) (by decide) rfl rfl (Nat.le_of_ble_eq_true rfl) ?_
  intro p e s m args below meth c A QQ E hret hP hD hS ls hl
  have E2 := E
  obtain ⟨hx, hb, hr, hml, hown, hts, hlocks, hA, hZ, hK, hnm⟩ := E2
  have f9 := hts (.fieldLink RX5 9 "WordBench$Pairs" "lengths" "[I") (by decide +kernel)
  have iX5 : ∀ w ∈ wsX50, w ∈ wsX5_lengthOf := fun _ h => List.mem_cons_of_mem _ (List.mem_append_right _ h)
  have hP : va_P g.1 vwCl (cw_X5_lengthOf g h_this h_this_lengths h_this_queue c_without c_lengths) s.heap := hP
  have hD : va_D A (cw_X5_lengthOf g h_this h_this_lengths h_this_queue c_without c_lengths) := hD
  have hl : lv_has ls 3 [(0, .ref h_this), (1, .int x1), (2, .int x2)] := hl
  unfold wp_X5_lengthOf at h
  refine lv_iload_n hx hb dX5_lengthOf_0 rfl (lv_at hl 1 rfl) ?_
  refine lv_if_lt (tgt := 34) hx hb dX5_lengthOf_1 (by decide) (fun cq => ?_) (fun cq => ?_)
  · replace h := h.1 cq
    refine lv_iconst (v := (-1)) hx hb dX5_lengthOf_34 (by decide) ?_
    exact hret (-1) () _ _ _ _ rfl h hP hD hS dX5_lengthOf_35
  · replace h := h.2 cq
    refine lv_iload_n hx hb dX5_lengthOf_4 rfl (lv_at hl 1 rfl) ?_
    refine lv_bipush (v := (nI 12)) hx hb dX5_lengthOf_5 (by decide) ?_
    refine lv_icmp_ge (tgt := 34) hx hb dX5_lengthOf_7 (by decide) (fun cq => ?_) (fun cq => ?_)
    · replace h := h.1 cq
      refine lv_iconst (v := (-1)) hx hb dX5_lengthOf_34 (by decide) ?_
      exact hret (-1) () _ _ _ _ rfl h hP hD hS dX5_lengthOf_35
    · replace h := h.2 cq
      refine lv_iload_n hx hb dX5_lengthOf_10 rfl (lv_at hl 2 rfl) ?_
      refine lv_if_lt (tgt := 34) hx hb dX5_lengthOf_11 (by decide) (fun cq => ?_) (fun cq => ?_)
      · replace h := h.1 cq
        refine lv_iconst (v := (-1)) hx hb dX5_lengthOf_34 (by decide) ?_
        exact hret (-1) () _ _ _ _ rfl h hP hD hS dX5_lengthOf_35
      · replace h := h.2 cq
        refine lv_iload_n hx hb dX5_lengthOf_14 rfl (lv_at hl 2 rfl) ?_
        refine lv_bipush (v := (nI 12)) hx hb dX5_lengthOf_15 (by decide) ?_
        refine lv_icmp_ge (tgt := 34) hx hb dX5_lengthOf_17 (by decide) (fun cq => ?_) (fun cq => ?_)
        · replace h := h.1 cq
          refine lv_iconst (v := (-1)) hx hb dX5_lengthOf_34 (by decide) ?_
          exact hret (-1) () _ _ _ _ rfl h hP hD hS dX5_lengthOf_35
        · replace h := h.2 cq
          refine lv_aload_n hx hb dX5_lengthOf_20 rfl (lv_at hl 0 rfl) ?_
          refine va_get (D := g.1) (ci := 4) (v := .ref h_this_lengths) (C := RX5) (T := TX5) (N := 3) hx hb hts iX5 hown hK hP 0 rfl rfl 0 (by decide) f9 (fun _ h9 => h9) rfl dX5_lengthOf_21 ?_
          refine lv_iload_n hx hb dX5_lengthOf_24 rfl (lv_at hl 1 rfl) ?_
          refine lv_bipush (v := (nI 12)) hx hb dX5_lengthOf_25 (by decide) ?_
          refine lv_imul hx hb dX5_lengthOf_27 ?_
          refine lv_iload_n hx hb dX5_lengthOf_28 rfl (lv_at hl 2 rfl) ?_
          refine lv_iadd hx hb dX5_lengthOf_29 ?_
          obtain ⟨hi, h⟩ := h
          refine va_iald (D := g.1) (n := 144) (f := c_lengths) hx hb hK hP 1 0 rfl rfl hi dX5_lengthOf_30 ?_
          refine lv_goto (tgt := 35) hx hb dX5_lengthOf_31 (by decide) ?_
          exact hret (c_lengths (Int32.toNatClampNeg ((x1 * (nI 12)) + x2))) () _ _ _ _ rfl h hP hD hS dX5_lengthOf_35
abbrev cw_X5_firstLetter (g : GG) (h_this : Nat) (h_m : Nat) (h_this_lengths : Nat) (h_this_queue : Nat) (h_m_moves : Nat) (h_m_lights : Nat) (h_m_prices : Nat) (h_m_shares : Nat) (c_without : Int32) (c_lengths : Nat → Int32) (c_m_states : Int32) (c_m_letters : Int32) (c_m_moves : Nat → Int32) : va_W := [(h_this, .inr (4, [.ref h_this_lengths, .ref h_this_queue, .int c_without])), (h_this_lengths, .inl (g.2.1, 144, .inl c_lengths)), (h_m, .inr (3, [.int c_m_states, .int c_m_letters, .ref h_m_moves, .ref h_m_lights, .ref h_m_prices, .ref h_m_shares])), (h_m_moves, .inl (g.2.1, 48, .inl c_m_moves))]
def L_X5_firstLetter_3 (c_without : Int32) (c_lengths : Nat → Int32) (c_m_states : Int32) (c_m_letters : Int32) (c_m_moves : Nat → Int32) (x2 : Int32) (x3 : Int32) (x4 : Int32) (Q : Int32 → Prop) : Nat → Int32 → Prop
  | 0, _ => False
  | n_3 + 1, x5 =>
    ((c_m_letters ≤ x5 → Q (-1)) ∧ (¬ c_m_letters ≤ x5 → wp_X4_target c_m_states c_m_letters c_m_moves x2 x5 (fun r4 => wp_X4_target c_m_states c_m_letters c_m_moves x3 x5 (fun r6 => wp_X5_lengthOf c_without c_lengths r4 r6 (fun r8 => ((¬ r8 = (x4 - (nI 1)) → (L_X5_firstLetter_3 c_without c_lengths c_m_states c_m_letters c_m_moves x2 x3 x4 Q n_3) (x5 + (nI 1))) ∧ (r8 = (x4 - (nI 1)) → Q x5)))))))
def wp_X5_firstLetter (c_without : Int32) (c_lengths : Nat → Int32) (c_m_states : Int32) (c_m_letters : Int32) (c_m_moves : Nat → Int32) (x2 : Int32) (x3 : Int32) (x4 : Int32) (Q : Int32 → Prop) : Prop :=
    ∃ n, L_X5_firstLetter_3 c_without c_lengths c_m_states c_m_letters c_m_moves x2 x3 x4 Q n (nI 0)
abbrev rm_X5_firstLetter : Room := { frames := 1, cells := 0, slots := 0, locals := 23 }
set_option maxHeartbeats 4000000 in
set_option maxRecDepth 100000 in
theorem k_X5_firstLetter (l : Launch) (g : GG) (h_this : Nat) (h_m : Nat) (h_this_lengths : Nat) (h_this_queue : Nat) (h_m_moves : Nat) (h_m_lights : Nat) (h_m_prices : Nat) (h_m_shares : Nat) {c_without : Int32} {c_lengths : Nat → Int32} {c_m_states : Int32} {c_m_letters : Int32} {c_m_moves : Nat → Int32} {x2 : Int32} {x3 : Int32} {x4 : Int32} {Q : Int32 → Prop} (h : wp_X5_firstLetter c_without c_lengths c_m_states c_m_letters c_m_moves x2 x3 x4 Q) : CI l g yX5_firstLetter wsX5_firstLetter rm_X5_firstLetter [.ref h_this, .ref h_m, .int x2, .int x3, .int x4] (cw_X5_firstLetter g h_this h_m h_this_lengths h_this_queue h_m_moves h_m_lights h_m_prices h_m_shares c_without c_lengths c_m_states c_m_letters c_m_moves) (S := Unit) (fun _ => (cw_X5_firstLetter g h_this h_m h_this_lengths h_this_queue h_m_moves h_m_lights h_m_prices h_m_shares c_without c_lengths c_m_states c_m_letters c_m_moves)) (fun r _ => Q r) 0 0 := by
  refine mk_I (cc := cX5_firstLetter) (maxL := 6) (own := RX5) (by decide) rfl rfl (Nat.le_of_ble_eq_true rfl) ?_
  intro p e s m args below meth c A QQ E hret hP hD hS ls hl
  have E2 := E
  obtain ⟨hx, hb, hr, hml, hown, hts, hlocks, hA, hZ, hK, hnm⟩ := E2
  have hP : va_P g.1 vwCl (cw_X5_firstLetter g h_this h_m h_this_lengths h_this_queue h_m_moves h_m_lights h_m_prices h_m_shares c_without c_lengths c_m_states c_m_letters c_m_moves) s.heap := hP
  have hD : va_D A (cw_X5_firstLetter g h_this h_m h_this_lengths h_this_queue h_m_moves h_m_lights h_m_prices h_m_shares c_without c_lengths c_m_states c_m_letters c_m_moves) := hD
  have hl : lv_has ls 6 [(0, .ref h_this), (1, .ref h_m), (2, .int x2), (3, .int x3), (4, .int x4)] := hl
  unfold wp_X5_firstLetter at h
  have K_3 : ∀ (n_3 : Nat) (x5 : Int32) , L_X5_firstLetter_3 c_without c_lengths c_m_states c_m_letters c_m_moves x2 x3 x4 Q n_3 x5 → ∀ (H : Heap) (locs : List Loc), va_P g.1 vwCl (cw_X5_firstLetter g h_this h_m h_this_lengths h_this_queue h_m_moves h_m_lights h_m_prices h_m_shares c_without c_lengths c_m_states c_m_letters c_m_moves) H → va_D A (cw_X5_firstLetter g h_this h_m h_this_lengths h_this_queue h_m_moves h_m_lights h_m_prices h_m_shares c_without c_lengths c_m_states c_m_letters c_m_moves) → va_S A s.heap H locs → ∀ ls : Array Slot, lv_has ls 6 [(0, .ref h_this), (1, .ref h_m), (2, .int x2), (3, .int x3), (4, .int x4), (5, .int x5)] → W p l e rm_X5_firstLetter s m args below meth c H locs 0 0 QQ (F0 m 3 ls []) := by
    intro n_3
    induction n_3 with
    | zero => intro x5; exact fun h => False.elim h
    | succ n_3 ih_3 =>
      intro x5 h H locs hP hD hS ls hl
      unfold L_X5_firstLetter_3 at h
      refine lv_iload hx hb dX5_firstLetter_3 (lv_at hl 5 rfl) ?_
      refine lv_aload_n hx hb dX5_firstLetter_5 rfl (lv_at hl 1 rfl) ?_
      refine go_I E (run_V E ((k_X4_letters l g h_m h_m_moves h_m_lights h_m_prices h_m_shares (Q := fun r => r = c_m_letters) rfl) _) (cwV 0 hts gX5_firstLetter_X4_letters rfl rfl rfl (by decide +kernel) ⟨Nat.le_of_ble_eq_true rfl, Nat.le_of_ble_eq_true rfl⟩) hP hD hS [2] rfl rfl 0 3 rfl rfl rfl hl rfl rfl (Nat.le_of_ble_eq_true rfl) dX5_firstLetter_6 ⟨Nat.le_of_ble_eq_true rfl, Nat.le_of_ble_eq_true rfl⟩) hP hD hS [2] rfl [(true, 0), (true, 1), (false, 0), (true, 3)] rfl (by decide) (fun _ => (cw_X5_firstLetter g h_this h_m h_this_lengths h_this_queue h_m_moves h_m_lights h_m_prices h_m_shares c_without c_lengths c_m_states c_m_letters c_m_moves)) (fun _ => rfl) (fun r2 _ H locs hr_ hP hD hS => ?_)
      have hr_ : c_m_letters = r2 := Eq.symm hr_
      subst hr_
      have hP : va_P g.1 vwCl (cw_X5_firstLetter g h_this h_m h_this_lengths h_this_queue h_m_moves h_m_lights h_m_prices h_m_shares c_without c_lengths c_m_states c_m_letters c_m_moves) H := hP
      have hD : va_D A (cw_X5_firstLetter g h_this h_m h_this_lengths h_this_queue h_m_moves h_m_lights h_m_prices h_m_shares c_without c_lengths c_m_states c_m_letters c_m_moves) := hD
      refine lv_icmp_ge (tgt := 46) hx hb dX5_firstLetter_9 (by decide) (fun cq => ?_) (fun cq => ?_)
      · replace h := h.1 cq
        refine lv_iconst (v := (-1)) hx hb dX5_firstLetter_46 (by decide) ?_
        exact hret (-1) () _ _ _ _ rfl h hP hD hS dX5_firstLetter_47
      · replace h := h.2 cq
        refine lv_aload_n hx hb dX5_firstLetter_12 rfl (lv_at hl 0 rfl) ?_
        refine lv_aload_n hx hb dX5_firstLetter_13 rfl (lv_at hl 1 rfl) ?_
        refine lv_iload_n hx hb dX5_firstLetter_14 rfl (lv_at hl 2 rfl) ?_
        refine lv_iload hx hb dX5_firstLetter_15 (lv_at hl 5 rfl) ?_
        refine go_I E (run_V E ((k_X4_target l g h_m h_m_moves h_m_lights h_m_prices h_m_shares h) _) (cwV 2 hts gX5_firstLetter_X4_target rfl rfl rfl (by decide +kernel) ⟨Nat.le_of_ble_eq_true rfl, Nat.le_of_ble_eq_true rfl⟩) hP hD hS [2, 3] rfl rfl 0 3 rfl rfl rfl hl rfl rfl (Nat.le_of_ble_eq_true rfl) dX5_firstLetter_17 ⟨Nat.le_of_ble_eq_true rfl, Nat.le_of_ble_eq_true rfl⟩) hP hD hS [2, 3] rfl [(true, 0), (true, 1), (false, 0), (false, 1)] rfl (by decide) (fun _ => (cw_X5_firstLetter g h_this h_m h_this_lengths h_this_queue h_m_moves h_m_lights h_m_prices h_m_shares c_without c_lengths c_m_states c_m_letters c_m_moves)) (fun _ => rfl) (fun r4 _ H locs h hP hD hS => ?_)
        try dsimp only at h
        have hP : va_P g.1 vwCl (cw_X5_firstLetter g h_this h_m h_this_lengths h_this_queue h_m_moves h_m_lights h_m_prices h_m_shares c_without c_lengths c_m_states c_m_letters c_m_moves) H := hP
        have hD : va_D A (cw_X5_firstLetter g h_this h_m h_this_lengths h_this_queue h_m_moves h_m_lights h_m_prices h_m_shares c_without c_lengths c_m_states c_m_letters c_m_moves) := hD
        refine lv_aload_n hx hb dX5_firstLetter_20 rfl (lv_at hl 1 rfl) ?_
        refine lv_iload_n hx hb dX5_firstLetter_21 rfl (lv_at hl 3 rfl) ?_
        refine lv_iload hx hb dX5_firstLetter_22 (lv_at hl 5 rfl) ?_
        refine go_I E (run_V E ((k_X4_target l g h_m h_m_moves h_m_lights h_m_prices h_m_shares h) _) (cwV 2 hts gX5_firstLetter_X4_target rfl rfl rfl (by decide +kernel) ⟨Nat.le_of_ble_eq_true rfl, Nat.le_of_ble_eq_true rfl⟩) hP hD hS [2, 3] rfl rfl 0 3 rfl rfl rfl hl rfl rfl (Nat.le_of_ble_eq_true rfl) dX5_firstLetter_24 ⟨Nat.le_of_ble_eq_true rfl, Nat.le_of_ble_eq_true rfl⟩) hP hD hS [2, 3] rfl [(true, 0), (true, 1), (false, 0), (false, 1)] rfl (by decide) (fun _ => (cw_X5_firstLetter g h_this h_m h_this_lengths h_this_queue h_m_moves h_m_lights h_m_prices h_m_shares c_without c_lengths c_m_states c_m_letters c_m_moves)) (fun _ => rfl) (fun r6 _ H locs h hP hD hS => ?_)
        try dsimp only at h
        have hP : va_P g.1 vwCl (cw_X5_firstLetter g h_this h_m h_this_lengths h_this_queue h_m_moves h_m_lights h_m_prices h_m_shares c_without c_lengths c_m_states c_m_letters c_m_moves) H := hP
        have hD : va_D A (cw_X5_firstLetter g h_this h_m h_this_lengths h_this_queue h_m_moves h_m_lights h_m_prices h_m_shares c_without c_lengths c_m_states c_m_letters c_m_moves) := hD
        refine go_I E (run_V E ((k_X5_lengthOf l g h_this h_this_lengths h_this_queue h) _) (cwV 2 hts gX5_firstLetter_X5_lengthOf rfl rfl rfl (by decide +kernel) ⟨Nat.le_of_ble_eq_true rfl, Nat.le_of_ble_eq_true rfl⟩) hP hD hS [0, 1] rfl rfl 0 4 rfl rfl rfl hl rfl rfl (Nat.le_of_ble_eq_true rfl) dX5_firstLetter_27 ⟨Nat.le_of_ble_eq_true rfl, Nat.le_of_ble_eq_true rfl⟩) hP hD hS [0, 1] rfl [(false, 0), (false, 1), (true, 2), (true, 3)] rfl (by decide) (fun _ => (cw_X5_firstLetter g h_this h_m h_this_lengths h_this_queue h_m_moves h_m_lights h_m_prices h_m_shares c_without c_lengths c_m_states c_m_letters c_m_moves)) (fun _ => rfl) (fun r8 _ H locs h hP hD hS => ?_)
        try dsimp only at h
        have hP : va_P g.1 vwCl (cw_X5_firstLetter g h_this h_m h_this_lengths h_this_queue h_m_moves h_m_lights h_m_prices h_m_shares c_without c_lengths c_m_states c_m_letters c_m_moves) H := hP
        have hD : va_D A (cw_X5_firstLetter g h_this h_m h_this_lengths h_this_queue h_m_moves h_m_lights h_m_prices h_m_shares c_without c_lengths c_m_states c_m_letters c_m_moves) := hD
        refine lv_iload hx hb dX5_firstLetter_30 (lv_at hl 4 rfl) ?_
        refine lv_iconst (v := (nI 1)) hx hb dX5_firstLetter_32 (by decide) ?_
        refine lv_isub hx hb dX5_firstLetter_33 ?_
        refine lv_icmp_ne (tgt := 40) hx hb dX5_firstLetter_34 (by decide) (fun cq => ?_) (fun cq => ?_)
        · replace h := h.1 cq
          refine lv_iinc (v := (x5 + (nI 1))) (lv' := [(5, .int (x5 + (nI 1))), (0, .ref h_this), (1, .ref h_m), (2, .int x2), (3, .int x3), (4, .int x4)]) hx hb dX5_firstLetter_40 hl (k := 5) rfl rfl (by decide) rfl (fun ls hl => ?_)
          refine lv_goto (tgt := 3) hx hb dX5_firstLetter_43 (by decide) ?_
          exact ih_3 (x5 + (nI 1)) h _ _ hP hD hS _ (lv_sub hl [1, 2, 3, 4, 5, 0] rfl)
        · replace h := h.2 cq
          refine lv_iload hx hb dX5_firstLetter_37 (lv_at hl 5 rfl) ?_
          exact hret x5 () _ _ _ _ rfl h hP hD hS dX5_firstLetter_39
  refine lv_iconst (v := (nI 0)) hx hb dX5_firstLetter_0 (by decide) ?_
  refine lv_istore (lv' := [(5, .int (nI 0)), (0, .ref h_this), (1, .ref h_m), (2, .int x2), (3, .int x3), (4, .int x4)]) hx hb dX5_firstLetter_1 hl (by decide) rfl (fun ls hl => ?_)
  obtain ⟨n, h⟩ := h
  exact K_3 n (nI 0) h _ _ hP hD hS _ (lv_sub hl [1, 2, 3, 4, 5, 0] rfl)
