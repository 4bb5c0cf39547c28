abbrev cw_X5_findOf (g : GG) (h_this : Nat) (h_m : Nat) (h_this_lengths : Nat) (h_this_queue : Nat) (h_m_moves : Nat) (h_m_lights : Nat) (h_m_prices : Nat) (h_m_shares : Nat) (c_without : Int32) (c_lengths : Nat → Int32) (c_m_states : Int32) (c_m_letters : Int32) (c_m_moves : Nat → Int32) : va_W := [(h_this, .inr (4, [.ref h_this_lengths, .ref h_this_queue, .int c_without])), (h_this_lengths, .inl (g.2.1, 144, .inl c_lengths)), (h_m, .inr (3, [.int c_m_states, .int c_m_letters, .ref h_m_moves, .ref h_m_lights, .ref h_m_prices, .ref h_m_shares])), (h_m_moves, .inl (g.2.1, 48, .inl c_m_moves))]
def J_X5_findOf_91 (R_5 : Int32 → Int32 → Int32 → (Nat → Int32) → Prop) (x3 : Int32) (x4 : Int32) (c_without : Int32) (c_lengths : Nat → Int32) : Prop :=
    R_5 x3 (x4 + (nI 1)) c_without c_lengths
def J_X5_findOf_85 (R_20 : Int32 → Int32 → Int32 → (Nat → Int32) → Prop) (x3 : Int32) (x5 : Int32) (c_without : Int32) (c_lengths : Nat → Int32) : Prop :=
    R_20 x3 (x5 + (nI 1)) c_without c_lengths
def L_X5_findOf_20 (c_m_states : Int32) (c_m_letters : Int32) (c_m_moves : Nat → Int32) (x2 : Int32) (x4 : Int32) (R_5 : Int32 → Int32 → Int32 → (Nat → Int32) → Prop) : Nat → Int32 → Int32 → Int32 → (Nat → Int32) → Prop
  | 0, _, _, _, _ => False
  | n_20 + 1, x3, x5, c_without, c_lengths =>
    ((c_m_states ≤ x5 → J_X5_findOf_91 R_5 x3 x4 c_without c_lengths) ∧ (¬ c_m_states ≤ x5 → wp_X5_lengthOf c_without c_lengths x4 x5 (fun r6 => ((¬ r6 = (-1) → J_X5_findOf_85 (L_X5_findOf_20 c_m_states c_m_letters c_m_moves x2 x4 R_5 n_20) x3 x5 c_without c_lengths) ∧ (r6 = (-1) → wp_X5_firstLetter c_without c_lengths c_m_states c_m_letters c_m_moves x4 x5 x2 (fun r8 => ((r8 = (-1) → J_X5_findOf_85 (L_X5_findOf_20 c_m_states c_m_letters c_m_moves x2 x4 R_5 n_20) x3 x5 c_without c_lengths) ∧ (¬ r8 = (-1) → wp_X5_setLength c_without c_lengths x4 x5 x2 (fun c_lengths => wp_X5_setLength c_without c_lengths x5 x4 x2 (fun c_lengths => J_X5_findOf_85 (L_X5_findOf_20 c_m_states c_m_letters c_m_moves x2 x4 R_5 n_20) (nI 1) x5 (c_without - (nI 1)) c_lengths))))))))))
def L_X5_findOf_5 (c_m_states : Int32) (c_m_letters : Int32) (c_m_moves : Nat → Int32) (x2 : Int32) (Q : Int32 → Int32 → (Nat → Int32) → Prop) : Nat → Int32 → Int32 → Int32 → (Nat → Int32) → Prop
  | 0, _, _, _, _ => False
  | n_5 + 1, x3, x4, c_without, c_lengths =>
    ((c_m_states ≤ x4 → (x3 = nI 0 ∨ x3 = nI 1) ∧ Q x3 c_without c_lengths) ∧ (¬ c_m_states ≤ x4 → ∃ n, L_X5_findOf_20 c_m_states c_m_letters c_m_moves x2 x4 (L_X5_findOf_5 c_m_states c_m_letters c_m_moves x2 Q n_5) n x3 (x4 + (nI 1)) c_without c_lengths))
def wp_X5_findOf (c_without : Int32) (c_lengths : Nat → Int32) (c_m_states : Int32) (c_m_letters : Int32) (c_m_moves : Nat → Int32) (x2 : Int32) (Q : Int32 → Int32 → (Nat → Int32) → Prop) : Prop :=
    ∃ n, L_X5_findOf_5 c_m_states c_m_letters c_m_moves x2 Q n (nI 0) (nI 0) c_without c_lengths
abbrev rm_X5_findOf : Room := { frames := 2, cells := 0, slots := 0, locals := 48 }
set_option maxHeartbeats 4000000 in
set_option maxRecDepth 100000 in
theorem k_X5_findOf (l : Launch) (g : GG) (h_this : Nat) (h_m : Nat) (h_this_lengths : Nat) (h_this_queue : Nat) (h_m_moves : Nat) (h_m_lights : Nat) (h_m_prices : Nat) (h_m_shares : Nat) {c_without : Int32} {c_lengths : Nat → Int32} {c_m_states : Int32} {c_m_letters : Int32} {c_m_moves : Nat → Int32} {x2 : Int32} {Q : Int32 → Int32 → (Nat → Int32) → Prop} (h : wp_X5_findOf c_without c_lengths c_m_states c_m_letters c_m_moves x2 Q) : CI l g yX5_findOf wsX5_findOf rm_X5_findOf [.ref h_this, .ref h_m, .int x2] (cw_X5_findOf g h_this h_m h_this_lengths h_this_queue h_m_moves h_m_lights h_m_prices h_m_shares c_without c_lengths c_m_states c_m_letters c_m_moves) (S := Int32 × (Nat → Int32)) (fun u => (cw_X5_findOf g h_this h_m h_this_lengths h_this_queue h_m_moves h_m_lights h_m_prices h_m_shares u.1 u.2 c_m_states c_m_letters c_m_moves)) (fun r u => Q r u.1 u.2) 0 0 := by
  refine mk_I (cc := cX5_findOf) (maxL := 6) (own := RX5) (by decide) rfl rfl (Nat.le_of_ble_eq_true rfl) ?_
  intro p e s m args below meth c A QQ E hret hP hD hS ls hl
  have E2 := E
  obtain ⟨hx, hb, hr, hml, hown, hts, hlocks, hA, hZ, hK, hnm⟩ := E2
  have f34 := hts (.fieldLink RX5 34 "WordBench$Pairs" "without" "I") (by decide +kernel)
  have iX5 : ∀ w ∈ wsX50, w ∈ wsX5_findOf := fun _ h => List.mem_cons_of_mem _ (List.mem_append_left _ (List.mem_append_right _ h))
  have hP : va_P g.1 vwCl (cw_X5_findOf g h_this h_m h_this_lengths h_this_queue h_m_moves h_m_lights h_m_prices h_m_shares c_without c_lengths c_m_states c_m_letters c_m_moves) s.heap := hP
  have hD : va_D A (cw_X5_findOf g h_this h_m h_this_lengths h_this_queue h_m_moves h_m_lights h_m_prices h_m_shares c_without c_lengths c_m_states c_m_letters c_m_moves) := hD
  have hl : lv_has ls 6 [(0, .ref h_this), (1, .ref h_m), (2, .int x2)] := hl
  unfold wp_X5_findOf at h
  have K_5 : ∀ (n_5 : Nat) (x3 : Int32) (x4 : Int32) (c_without : Int32) (c_lengths : Nat → Int32) , L_X5_findOf_5 c_m_states c_m_letters c_m_moves x2 Q n_5 x3 x4 c_without c_lengths → ∀ (H : Heap) (locs : List Loc), va_P g.1 vwCl (cw_X5_findOf g h_this h_m h_this_lengths h_this_queue h_m_moves h_m_lights h_m_prices h_m_shares c_without c_lengths c_m_states c_m_letters c_m_moves) H → va_D A (cw_X5_findOf g h_this h_m h_this_lengths h_this_queue h_m_moves h_m_lights h_m_prices h_m_shares c_without c_lengths c_m_states c_m_letters c_m_moves) → va_S A s.heap H locs → ∀ ls : Array Slot, lv_has ls 6 [(0, .ref h_this), (1, .ref h_m), (2, .int x2), (3, .int x3), (4, .int x4)] → W p l e rm_X5_findOf s m args below meth c H locs 0 0 QQ (F0 m 5 ls []) := by
    intro n_5
    induction n_5 with
    | zero => intro x3 x4 c_without c_lengths; exact fun h => False.elim h
    | succ n_5 ih_5 =>
      intro x3 x4 c_without c_lengths h H locs hP hD hS ls hl
      unfold L_X5_findOf_5 at h
      have K_91 : ∀ (x3 : Int32) (x4 : Int32) (c_without : Int32) (c_lengths : Nat → Int32) , J_X5_findOf_91 (L_X5_findOf_5 c_m_states c_m_letters c_m_moves x2 Q n_5) x3 x4 c_without c_lengths → ∀ (H : Heap) (locs : List Loc), va_P g.1 vwCl (cw_X5_findOf g h_this h_m h_this_lengths h_this_queue h_m_moves h_m_lights h_m_prices h_m_shares c_without c_lengths c_m_states c_m_letters c_m_moves) H → va_D A (cw_X5_findOf g h_this h_m h_this_lengths h_this_queue h_m_moves h_m_lights h_m_prices h_m_shares c_without c_lengths c_m_states c_m_letters c_m_moves) → va_S A s.heap H locs → ∀ ls : Array Slot, lv_has ls 6 [(0, .ref h_this), (1, .ref h_m), (2, .int x2), (3, .int x3), (4, .int x4)] → W p l e rm_X5_findOf s m args below meth c H locs 0 0 QQ (F0 m 91 ls []) := by
        intro x3 x4 c_without c_lengths h H locs hP hD hS ls hl
        unfold J_X5_findOf_91 at h
        refine lv_iinc (v := (x4 + (nI 1))) (lv' := [(4, .int (x4 + (nI 1))), (0, .ref h_this), (1, .ref h_m), (2, .int x2), (3, .int x3)]) hx hb dX5_findOf_91 hl (k := 4) rfl rfl (by decide) rfl (fun ls hl => ?_)
        refine lv_goto (tgt := 5) hx hb dX5_findOf_94 (by decide) ?_
        exact ih_5 x3 (x4 + (nI 1)) c_without c_lengths h _ _ hP hD hS _ (lv_sub hl [1, 2, 3, 4, 0] rfl)
      have K_20 : ∀ (x4 : Int32) (n_20 : Nat) (x3 : Int32) (x5 : Int32) (c_without : Int32) (c_lengths : Nat → Int32) , L_X5_findOf_20 c_m_states c_m_letters c_m_moves x2 x4 (L_X5_findOf_5 c_m_states c_m_letters c_m_moves x2 Q n_5) n_20 x3 x5 c_without c_lengths → ∀ (H : Heap) (locs : List Loc), va_P g.1 vwCl (cw_X5_findOf g h_this h_m h_this_lengths h_this_queue h_m_moves h_m_lights h_m_prices h_m_shares c_without c_lengths c_m_states c_m_letters c_m_moves) H → va_D A (cw_X5_findOf g h_this h_m h_this_lengths h_this_queue h_m_moves h_m_lights h_m_prices h_m_shares c_without c_lengths c_m_states c_m_letters c_m_moves) → va_S A s.heap H locs → ∀ ls : Array Slot, lv_has ls 6 [(0, .ref h_this), (1, .ref h_m), (2, .int x2), (3, .int x3), (4, .int x4), (5, .int x5)] → W p l e rm_X5_findOf s m args below meth c H locs 0 0 QQ (F0 m 20 ls []) := by
        intro x4 n_20
        induction n_20 with
        | zero => intro x3 x5 c_without c_lengths; exact fun h => False.elim h
        | succ n_20 ih_20 =>
          intro x3 x5 c_without c_lengths h H locs hP hD hS ls hl
          unfold L_X5_findOf_20 at h
          have K_85 : ∀ (x3 : Int32) (x5 : Int32) (c_without : Int32) (c_lengths : Nat → Int32) , J_X5_findOf_85 (L_X5_findOf_20 c_m_states c_m_letters c_m_moves x2 x4 (L_X5_findOf_5 c_m_states c_m_letters c_m_moves x2 Q n_5) n_20) x3 x5 c_without c_lengths → ∀ (H : Heap) (locs : List Loc), va_P g.1 vwCl (cw_X5_findOf g h_this h_m h_this_lengths h_this_queue h_m_moves h_m_lights h_m_prices h_m_shares c_without c_lengths c_m_states c_m_letters c_m_moves) H → va_D A (cw_X5_findOf g h_this h_m h_this_lengths h_this_queue h_m_moves h_m_lights h_m_prices h_m_shares c_without c_lengths c_m_states c_m_letters c_m_moves) → va_S A s.heap H locs → ∀ ls : Array Slot, lv_has ls 6 [(0, .ref h_this), (1, .ref h_m), (2, .int x2), (3, .int x3), (4, .int x4), (5, .int x5)] → W p l e rm_X5_findOf s m args below meth c H locs 0 0 QQ (F0 m 85 ls []) := by
            intro x3 x5 c_without c_lengths h H locs hP hD hS ls hl
            unfold J_X5_findOf_85 at h
            refine lv_iinc (v := (x5 + (nI 1))) (lv' := [(5, .int (x5 + (nI 1))), (0, .ref h_this), (1, .ref h_m), (2, .int x2), (3, .int x3), (4, .int x4)]) hx hb dX5_findOf_85 hl (k := 5) rfl rfl (by decide) rfl (fun ls hl => ?_)
            refine lv_goto (tgt := 20) hx hb dX5_findOf_88 (by decide) ?_
            exact ih_20 x3 (x5 + (nI 1)) c_without c_lengths h _ _ hP hD hS _ (lv_sub hl [1, 2, 3, 4, 5, 0] rfl)
          refine lv_iload hx hb dX5_findOf_20 (lv_at hl 5 rfl) ?_
          refine lv_aload_n hx hb dX5_findOf_22 rfl (lv_at hl 1 rfl) ?_
          refine go_I E (run_V E ((k_X4_states l g h_m h_m_moves h_m_lights h_m_prices h_m_shares (Q := fun r => r = c_m_states) rfl) _) (cwV 0 hts gX5_findOf_X4_states rfl rfl rfl (by decide +kernel) ⟨Nat.le_of_ble_eq_true rfl, Nat.le_of_ble_eq_true rfl⟩) hP hD hS [2] rfl rfl 0 3 rfl rfl rfl hl rfl rfl (Nat.le_of_ble_eq_true rfl) dX5_findOf_23 ⟨Nat.le_of_ble_eq_true rfl, Nat.le_of_ble_eq_true rfl⟩) hP hD hS [2] rfl [(true, 0), (true, 1), (false, 0), (true, 3)] rfl (by decide) (fun _ => (cw_X5_findOf g h_this h_m h_this_lengths h_this_queue h_m_moves h_m_lights h_m_prices h_m_shares c_without c_lengths c_m_states c_m_letters c_m_moves)) (fun _ => rfl) (fun r4 _ H locs hr_ hP hD hS => ?_)
          have hr_ : c_m_states = r4 := Eq.symm hr_
          subst hr_
          have hP : va_P g.1 vwCl (cw_X5_findOf g h_this h_m h_this_lengths h_this_queue h_m_moves h_m_lights h_m_prices h_m_shares c_without c_lengths c_m_states c_m_letters c_m_moves) H := hP
          have hD : va_D A (cw_X5_findOf g h_this h_m h_this_lengths h_this_queue h_m_moves h_m_lights h_m_prices h_m_shares c_without c_lengths c_m_states c_m_letters c_m_moves) := hD
          refine lv_icmp_ge (tgt := 91) hx hb dX5_findOf_26 (by decide) (fun cq => ?_) (fun cq => ?_)
          · replace h := h.1 cq
            exact K_91 x3 x4 c_without c_lengths h _ _ hP hD hS _ (lv_sub hl [0, 1, 2, 3, 4] rfl)
          · replace h := h.2 cq
            refine lv_aload_n hx hb dX5_findOf_29 rfl (lv_at hl 0 rfl) ?_
            refine lv_iload hx hb dX5_findOf_30 (lv_at hl 4 rfl) ?_
            refine lv_iload hx hb dX5_findOf_32 (lv_at hl 5 rfl) ?_
            refine go_I E (run_V E ((k_X5_lengthOf l g h_this h_this_lengths h_this_queue h) _) (cwV 2 hts gX5_findOf_X5_lengthOf rfl rfl rfl (by decide +kernel) ⟨Nat.le_of_ble_eq_true rfl, Nat.le_of_ble_eq_true rfl⟩) hP hD hS [0, 1] rfl rfl 0 4 rfl rfl rfl hl rfl rfl (Nat.le_of_ble_eq_true rfl) dX5_findOf_34 ⟨Nat.le_of_ble_eq_true rfl, Nat.le_of_ble_eq_true rfl⟩) hP hD hS [0, 1] rfl [(false, 0), (false, 1), (true, 2), (true, 3)] rfl (by decide) (fun _ => (cw_X5_findOf g h_this h_m h_this_lengths h_this_queue h_m_moves h_m_lights h_m_prices h_m_shares c_without c_lengths c_m_states c_m_letters c_m_moves)) (fun _ => rfl) (fun r6 _ H locs h hP hD hS => ?_)
            try dsimp only at h
            have hP : va_P g.1 vwCl (cw_X5_findOf g h_this h_m h_this_lengths h_this_queue h_m_moves h_m_lights h_m_prices h_m_shares c_without c_lengths c_m_states c_m_letters c_m_moves) H := hP
            have hD : va_D A (cw_X5_findOf g h_this h_m h_this_lengths h_this_queue h_m_moves h_m_lights h_m_prices h_m_shares c_without c_lengths c_m_states c_m_letters c_m_moves) := hD
            refine lv_iconst (v := (-1)) hx hb dX5_findOf_37 (by decide) ?_
            refine lv_icmp_ne (tgt := 85) hx hb dX5_findOf_38 (by decide) (fun cq => ?_) (fun cq => ?_)
            · replace h := h.1 cq
              exact K_85 x3 x5 c_without c_lengths h _ _ hP hD hS _ (lv_sub hl [0, 1, 2, 3, 4, 5] rfl)
            · replace h := h.2 cq
              refine lv_aload_n hx hb dX5_findOf_41 rfl (lv_at hl 0 rfl) ?_
              refine lv_aload_n hx hb dX5_findOf_42 rfl (lv_at hl 1 rfl) ?_
              refine lv_iload hx hb dX5_findOf_43 (lv_at hl 4 rfl) ?_
              refine lv_iload hx hb dX5_findOf_45 (lv_at hl 5 rfl) ?_
              refine lv_iload_n hx hb dX5_findOf_47 rfl (lv_at hl 2 rfl) ?_
              refine go_I E (run_V E ((k_X5_firstLetter l g h_this h_m h_this_lengths h_this_queue h_m_moves h_m_lights h_m_prices h_m_shares h) _) (cwV 4 hts gX5_findOf_X5_firstLetter rfl rfl rfl (by decide +kernel) ⟨Nat.le_of_ble_eq_true rfl, Nat.le_of_ble_eq_true rfl⟩) hP hD hS [0, 1, 2, 3] rfl rfl 0 4 rfl rfl rfl hl rfl rfl (Nat.le_of_ble_eq_true rfl) dX5_findOf_48 ⟨Nat.le_of_ble_eq_true rfl, Nat.le_of_ble_eq_true rfl⟩) hP hD hS [0, 1, 2, 3] rfl [(false, 0), (false, 1), (false, 2), (false, 3)] rfl (by decide) (fun _ => (cw_X5_findOf g h_this h_m h_this_lengths h_this_queue h_m_moves h_m_lights h_m_prices h_m_shares c_without c_lengths c_m_states c_m_letters c_m_moves)) (fun _ => rfl) (fun r8 _ H locs h hP hD hS => ?_)
              try dsimp only at h
              have hP : va_P g.1 vwCl (cw_X5_findOf g h_this h_m h_this_lengths h_this_queue h_m_moves h_m_lights h_m_prices h_m_shares c_without c_lengths c_m_states c_m_letters c_m_moves) H := hP
              have hD : va_D A (cw_X5_findOf g h_this h_m h_this_lengths h_this_queue h_m_moves h_m_lights h_m_prices h_m_shares c_without c_lengths c_m_states c_m_letters c_m_moves) := hD
              refine lv_iconst (v := (-1)) hx hb dX5_findOf_51 (by decide) ?_
              refine lv_icmp_eq (tgt := 85) hx hb dX5_findOf_52 (by decide) (fun cq => ?_) (fun cq => ?_)
              · replace h := h.1 cq
                exact K_85 x3 x5 c_without c_lengths h _ _ hP hD hS _ (lv_sub hl [0, 1, 2, 3, 4, 5] rfl)
              · replace h := h.2 cq
                refine lv_aload_n hx hb dX5_findOf_55 rfl (lv_at hl 0 rfl) ?_
                refine lv_iload hx hb dX5_findOf_56 (lv_at hl 4 rfl) ?_
                refine lv_iload hx hb dX5_findOf_58 (lv_at hl 5 rfl) ?_
                refine lv_iload_n hx hb dX5_findOf_60 rfl (lv_at hl 2 rfl) ?_
                refine go_V E (run_V E ((k_X5_setLength l g h_this h_this_lengths h_this_queue h) _) (cwV 3 hts gX5_findOf_X5_setLength rfl rfl rfl (by decide +kernel) ⟨Nat.le_of_ble_eq_true rfl, Nat.le_of_ble_eq_true rfl⟩) hP hD hS [0, 1] rfl rfl 0 4 rfl rfl rfl hl rfl rfl (Nat.le_of_ble_eq_true rfl) dX5_findOf_61 ⟨Nat.le_of_ble_eq_true rfl, Nat.le_of_ble_eq_true rfl⟩) hP hD hS [0, 1] rfl [(false, 0), (false, 1), (true, 2), (true, 3)] rfl (by decide) (fun u => (cw_X5_findOf g h_this h_m h_this_lengths h_this_queue h_m_moves h_m_lights h_m_prices h_m_shares c_without u c_m_states c_m_letters c_m_moves)) (fun _ => rfl) (fun c_lengths H locs h hP hD hS => ?_)
                try dsimp only at h
                have hP : va_P g.1 vwCl (cw_X5_findOf g h_this h_m h_this_lengths h_this_queue h_m_moves h_m_lights h_m_prices h_m_shares c_without c_lengths c_m_states c_m_letters c_m_moves) H := hP
                have hD : va_D A (cw_X5_findOf g h_this h_m h_this_lengths h_this_queue h_m_moves h_m_lights h_m_prices h_m_shares c_without c_lengths c_m_states c_m_letters c_m_moves) := hD
                refine lv_aload_n hx hb dX5_findOf_64 rfl (lv_at hl 0 rfl) ?_
                refine lv_iload hx hb dX5_findOf_65 (lv_at hl 5 rfl) ?_
                refine lv_iload hx hb dX5_findOf_67 (lv_at hl 4 rfl) ?_
                refine lv_iload_n hx hb dX5_findOf_69 rfl (lv_at hl 2 rfl) ?_
                refine go_V E (run_V E ((k_X5_setLength l g h_this h_this_lengths h_this_queue h) _) (cwV 3 hts gX5_findOf_X5_setLength rfl rfl rfl (by decide +kernel) ⟨Nat.le_of_ble_eq_true rfl, Nat.le_of_ble_eq_true rfl⟩) hP hD hS [0, 1] rfl rfl 0 4 rfl rfl rfl hl rfl rfl (Nat.le_of_ble_eq_true rfl) dX5_findOf_70 ⟨Nat.le_of_ble_eq_true rfl, Nat.le_of_ble_eq_true rfl⟩) hP hD hS [0, 1] rfl [(false, 0), (false, 1), (true, 2), (true, 3)] rfl (by decide) (fun u => (cw_X5_findOf g h_this h_m h_this_lengths h_this_queue h_m_moves h_m_lights h_m_prices h_m_shares c_without u c_m_states c_m_letters c_m_moves)) (fun _ => rfl) (fun c_lengths H locs h hP hD hS => ?_)
                try dsimp only at h
                have hP : va_P g.1 vwCl (cw_X5_findOf g h_this h_m h_this_lengths h_this_queue h_m_moves h_m_lights h_m_prices h_m_shares c_without c_lengths c_m_states c_m_letters c_m_moves) H := hP
                have hD : va_D A (cw_X5_findOf g h_this h_m h_this_lengths h_this_queue h_m_moves h_m_lights h_m_prices h_m_shares c_without c_lengths c_m_states c_m_letters c_m_moves) := hD
                refine lv_aload_n hx hb dX5_findOf_73 rfl (lv_at hl 0 rfl) ?_
                refine lv_dup hx hb dX5_findOf_74 rfl ?_
                refine va_get (D := g.1) (ci := 4) (v := .int c_without) (C := RX5) (T := TX5) (N := 3) hx hb hts iX5 hown hK hP 0 rfl rfl 2 (by decide) f34 (fun _ h9 => h9) rfl dX5_findOf_75 ?_
                refine lv_iconst (v := (nI 1)) hx hb dX5_findOf_78 (by decide) ?_
                refine lv_isub hx hb dX5_findOf_79 ?_
                refine va_put (D := g.1) (ci := 4) (v := .int (c_without - (nI 1))) (ty := .int) (C := RX5) (T := TX5) (N := 3) hx hb hts iX5 tyX5 tyX5_ok nmX5 hown hK hP hD hS 0 rfl rfl 2 (by decide) f34 (fun _ h9 => h9) rfl (by decide +kernel) rfl rfl (Nat.le_of_ble_eq_true rfl) dX5_findOf_80 (fun H locs hP hD hS => ?_)
                have hP : va_P g.1 vwCl (cw_X5_findOf g h_this h_m h_this_lengths h_this_queue h_m_moves h_m_lights h_m_prices h_m_shares (c_without - (nI 1)) c_lengths c_m_states c_m_letters c_m_moves) H := hP
                have hD : va_D A (cw_X5_findOf g h_this h_m h_this_lengths h_this_queue h_m_moves h_m_lights h_m_prices h_m_shares (c_without - (nI 1)) c_lengths c_m_states c_m_letters c_m_moves) := hD
                refine lv_iconst (v := (nI 1)) hx hb dX5_findOf_83 (by decide) ?_
                refine lv_istore_n (lv' := [(3, .int (nI 1)), (0, .ref h_this), (1, .ref h_m), (2, .int x2), (4, .int x4), (5, .int x5)]) hx hb dX5_findOf_84 rfl hl (by decide) rfl (fun ls hl => ?_)
                exact K_85 (nI 1) x5 (c_without - (nI 1)) c_lengths h _ _ hP hD hS _ (lv_sub hl [1, 2, 3, 0, 4, 5] rfl)
      refine lv_iload hx hb dX5_findOf_5 (lv_at hl 4 rfl) ?_
      refine lv_aload_n hx hb dX5_findOf_7 rfl (lv_at hl 1 rfl) ?_
      refine go_I E (run_V E ((k_X4_states l g h_m h_m_moves h_m_lights h_m_prices h_m_shares (Q := fun r => r = c_m_states) rfl) _) (cwV 0 hts gX5_findOf_X4_states rfl rfl rfl (by decide +kernel) ⟨Nat.le_of_ble_eq_true rfl, Nat.le_of_ble_eq_true rfl⟩) hP hD hS [2] rfl rfl 0 3 rfl rfl rfl hl rfl rfl (Nat.le_of_ble_eq_true rfl) dX5_findOf_8 ⟨Nat.le_of_ble_eq_true rfl, Nat.le_of_ble_eq_true rfl⟩) hP hD hS [2] rfl [(true, 0), (true, 1), (false, 0), (true, 3)] rfl (by decide) (fun _ => (cw_X5_findOf g h_this h_m h_this_lengths h_this_queue h_m_moves h_m_lights h_m_prices h_m_shares c_without c_lengths c_m_states c_m_letters c_m_moves)) (fun _ => rfl) (fun r2 _ H locs hr_ hP hD hS => ?_)
      have hr_ : c_m_states = r2 := Eq.symm hr_
      subst hr_
      have hP : va_P g.1 vwCl (cw_X5_findOf g h_this h_m h_this_lengths h_this_queue h_m_moves h_m_lights h_m_prices h_m_shares c_without c_lengths c_m_states c_m_letters c_m_moves) H := hP
      have hD : va_D A (cw_X5_findOf g h_this h_m h_this_lengths h_this_queue h_m_moves h_m_lights h_m_prices h_m_shares c_without c_lengths c_m_states c_m_letters c_m_moves) := hD
      refine lv_icmp_ge (tgt := 97) hx hb dX5_findOf_11 (by decide) (fun cq => ?_) (fun cq => ?_)
      · replace h := h.1 cq
        refine lv_iload_n hx hb dX5_findOf_97 rfl (lv_at hl 3 rfl) ?_
        exact hret x3 (c_without, c_lengths) _ _ _ _ (nbv h.1) h.2 hP hD hS dX5_findOf_98
      · replace h := h.2 cq
        refine lv_iload hx hb dX5_findOf_14 (lv_at hl 4 rfl) ?_
        refine lv_iconst (v := (nI 1)) hx hb dX5_findOf_16 (by decide) ?_
        refine lv_iadd hx hb dX5_findOf_17 ?_
        refine lv_istore (lv' := [(5, .int (x4 + (nI 1))), (0, .ref h_this), (1, .ref h_m), (2, .int x2), (3, .int x3), (4, .int x4)]) hx hb dX5_findOf_18 hl (by decide) rfl (fun ls hl => ?_)
        obtain ⟨n, h⟩ := h
        exact K_20 x4 n x3 (x4 + (nI 1)) c_without c_lengths h _ _ hP hD hS _ (lv_sub hl [1, 2, 3, 4, 5, 0] rfl)
  refine lv_iconst (v := (nI 0)) hx hb dX5_findOf_0 (by decide) ?_
  refine lv_istore_n (lv' := [(3, .int (nI 0)), (0, .ref h_this), (1, .ref h_m), (2, .int x2)]) hx hb dX5_findOf_1 rfl hl (by decide) rfl (fun ls hl => ?_)
  refine lv_iconst (v := (nI 0)) hx hb dX5_findOf_2 (by decide) ?_
  refine lv_istore (lv' := [(4, .int (nI 0)), (3, .int (nI 0)), (0, .ref h_this), (1, .ref h_m), (2, .int x2)]) hx hb dX5_findOf_3 hl (by decide) rfl (fun ls hl => ?_)
  obtain ⟨n, h⟩ := h
  exact K_5 n (nI 0) (nI 0) c_without c_lengths h _ _ hP hD hS _ (lv_sub hl [2, 3, 4, 1, 0] rfl)
abbrev cw_X5_load (g : GG) (h_this : Nat) (h_m : Nat) (h_this_lengths : Nat) (h_this_queue : Nat) (h_m_moves : Nat) (h_m_lights : Nat) (h_m_prices : Nat) (h_m_shares : Nat) (c_without : Int32) (c_lengths : Nat → Int32) (c_m_states : Int32) (c_m_letters : Int32) (c_m_moves : Nat → Int32) : va_W := [(h_this, .inr (4, [.ref h_this_lengths, .ref h_this_queue, .int c_without])), (h_this_lengths, .inl (g.2.1, 144, .inl c_lengths)), (h_m, .inr (3, [.int c_m_states, .int c_m_letters, .ref h_m_moves, .ref h_m_lights, .ref h_m_prices, .ref h_m_shares])), (h_m_moves, .inl (g.2.1, 48, .inl c_m_moves))]
def L_X5_load_52 (c_m_states : Int32) (c_m_letters : Int32) (c_m_moves : Nat → Int32) (Q : Int32 → (Nat → Int32) → Prop) : Nat → Int32 → Int32 → Int32 → (Nat → Int32) → Prop
  | 0, _, _, _, _ => False
  | n_52 + 1, x2, x3, c_without, c_lengths =>
    (((nI 144) < x3 → Q c_without c_lengths) ∧ (¬ (nI 144) < x3 → ((x2 = (nI 0) → Q c_without c_lengths) ∧ (¬ x2 = (nI 0) → wp_X5_findOf c_without c_lengths c_m_states c_m_letters c_m_moves x3 (fun r10 c_without c_lengths => (L_X5_load_52 c_m_states c_m_letters c_m_moves Q n_52) r10 (x3 + (nI 1)) c_without c_lengths)))))
def J_X5_load_31 (c_m_states : Int32) (c_m_letters : Int32) (c_m_moves : Nat → Int32) (Q : Int32 → (Nat → Int32) → Prop) (c_lengths : Nat → Int32) : Prop :=
    ∃ n, L_X5_load_52 c_m_states c_m_letters c_m_moves Q n (nI 1) (nI 1) ((c_m_states * (c_m_states - (nI 1))) / (nI 2)) c_lengths
def L_X5_load_10 (c_without : Int32) (c_m_states : Int32) (c_m_letters : Int32) (c_m_moves : Nat → Int32) (Q : Int32 → (Nat → Int32) → Prop) : Nat → Int32 → (Nat → Int32) → Prop
  | 0, _, _ => False
  | n_10 + 1, x2, c_lengths =>
    ((c_m_states ≤ x2 → J_X5_load_31 c_m_states c_m_letters c_m_moves Q c_lengths) ∧ (¬ c_m_states ≤ x2 → wp_X5_setLength c_without c_lengths x2 x2 (nI 0) (fun c_lengths => (L_X5_load_10 c_without c_m_states c_m_letters c_m_moves Q n_10) (x2 + (nI 1)) c_lengths)))
def wp_X5_load (c_without : Int32) (c_lengths : Nat → Int32) (c_m_states : Int32) (c_m_letters : Int32) (c_m_moves : Nat → Int32) (Q : Int32 → (Nat → Int32) → Prop) : Prop :=
    wp_J7_fill_53178 144 c_lengths (-1) (fun c_lengths => ∃ n, L_X5_load_10 c_without c_m_states c_m_letters c_m_moves Q n (nI 0) c_lengths)
abbrev rm_X5_load : Room := { frames := 3, cells := 0, slots := 0, locals := 73 }
set_option maxHeartbeats 4000000 in
set_option maxRecDepth 100000 in
theorem k_X5_load (l : Launch) (g : GG) (h_this : Nat) (h_m : Nat) (h_this_lengths : Nat) (h_this_queue : Nat) (h_m_moves : Nat) (h_m_lights : Nat) (h_m_prices : Nat) (h_m_shares : Nat) {c_without : Int32} {c_lengths : Nat → Int32} {c_m_states : Int32} {c_m_letters : Int32} {c_m_moves : Nat → Int32} {Q : Int32 → (Nat → Int32) → Prop} (h : wp_X5_load c_without c_lengths c_m_states c_m_letters c_m_moves Q) : CV l g yX5_load wsX5_load rm_X5_load [.ref h_this, .ref h_m] (cw_X5_load g h_this h_m h_this_lengths h_this_queue h_m_moves h_m_lights h_m_prices h_m_shares c_without c_lengths c_m_states c_m_letters c_m_moves) (S := Int32 × (Nat → Int32)) (fun u => (cw_X5_load g h_this h_m h_this_lengths h_this_queue h_m_moves h_m_lights h_m_prices h_m_shares u.1 u.2 c_m_states c_m_letters c_m_moves)) (fun u => Q u.1 u.2) 0 0 := by
  refine mk_V (cc := cX5_load) (maxL := 4) (own := RX5) (by decide) rfl rfl (Nat.le_of_ble_eq_true rfl) ?_
  intro p e s m args below meth c A QQ E hret hP hD hS ls hl
  have E2 := E
  obtain ⟨hx, hb, hr, hml, hown, hts, hlocks, hA, hZ, hK, hnm⟩ := E2
  have f9 := hts (.fieldLink RX5 9 "WordBench$Pairs" "lengths" "[I") (by decide +kernel)
  have f34 := hts (.fieldLink RX5 34 "WordBench$Pairs" "without" "I") (by decide +kernel)
  have iX5 : ∀ w ∈ wsX50, w ∈ wsX5_load := fun _ h => List.mem_cons_of_mem _ (List.mem_append_left _ (List.mem_append_right _ h))
  have hP : va_P g.1 vwCl (cw_X5_load g h_this h_m h_this_lengths h_this_queue h_m_moves h_m_lights h_m_prices h_m_shares c_without c_lengths c_m_states c_m_letters c_m_moves) s.heap := hP
  have hD : va_D A (cw_X5_load g h_this h_m h_this_lengths h_this_queue h_m_moves h_m_lights h_m_prices h_m_shares c_without c_lengths c_m_states c_m_letters c_m_moves) := hD
  have hl : lv_has ls 4 [(0, .ref h_this), (1, .ref h_m)] := hl
  unfold wp_X5_load at h
  have K_52 : ∀ (n_52 : Nat) (x2 : Int32) (x3 : Int32) (c_without : Int32) (c_lengths : Nat → Int32) , L_X5_load_52 c_m_states c_m_letters c_m_moves Q n_52 x2 x3 c_without c_lengths → ∀ (H : Heap) (locs : List Loc), va_P g.1 vwCl (cw_X5_load g h_this h_m h_this_lengths h_this_queue h_m_moves h_m_lights h_m_prices h_m_shares c_without c_lengths c_m_states c_m_letters c_m_moves) H → va_D A (cw_X5_load g h_this h_m h_this_lengths h_this_queue h_m_moves h_m_lights h_m_prices h_m_shares c_without c_lengths c_m_states c_m_letters c_m_moves) → va_S A s.heap H locs → ∀ ls : Array Slot, lv_has ls 4 [(0, .ref h_this), (1, .ref h_m), (2, .int x2), (3, .int x3)] → W p l e rm_X5_load s m args below meth c H locs 0 0 QQ (F0 m 52 ls []) := by
    intro n_52
    induction n_52 with
    | zero => intro x2 x3 c_without c_lengths; exact fun h => False.elim h
    | succ n_52 ih_52 =>
      intro x2 x3 c_without c_lengths h H locs hP hD hS ls hl
      unfold L_X5_load_52 at h
      refine lv_iload_n hx hb dX5_load_52 rfl (lv_at hl 3 rfl) ?_
      refine lv_sipush (v := (nI 144)) hx hb dX5_load_53 (by decide) ?_
      refine lv_icmp_gt (tgt := 76) hx hb dX5_load_56 (by decide) (fun cq => ?_) (fun cq => ?_)
      · replace h := h.1 cq
        exact hret (c_without, c_lengths) _ _ _ _ h hP hD hS dX5_load_76
      · replace h := h.2 cq
        refine lv_iload_n hx hb dX5_load_59 rfl (lv_at hl 2 rfl) ?_
        refine lv_if_eq (tgt := 76) hx hb dX5_load_60 (by decide) (fun cq => ?_) (fun cq => ?_)
        · replace h := h.1 cq
          exact hret (c_without, c_lengths) _ _ _ _ h hP hD hS dX5_load_76
        · replace h := h.2 cq
          refine lv_aload_n hx hb dX5_load_63 rfl (lv_at hl 0 rfl) ?_
          refine lv_aload_n hx hb dX5_load_64 rfl (lv_at hl 1 rfl) ?_
          refine lv_iload_n hx hb dX5_load_65 rfl (lv_at hl 3 rfl) ?_
          refine go_I E (run_V E ((k_X5_findOf l g h_this h_m h_this_lengths h_this_queue h_m_moves h_m_lights h_m_prices h_m_shares h) _) (cwV 2 hts gX5_load_X5_findOf rfl rfl rfl (by decide +kernel) ⟨Nat.le_of_ble_eq_true rfl, Nat.le_of_ble_eq_true rfl⟩) hP hD hS [0, 1, 2, 3] rfl rfl 0 4 rfl rfl rfl hl rfl rfl (Nat.le_of_ble_eq_true rfl) dX5_load_66 ⟨Nat.le_of_ble_eq_true rfl, Nat.le_of_ble_eq_true rfl⟩) hP hD hS [0, 1, 2, 3] rfl [(false, 0), (false, 1), (false, 2), (false, 3)] rfl (by decide) (fun u => (cw_X5_load g h_this h_m h_this_lengths h_this_queue h_m_moves h_m_lights h_m_prices h_m_shares u.1 u.2 c_m_states c_m_letters c_m_moves)) (fun _ => rfl) (fun r10 u H locs h hP hD hS => ?_)
          obtain ⟨c_without, c_lengths⟩ := u
          try dsimp only at h
          have hP : va_P g.1 vwCl (cw_X5_load g h_this h_m h_this_lengths h_this_queue h_m_moves h_m_lights h_m_prices h_m_shares c_without c_lengths c_m_states c_m_letters c_m_moves) H := hP
          have hD : va_D A (cw_X5_load g h_this h_m h_this_lengths h_this_queue h_m_moves h_m_lights h_m_prices h_m_shares c_without c_lengths c_m_states c_m_letters c_m_moves) := hD
          refine lv_istore_n (lv' := [(2, .int r10), (0, .ref h_this), (1, .ref h_m), (3, .int x3)]) hx hb dX5_load_69 rfl hl (by decide) rfl (fun ls hl => ?_)
          refine lv_iinc (v := (x3 + (nI 1))) (lv' := [(3, .int (x3 + (nI 1))), (2, .int r10), (0, .ref h_this), (1, .ref h_m)]) hx hb dX5_load_70 hl (k := 3) rfl rfl (by decide) rfl (fun ls hl => ?_)
          refine lv_goto (tgt := 52) hx hb dX5_load_73 (by decide) ?_
          exact ih_52 r10 (x3 + (nI 1)) c_without c_lengths h _ _ hP hD hS _ (lv_sub hl [2, 3, 1, 0] rfl)
  have K_31 : ∀ (c_without : Int32) (c_lengths : Nat → Int32) , J_X5_load_31 c_m_states c_m_letters c_m_moves Q c_lengths → ∀ (H : Heap) (locs : List Loc), va_P g.1 vwCl (cw_X5_load g h_this h_m h_this_lengths h_this_queue h_m_moves h_m_lights h_m_prices h_m_shares c_without c_lengths c_m_states c_m_letters c_m_moves) H → va_D A (cw_X5_load g h_this h_m h_this_lengths h_this_queue h_m_moves h_m_lights h_m_prices h_m_shares c_without c_lengths c_m_states c_m_letters c_m_moves) → va_S A s.heap H locs → ∀ ls : Array Slot, lv_has ls 4 [(0, .ref h_this), (1, .ref h_m)] → W p l e rm_X5_load s m args below meth c H locs 0 0 QQ (F0 m 31 ls []) := by
    intro c_without c_lengths h H locs hP hD hS ls hl
    unfold J_X5_load_31 at h
    refine lv_aload_n hx hb dX5_load_31 rfl (lv_at hl 0 rfl) ?_
    refine lv_aload_n hx hb dX5_load_32 rfl (lv_at hl 1 rfl) ?_
    refine go_I E (run_V E ((k_X4_states l g h_m h_m_moves h_m_lights h_m_prices h_m_shares (Q := fun r => r = c_m_states) rfl) _) (cwV 0 hts gX5_load_X4_states rfl rfl rfl (by decide +kernel) ⟨Nat.le_of_ble_eq_true rfl, Nat.le_of_ble_eq_true rfl⟩) hP hD hS [2] rfl rfl 0 3 rfl rfl rfl hl rfl rfl (Nat.le_of_ble_eq_true rfl) dX5_load_33 ⟨Nat.le_of_ble_eq_true rfl, Nat.le_of_ble_eq_true rfl⟩) hP hD hS [2] rfl [(true, 0), (true, 1), (false, 0), (true, 3)] rfl (by decide) (fun _ => (cw_X5_load g h_this h_m h_this_lengths h_this_queue h_m_moves h_m_lights h_m_prices h_m_shares c_without c_lengths c_m_states c_m_letters c_m_moves)) (fun _ => rfl) (fun r6 _ H locs hr_ hP hD hS => ?_)
    have hr_ : c_m_states = r6 := Eq.symm hr_
    subst hr_
    have hP : va_P g.1 vwCl (cw_X5_load g h_this h_m h_this_lengths h_this_queue h_m_moves h_m_lights h_m_prices h_m_shares c_without c_lengths c_m_states c_m_letters c_m_moves) H := hP
    have hD : va_D A (cw_X5_load g h_this h_m h_this_lengths h_this_queue h_m_moves h_m_lights h_m_prices h_m_shares c_without c_lengths c_m_states c_m_letters c_m_moves) := hD
    refine lv_aload_n hx hb dX5_load_36 rfl (lv_at hl 1 rfl) ?_
    refine go_I E (run_V E ((k_X4_states l g h_m h_m_moves h_m_lights h_m_prices h_m_shares (Q := fun r => r = c_m_states) rfl) _) (cwV 0 hts gX5_load_X4_states rfl rfl rfl (by decide +kernel) ⟨Nat.le_of_ble_eq_true rfl, Nat.le_of_ble_eq_true rfl⟩) hP hD hS [2] rfl rfl 0 3 rfl rfl rfl hl rfl rfl (Nat.le_of_ble_eq_true rfl) dX5_load_37 ⟨Nat.le_of_ble_eq_true rfl, Nat.le_of_ble_eq_true rfl⟩) hP hD hS [2] rfl [(true, 0), (true, 1), (false, 0), (true, 3)] rfl (by decide) (fun _ => (cw_X5_load g h_this h_m h_this_lengths h_this_queue h_m_moves h_m_lights h_m_prices h_m_shares c_without c_lengths c_m_states c_m_letters c_m_moves)) (fun _ => rfl) (fun r8 _ H locs hr_ hP hD hS => ?_)
    have hr_ : c_m_states = r8 := Eq.symm hr_
    subst hr_
    have hP : va_P g.1 vwCl (cw_X5_load g h_this h_m h_this_lengths h_this_queue h_m_moves h_m_lights h_m_prices h_m_shares c_without c_lengths c_m_states c_m_letters c_m_moves) H := hP
    have hD : va_D A (cw_X5_load g h_this h_m h_this_lengths h_this_queue h_m_moves h_m_lights h_m_prices h_m_shares c_without c_lengths c_m_states c_m_letters c_m_moves) := hD
    refine lv_iconst (v := (nI 1)) hx hb dX5_load_40 (by decide) ?_
    refine lv_isub hx hb dX5_load_41 ?_
    refine lv_imul hx hb dX5_load_42 ?_
    refine lv_iconst (v := (nI 2)) hx hb dX5_load_43 (by decide) ?_
    refine lv_idiv hx hb dX5_load_44 (by decide) ?_
    refine va_put (D := g.1) (ci := 4) (v := .int ((c_m_states * (c_m_states - (nI 1))) / (nI 2))) (ty := .int) (C := RX5) (T := TX5) (N := 3) hx hb hts iX5 tyX5 tyX5_ok nmX5 hown hK hP hD hS 0 rfl rfl 2 (by decide) f34 (fun _ h9 => h9) rfl (by decide +kernel) rfl rfl (Nat.le_of_ble_eq_true rfl) dX5_load_45 (fun H locs hP hD hS => ?_)
    have hP : va_P g.1 vwCl (cw_X5_load g h_this h_m h_this_lengths h_this_queue h_m_moves h_m_lights h_m_prices h_m_shares ((c_m_states * (c_m_states - (nI 1))) / (nI 2)) c_lengths c_m_states c_m_letters c_m_moves) H := hP
    have hD : va_D A (cw_X5_load g h_this h_m h_this_lengths h_this_queue h_m_moves h_m_lights h_m_prices h_m_shares ((c_m_states * (c_m_states - (nI 1))) / (nI 2)) c_lengths c_m_states c_m_letters c_m_moves) := hD
    refine lv_iconst (v := (nI 1)) hx hb dX5_load_48 (by decide) ?_
    refine lv_istore_n (lv' := [(2, .int (nI 1)), (0, .ref h_this), (1, .ref h_m)]) hx hb dX5_load_49 rfl hl (by decide) rfl (fun ls hl => ?_)
    refine lv_iconst (v := (nI 1)) hx hb dX5_load_50 (by decide) ?_
    refine lv_istore_n (lv' := [(3, .int (nI 1)), (2, .int (nI 1)), (0, .ref h_this), (1, .ref h_m)]) hx hb dX5_load_51 rfl hl (by decide) rfl (fun ls hl => ?_)
    obtain ⟨n, h⟩ := h
    exact K_52 n (nI 1) (nI 1) ((c_m_states * (c_m_states - (nI 1))) / (nI 2)) c_lengths h _ _ hP hD hS _ (lv_sub hl [2, 3, 1, 0] rfl)
  have K_10 : ∀ (c_without : Int32) (n_10 : Nat) (x2 : Int32) (c_lengths : Nat → Int32) , L_X5_load_10 c_without c_m_states c_m_letters c_m_moves Q n_10 x2 c_lengths → ∀ (H : Heap) (locs : List Loc), va_P g.1 vwCl (cw_X5_load g h_this h_m h_this_lengths h_this_queue h_m_moves h_m_lights h_m_prices h_m_shares c_without c_lengths c_m_states c_m_letters c_m_moves) H → va_D A (cw_X5_load g h_this h_m h_this_lengths h_this_queue h_m_moves h_m_lights h_m_prices h_m_shares c_without c_lengths c_m_states c_m_letters c_m_moves) → va_S A s.heap H locs → ∀ ls : Array Slot, lv_has ls 4 [(0, .ref h_this), (1, .ref h_m), (2, .int x2)] → W p l e rm_X5_load s m args below meth c H locs 0 0 QQ (F0 m 10 ls []) := by
    intro c_without n_10
    induction n_10 with
    | zero => intro x2 c_lengths; exact fun h => False.elim h
    | succ n_10 ih_10 =>
      intro x2 c_lengths h H locs hP hD hS ls hl
      unfold L_X5_load_10 at h
      refine lv_iload_n hx hb dX5_load_10 rfl (lv_at hl 2 rfl) ?_
      refine lv_aload_n hx hb dX5_load_11 rfl (lv_at hl 1 rfl) ?_
      refine go_I E (run_V E ((k_X4_states l g h_m h_m_moves h_m_lights h_m_prices h_m_shares (Q := fun r => r = c_m_states) rfl) _) (cwV 0 hts gX5_load_X4_states rfl rfl rfl (by decide +kernel) ⟨Nat.le_of_ble_eq_true rfl, Nat.le_of_ble_eq_true rfl⟩) hP hD hS [2] rfl rfl 0 3 rfl rfl rfl hl rfl rfl (Nat.le_of_ble_eq_true rfl) dX5_load_12 ⟨Nat.le_of_ble_eq_true rfl, Nat.le_of_ble_eq_true rfl⟩) hP hD hS [2] rfl [(true, 0), (true, 1), (false, 0), (true, 3)] rfl (by decide) (fun _ => (cw_X5_load g h_this h_m h_this_lengths h_this_queue h_m_moves h_m_lights h_m_prices h_m_shares c_without c_lengths c_m_states c_m_letters c_m_moves)) (fun _ => rfl) (fun r4 _ H locs hr_ hP hD hS => ?_)
      have hr_ : c_m_states = r4 := Eq.symm hr_
      subst hr_
      have hP : va_P g.1 vwCl (cw_X5_load g h_this h_m h_this_lengths h_this_queue h_m_moves h_m_lights h_m_prices h_m_shares c_without c_lengths c_m_states c_m_letters c_m_moves) H := hP
      have hD : va_D A (cw_X5_load g h_this h_m h_this_lengths h_this_queue h_m_moves h_m_lights h_m_prices h_m_shares c_without c_lengths c_m_states c_m_letters c_m_moves) := hD
      refine lv_icmp_ge (tgt := 31) hx hb dX5_load_15 (by decide) (fun cq => ?_) (fun cq => ?_)
      · replace h := h.1 cq
        exact K_31 c_without c_lengths h _ _ hP hD hS _ (lv_sub hl [0, 1] rfl)
      · replace h := h.2 cq
        refine lv_aload_n hx hb dX5_load_18 rfl (lv_at hl 0 rfl) ?_
        refine lv_iload_n hx hb dX5_load_19 rfl (lv_at hl 2 rfl) ?_
        refine lv_iload_n hx hb dX5_load_20 rfl (lv_at hl 2 rfl) ?_
        refine lv_iconst (v := (nI 0)) hx hb dX5_load_21 (by decide) ?_
        refine go_V E (run_V E ((k_X5_setLength l g h_this h_this_lengths h_this_queue h) _) (cwV 3 hts gX5_load_X5_setLength rfl rfl rfl (by decide +kernel) ⟨Nat.le_of_ble_eq_true rfl, Nat.le_of_ble_eq_true rfl⟩) hP hD hS [0, 1] rfl rfl 0 4 rfl rfl rfl hl rfl rfl (Nat.le_of_ble_eq_true rfl) dX5_load_22 ⟨Nat.le_of_ble_eq_true rfl, Nat.le_of_ble_eq_true rfl⟩) hP hD hS [0, 1] rfl [(false, 0), (false, 1), (true, 2), (true, 3)] rfl (by decide) (fun u => (cw_X5_load g h_this h_m h_this_lengths h_this_queue h_m_moves h_m_lights h_m_prices h_m_shares c_without u c_m_states c_m_letters c_m_moves)) (fun _ => rfl) (fun c_lengths H locs h hP hD hS => ?_)
        try dsimp only at h
        have hP : va_P g.1 vwCl (cw_X5_load g h_this h_m h_this_lengths h_this_queue h_m_moves h_m_lights h_m_prices h_m_shares c_without c_lengths c_m_states c_m_letters c_m_moves) H := hP
        have hD : va_D A (cw_X5_load g h_this h_m h_this_lengths h_this_queue h_m_moves h_m_lights h_m_prices h_m_shares c_without c_lengths c_m_states c_m_letters c_m_moves) := hD
        refine lv_iinc (v := (x2 + (nI 1))) (lv' := [(2, .int (x2 + (nI 1))), (0, .ref h_this), (1, .ref h_m)]) hx hb dX5_load_25 hl (k := 2) rfl rfl (by decide) rfl (fun ls hl => ?_)
        refine lv_goto (tgt := 10) hx hb dX5_load_28 (by decide) ?_
        exact ih_10 (x2 + (nI 1)) c_lengths h _ _ hP hD hS _ (lv_sub hl [1, 2, 0] rfl)
  refine lv_aload_n hx hb dX5_load_0 rfl (lv_at hl 0 rfl) ?_
  refine va_get (D := g.1) (ci := 4) (v := .ref h_this_lengths) (C := RX5) (T := TX5) (N := 3) hx hb hts iX5 hown hK hP 0 rfl rfl 0 (by decide) f9 (fun _ h9 => h9) rfl dX5_load_1 ?_
  refine lv_iconst (v := (-1)) hx hb dX5_load_4 (by decide) ?_
  refine go_V E (run_S E ((k_J7_fill_53178 l g h_this_lengths 144 h) _) (va_cwS 2 hts gX5_load_J7_fill_53178 rfl rfl rfl (by decide +kernel) ⟨Nat.le_of_ble_eq_true rfl, Nat.le_of_ble_eq_true rfl⟩) hP hD hS [1] rfl rfl hl rfl rfl (Nat.le_of_ble_eq_true rfl) dX5_load_5 ⟨Nat.le_of_ble_eq_true rfl, Nat.le_of_ble_eq_true rfl⟩) hP hD hS [1] rfl [(true, 0), (false, 0), (true, 2), (true, 3)] rfl (by decide) (fun u => (cw_X5_load g h_this h_m h_this_lengths h_this_queue h_m_moves h_m_lights h_m_prices h_m_shares c_without u c_m_states c_m_letters c_m_moves)) (fun _ => rfl) (fun c_lengths H locs h hP hD hS => ?_)
  try dsimp only at h
  have hP : va_P g.1 vwCl (cw_X5_load g h_this h_m h_this_lengths h_this_queue h_m_moves h_m_lights h_m_prices h_m_shares c_without c_lengths c_m_states c_m_letters c_m_moves) H := hP
  have hD : va_D A (cw_X5_load g h_this h_m h_this_lengths h_this_queue h_m_moves h_m_lights h_m_prices h_m_shares c_without c_lengths c_m_states c_m_letters c_m_moves) := hD
  refine lv_iconst (v := (nI 0)) hx hb dX5_load_8 (by decide) ?_
  refine lv_istore_n (lv' := [(2, .int (nI 0)), (0, .ref h_this), (1, .ref h_m)]) hx hb dX5_load_9 rfl hl (by decide) rfl (fun ls hl => ?_)
  obtain ⟨n, h⟩ := h
  exact K_10 c_without n (nI 0) c_lengths h _ _ hP hD hS _ (lv_sub hl [1, 2, 0] rfl)
abbrev cw_X10_clear (g : GG) (h_this : Nat) (h_this_row : Nat) (c_length : Int32) : va_W := [(h_this, .inr (9, [.ref h_this_row, .int c_length]))]
def wp_X10_clear (c_length : Int32) (Q : Int32 → Prop) : Prop :=
    Q (nI 0)
abbrev rm_X10_clear : Room := { frames := 0, cells := 0, slots := 0, locals := 0 }
set_option maxHeartbeats 4000000 in
set_option maxRecDepth 100000 in
theorem k_X10_clear (l : Launch) (g : GG) (h_this : Nat) (h_this_row : Nat) {c_length : Int32} {Q : Int32 → Prop} (h : wp_X10_clear c_length Q) : CV l g yX10_clear wsX10_clear rm_X10_clear [.ref h_this] (cw_X10_clear g h_this h_this_row c_length) (S := Int32) (fun u => (cw_X10_clear g h_this h_this_row u)) (fun u => Q u) 0 0 := by
  refine mk_V (cc := cX10_clear) (maxL := 1) (own := RX10) (by decide) rfl rfl (Nat.le_of_ble_eq_true rfl) ?_
  intro p e s m args below meth c A QQ E hret hP hD hS ls hl
  have E2 := E
  obtain ⟨hx, hb, hr, hml, hown, hts, hlocks, hA, hZ, hK, hnm⟩ := E2
  have f15 := hts (.fieldLink RX10 15 "WordBench$Word" "length" "I") (by decide +kernel)
  have iX10 : ∀ w ∈ wsX100, w ∈ wsX10_clear := fun _ h => List.mem_cons_of_mem _ (List.mem_append_right _ h)
  have hP : va_P g.1 vwCl (cw_X10_clear g h_this h_this_row c_length) s.heap := hP
  have hD : va_D A (cw_X10_clear g h_this h_this_row c_length) := hD
  have hl : lv_has ls 1 [(0, .ref h_this)] := hl
  unfold wp_X10_clear at h
  refine lv_aload_n hx hb dX10_clear_0 rfl (lv_at hl 0 rfl) ?_
  refine lv_iconst (v := (nI 0)) hx hb dX10_clear_1 (by decide) ?_
  refine va_put (D := g.1) (ci := 9) (v := .int (nI 0)) (ty := .int) (C := RX10) (T := TX10) (N := 2) hx hb hts iX10 tyX10 tyX10_ok nmX10 hown hK hP hD hS 0 rfl rfl 1 (by decide) f15 (fun _ h9 => h9) rfl (by decide +kernel) rfl rfl (Nat.le_of_ble_eq_true rfl) dX10_clear_2 (fun H locs hP hD hS => ?_)
  have hP : va_P g.1 vwCl (cw_X10_clear g h_this h_this_row (nI 0)) H := hP
  have hD : va_D A (cw_X10_clear g h_this h_this_row (nI 0)) := hD
  exact hret (nI 0) _ _ _ _ h hP hD hS dX10_clear_5
abbrev cw_X10_length (g : GG) (h_this : Nat) (h_this_row : Nat) (c_length : Int32) : va_W := [(h_this, .inr (9, [.ref h_this_row, .int c_length]))]
def wp_X10_length (c_length : Int32) (Q : Int32 → Prop) : Prop :=
    Q c_length
abbrev rm_X10_length : Room := { frames := 0, cells := 0, slots := 0, locals := 0 }
set_option maxHeartbeats 4000000 in
set_option maxRecDepth 100000 in
theorem k_X10_length (l : Launch) (g : GG) (h_this : Nat) (h_this_row : Nat) {c_length : Int32} {Q : Int32 → Prop} (h : wp_X10_length c_length Q) : CI l g yX10_length wsX10_length rm_X10_length [.ref h_this] (cw_X10_length g h_this h_this_row c_length) (S := Unit) (fun _ => (cw_X10_length g h_this h_this_row c_length)) (fun r _ => Q r) 0 0 := by
  refine mk_I (cc := cX10_length) (maxL := 1) (own := RX10) (by decide) rfl rfl (Nat.le_of_ble_eq_true rfl) ?_
  intro p e s m args below meth c A QQ E hret hP hD hS ls hl
  have E2 := E
  obtain ⟨hx, hb, hr, hml, hown, hts, hlocks, hA, hZ, hK, hnm⟩ := E2
  have f15 := hts (.fieldLink RX10 15 "WordBench$Word" "length" "I") (by decide +kernel)
  have iX10 : ∀ w ∈ wsX100, w ∈ wsX10_length := fun _ h => List.mem_cons_of_mem _ (List.mem_append_right _ h)
  have hP : va_P g.1 vwCl (cw_X10_length g h_this h_this_row c_length) s.heap := hP
  have hD : va_D A (cw_X10_length g h_this h_this_row c_length) := hD
  have hl : lv_has ls 1 [(0, .ref h_this)] := hl
  unfold wp_X10_length at h
  refine lv_aload_n hx hb dX10_length_0 rfl (lv_at hl 0 rfl) ?_
  refine va_get (D := g.1) (ci := 9) (v := .int c_length) (C := RX10) (T := TX10) (N := 2) hx hb hts iX10 hown hK hP 0 rfl rfl 1 (by decide) f15 (fun _ h9 => h9) rfl dX10_length_1 ?_
  exact hret c_length () _ _ _ _ rfl h hP hD hS dX10_length_4
abbrev cw_X10_resize (g : GG) (h_this : Nat) (h_this_row : Nat) (c_length : Int32) : va_W := [(h_this, .inr (9, [.ref h_this_row, .int c_length]))]
def J_X10_resize_16 (Q : Int32 → Prop) (t0 : Int32) : Prop :=
    Q t0
def wp_X10_resize (c_length : Int32) (x1 : Int32) (Q : Int32 → Prop) : Prop :=
    (((nI 0) ≤ x1 → J_X10_resize_16 Q (if (nI 600) < x1 then (nI 600) else x1)) ∧ (¬ (nI 0) ≤ x1 → J_X10_resize_16 Q (nI 0)))
abbrev rm_X10_resize : Room := { frames := 1, cells := 0, slots := 0, locals := 14 }
set_option maxHeartbeats 4000000 in
set_option maxRecDepth 100000 in
theorem k_X10_resize (l : Launch) (g : GG) (h_this : Nat) (h_this_row : Nat) {c_length : Int32} {x1 : Int32} {Q : Int32 → Prop} (h : wp_X10_resize c_length x1 Q) : CV l g yX10_resize wsX10_resize rm_X10_resize [.ref h_this, .int x1] (cw_X10_resize g h_this h_this_row c_length) (S := Int32) (fun u => (cw_X10_resize g h_this h_this_row u)) (fun u => Q u) 0 0 := by
  refine mk_V (cc := cX10_resize) (maxL := 2) (own := RX10) (by decide) rfl rfl (Nat.le_of_ble_eq_true rfl) ?_
  intro p e s m args below meth c A QQ E hret hP hD hS ls hl
  have E2 := E
  obtain ⟨hx, hb, hr, hml, hown, hts, hlocks, hA, hZ, hK, hnm⟩ := E2
  have ml19 := hts (.methodLink RX10 19 Lib.Math.min.name) (by decide +kernel)
  have mns := hts (.static Lib.Math.min.name) (by decide +kernel)
  have mni := hts (.initialized "java/lang/Math") (by decide +kernel)
  have mnc := hts (.code Lib.Math.min.name Lib.Math.min.code 2 (some .int)) (by decide +kernel)
  have f15 := hts (.fieldLink RX10 15 "WordBench$Word" "length" "I") (by decide +kernel)
  have iX10 : ∀ w ∈ wsX100, w ∈ wsX10_resize := fun _ h => List.mem_cons_of_mem _ (List.mem_append_right _ h)
  have hP : va_P g.1 vwCl (cw_X10_resize g h_this h_this_row c_length) s.heap := hP
  have hD : va_D A (cw_X10_resize g h_this h_this_row c_length) := hD
  have hl : lv_has ls 2 [(0, .ref h_this), (1, .int x1)] := hl
  unfold wp_X10_resize at h
  have K_16 : ∀ (c_length : Int32) (t0 : Int32) , J_X10_resize_16 Q t0 → ∀ (H : Heap) (locs : List Loc), va_P g.1 vwCl (cw_X10_resize g h_this h_this_row c_length) H → va_D A (cw_X10_resize g h_this h_this_row c_length) → va_S A s.heap H locs → ∀ ls : Array Slot, lv_has ls 2 [] → W p l e rm_X10_resize s m args below meth c H locs 0 0 QQ (F0 m 16 ls [.int t0, .ref h_this]) := by
    intro c_length t0 h H locs hP hD hS ls hl
    unfold J_X10_resize_16 at h
    refine va_put (D := g.1) (ci := 9) (v := .int t0) (ty := .int) (C := RX10) (T := TX10) (N := 2) hx hb hts iX10 tyX10 tyX10_ok nmX10 hown hK hP hD hS 0 rfl rfl 1 (by decide) f15 (fun _ h9 => h9) rfl (by decide +kernel) rfl rfl (Nat.le_of_ble_eq_true rfl) dX10_resize_16 (fun H locs hP hD hS => ?_)
    have hP : va_P g.1 vwCl (cw_X10_resize g h_this h_this_row t0) H := hP
    have hD : va_D A (cw_X10_resize g h_this h_this_row t0) := hD
    exact hret t0 _ _ _ _ h hP hD hS dX10_resize_19
  refine lv_aload_n hx hb dX10_resize_0 rfl (lv_at hl 0 rfl) ?_
  refine lv_iload_n hx hb dX10_resize_1 rfl (lv_at hl 1 rfl) ?_
  refine lv_if_ge (tgt := 9) hx hb dX10_resize_2 (by decide) (fun cq => ?_) (fun cq => ?_)
  · replace h := h.1 cq
    refine lv_iload_n hx hb dX10_resize_9 rfl (lv_at hl 1 rfl) ?_
    refine lv_sipush (v := (nI 600)) hx hb dX10_resize_10 (by decide) ?_
    refine va_mmin hx hb (by rw [hml]; exact hl.1.symm) hown ml19 mns mni mnc (Nat.le_of_ble_eq_true rfl) (Nat.le_of_ble_eq_true rfl) (Nat.le_of_ble_eq_true rfl) (Nat.le_of_ble_eq_true rfl) dX10_resize_13 ?_
    exact K_16 c_length (if (nI 600) < x1 then (nI 600) else x1) h _ _ hP hD hS _ (lv_sub hl [] rfl)
  · replace h := h.2 cq
    refine lv_iconst (v := (nI 0)) hx hb dX10_resize_5 (by decide) ?_
    refine lv_goto (tgt := 16) hx hb dX10_resize_6 (by decide) ?_
    exact K_16 c_length (nI 0) h _ _ hP hD hS _ (lv_sub hl [] rfl)
abbrev cw_X10_put (g : GG) (h_this : Nat) (h_this_row : Nat) (c_length : Int32) (c_row : Nat → Int32) : va_W := [(h_this, .inr (9, [.ref h_this_row, .int c_length])), (h_this_row, .inl (g.2.1, 600, .inl c_row))]
def wp_X10_put (c_length : Int32) (c_row : Nat → Int32) (x1 : Int32) (x2 : Int32) (Q : (Nat → Int32) → Prop) : Prop :=
    ((x1 < (nI 0) → Q c_row) ∧ (¬ x1 < (nI 0) → ((c_length ≤ x1 → Q c_row) ∧ (¬ c_length ≤ x1 → (((nI 600) ≤ x1 → Q c_row) ∧ (¬ (nI 600) ≤ x1 → vp_in x1 600 ∧ Q (upd c_row (Int32.toNatClampNeg x1) x2)))))))
abbrev rm_X10_put : Room := { frames := 0, cells := 0, slots := 0, locals := 0 }
set_option maxHeartbeats 4000000 in
set_option maxRecDepth 100000 in
theorem k_X10_put (l : Launch) (g : GG) (h_this : Nat) (h_this_row : Nat) {c_length : Int32} {c_row : Nat → Int32} {x1 : Int32} {x2 : Int32} {Q : (Nat → Int32) → Prop} (h : wp_X10_put c_length c_row x1 x2 Q) : CV l g yX10_put wsX10_put rm_X10_put [.ref h_this, .int x1, .int x2] (cw_X10_put g h_this h_this_row c_length c_row) (S := (Nat → Int32)) (fun u => (cw_X10_put g h_this h_this_row c_length u)) (fun u => Q u) 0 0 := by
  refine mk_V (cc := cX10_put) (maxL := 3) (own := RX10) (by decide) rfl rfl (Nat.le_of_ble_eq_true rfl) ?_
  intro p e s m args below meth c A QQ E hret hP hD hS ls hl
  have E2 := E
  obtain ⟨hx, hb, hr, hml, hown, hts, hlocks, hA, hZ, hK, hnm⟩ := E2
  have f15 := hts (.fieldLink RX10 15 "WordBench$Word" "length" "I") (by decide +kernel)
  have f9 := hts (.fieldLink RX10 9 "WordBench$Word" "row" "[I") (by decide +kernel)
  have iX10 : ∀ w ∈ wsX100, w ∈ wsX10_put := fun _ h => List.mem_cons_of_mem _ (List.mem_append_right _ h)
  have hP : va_P g.1 vwCl (cw_X10_put g h_this h_this_row c_length c_row) s.heap := hP
  have hD : va_D A (cw_X10_put g h_this h_this_row c_length c_row) := hD
  have hl : lv_has ls 3 [(0, .ref h_this), (1, .int x1), (2, .int x2)] := hl
  unfold wp_X10_put at h
  refine lv_iload_n hx hb dX10_put_0 rfl (lv_at hl 1 rfl) ?_
  refine lv_if_lt (tgt := 26) hx hb dX10_put_1 (by decide) (fun cq => ?_) (fun cq => ?_)
  · replace h := h.1 cq
    exact hret c_row _ _ _ _ h hP hD hS dX10_put_26
  · replace h := h.2 cq
    refine lv_iload_n hx hb dX10_put_4 rfl (lv_at hl 1 rfl) ?_
    refine lv_aload_n hx hb dX10_put_5 rfl (lv_at hl 0 rfl) ?_
    refine va_get (D := g.1) (ci := 9) (v := .int c_length) (C := RX10) (T := TX10) (N := 2) hx hb hts iX10 hown hK hP 0 rfl rfl 1 (by decide) f15 (fun _ h9 => h9) rfl dX10_put_6 ?_
    refine lv_icmp_ge (tgt := 26) hx hb dX10_put_9 (by decide) (fun cq => ?_) (fun cq => ?_)
    · replace h := h.1 cq
      exact hret c_row _ _ _ _ h hP hD hS dX10_put_26
    · replace h := h.2 cq
      refine lv_iload_n hx hb dX10_put_12 rfl (lv_at hl 1 rfl) ?_
      refine lv_sipush (v := (nI 600)) hx hb dX10_put_13 (by decide) ?_
      refine lv_icmp_ge (tgt := 26) hx hb dX10_put_16 (by decide) (fun cq => ?_) (fun cq => ?_)
      · replace h := h.1 cq
        exact hret c_row _ _ _ _ h hP hD hS dX10_put_26
      · replace h := h.2 cq
        refine lv_aload_n hx hb dX10_put_19 rfl (lv_at hl 0 rfl) ?_
        refine va_get (D := g.1) (ci := 9) (v := .ref h_this_row) (C := RX10) (T := TX10) (N := 2) hx hb hts iX10 hown hK hP 0 rfl rfl 0 (by decide) f9 (fun _ h9 => h9) rfl dX10_put_20 ?_
        refine lv_iload_n hx hb dX10_put_23 rfl (lv_at hl 1 rfl) ?_
        refine lv_iload_n hx hb dX10_put_24 rfl (lv_at hl 2 rfl) ?_
        obtain ⟨hi, h⟩ := h
        refine va_iast (D := g.1) (n := 600) (f := c_row) hx hb hK hP hD hS 1 0 rfl rfl hi dX10_put_25 (fun H locs hP hD hS => ?_)
        have hP : va_P g.1 vwCl (cw_X10_put g h_this h_this_row c_length (upd c_row (Int32.toNatClampNeg x1) x2)) H := hP
        have hD : va_D A (cw_X10_put g h_this h_this_row c_length (upd c_row (Int32.toNatClampNeg x1) x2)) := hD
        exact hret (upd c_row (Int32.toNatClampNeg x1) x2) _ _ _ _ h hP hD hS dX10_put_26
abbrev cw_X5_giveWord (g : GG) (h_this : Nat) (h_m : Nat) (h_wd : Nat) (h_this_lengths : Nat) (h_this_queue : Nat) (h_m_moves : Nat) (h_m_lights : Nat) (h_m_prices : Nat) (h_m_shares : Nat) (h_wd_row : Nat) (c_without : Int32) (c_lengths : Nat → Int32) (c_m_states : Int32) (c_m_letters : Int32) (c_m_moves : Nat → Int32) (c_wd_length : Int32) (c_wd_row : Nat → Int32) : va_W := [(h_this, .inr (4, [.ref h_this_lengths, .ref h_this_queue, .int c_without])), (h_this_lengths, .inl (g.2.1, 144, .inl c_lengths)), (h_m, .inr (3, [.int c_m_states, .int c_m_letters, .ref h_m_moves, .ref h_m_lights, .ref h_m_prices, .ref h_m_shares])), (h_m_moves, .inl (g.2.1, 48, .inl c_m_moves)), (h_wd, .inr (9, [.ref h_wd_row, .int c_wd_length])), (h_wd_row, .inl (g.2.1, 600, .inl c_wd_row))]
def L_X5_giveWord_24 (c_without : Int32) (c_lengths : Nat → Int32) (c_m_states : Int32) (c_m_letters : Int32) (c_m_moves : Nat → Int32) (c_wd_length : Int32) (x5 : Int32) (Q : Int32 → (Nat → Int32) → Prop) : Nat → Int32 → Int32 → Int32 → (Nat → Int32) → Prop
  | 0, _, _, _, _ => False
  | n_24 + 1, x6, x7, x8, c_wd_row =>
    ((x5 ≤ x8 → Q c_wd_length c_wd_row) ∧ (¬ x5 ≤ x8 → wp_X5_firstLetter c_without c_lengths c_m_states c_m_letters c_m_moves x6 x7 (x5 - x8) (fun r6 => wp_X10_put c_wd_length c_wd_row x8 r6 (fun c_wd_row => wp_X4_target c_m_states c_m_letters c_m_moves x6 r6 (fun r10 => wp_X4_target c_m_states c_m_letters c_m_moves x7 r6 (fun r12 => (L_X5_giveWord_24 c_without c_lengths c_m_states c_m_letters c_m_moves c_wd_length x5 Q n_24) r10 r12 (x8 + (nI 1)) c_wd_row))))))
def wp_X5_giveWord (c_without : Int32) (c_lengths : Nat → Int32) (c_m_states : Int32) (c_m_letters : Int32) (c_m_moves : Nat → Int32) (c_wd_length : Int32) (c_wd_row : Nat → Int32) (x2 : Int32) (x3 : Int32) (Q : Int32 → (Nat → Int32) → Prop) : Prop :=
    wp_X5_lengthOf c_without c_lengths x2 x3 (fun r2 => wp_X10_resize c_wd_length r2 (fun c_wd_length => ∃ n, L_X5_giveWord_24 c_without c_lengths c_m_states c_m_letters c_m_moves c_wd_length r2 Q n x2 x3 (nI 0) c_wd_row))
abbrev rm_X5_giveWord : Room := { frames := 2, cells := 0, slots := 0, locals := 48 }
set_option maxHeartbeats 4000000 in
set_option maxRecDepth 100000 in
theorem k_X5_giveWord (l : Launch) (g : GG) (h_this : Nat) (h_m : Nat) (h_wd : Nat) (h_this_lengths : Nat) (h_this_queue : Nat) (h_m_moves : Nat) (h_m_lights : Nat) (h_m_prices : Nat) (h_m_shares : Nat) (h_wd_row : Nat) {c_without : Int32} {c_lengths : Nat → Int32} {c_m_states : Int32} {c_m_letters : Int32} {c_m_moves : Nat → Int32} {c_wd_length : Int32} {c_wd_row : Nat → Int32} {x2 : Int32} {x3 : Int32} {Q : Int32 → (Nat → Int32) → Prop} (h : wp_X5_giveWord c_without c_lengths c_m_states c_m_letters c_m_moves c_wd_length c_wd_row x2 x3 Q) : CV l g yX5_giveWord wsX5_giveWord rm_X5_giveWord [.ref h_this, .ref h_m, .int x2, .int x3, .ref h_wd] (cw_X5_giveWord g h_this h_m h_wd h_this_lengths h_this_queue h_m_moves h_m_lights h_m_prices h_m_shares h_wd_row c_without c_lengths c_m_states c_m_letters c_m_moves c_wd_length c_wd_row) (S := Int32 × (Nat → Int32)) (fun u => (cw_X5_giveWord g h_this h_m h_wd h_this_lengths h_this_queue h_m_moves h_m_lights h_m_prices h_m_shares h_wd_row c_without c_lengths c_m_states c_m_letters c_m_moves u.1 u.2)) (fun u => Q u.1 u.2) 0 0 := by
  refine mk_V (cc := cX5_giveWord) (maxL := 10) (own := RX5) (by decide) rfl rfl (Nat.le_of_ble_eq_true rfl) ?_
  intro p e s m args below meth c A QQ E hret hP hD hS ls hl
  have E2 := E
  obtain ⟨hx, hb, hr, hml, hown, hts, hlocks, hA, hZ, hK, hnm⟩ := E2
  have hP : va_P g.1 vwCl (cw_X5_giveWord g h_this h_m h_wd h_this_lengths h_this_queue h_m_moves h_m_lights h_m_prices h_m_shares h_wd_row c_without c_lengths c_m_states c_m_letters c_m_moves c_wd_length c_wd_row) s.heap := hP
  have hD : va_D A (cw_X5_giveWord g h_this h_m h_wd h_this_lengths h_this_queue h_m_moves h_m_lights h_m_prices h_m_shares h_wd_row c_without c_lengths c_m_states c_m_letters c_m_moves c_wd_length c_wd_row) := hD
  have hl : lv_has ls 10 [(0, .ref h_this), (1, .ref h_m), (2, .int x2), (3, .int x3), (4, .ref h_wd)] := hl
  unfold wp_X5_giveWord at h
  have K_24 : ∀ (x5 : Int32) (c_wd_length : Int32) (n_24 : Nat) (x6 : Int32) (x7 : Int32) (x8 : Int32) (c_wd_row : Nat → Int32) , L_X5_giveWord_24 c_without c_lengths c_m_states c_m_letters c_m_moves c_wd_length x5 Q n_24 x6 x7 x8 c_wd_row → ∀ (H : Heap) (locs : List Loc), va_P g.1 vwCl (cw_X5_giveWord g h_this h_m h_wd h_this_lengths h_this_queue h_m_moves h_m_lights h_m_prices h_m_shares h_wd_row c_without c_lengths c_m_states c_m_letters c_m_moves c_wd_length c_wd_row) H → va_D A (cw_X5_giveWord g h_this h_m h_wd h_this_lengths h_this_queue h_m_moves h_m_lights h_m_prices h_m_shares h_wd_row c_without c_lengths c_m_states c_m_letters c_m_moves c_wd_length c_wd_row) → va_S A s.heap H locs → ∀ ls : Array Slot, lv_has ls 10 [(0, .ref h_this), (1, .ref h_m), (4, .ref h_wd), (5, .int x5), (6, .int x6), (7, .int x7), (8, .int x8)] → W p l e rm_X5_giveWord s m args below meth c H locs 0 0 QQ (F0 m 24 ls []) := by
    intro x5 c_wd_length n_24
    induction n_24 with
    | zero => intro x6 x7 x8 c_wd_row; exact fun h => False.elim h
    | succ n_24 ih_24 =>
      intro x6 x7 x8 c_wd_row h H locs hP hD hS ls hl
      unfold L_X5_giveWord_24 at h
      refine lv_iload hx hb dX5_giveWord_24 (lv_at hl 6 rfl) ?_
      refine lv_iload hx hb dX5_giveWord_26 (lv_at hl 3 rfl) ?_
      refine lv_icmp_ge (tgt := 82) hx hb dX5_giveWord_28 (by decide) (fun cq => ?_) (fun cq => ?_)
      · replace h := h.1 cq
        exact hret (c_wd_length, c_wd_row) _ _ _ _ h hP hD hS dX5_giveWord_82
      · replace h := h.2 cq
        refine lv_aload_n hx hb dX5_giveWord_31 rfl (lv_at hl 0 rfl) ?_
        refine lv_aload_n hx hb dX5_giveWord_32 rfl (lv_at hl 1 rfl) ?_
        refine lv_iload hx hb dX5_giveWord_33 (lv_at hl 4 rfl) ?_
        refine lv_iload hx hb dX5_giveWord_35 (lv_at hl 5 rfl) ?_
        refine lv_iload hx hb dX5_giveWord_37 (lv_at hl 3 rfl) ?_
        refine lv_iload hx hb dX5_giveWord_39 (lv_at hl 6 rfl) ?_
        refine lv_isub hx hb dX5_giveWord_41 ?_
        refine go_I E (run_V E ((k_X5_firstLetter l g h_this h_m h_this_lengths h_this_queue h_m_moves h_m_lights h_m_prices h_m_shares h) _) (cwV 4 hts gX5_giveWord_X5_firstLetter rfl rfl rfl (by decide +kernel) ⟨Nat.le_of_ble_eq_true rfl, Nat.le_of_ble_eq_true rfl⟩) hP hD hS [0, 1, 2, 3] rfl rfl 0 4 rfl rfl rfl hl rfl rfl (Nat.le_of_ble_eq_true rfl) dX5_giveWord_42 ⟨Nat.le_of_ble_eq_true rfl, Nat.le_of_ble_eq_true rfl⟩) hP hD hS [0, 1, 2, 3] rfl [(false, 0), (false, 1), (false, 2), (false, 3), (true, 4), (true, 5)] rfl (by decide) (fun _ => (cw_X5_giveWord g h_this h_m h_wd h_this_lengths h_this_queue h_m_moves h_m_lights h_m_prices h_m_shares h_wd_row c_without c_lengths c_m_states c_m_letters c_m_moves c_wd_length c_wd_row)) (fun _ => rfl) (fun r6 _ H locs h hP hD hS => ?_)
        try dsimp only at h
        have hP : va_P g.1 vwCl (cw_X5_giveWord g h_this h_m h_wd h_this_lengths h_this_queue h_m_moves h_m_lights h_m_prices h_m_shares h_wd_row c_without c_lengths c_m_states c_m_letters c_m_moves c_wd_length c_wd_row) H := hP
        have hD : va_D A (cw_X5_giveWord g h_this h_m h_wd h_this_lengths h_this_queue h_m_moves h_m_lights h_m_prices h_m_shares h_wd_row c_without c_lengths c_m_states c_m_letters c_m_moves c_wd_length c_wd_row) := hD
        refine lv_istore (lv' := [(9, .int r6), (0, .ref h_this), (1, .ref h_m), (4, .ref h_wd), (5, .int x5), (6, .int x6), (7, .int x7), (8, .int x8)]) hx hb dX5_giveWord_45 hl (by decide) rfl (fun ls hl => ?_)
        refine lv_aload hx hb dX5_giveWord_47 (lv_at hl 3 rfl) ?_
        refine lv_iload hx hb dX5_giveWord_49 (lv_at hl 7 rfl) ?_
        refine lv_iload hx hb dX5_giveWord_51 (lv_at hl 0 rfl) ?_
        refine go_V E (run_V E ((k_X10_put l g h_wd h_wd_row h) _) (cwV 2 hts gX5_giveWord_X10_put rfl rfl rfl (by decide +kernel) ⟨Nat.le_of_ble_eq_true rfl, Nat.le_of_ble_eq_true rfl⟩) hP hD hS [4, 5] rfl rfl 0 9 rfl rfl rfl hl rfl rfl (Nat.le_of_ble_eq_true rfl) dX5_giveWord_53 ⟨Nat.le_of_ble_eq_true rfl, Nat.le_of_ble_eq_true rfl⟩) hP hD hS [4, 5] rfl [(true, 0), (true, 1), (true, 2), (true, 3), (false, 0), (false, 1)] rfl (by decide) (fun u => (cw_X5_giveWord g h_this h_m h_wd h_this_lengths h_this_queue h_m_moves h_m_lights h_m_prices h_m_shares h_wd_row c_without c_lengths c_m_states c_m_letters c_m_moves c_wd_length u)) (fun _ => rfl) (fun c_wd_row H locs h hP hD hS => ?_)
        try dsimp only at h
        have hP : va_P g.1 vwCl (cw_X5_giveWord g h_this h_m h_wd h_this_lengths h_this_queue h_m_moves h_m_lights h_m_prices h_m_shares h_wd_row c_without c_lengths c_m_states c_m_letters c_m_moves c_wd_length c_wd_row) H := hP
        have hD : va_D A (cw_X5_giveWord g h_this h_m h_wd h_this_lengths h_this_queue h_m_moves h_m_lights h_m_prices h_m_shares h_wd_row c_without c_lengths c_m_states c_m_letters c_m_moves c_wd_length c_wd_row) := hD
        refine lv_aload_n hx hb dX5_giveWord_56 rfl (lv_at hl 2 rfl) ?_
        refine lv_iload hx hb dX5_giveWord_57 (lv_at hl 5 rfl) ?_
        refine lv_iload hx hb dX5_giveWord_59 (lv_at hl 0 rfl) ?_
        refine go_I E (run_V E ((k_X4_target l g h_m h_m_moves h_m_lights h_m_prices h_m_shares h) _) (cwV 2 hts gX5_giveWord_X4_target rfl rfl rfl (by decide +kernel) ⟨Nat.le_of_ble_eq_true rfl, Nat.le_of_ble_eq_true rfl⟩) hP hD hS [2, 3] rfl rfl 0 3 rfl rfl rfl hl rfl rfl (Nat.le_of_ble_eq_true rfl) dX5_giveWord_61 ⟨Nat.le_of_ble_eq_true rfl, Nat.le_of_ble_eq_true rfl⟩) hP hD hS [2, 3] rfl [(true, 0), (true, 1), (false, 0), (false, 1), (true, 4), (true, 5)] rfl (by decide) (fun _ => (cw_X5_giveWord g h_this h_m h_wd h_this_lengths h_this_queue h_m_moves h_m_lights h_m_prices h_m_shares h_wd_row c_without c_lengths c_m_states c_m_letters c_m_moves c_wd_length c_wd_row)) (fun _ => rfl) (fun r10 _ H locs h hP hD hS => ?_)
        try dsimp only at h
        have hP : va_P g.1 vwCl (cw_X5_giveWord g h_this h_m h_wd h_this_lengths h_this_queue h_m_moves h_m_lights h_m_prices h_m_shares h_wd_row c_without c_lengths c_m_states c_m_letters c_m_moves c_wd_length c_wd_row) H := hP
        have hD : va_D A (cw_X5_giveWord g h_this h_m h_wd h_this_lengths h_this_queue h_m_moves h_m_lights h_m_prices h_m_shares h_wd_row c_without c_lengths c_m_states c_m_letters c_m_moves c_wd_length c_wd_row) := hD
        refine lv_istore (lv' := [(6, .int r10), (9, .int r6), (0, .ref h_this), (1, .ref h_m), (4, .ref h_wd), (5, .int x5), (7, .int x7), (8, .int x8)]) hx hb dX5_giveWord_64 hl (by decide) rfl (fun ls hl => ?_)
        refine lv_aload_n hx hb dX5_giveWord_66 rfl (lv_at hl 3 rfl) ?_
        refine lv_iload hx hb dX5_giveWord_67 (lv_at hl 6 rfl) ?_
        refine lv_iload hx hb dX5_giveWord_69 (lv_at hl 1 rfl) ?_
        refine go_I E (run_V E ((k_X4_target l g h_m h_m_moves h_m_lights h_m_prices h_m_shares h) _) (cwV 2 hts gX5_giveWord_X4_target rfl rfl rfl (by decide +kernel) ⟨Nat.le_of_ble_eq_true rfl, Nat.le_of_ble_eq_true rfl⟩) hP hD hS [2, 3] rfl rfl 0 3 rfl rfl rfl hl rfl rfl (Nat.le_of_ble_eq_true rfl) dX5_giveWord_71 ⟨Nat.le_of_ble_eq_true rfl, Nat.le_of_ble_eq_true rfl⟩) hP hD hS [2, 3] rfl [(true, 0), (true, 1), (false, 0), (false, 1), (true, 4), (true, 5)] rfl (by decide) (fun _ => (cw_X5_giveWord g h_this h_m h_wd h_this_lengths h_this_queue h_m_moves h_m_lights h_m_prices h_m_shares h_wd_row c_without c_lengths c_m_states c_m_letters c_m_moves c_wd_length c_wd_row)) (fun _ => rfl) (fun r12 _ H locs h hP hD hS => ?_)
        try dsimp only at h
        have hP : va_P g.1 vwCl (cw_X5_giveWord g h_this h_m h_wd h_this_lengths h_this_queue h_m_moves h_m_lights h_m_prices h_m_shares h_wd_row c_without c_lengths c_m_states c_m_letters c_m_moves c_wd_length c_wd_row) H := hP
        have hD : va_D A (cw_X5_giveWord g h_this h_m h_wd h_this_lengths h_this_queue h_m_moves h_m_lights h_m_prices h_m_shares h_wd_row c_without c_lengths c_m_states c_m_letters c_m_moves c_wd_length c_wd_row) := hD
        refine lv_istore (lv' := [(7, .int r12), (6, .int r10), (9, .int r6), (0, .ref h_this), (1, .ref h_m), (4, .ref h_wd), (5, .int x5), (8, .int x8)]) hx hb dX5_giveWord_74 hl (by decide) rfl (fun ls hl => ?_)
        refine lv_iinc (v := (x8 + (nI 1))) (lv' := [(8, .int (x8 + (nI 1))), (7, .int r12), (6, .int r10), (9, .int r6), (0, .ref h_this), (1, .ref h_m), (4, .ref h_wd), (5, .int x5)]) hx hb dX5_giveWord_76 hl (k := 7) rfl rfl (by decide) rfl (fun ls hl => ?_)
        refine lv_goto (tgt := 24) hx hb dX5_giveWord_79 (by decide) ?_
        exact ih_24 r10 r12 (x8 + (nI 1)) c_wd_row h _ _ hP hD hS _ (lv_sub hl [4, 5, 6, 7, 2, 1, 0] rfl)
  refine lv_aload_n hx hb dX5_giveWord_0 rfl (lv_at hl 0 rfl) ?_
  refine lv_iload_n hx hb dX5_giveWord_1 rfl (lv_at hl 2 rfl) ?_
  refine lv_iload_n hx hb dX5_giveWord_2 rfl (lv_at hl 3 rfl) ?_
  refine go_I E (run_V E ((k_X5_lengthOf l g h_this h_this_lengths h_this_queue h) _) (cwV 2 hts gX5_giveWord_X5_lengthOf rfl rfl rfl (by decide +kernel) ⟨Nat.le_of_ble_eq_true rfl, Nat.le_of_ble_eq_true rfl⟩) hP hD hS [0, 1] rfl rfl 0 4 rfl rfl rfl hl rfl rfl (Nat.le_of_ble_eq_true rfl) dX5_giveWord_3 ⟨Nat.le_of_ble_eq_true rfl, Nat.le_of_ble_eq_true rfl⟩) hP hD hS [0, 1] rfl [(false, 0), (false, 1), (true, 2), (true, 3), (true, 4), (true, 5)] rfl (by decide) (fun _ => (cw_X5_giveWord g h_this h_m h_wd h_this_lengths h_this_queue h_m_moves h_m_lights h_m_prices h_m_shares h_wd_row c_without c_lengths c_m_states c_m_letters c_m_moves c_wd_length c_wd_row)) (fun _ => rfl) (fun r2 _ H locs h hP hD hS => ?_)
  try dsimp only at h
  have hP : va_P g.1 vwCl (cw_X5_giveWord g h_this h_m h_wd h_this_lengths h_this_queue h_m_moves h_m_lights h_m_prices h_m_shares h_wd_row c_without c_lengths c_m_states c_m_letters c_m_moves c_wd_length c_wd_row) H := hP
  have hD : va_D A (cw_X5_giveWord g h_this h_m h_wd h_this_lengths h_this_queue h_m_moves h_m_lights h_m_prices h_m_shares h_wd_row c_without c_lengths c_m_states c_m_letters c_m_moves c_wd_length c_wd_row) := hD
  refine lv_istore (lv' := [(5, .int r2), (0, .ref h_this), (1, .ref h_m), (2, .int x2), (3, .int x3), (4, .ref h_wd)]) hx hb dX5_giveWord_6 hl (by decide) rfl (fun ls hl => ?_)
  refine lv_iload_n hx hb dX5_giveWord_8 rfl (lv_at hl 3 rfl) ?_
  refine lv_istore (lv' := [(6, .int x2), (5, .int r2), (0, .ref h_this), (1, .ref h_m), (2, .int x2), (3, .int x3), (4, .ref h_wd)]) hx hb dX5_giveWord_9 hl (by decide) rfl (fun ls hl => ?_)
  refine lv_iload_n hx hb dX5_giveWord_11 rfl (lv_at hl 5 rfl) ?_
  refine lv_istore (lv' := [(7, .int x3), (6, .int x2), (5, .int r2), (0, .ref h_this), (1, .ref h_m), (2, .int x2), (3, .int x3), (4, .ref h_wd)]) hx hb dX5_giveWord_12 hl (by decide) rfl (fun ls hl => ?_)
  refine lv_aload hx hb dX5_giveWord_14 (lv_at hl 7 rfl) ?_
  refine lv_iload hx hb dX5_giveWord_16 (lv_at hl 2 rfl) ?_
  refine go_V E (run_V E ((k_X10_resize l g h_wd h_wd_row h) _) (cwV 1 hts gX5_giveWord_X10_resize rfl rfl rfl (by decide +kernel) ⟨Nat.le_of_ble_eq_true rfl, Nat.le_of_ble_eq_true rfl⟩) hP hD hS [4] rfl rfl 0 9 rfl rfl rfl hl rfl rfl (Nat.le_of_ble_eq_true rfl) dX5_giveWord_18 ⟨Nat.le_of_ble_eq_true rfl, Nat.le_of_ble_eq_true rfl⟩) hP hD hS [4] rfl [(true, 0), (true, 1), (true, 2), (true, 3), (false, 0), (true, 5)] rfl (by decide) (fun u => (cw_X5_giveWord g h_this h_m h_wd h_this_lengths h_this_queue h_m_moves h_m_lights h_m_prices h_m_shares h_wd_row c_without c_lengths c_m_states c_m_letters c_m_moves u c_wd_row)) (fun _ => rfl) (fun c_wd_length H locs h hP hD hS => ?_)
  try dsimp only at h
  have hP : va_P g.1 vwCl (cw_X5_giveWord g h_this h_m h_wd h_this_lengths h_this_queue h_m_moves h_m_lights h_m_prices h_m_shares h_wd_row c_without c_lengths c_m_states c_m_letters c_m_moves c_wd_length c_wd_row) H := hP
  have hD : va_D A (cw_X5_giveWord g h_this h_m h_wd h_this_lengths h_this_queue h_m_moves h_m_lights h_m_prices h_m_shares h_wd_row c_without c_lengths c_m_states c_m_letters c_m_moves c_wd_length c_wd_row) := hD
  refine lv_iconst (v := (nI 0)) hx hb dX5_giveWord_21 (by decide) ?_
  refine lv_istore (lv' := [(8, .int (nI 0)), (7, .int x3), (6, .int x2), (5, .int r2), (0, .ref h_this), (1, .ref h_m), (2, .int x2), (3, .int x3), (4, .ref h_wd)]) hx hb dX5_giveWord_22 hl (by decide) rfl (fun ls hl => ?_)
  obtain ⟨n, h⟩ := h
  exact K_24 r2 c_wd_length n x2 x3 (nI 0) c_wd_row h _ _ hP hD hS _ (lv_sub hl [4, 5, 8, 3, 2, 1, 0] rfl)
abbrev cw_X10_at (g : GG) (h_this : Nat) (h_this_row : Nat) (c_length : Int32) (c_row : Nat → Int32) : va_W := [(h_this, .inr (9, [.ref h_this_row, .int c_length])), (h_this_row, .inl (g.2.1, 600, .inl c_row))]
def wp_X10_at (c_length : Int32) (c_row : Nat → Int32) (x1 : Int32) (Q : Int32 → Prop) : Prop :=
    ((x1 < (nI 0) → Q (-1)) ∧ (¬ x1 < (nI 0) → ((c_length ≤ x1 → Q (-1)) ∧ (¬ c_length ≤ x1 → (((nI 600) ≤ x1 → Q (-1)) ∧ (¬ (nI 600) ≤ x1 → vp_in x1 600 ∧ Q (c_row (Int32.toNatClampNeg x1))))))))
abbrev rm_X10_at : Room := { frames := 0, cells := 0, slots := 0, locals := 0 }
set_option maxHeartbeats 4000000 in
set_option maxRecDepth 100000 in
theorem k_X10_at (l : Launch) (g : GG) (h_this : Nat) (h_this_row : Nat) {c_length : Int32} {c_row : Nat → Int32} {x1 : Int32} {Q : Int32 → Prop} (h : wp_X10_at c_length c_row x1 Q) : CI l g yX10_at wsX10_at rm_X10_at [.ref h_this, .int x1] (cw_X10_at g h_this h_this_row c_length c_row) (S := Unit) (fun _ => (cw_X10_at g h_this h_this_row c_length c_row)) (fun r _ => Q r) 0 0 := by
  refine mk_I (cc := cX10_at) (maxL := 2) (own := RX10) (by decide) rfl rfl (Nat.le_of_ble_eq_true rfl) ?_
  intro p e s m args below meth c A QQ E hret hP hD hS ls hl
  have E2 := E
  obtain ⟨hx, hb, hr, hml, hown, hts, hlocks, hA, hZ, hK, hnm⟩ := E2
  have f15 := hts (.fieldLink RX10 15 "WordBench$Word" "length" "I") (by decide +kernel)
  have f9 := hts (.fieldLink RX10 9 "WordBench$Word" "row" "[I") (by decide +kernel)
  have iX10 : ∀ w ∈ wsX100, w ∈ wsX10_at := fun _ h => List.mem_cons_of_mem _ (List.mem_append_right _ h)
  have hP : va_P g.1 vwCl (cw_X10_at g h_this h_this_row c_length c_row) s.heap := hP
  have hD : va_D A (cw_X10_at g h_this h_this_row c_length c_row) := hD
  have hl : lv_has ls 2 [(0, .ref h_this), (1, .int x1)] := hl
  unfold wp_X10_at at h
  refine lv_iload_n hx hb dX10_at_0 rfl (lv_at hl 1 rfl) ?_
  refine lv_if_lt (tgt := 28) hx hb dX10_at_1 (by decide) (fun cq => ?_) (fun cq => ?_)
  · replace h := h.1 cq
    refine lv_iconst (v := (-1)) hx hb dX10_at_28 (by decide) ?_
    exact hret (-1) () _ _ _ _ rfl h hP hD hS dX10_at_29
  · replace h := h.2 cq
    refine lv_iload_n hx hb dX10_at_4 rfl (lv_at hl 1 rfl) ?_
    refine lv_aload_n hx hb dX10_at_5 rfl (lv_at hl 0 rfl) ?_
    refine va_get (D := g.1) (ci := 9) (v := .int c_length) (C := RX10) (T := TX10) (N := 2) hx hb hts iX10 hown hK hP 0 rfl rfl 1 (by decide) f15 (fun _ h9 => h9) rfl dX10_at_6 ?_
    refine lv_icmp_ge (tgt := 28) hx hb dX10_at_9 (by decide) (fun cq => ?_) (fun cq => ?_)
    · replace h := h.1 cq
      refine lv_iconst (v := (-1)) hx hb dX10_at_28 (by decide) ?_
      exact hret (-1) () _ _ _ _ rfl h hP hD hS dX10_at_29
    · replace h := h.2 cq
      refine lv_iload_n hx hb dX10_at_12 rfl (lv_at hl 1 rfl) ?_
      refine lv_sipush (v := (nI 600)) hx hb dX10_at_13 (by decide) ?_
      refine lv_icmp_ge (tgt := 28) hx hb dX10_at_16 (by decide) (fun cq => ?_) (fun cq => ?_)
      · replace h := h.1 cq
        refine lv_iconst (v := (-1)) hx hb dX10_at_28 (by decide) ?_
        exact hret (-1) () _ _ _ _ rfl h hP hD hS dX10_at_29
      · replace h := h.2 cq
        refine lv_aload_n hx hb dX10_at_19 rfl (lv_at hl 0 rfl) ?_
        refine va_get (D := g.1) (ci := 9) (v := .ref h_this_row) (C := RX10) (T := TX10) (N := 2) hx hb hts iX10 hown hK hP 0 rfl rfl 0 (by decide) f9 (fun _ h9 => h9) rfl dX10_at_20 ?_
        refine lv_iload_n hx hb dX10_at_23 rfl (lv_at hl 1 rfl) ?_
        obtain ⟨hi, h⟩ := h
        refine va_iald (D := g.1) (n := 600) (f := c_row) hx hb hK hP 1 0 rfl rfl hi dX10_at_24 ?_
        refine lv_goto (tgt := 29) hx hb dX10_at_25 (by decide) ?_
        exact hret (c_row (Int32.toNatClampNeg x1)) () _ _ _ _ rfl h hP hD hS dX10_at_29
abbrev cw_X10_isAheadOf (g : GG) (h_this : Nat) (h_wd : Nat) (h_this_row : Nat) (h_wd_row : Nat) (c_length : Int32) (c_row : Nat → Int32) (c_wd_length : Int32) (c_wd_row : Nat → Int32) : va_W := [(h_this, .inr (9, [.ref h_this_row, .int c_length])), (h_this_row, .inl (g.2.1, 600, .inl c_row)), (h_wd, .inr (9, [.ref h_wd_row, .int c_wd_length])), (h_wd_row, .inl (g.2.1, 600, .inl c_wd_row))]
def J_X10_isAheadOf_51 (c_length : Int32) (c_row : Nat → Int32) (c_wd_length : Int32) (c_wd_row : Nat → Int32) (Q : Int32 → Prop) (x2 : Int32) : Prop :=
    wp_X10_at c_length c_row x2 (fun r8 => wp_X10_at c_wd_length c_wd_row x2 (fun r10 => ((r10 ≤ r8 → Q (nI 0)) ∧ (¬ r10 ≤ r8 → Q (nI 1)))))
def L_X10_isAheadOf_30 (c_length : Int32) (c_row : Nat → Int32) (c_wd_length : Int32) (c_wd_row : Nat → Int32) (Q : Int32 → Prop) : Nat → Int32 → Prop
  | 0, _ => False
  | n_30 + 1, x2 =>
    ((c_length ≤ x2 → Q (nI 0)) ∧ (¬ c_length ≤ x2 → wp_X10_at c_length c_row x2 (fun r4 => wp_X10_at c_wd_length c_wd_row x2 (fun r6 => ((r4 = r6 → (L_X10_isAheadOf_30 c_length c_row c_wd_length c_wd_row Q n_30) (x2 + (nI 1))) ∧ (¬ r4 = r6 → J_X10_isAheadOf_51 c_length c_row c_wd_length c_wd_row Q x2))))))
def wp_X10_isAheadOf (c_length : Int32) (c_row : Nat → Int32) (c_wd_length : Int32) (c_wd_row : Nat → Int32) (Q : Int32 → Prop) : Prop :=
    ((c_length = c_wd_length → ∃ n, L_X10_isAheadOf_30 c_length c_row c_wd_length c_wd_row Q n (nI 0)) ∧ (¬ c_length = c_wd_length → ((c_wd_length ≤ c_length → Q (nI 0)) ∧ (¬ c_wd_length ≤ c_length → Q (nI 1)))))
abbrev rm_X10_isAheadOf : Room := { frames := 1, cells := 0, slots := 0, locals := 21 }
set_option maxHeartbeats 4000000 in
set_option maxRecDepth 100000 in
theorem k_X10_isAheadOf (l : Launch) (g : GG) (h_this : Nat) (h_wd : Nat) (h_this_row : Nat) (h_wd_row : Nat) {c_length : Int32} {c_row : Nat → Int32} {c_wd_length : Int32} {c_wd_row : Nat → Int32} {Q : Int32 → Prop} (h : wp_X10_isAheadOf c_length c_row c_wd_length c_wd_row Q) : CI l g yX10_isAheadOf wsX10_isAheadOf rm_X10_isAheadOf [.ref h_this, .ref h_wd] (cw_X10_isAheadOf g h_this h_wd h_this_row h_wd_row c_length c_row c_wd_length c_wd_row) (S := Unit) (fun _ => (cw_X10_isAheadOf g h_this h_wd h_this_row h_wd_row c_length c_row c_wd_length c_wd_row)) (fun r _ => Q r) 0 0 := by
  refine mk_I (cc := cX10_isAheadOf) (maxL := 3) (own := RX10) (by decide) rfl rfl (Nat.le_of_ble_eq_true rfl) ?_
  intro p e s m args below meth c A QQ E hret hP hD hS ls hl
  have E2 := E
  obtain ⟨hx, hb, hr, hml, hown, hts, hlocks, hA, hZ, hK, hnm⟩ := E2
  have f15 := hts (.fieldLink RX10 15 "WordBench$Word" "length" "I") (by decide +kernel)
  have iX10 : ∀ w ∈ wsX100, w ∈ wsX10_isAheadOf := fun _ h => List.mem_cons_of_mem _ (List.mem_append_right _ h)
  have hP : va_P g.1 vwCl (cw_X10_isAheadOf g h_this h_wd h_this_row h_wd_row c_length c_row c_wd_length c_wd_row) s.heap := hP
  have hD : va_D A (cw_X10_isAheadOf g h_this h_wd h_this_row h_wd_row c_length c_row c_wd_length c_wd_row) := hD
  have hl : lv_has ls 3 [(0, .ref h_this), (1, .ref h_wd)] := hl
  unfold wp_X10_isAheadOf at h
  have K_51 : ∀ (x2 : Int32) , J_X10_isAheadOf_51 c_length c_row c_wd_length c_wd_row Q x2 → ∀ (H : Heap) (locs : List Loc), va_P g.1 vwCl (cw_X10_isAheadOf g h_this h_wd h_this_row h_wd_row c_length c_row c_wd_length c_wd_row) H → va_D A (cw_X10_isAheadOf g h_this h_wd h_this_row h_wd_row c_length c_row c_wd_length c_wd_row) → va_S A s.heap H locs → ∀ ls : Array Slot, lv_has ls 3 [(0, .ref h_this), (1, .ref h_wd), (2, .int x2)] → W p l e rm_X10_isAheadOf s m args below meth c H locs 0 0 QQ (F0 m 51 ls []) := by
    intro x2 h H locs hP hD hS ls hl
    unfold J_X10_isAheadOf_51 at h
    refine lv_aload_n hx hb dX10_isAheadOf_51 rfl (lv_at hl 0 rfl) ?_
    refine lv_iload_n hx hb dX10_isAheadOf_52 rfl (lv_at hl 2 rfl) ?_
    refine go_I E (run_V E ((k_X10_at l g h_this h_this_row h) _) (cwV 1 hts gX10_isAheadOf_X10_at rfl rfl rfl (by decide +kernel) ⟨Nat.le_of_ble_eq_true rfl, Nat.le_of_ble_eq_true rfl⟩) hP hD hS [0, 1] rfl rfl 0 9 rfl rfl rfl hl rfl rfl (Nat.le_of_ble_eq_true rfl) dX10_isAheadOf_53 ⟨Nat.le_of_ble_eq_true rfl, Nat.le_of_ble_eq_true rfl⟩) hP hD hS [0, 1] rfl [(false, 0), (false, 1), (true, 2), (true, 3)] rfl (by decide) (fun _ => (cw_X10_isAheadOf g h_this h_wd h_this_row h_wd_row c_length c_row c_wd_length c_wd_row)) (fun _ => rfl) (fun r8 _ H locs h hP hD hS => ?_)
    try dsimp only at h
    have hP : va_P g.1 vwCl (cw_X10_isAheadOf g h_this h_wd h_this_row h_wd_row c_length c_row c_wd_length c_wd_row) H := hP
    have hD : va_D A (cw_X10_isAheadOf g h_this h_wd h_this_row h_wd_row c_length c_row c_wd_length c_wd_row) := hD
    refine lv_aload_n hx hb dX10_isAheadOf_56 rfl (lv_at hl 1 rfl) ?_
    refine lv_iload_n hx hb dX10_isAheadOf_57 rfl (lv_at hl 2 rfl) ?_
    refine go_I E (run_V E ((k_X10_at l g h_wd h_wd_row h) _) (cwV 1 hts gX10_isAheadOf_X10_at rfl rfl rfl (by decide +kernel) ⟨Nat.le_of_ble_eq_true rfl, Nat.le_of_ble_eq_true rfl⟩) hP hD hS [2, 3] rfl rfl 0 9 rfl rfl rfl hl rfl rfl (Nat.le_of_ble_eq_true rfl) dX10_isAheadOf_58 ⟨Nat.le_of_ble_eq_true rfl, Nat.le_of_ble_eq_true rfl⟩) hP hD hS [2, 3] rfl [(true, 0), (true, 1), (false, 0), (false, 1)] rfl (by decide) (fun _ => (cw_X10_isAheadOf g h_this h_wd h_this_row h_wd_row c_length c_row c_wd_length c_wd_row)) (fun _ => rfl) (fun r10 _ H locs h hP hD hS => ?_)
    try dsimp only at h
    have hP : va_P g.1 vwCl (cw_X10_isAheadOf g h_this h_wd h_this_row h_wd_row c_length c_row c_wd_length c_wd_row) H := hP
    have hD : va_D A (cw_X10_isAheadOf g h_this h_wd h_this_row h_wd_row c_length c_row c_wd_length c_wd_row) := hD
    refine lv_icmp_ge (tgt := 68) hx hb dX10_isAheadOf_61 (by decide) (fun cq => ?_) (fun cq => ?_)
    · replace h := h.1 cq
      refine lv_iconst (v := (nI 0)) hx hb dX10_isAheadOf_68 (by decide) ?_
      exact hret (nI 0) () _ _ _ _ nbz h hP hD hS dX10_isAheadOf_69
    · replace h := h.2 cq
      refine lv_iconst (v := (nI 1)) hx hb dX10_isAheadOf_64 (by decide) ?_
      refine lv_goto (tgt := 69) hx hb dX10_isAheadOf_65 (by decide) ?_
      exact hret (nI 1) () _ _ _ _ nbo h hP hD hS dX10_isAheadOf_69
  have K_30 : ∀ (n_30 : Nat) (x2 : Int32) , L_X10_isAheadOf_30 c_length c_row c_wd_length c_wd_row Q n_30 x2 → ∀ (H : Heap) (locs : List Loc), va_P g.1 vwCl (cw_X10_isAheadOf g h_this h_wd h_this_row h_wd_row c_length c_row c_wd_length c_wd_row) H → va_D A (cw_X10_isAheadOf g h_this h_wd h_this_row h_wd_row c_length c_row c_wd_length c_wd_row) → va_S A s.heap H locs → ∀ ls : Array Slot, lv_has ls 3 [(0, .ref h_this), (1, .ref h_wd), (2, .int x2)] → W p l e rm_X10_isAheadOf s m args below meth c H locs 0 0 QQ (F0 m 30 ls []) := by
    intro n_30
    induction n_30 with
    | zero => intro x2; exact fun h => False.elim h
    | succ n_30 ih_30 =>
      intro x2 h H locs hP hD hS ls hl
      unfold L_X10_isAheadOf_30 at h
      refine lv_iload_n hx hb dX10_isAheadOf_30 rfl (lv_at hl 2 rfl) ?_
      refine lv_aload_n hx hb dX10_isAheadOf_31 rfl (lv_at hl 0 rfl) ?_
      refine va_get (D := g.1) (ci := 9) (v := .int c_length) (C := RX10) (T := TX10) (N := 2) hx hb hts iX10 hown hK hP 0 rfl rfl 1 (by decide) f15 (fun _ h9 => h9) rfl dX10_isAheadOf_32 ?_
      refine lv_icmp_ge (tgt := 76) hx hb dX10_isAheadOf_35 (by decide) (fun cq => ?_) (fun cq => ?_)
      · replace h := h.1 cq
        refine lv_iconst (v := (nI 0)) hx hb dX10_isAheadOf_76 (by decide) ?_
        exact hret (nI 0) () _ _ _ _ nbz h hP hD hS dX10_isAheadOf_77
      · replace h := h.2 cq
        refine lv_aload_n hx hb dX10_isAheadOf_38 rfl (lv_at hl 0 rfl) ?_
        refine lv_iload_n hx hb dX10_isAheadOf_39 rfl (lv_at hl 2 rfl) ?_
        refine go_I E (run_V E ((k_X10_at l g h_this h_this_row h) _) (cwV 1 hts gX10_isAheadOf_X10_at rfl rfl rfl (by decide +kernel) ⟨Nat.le_of_ble_eq_true rfl, Nat.le_of_ble_eq_true rfl⟩) hP hD hS [0, 1] rfl rfl 0 9 rfl rfl rfl hl rfl rfl (Nat.le_of_ble_eq_true rfl) dX10_isAheadOf_40 ⟨Nat.le_of_ble_eq_true rfl, Nat.le_of_ble_eq_true rfl⟩) hP hD hS [0, 1] rfl [(false, 0), (false, 1), (true, 2), (true, 3)] rfl (by decide) (fun _ => (cw_X10_isAheadOf g h_this h_wd h_this_row h_wd_row c_length c_row c_wd_length c_wd_row)) (fun _ => rfl) (fun r4 _ H locs h hP hD hS => ?_)
        try dsimp only at h
        have hP : va_P g.1 vwCl (cw_X10_isAheadOf g h_this h_wd h_this_row h_wd_row c_length c_row c_wd_length c_wd_row) H := hP
        have hD : va_D A (cw_X10_isAheadOf g h_this h_wd h_this_row h_wd_row c_length c_row c_wd_length c_wd_row) := hD
        refine lv_aload_n hx hb dX10_isAheadOf_43 rfl (lv_at hl 1 rfl) ?_
        refine lv_iload_n hx hb dX10_isAheadOf_44 rfl (lv_at hl 2 rfl) ?_
        refine go_I E (run_V E ((k_X10_at l g h_wd h_wd_row h) _) (cwV 1 hts gX10_isAheadOf_X10_at rfl rfl rfl (by decide +kernel) ⟨Nat.le_of_ble_eq_true rfl, Nat.le_of_ble_eq_true rfl⟩) hP hD hS [2, 3] rfl rfl 0 9 rfl rfl rfl hl rfl rfl (Nat.le_of_ble_eq_true rfl) dX10_isAheadOf_45 ⟨Nat.le_of_ble_eq_true rfl, Nat.le_of_ble_eq_true rfl⟩) hP hD hS [2, 3] rfl [(true, 0), (true, 1), (false, 0), (false, 1)] rfl (by decide) (fun _ => (cw_X10_isAheadOf g h_this h_wd h_this_row h_wd_row c_length c_row c_wd_length c_wd_row)) (fun _ => rfl) (fun r6 _ H locs h hP hD hS => ?_)
        try dsimp only at h
        have hP : va_P g.1 vwCl (cw_X10_isAheadOf g h_this h_wd h_this_row h_wd_row c_length c_row c_wd_length c_wd_row) H := hP
        have hD : va_D A (cw_X10_isAheadOf g h_this h_wd h_this_row h_wd_row c_length c_row c_wd_length c_wd_row) := hD
        refine lv_icmp_eq (tgt := 70) hx hb dX10_isAheadOf_48 (by decide) (fun cq => ?_) (fun cq => ?_)
        · replace h := h.1 cq
          refine lv_iinc (v := (x2 + (nI 1))) (lv' := [(2, .int (x2 + (nI 1))), (0, .ref h_this), (1, .ref h_wd)]) hx hb dX10_isAheadOf_70 hl (k := 2) rfl rfl (by decide) rfl (fun ls hl => ?_)
          refine lv_goto (tgt := 30) hx hb dX10_isAheadOf_73 (by decide) ?_
          exact ih_30 (x2 + (nI 1)) h _ _ hP hD hS _ (lv_sub hl [1, 2, 0] rfl)
        · replace h := h.2 cq
          exact K_51 x2 h _ _ hP hD hS _ (lv_sub hl [0, 1, 2] rfl)
  refine lv_aload_n hx hb dX10_isAheadOf_0 rfl (lv_at hl 0 rfl) ?_
  refine va_get (D := g.1) (ci := 9) (v := .int c_length) (C := RX10) (T := TX10) (N := 2) hx hb hts iX10 hown hK hP 0 rfl rfl 1 (by decide) f15 (fun _ h9 => h9) rfl dX10_isAheadOf_1 ?_
  refine lv_aload_n hx hb dX10_isAheadOf_4 rfl (lv_at hl 1 rfl) ?_
  refine go_I E (run_V E ((k_X10_length l g h_wd h_wd_row (Q := fun r => r = c_wd_length) rfl) _) (cwV 0 hts gX10_isAheadOf_X10_length rfl rfl rfl (by decide +kernel) ⟨Nat.le_of_ble_eq_true rfl, Nat.le_of_ble_eq_true rfl⟩) hP hD hS [2] rfl rfl 0 9 rfl rfl rfl hl rfl rfl (Nat.le_of_ble_eq_true rfl) dX10_isAheadOf_5 ⟨Nat.le_of_ble_eq_true rfl, Nat.le_of_ble_eq_true rfl⟩) hP hD hS [2] rfl [(true, 0), (true, 1), (false, 0), (true, 3)] rfl (by decide) (fun _ => (cw_X10_isAheadOf g h_this h_wd h_this_row h_wd_row c_length c_row c_wd_length c_wd_row)) (fun _ => rfl) (fun r2 _ H locs hr_ hP hD hS => ?_)
  have hr_ : c_wd_length = r2 := Eq.symm hr_
  subst hr_
  have hP : va_P g.1 vwCl (cw_X10_isAheadOf g h_this h_wd h_this_row h_wd_row c_length c_row c_wd_length c_wd_row) H := hP
  have hD : va_D A (cw_X10_isAheadOf g h_this h_wd h_this_row h_wd_row c_length c_row c_wd_length c_wd_row) := hD
  refine lv_icmp_eq (tgt := 28) hx hb dX10_isAheadOf_8 (by decide) (fun cq => ?_) (fun cq => ?_)
  · replace h := h.1 cq
    refine lv_iconst (v := (nI 0)) hx hb dX10_isAheadOf_28 (by decide) ?_
    refine lv_istore_n (lv' := [(2, .int (nI 0)), (0, .ref h_this), (1, .ref h_wd)]) hx hb dX10_isAheadOf_29 rfl hl (by decide) rfl (fun ls hl => ?_)
    obtain ⟨n, h⟩ := h
    exact K_30 n (nI 0) h _ _ hP hD hS _ (lv_sub hl [1, 2, 0] rfl)
  · replace h := h.2 cq
    refine lv_aload_n hx hb dX10_isAheadOf_11 rfl (lv_at hl 0 rfl) ?_
    refine va_get (D := g.1) (ci := 9) (v := .int c_length) (C := RX10) (T := TX10) (N := 2) hx hb hts iX10 hown hK hP 0 rfl rfl 1 (by decide) f15 (fun _ h9 => h9) rfl dX10_isAheadOf_12 ?_
    refine lv_aload_n hx hb dX10_isAheadOf_15 rfl (lv_at hl 1 rfl) ?_
    refine go_I E (run_V E ((k_X10_length l g h_wd h_wd_row (Q := fun r => r = c_wd_length) rfl) _) (cwV 0 hts gX10_isAheadOf_X10_length rfl rfl rfl (by decide +kernel) ⟨Nat.le_of_ble_eq_true rfl, Nat.le_of_ble_eq_true rfl⟩) hP hD hS [2] rfl rfl 0 9 rfl rfl rfl hl rfl rfl (Nat.le_of_ble_eq_true rfl) dX10_isAheadOf_16 ⟨Nat.le_of_ble_eq_true rfl, Nat.le_of_ble_eq_true rfl⟩) hP hD hS [2] rfl [(true, 0), (true, 1), (false, 0), (true, 3)] rfl (by decide) (fun _ => (cw_X10_isAheadOf g h_this h_wd h_this_row h_wd_row c_length c_row c_wd_length c_wd_row)) (fun _ => rfl) (fun r12 _ H locs hr_ hP hD hS => ?_)
    have hr_ : c_wd_length = r12 := Eq.symm hr_
    subst hr_
    have hP : va_P g.1 vwCl (cw_X10_isAheadOf g h_this h_wd h_this_row h_wd_row c_length c_row c_wd_length c_wd_row) H := hP
    have hD : va_D A (cw_X10_isAheadOf g h_this h_wd h_this_row h_wd_row c_length c_row c_wd_length c_wd_row) := hD
    refine lv_icmp_ge (tgt := 26) hx hb dX10_isAheadOf_19 (by decide) (fun cq => ?_) (fun cq => ?_)
    · replace h := h.1 cq
      refine lv_iconst (v := (nI 0)) hx hb dX10_isAheadOf_26 (by decide) ?_
      exact hret (nI 0) () _ _ _ _ nbz h hP hD hS dX10_isAheadOf_27
    · replace h := h.2 cq
      refine lv_iconst (v := (nI 1)) hx hb dX10_isAheadOf_22 (by decide) ?_
      refine lv_goto (tgt := 27) hx hb dX10_isAheadOf_23 (by decide) ?_
      exact hret (nI 1) () _ _ _ _ nbo h hP hD hS dX10_isAheadOf_27
abbrev cw_X8_afterWord (g : GG) (h_this : Nat) (h_wd : Nat) (h_this_low : Nat) (h_this_high : Nat) (h_wd_row : Nat) (c_letters : Int32) (c_low : Nat → Int32) (c_high : Nat → Int32) (c_wd_length : Int32) (c_wd_row : Nat → Int32) : va_W := [(h_this, .inr (7, [.ref h_this_low, .ref h_this_high, .int c_letters])), (h_this_low, .inl (g.2.1, 256, .inl c_low)), (h_this_high, .inl (g.2.1, 256, .inl c_high)), (h_wd, .inr (9, [.ref h_wd_row, .int c_wd_length])), (h_wd_row, .inl (g.2.1, 600, .inl c_wd_row))]
def L_X8_afterWord_5 (c_letters : Int32) (c_low : Nat → Int32) (c_high : Nat → Int32) (c_wd_length : Int32) (c_wd_row : Nat → Int32) (Q : Int32 → Prop) : Nat → Int32 → Int32 → Prop
  | 0, _, _ => False
  | n_5 + 1, x3, x4 =>
    ((c_wd_length ≤ x4 → Q x3) ∧ (¬ c_wd_length ≤ x4 → ((x3 = (nI 0) → Q x3) ∧ (¬ x3 = (nI 0) → wp_X10_at c_wd_length c_wd_row x4 (fun r4 => wp_X8_after c_letters c_low c_high x3 r4 (fun r6 => (L_X8_afterWord_5 c_letters c_low c_high c_wd_length c_wd_row Q n_5) r6 (x4 + (nI 1))))))))
def wp_X8_afterWord (c_letters : Int32) (c_low : Nat → Int32) (c_high : Nat → Int32) (c_wd_length : Int32) (c_wd_row : Nat → Int32) (x1 : Int32) (Q : Int32 → Prop) : Prop :=
    ∃ n, L_X8_afterWord_5 c_letters c_low c_high c_wd_length c_wd_row Q n x1 (nI 0)
abbrev rm_X8_afterWord : Room := { frames := 1, cells := 0, slots := 0, locals := 24 }
set_option maxHeartbeats 4000000 in
set_option maxRecDepth 100000 in
theorem k_X8_afterWord (l : Launch) (g : GG) (h_this : Nat) (h_wd : Nat) (h_this_low : Nat) (h_this_high : Nat) (h_wd_row : Nat) {c_letters : Int32} {c_low : Nat → Int32} {c_high : Nat → Int32} {c_wd_length : Int32} {c_wd_row : Nat → Int32} {x1 : Int32} {Q : Int32 → Prop} (h : wp_X8_afterWord c_letters c_low c_high c_wd_length c_wd_row x1 Q) : CI l g yX8_afterWord wsX8_afterWord rm_X8_afterWord [.ref h_this, .int x1, .ref h_wd] (cw_X8_afterWord g h_this h_wd h_this_low h_this_high h_wd_row c_letters c_low c_high c_wd_length c_wd_row) (S := Unit) (fun _ => (cw_X8_afterWord g h_this h_wd h_this_low h_this_high h_wd_row c_letters c_low c_high c_wd_length c_wd_row)) (fun r _ => Q r) 0 0 := by
  refine mk_I (cc := cX8_afterWord) (maxL := 5) (own := RX8) (by decide) rfl rfl (Nat.le_of_ble_eq_true rfl) ?_
  intro p e s m args below meth c A QQ E hret hP hD hS ls hl
  have E2 := E
  obtain ⟨hx, hb, hr, hml, hown, hts, hlocks, hA, hZ, hK, hnm⟩ := E2
  have hP : va_P g.1 vwCl (cw_X8_afterWord g h_this h_wd h_this_low h_this_high h_wd_row c_letters c_low c_high c_wd_length c_wd_row) s.heap := hP
  have hD : va_D A (cw_X8_afterWord g h_this h_wd h_this_low h_this_high h_wd_row c_letters c_low c_high c_wd_length c_wd_row) := hD
  have hl : lv_has ls 5 [(0, .ref h_this), (1, .int x1), (2, .ref h_wd)] := hl
  unfold wp_X8_afterWord at h
  have K_5 : ∀ (n_5 : Nat) (x3 : Int32) (x4 : Int32) , L_X8_afterWord_5 c_letters c_low c_high c_wd_length c_wd_row Q n_5 x3 x4 → ∀ (H : Heap) (locs : List Loc), va_P g.1 vwCl (cw_X8_afterWord g h_this h_wd h_this_low h_this_high h_wd_row c_letters c_low c_high c_wd_length c_wd_row) H → va_D A (cw_X8_afterWord g h_this h_wd h_this_low h_this_high h_wd_row c_letters c_low c_high c_wd_length c_wd_row) → va_S A s.heap H locs → ∀ ls : Array Slot, lv_has ls 5 [(0, .ref h_this), (2, .ref h_wd), (3, .int x3), (4, .int x4)] → W p l e rm_X8_afterWord s m args below meth c H locs 0 0 QQ (F0 m 5 ls []) := by
    intro n_5
    induction n_5 with
    | zero => intro x3 x4; exact fun h => False.elim h
    | succ n_5 ih_5 =>
      intro x3 x4 h H locs hP hD hS ls hl
      unfold L_X8_afterWord_5 at h
      refine lv_iload hx hb dX8_afterWord_5 (lv_at hl 3 rfl) ?_
      refine lv_aload_n hx hb dX8_afterWord_7 rfl (lv_at hl 1 rfl) ?_
      refine go_I E (run_V E ((k_X10_length l g h_wd h_wd_row (Q := fun r => r = c_wd_length) rfl) _) (cwV 0 hts gX8_afterWord_X10_length rfl rfl rfl (by decide +kernel) ⟨Nat.le_of_ble_eq_true rfl, Nat.le_of_ble_eq_true rfl⟩) hP hD hS [3] rfl rfl 0 9 rfl rfl rfl hl rfl rfl (Nat.le_of_ble_eq_true rfl) dX8_afterWord_8 ⟨Nat.le_of_ble_eq_true rfl, Nat.le_of_ble_eq_true rfl⟩) hP hD hS [3] rfl [(true, 0), (true, 1), (true, 2), (false, 0), (true, 4)] rfl (by decide) (fun _ => (cw_X8_afterWord g h_this h_wd h_this_low h_this_high h_wd_row c_letters c_low c_high c_wd_length c_wd_row)) (fun _ => rfl) (fun r2 _ H locs hr_ hP hD hS => ?_)
      have hr_ : c_wd_length = r2 := Eq.symm hr_
      subst hr_
      have hP : va_P g.1 vwCl (cw_X8_afterWord g h_this h_wd h_this_low h_this_high h_wd_row c_letters c_low c_high c_wd_length c_wd_row) H := hP
      have hD : va_D A (cw_X8_afterWord g h_this h_wd h_this_low h_this_high h_wd_row c_letters c_low c_high c_wd_length c_wd_row) := hD
      refine lv_icmp_ge (tgt := 36) hx hb dX8_afterWord_11 (by decide) (fun cq => ?_) (fun cq => ?_)
      · replace h := h.1 cq
        refine lv_iload_n hx hb dX8_afterWord_36 rfl (lv_at hl 2 rfl) ?_
        exact hret x3 () _ _ _ _ rfl h hP hD hS dX8_afterWord_37
      · replace h := h.2 cq
        refine lv_iload_n hx hb dX8_afterWord_14 rfl (lv_at hl 2 rfl) ?_
        refine lv_if_eq (tgt := 36) hx hb dX8_afterWord_15 (by decide) (fun cq => ?_) (fun cq => ?_)
        · replace h := h.1 cq
          refine lv_iload_n hx hb dX8_afterWord_36 rfl (lv_at hl 2 rfl) ?_
          exact hret x3 () _ _ _ _ rfl h hP hD hS dX8_afterWord_37
        · replace h := h.2 cq
          refine lv_aload_n hx hb dX8_afterWord_18 rfl (lv_at hl 0 rfl) ?_
          refine lv_iload_n hx hb dX8_afterWord_19 rfl (lv_at hl 2 rfl) ?_
          refine lv_aload_n hx hb dX8_afterWord_20 rfl (lv_at hl 1 rfl) ?_
          refine lv_iload hx hb dX8_afterWord_21 (lv_at hl 3 rfl) ?_
          refine go_I E (run_V E ((k_X10_at l g h_wd h_wd_row h) _) (cwV 1 hts gX8_afterWord_X10_at rfl rfl rfl (by decide +kernel) ⟨Nat.le_of_ble_eq_true rfl, Nat.le_of_ble_eq_true rfl⟩) hP hD hS [3, 4] rfl rfl 0 9 rfl rfl rfl hl rfl rfl (Nat.le_of_ble_eq_true rfl) dX8_afterWord_23 ⟨Nat.le_of_ble_eq_true rfl, Nat.le_of_ble_eq_true rfl⟩) hP hD hS [3, 4] rfl [(true, 0), (true, 1), (true, 2), (false, 0), (false, 1)] rfl (by decide) (fun _ => (cw_X8_afterWord g h_this h_wd h_this_low h_this_high h_wd_row c_letters c_low c_high c_wd_length c_wd_row)) (fun _ => rfl) (fun r4 _ H locs h hP hD hS => ?_)
          try dsimp only at h
          have hP : va_P g.1 vwCl (cw_X8_afterWord g h_this h_wd h_this_low h_this_high h_wd_row c_letters c_low c_high c_wd_length c_wd_row) H := hP
          have hD : va_D A (cw_X8_afterWord g h_this h_wd h_this_low h_this_high h_wd_row c_letters c_low c_high c_wd_length c_wd_row) := hD
          refine go_I E (run_V E ((k_X8_after l g h_this h_this_low h_this_high h) _) (cwV 2 hts gX8_afterWord_X8_after rfl rfl rfl (by decide +kernel) ⟨Nat.le_of_ble_eq_true rfl, Nat.le_of_ble_eq_true rfl⟩) hP hD hS [0, 1, 2] rfl rfl 0 7 rfl rfl rfl hl rfl rfl (Nat.le_of_ble_eq_true rfl) dX8_afterWord_26 ⟨Nat.le_of_ble_eq_true rfl, Nat.le_of_ble_eq_true rfl⟩) hP hD hS [0, 1, 2] rfl [(false, 0), (false, 1), (false, 2), (true, 3), (true, 4)] rfl (by decide) (fun _ => (cw_X8_afterWord g h_this h_wd h_this_low h_this_high h_wd_row c_letters c_low c_high c_wd_length c_wd_row)) (fun _ => rfl) (fun r6 _ H locs h hP hD hS => ?_)
          try dsimp only at h
          have hP : va_P g.1 vwCl (cw_X8_afterWord g h_this h_wd h_this_low h_this_high h_wd_row c_letters c_low c_high c_wd_length c_wd_row) H := hP
          have hD : va_D A (cw_X8_afterWord g h_this h_wd h_this_low h_this_high h_wd_row c_letters c_low c_high c_wd_length c_wd_row) := hD
          refine lv_istore_n (lv' := [(3, .int r6), (0, .ref h_this), (2, .ref h_wd), (4, .int x4)]) hx hb dX8_afterWord_29 rfl hl (by decide) rfl (fun ls hl => ?_)
          refine lv_iinc (v := (x4 + (nI 1))) (lv' := [(4, .int (x4 + (nI 1))), (3, .int r6), (0, .ref h_this), (2, .ref h_wd)]) hx hb dX8_afterWord_30 hl (k := 3) rfl rfl (by decide) rfl (fun ls hl => ?_)
          refine lv_goto (tgt := 5) hx hb dX8_afterWord_33 (by decide) ?_
          exact ih_5 r6 (x4 + (nI 1)) h _ _ hP hD hS _ (lv_sub hl [2, 3, 1, 0] rfl)
  refine lv_iload_n hx hb dX8_afterWord_0 rfl (lv_at hl 1 rfl) ?_
  refine lv_istore_n (lv' := [(3, .int x1), (0, .ref h_this), (1, .int x1), (2, .ref h_wd)]) hx hb dX8_afterWord_1 rfl hl (by decide) rfl (fun ls hl => ?_)
  refine lv_iconst (v := (nI 0)) hx hb dX8_afterWord_2 (by decide) ?_
  refine lv_istore (lv' := [(4, .int (nI 0)), (3, .int x1), (0, .ref h_this), (1, .int x1), (2, .ref h_wd)]) hx hb dX8_afterWord_3 hl (by decide) rfl (fun ls hl => ?_)
  obtain ⟨n, h⟩ := h
  exact K_5 n x1 (nI 0) h _ _ hP hD hS _ (lv_sub hl [2, 4, 1, 0] rfl)
abbrev cw_X10_copy (g : GG) (h_this : Nat) (h_wd : Nat) (h_this_row : Nat) (h_wd_row : Nat) (c_length : Int32) (c_row : Nat → Int32) (c_wd_length : Int32) (c_wd_row : Nat → Int32) : va_W := [(h_this, .inr (9, [.ref h_this_row, .int c_length])), (h_this_row, .inl (g.2.1, 600, .inl c_row)), (h_wd, .inr (9, [.ref h_wd_row, .int c_wd_length])), (h_wd_row, .inl (g.2.1, 600, .inl c_wd_row))]
def L_X10_copy_10 (c_length : Int32) (c_wd_length : Int32) (c_wd_row : Nat → Int32) (Q : Int32 → (Nat → Int32) → Prop) : Nat → Int32 → (Nat → Int32) → Prop
  | 0, _, _ => False
  | n_10 + 1, x2, c_row =>
    ((c_length ≤ x2 → Q c_length c_row) ∧ (¬ c_length ≤ x2 → wp_X10_at c_wd_length c_wd_row x2 (fun r6 => wp_X10_put c_length c_row x2 r6 (fun c_row => (L_X10_copy_10 c_length c_wd_length c_wd_row Q n_10) (x2 + (nI 1)) c_row))))
def wp_X10_copy (c_length : Int32) (c_row : Nat → Int32) (c_wd_length : Int32) (c_wd_row : Nat → Int32) (Q : Int32 → (Nat → Int32) → Prop) : Prop :=
    wp_X10_resize c_length c_wd_length (fun c_length => ∃ n, L_X10_copy_10 c_length c_wd_length c_wd_row Q n (nI 0) c_row)
abbrev rm_X10_copy : Room := { frames := 2, cells := 0, slots := 0, locals := 35 }
set_option maxHeartbeats 4000000 in
set_option maxRecDepth 100000 in
theorem k_X10_copy (l : Launch) (g : GG) (h_this : Nat) (h_wd : Nat) (h_this_row : Nat) (h_wd_row : Nat) {c_length : Int32} {c_row : Nat → Int32} {c_wd_length : Int32} {c_wd_row : Nat → Int32} {Q : Int32 → (Nat → Int32) → Prop} (h : wp_X10_copy c_length c_row c_wd_length c_wd_row Q) : CV l g yX10_copy wsX10_copy rm_X10_copy [.ref h_this, .ref h_wd] (cw_X10_copy g h_this h_wd h_this_row h_wd_row c_length c_row c_wd_length c_wd_row) (S := Int32 × (Nat → Int32)) (fun u => (cw_X10_copy g h_this h_wd h_this_row h_wd_row u.1 u.2 c_wd_length c_wd_row)) (fun u => Q u.1 u.2) 0 0 := by
  refine mk_V (cc := cX10_copy) (maxL := 3) (own := RX10) (by decide) rfl rfl (Nat.le_of_ble_eq_true rfl) ?_
  intro p e s m args below meth c A QQ E hret hP hD hS ls hl
  have E2 := E
  obtain ⟨hx, hb, hr, hml, hown, hts, hlocks, hA, hZ, hK, hnm⟩ := E2
  have f15 := hts (.fieldLink RX10 15 "WordBench$Word" "length" "I") (by decide +kernel)
  have iX10 : ∀ w ∈ wsX100, w ∈ wsX10_copy := fun _ h => List.mem_cons_of_mem _ (List.mem_append_right _ h)
  have hP : va_P g.1 vwCl (cw_X10_copy g h_this h_wd h_this_row h_wd_row c_length c_row c_wd_length c_wd_row) s.heap := hP
  have hD : va_D A (cw_X10_copy g h_this h_wd h_this_row h_wd_row c_length c_row c_wd_length c_wd_row) := hD
  have hl : lv_has ls 3 [(0, .ref h_this), (1, .ref h_wd)] := hl
  unfold wp_X10_copy at h
  have K_10 : ∀ (c_length : Int32) (n_10 : Nat) (x2 : Int32) (c_row : Nat → Int32) , L_X10_copy_10 c_length c_wd_length c_wd_row Q n_10 x2 c_row → ∀ (H : Heap) (locs : List Loc), va_P g.1 vwCl (cw_X10_copy g h_this h_wd h_this_row h_wd_row c_length c_row c_wd_length c_wd_row) H → va_D A (cw_X10_copy g h_this h_wd h_this_row h_wd_row c_length c_row c_wd_length c_wd_row) → va_S A s.heap H locs → ∀ ls : Array Slot, lv_has ls 3 [(0, .ref h_this), (1, .ref h_wd), (2, .int x2)] → W p l e rm_X10_copy s m args below meth c H locs 0 0 QQ (F0 m 10 ls []) := by
    intro c_length n_10
    induction n_10 with
    | zero => intro x2 c_row; exact fun h => False.elim h
    | succ n_10 ih_10 =>
      intro x2 c_row h H locs hP hD hS ls hl
      unfold L_X10_copy_10 at h
      refine lv_iload_n hx hb dX10_copy_10 rfl (lv_at hl 2 rfl) ?_
      refine lv_aload_n hx hb dX10_copy_11 rfl (lv_at hl 0 rfl) ?_
      refine va_get (D := g.1) (ci := 9) (v := .int c_length) (C := RX10) (T := TX10) (N := 2) hx hb hts iX10 hown hK hP 0 rfl rfl 1 (by decide) f15 (fun _ h9 => h9) rfl dX10_copy_12 ?_
      refine lv_icmp_ge (tgt := 34) hx hb dX10_copy_15 (by decide) (fun cq => ?_) (fun cq => ?_)
      · replace h := h.1 cq
        exact hret (c_length, c_row) _ _ _ _ h hP hD hS dX10_copy_34
      · replace h := h.2 cq
        refine lv_aload_n hx hb dX10_copy_18 rfl (lv_at hl 0 rfl) ?_
        refine lv_iload_n hx hb dX10_copy_19 rfl (lv_at hl 2 rfl) ?_
        refine lv_aload_n hx hb dX10_copy_20 rfl (lv_at hl 1 rfl) ?_
        refine lv_iload_n hx hb dX10_copy_21 rfl (lv_at hl 2 rfl) ?_
        refine go_I E (run_V E ((k_X10_at l g h_wd h_wd_row h) _) (cwV 1 hts gX10_copy_X10_at rfl rfl rfl (by decide +kernel) ⟨Nat.le_of_ble_eq_true rfl, Nat.le_of_ble_eq_true rfl⟩) hP hD hS [2, 3] rfl rfl 0 9 rfl rfl rfl hl rfl rfl (Nat.le_of_ble_eq_true rfl) dX10_copy_22 ⟨Nat.le_of_ble_eq_true rfl, Nat.le_of_ble_eq_true rfl⟩) hP hD hS [2, 3] rfl [(true, 0), (true, 1), (false, 0), (false, 1)] rfl (by decide) (fun _ => (cw_X10_copy g h_this h_wd h_this_row h_wd_row c_length c_row c_wd_length c_wd_row)) (fun _ => rfl) (fun r6 _ H locs h hP hD hS => ?_)
        try dsimp only at h
        have hP : va_P g.1 vwCl (cw_X10_copy g h_this h_wd h_this_row h_wd_row c_length c_row c_wd_length c_wd_row) H := hP
        have hD : va_D A (cw_X10_copy g h_this h_wd h_this_row h_wd_row c_length c_row c_wd_length c_wd_row) := hD
        refine go_V E (run_V E ((k_X10_put l g h_this h_this_row h) _) (cwV 2 hts gX10_copy_X10_put rfl rfl rfl (by decide +kernel) ⟨Nat.le_of_ble_eq_true rfl, Nat.le_of_ble_eq_true rfl⟩) hP hD hS [0, 1] rfl rfl 0 9 rfl rfl rfl hl rfl rfl (Nat.le_of_ble_eq_true rfl) dX10_copy_25 ⟨Nat.le_of_ble_eq_true rfl, Nat.le_of_ble_eq_true rfl⟩) hP hD hS [0, 1] rfl [(false, 0), (false, 1), (true, 2), (true, 3)] rfl (by decide) (fun u => (cw_X10_copy g h_this h_wd h_this_row h_wd_row c_length u c_wd_length c_wd_row)) (fun _ => rfl) (fun c_row H locs h hP hD hS => ?_)
        try dsimp only at h
        have hP : va_P g.1 vwCl (cw_X10_copy g h_this h_wd h_this_row h_wd_row c_length c_row c_wd_length c_wd_row) H := hP
        have hD : va_D A (cw_X10_copy g h_this h_wd h_this_row h_wd_row c_length c_row c_wd_length c_wd_row) := hD
        refine lv_iinc (v := (x2 + (nI 1))) (lv' := [(2, .int (x2 + (nI 1))), (0, .ref h_this), (1, .ref h_wd)]) hx hb dX10_copy_28 hl (k := 2) rfl rfl (by decide) rfl (fun ls hl => ?_)
        refine lv_goto (tgt := 10) hx hb dX10_copy_31 (by decide) ?_
        exact ih_10 (x2 + (nI 1)) c_row h _ _ hP hD hS _ (lv_sub hl [1, 2, 0] rfl)
  refine lv_aload_n hx hb dX10_copy_0 rfl (lv_at hl 0 rfl) ?_
  refine lv_aload_n hx hb dX10_copy_1 rfl (lv_at hl 1 rfl) ?_
  refine go_I E (run_V E ((k_X10_length l g h_wd h_wd_row (Q := fun r => r = c_wd_length) rfl) _) (cwV 0 hts gX10_copy_X10_length rfl rfl rfl (by decide +kernel) ⟨Nat.le_of_ble_eq_true rfl, Nat.le_of_ble_eq_true rfl⟩) hP hD hS [2] rfl rfl 0 9 rfl rfl rfl hl rfl rfl (Nat.le_of_ble_eq_true rfl) dX10_copy_2 ⟨Nat.le_of_ble_eq_true rfl, Nat.le_of_ble_eq_true rfl⟩) hP hD hS [2] rfl [(true, 0), (true, 1), (false, 0), (true, 3)] rfl (by decide) (fun _ => (cw_X10_copy g h_this h_wd h_this_row h_wd_row c_length c_row c_wd_length c_wd_row)) (fun _ => rfl) (fun r2 _ H locs hr_ hP hD hS => ?_)
  have hr_ : c_wd_length = r2 := Eq.symm hr_
  subst hr_
  have hP : va_P g.1 vwCl (cw_X10_copy g h_this h_wd h_this_row h_wd_row c_length c_row c_wd_length c_wd_row) H := hP
  have hD : va_D A (cw_X10_copy g h_this h_wd h_this_row h_wd_row c_length c_row c_wd_length c_wd_row) := hD
  refine go_V E (run_V E ((k_X10_resize l g h_this h_this_row h) _) (cwV 1 hts gX10_copy_X10_resize rfl rfl rfl (by decide +kernel) ⟨Nat.le_of_ble_eq_true rfl, Nat.le_of_ble_eq_true rfl⟩) hP hD hS [0] rfl rfl 0 9 rfl rfl rfl hl rfl rfl (Nat.le_of_ble_eq_true rfl) dX10_copy_5 ⟨Nat.le_of_ble_eq_true rfl, Nat.le_of_ble_eq_true rfl⟩) hP hD hS [0] rfl [(false, 0), (true, 1), (true, 2), (true, 3)] rfl (by decide) (fun u => (cw_X10_copy g h_this h_wd h_this_row h_wd_row u c_row c_wd_length c_wd_row)) (fun _ => rfl) (fun c_length H locs h hP hD hS => ?_)
  try dsimp only at h
  have hP : va_P g.1 vwCl (cw_X10_copy g h_this h_wd h_this_row h_wd_row c_length c_row c_wd_length c_wd_row) H := hP
  have hD : va_D A (cw_X10_copy g h_this h_wd h_this_row h_wd_row c_length c_row c_wd_length c_wd_row) := hD
  refine lv_iconst (v := (nI 0)) hx hb dX10_copy_8 (by decide) ?_
  refine lv_istore_n (lv' := [(2, .int (nI 0)), (0, .ref h_this), (1, .ref h_wd)]) hx hb dX10_copy_9 rfl hl (by decide) rfl (fun ls hl => ?_)
  obtain ⟨n, h⟩ := h
  exact K_10 c_length n (nI 0) c_row h _ _ hP hD hS _ (lv_sub hl [1, 2, 0] rfl)
