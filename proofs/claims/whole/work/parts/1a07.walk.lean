abbrev cw_X4_isWhole (g : GG) (h_this : Nat) (h_this_moves : Nat) (h_this_lights : Nat) (h_this_prices : Nat) (h_this_shares : Nat) (c_states : Int32) (c_letters : Int32) (c_moves : Nat → Int32) : va_W := [(h_this, .inr (3, [.int c_states, .int c_letters, .ref h_this_moves, .ref h_this_lights, .ref h_this_prices, .ref h_this_shares])), (h_this_moves, .inl (g.2.1, 48, .inl c_moves))]
def J_X4_isWhole_38 (R_2 : Int32 → Prop) (x1 : Int32) : Prop :=
    R_2 (x1 + (nI 1))
def L_X4_isWhole_12 (c_states : Int32) (c_letters : Int32) (c_moves : Nat → Int32) (x1 : Int32) (R_2 : Int32 → Prop) (Q : Int32 → Prop) : Nat → Int32 → Prop
  | 0, _ => False
  | n_12 + 1, x2 =>
    ((c_letters ≤ x2 → J_X4_isWhole_38 R_2 x1) ∧ (¬ c_letters ≤ x2 → wp_X4_target c_states c_letters c_moves x1 x2 (fun r2 => ((¬ r2 = (-1) → (L_X4_isWhole_12 c_states c_letters c_moves x1 R_2 Q n_12) (x2 + (nI 1))) ∧ (r2 = (-1) → Q (nI 0))))))
def L_X4_isWhole_2 (c_states : Int32) (c_letters : Int32) (c_moves : Nat → Int32) (Q : Int32 → Prop) : Nat → Int32 → Prop
  | 0, _ => False
  | n_2 + 1, x1 =>
    ((c_states ≤ x1 → Q (nI 1)) ∧ (¬ c_states ≤ x1 → ∃ n, L_X4_isWhole_12 c_states c_letters c_moves x1 (L_X4_isWhole_2 c_states c_letters c_moves Q n_2) Q n (nI 0)))
def wp_X4_isWhole (c_states : Int32) (c_letters : Int32) (c_moves : Nat → Int32) (Q : Int32 → Prop) : Prop :=
    ∃ n, L_X4_isWhole_2 c_states c_letters c_moves Q n (nI 0)
abbrev rm_X4_isWhole : Room := { frames := 1, cells := 0, slots := 0, locals := 23 }
set_option maxHeartbeats 4000000 in
set_option maxRecDepth 100000 in
theorem k_X4_isWhole (l : Launch) (g : GG) (h_this : Nat) (h_this_moves : Nat) (h_this_lights : Nat) (h_this_prices : Nat) (h_this_shares : Nat) {c_states : Int32} {c_letters : Int32} {c_moves : Nat → Int32} {Q : Int32 → Prop} (h : wp_X4_isWhole c_states c_letters c_moves Q) : CI l g yX4_isWhole wsX4_isWhole rm_X4_isWhole [.ref h_this] (cw_X4_isWhole g h_this h_this_moves h_this_lights h_this_prices h_this_shares c_states c_letters c_moves) (S := Unit) (fun _ => (cw_X4_isWhole g h_this h_this_moves h_this_lights h_this_prices h_this_shares c_states c_letters c_moves)) (fun r _ => Q r) 0 0 := by
  refine mk_I (cc := cX4_isWhole) (maxL := 3) (own := RX4) (by decide) rfl rfl (Nat.le_of_ble_eq_true rfl) ?_
  intro p e s m args below meth c A QQ E hret hP hD hS ls hl
  have E2 := E
  obtain ⟨hx, hb, hr, hml, hown, hts, hlocks, hA, hZ, hK, hnm⟩ := E2
  have f24 := hts (.fieldLink RX4 24 "WordBench$Machine" "states" "I") (by decide +kernel)
  have f28 := hts (.fieldLink RX4 28 "WordBench$Machine" "letters" "I") (by decide +kernel)
  have iX4 : ∀ w ∈ wsX40, w ∈ wsX4_isWhole := fun _ h => List.mem_cons_of_mem _ (List.mem_append_right _ h)
  have hP : va_P g.1 vwCl (cw_X4_isWhole g h_this h_this_moves h_this_lights h_this_prices h_this_shares c_states c_letters c_moves) s.heap := hP
  have hD : va_D A (cw_X4_isWhole g h_this h_this_moves h_this_lights h_this_prices h_this_shares c_states c_letters c_moves) := hD
  have hl : lv_has ls 3 [(0, .ref h_this)] := hl
  unfold wp_X4_isWhole at h
  have K_2 : ∀ (n_2 : Nat) (x1 : Int32) , L_X4_isWhole_2 c_states c_letters c_moves Q n_2 x1 → ∀ (H : Heap) (locs : List Loc), va_P g.1 vwCl (cw_X4_isWhole g h_this h_this_moves h_this_lights h_this_prices h_this_shares c_states c_letters c_moves) H → va_D A (cw_X4_isWhole g h_this h_this_moves h_this_lights h_this_prices h_this_shares c_states c_letters c_moves) → va_S A s.heap H locs → ∀ ls : Array Slot, lv_has ls 3 [(0, .ref h_this), (1, .int x1)] → W p l e rm_X4_isWhole s m args below meth c H locs 0 0 QQ (F0 m 2 ls []) := by
    intro n_2
    induction n_2 with
    | zero => intro x1; exact fun h => False.elim h
    | succ n_2 ih_2 =>
      intro x1 h H locs hP hD hS ls hl
      unfold L_X4_isWhole_2 at h
      have K_38 : ∀ (x1 : Int32) , J_X4_isWhole_38 (L_X4_isWhole_2 c_states c_letters c_moves Q n_2) x1 → ∀ (H : Heap) (locs : List Loc), va_P g.1 vwCl (cw_X4_isWhole g h_this h_this_moves h_this_lights h_this_prices h_this_shares c_states c_letters c_moves) H → va_D A (cw_X4_isWhole g h_this h_this_moves h_this_lights h_this_prices h_this_shares c_states c_letters c_moves) → va_S A s.heap H locs → ∀ ls : Array Slot, lv_has ls 3 [(0, .ref h_this), (1, .int x1)] → W p l e rm_X4_isWhole s m args below meth c H locs 0 0 QQ (F0 m 38 ls []) := by
        intro x1 h H locs hP hD hS ls hl
        unfold J_X4_isWhole_38 at h
        refine lv_iinc (v := (x1 + (nI 1))) (lv' := [(1, .int (x1 + (nI 1))), (0, .ref h_this)]) hx hb dX4_isWhole_38 hl (k := 1) rfl rfl (by decide) rfl (fun ls hl => ?_)
        refine lv_goto (tgt := 2) hx hb dX4_isWhole_41 (by decide) ?_
        exact ih_2 (x1 + (nI 1)) h _ _ hP hD hS _ (lv_sub hl [1, 0] rfl)
      have K_12 : ∀ (x1 : Int32) (n_12 : Nat) (x2 : Int32) , L_X4_isWhole_12 c_states c_letters c_moves x1 (L_X4_isWhole_2 c_states c_letters c_moves Q n_2) Q n_12 x2 → ∀ (H : Heap) (locs : List Loc), va_P g.1 vwCl (cw_X4_isWhole g h_this h_this_moves h_this_lights h_this_prices h_this_shares c_states c_letters c_moves) H → va_D A (cw_X4_isWhole g h_this h_this_moves h_this_lights h_this_prices h_this_shares c_states c_letters c_moves) → va_S A s.heap H locs → ∀ ls : Array Slot, lv_has ls 3 [(0, .ref h_this), (1, .int x1), (2, .int x2)] → W p l e rm_X4_isWhole s m args below meth c H locs 0 0 QQ (F0 m 12 ls []) := by
        intro x1 n_12
        induction n_12 with
        | zero => intro x2; exact fun h => False.elim h
        | succ n_12 ih_12 =>
          intro x2 h H locs hP hD hS ls hl
          unfold L_X4_isWhole_12 at h
          refine lv_iload_n hx hb dX4_isWhole_12 rfl (lv_at hl 2 rfl) ?_
          refine lv_aload_n hx hb dX4_isWhole_13 rfl (lv_at hl 0 rfl) ?_
          refine va_get (D := g.1) (ci := 3) (v := .int c_letters) (C := RX4) (T := TX4) (N := 6) hx hb hts iX4 hown hK hP 0 rfl rfl 1 (by decide) f28 (fun _ h9 => h9) rfl dX4_isWhole_14 ?_
          refine lv_icmp_ge (tgt := 38) hx hb dX4_isWhole_17 (by decide) (fun cq => ?_) (fun cq => ?_)
          · replace h := h.1 cq
            exact K_38 x1 h _ _ hP hD hS _ (lv_sub hl [0, 1] rfl)
          · replace h := h.2 cq
            refine lv_aload_n hx hb dX4_isWhole_20 rfl (lv_at hl 0 rfl) ?_
            refine lv_iload_n hx hb dX4_isWhole_21 rfl (lv_at hl 1 rfl) ?_
            refine lv_iload_n hx hb dX4_isWhole_22 rfl (lv_at hl 2 rfl) ?_
            refine go_I E (run_V E ((k_X4_target l g h_this h_this_moves h_this_lights h_this_prices h_this_shares h) _) (cwV 2 hts gX4_isWhole_X4_target rfl rfl rfl (by decide +kernel) ⟨Nat.le_of_ble_eq_true rfl, Nat.le_of_ble_eq_true rfl⟩) hP hD hS [0, 1] rfl rfl 0 3 rfl rfl rfl hl rfl rfl (Nat.le_of_ble_eq_true rfl) dX4_isWhole_23 ⟨Nat.le_of_ble_eq_true rfl, Nat.le_of_ble_eq_true rfl⟩) hP hD hS [0, 1] rfl [(false, 0), (false, 1)] rfl (by decide) (fun _ => (cw_X4_isWhole g h_this h_this_moves h_this_lights h_this_prices h_this_shares c_states c_letters c_moves)) (fun _ => rfl) (fun r2 _ H locs h hP hD hS => ?_)
            try dsimp only at h
            have hP : va_P g.1 vwCl (cw_X4_isWhole g h_this h_this_moves h_this_lights h_this_prices h_this_shares c_states c_letters c_moves) H := hP
            have hD : va_D A (cw_X4_isWhole g h_this h_this_moves h_this_lights h_this_prices h_this_shares c_states c_letters c_moves) := hD
            refine lv_iconst (v := (-1)) hx hb dX4_isWhole_26 (by decide) ?_
            refine lv_icmp_ne (tgt := 32) hx hb dX4_isWhole_27 (by decide) (fun cq => ?_) (fun cq => ?_)
            · replace h := h.1 cq
              refine lv_iinc (v := (x2 + (nI 1))) (lv' := [(2, .int (x2 + (nI 1))), (0, .ref h_this), (1, .int x1)]) hx hb dX4_isWhole_32 hl (k := 2) rfl rfl (by decide) rfl (fun ls hl => ?_)
              refine lv_goto (tgt := 12) hx hb dX4_isWhole_35 (by decide) ?_
              exact ih_12 (x2 + (nI 1)) h _ _ hP hD hS _ (lv_sub hl [1, 2, 0] rfl)
            · replace h := h.2 cq
              refine lv_iconst (v := (nI 0)) hx hb dX4_isWhole_30 (by decide) ?_
              exact hret (nI 0) () _ _ _ _ nbz h hP hD hS dX4_isWhole_31
      refine lv_iload_n hx hb dX4_isWhole_2 rfl (lv_at hl 1 rfl) ?_
      refine lv_aload_n hx hb dX4_isWhole_3 rfl (lv_at hl 0 rfl) ?_
      refine va_get (D := g.1) (ci := 3) (v := .int c_states) (C := RX4) (T := TX4) (N := 6) hx hb hts iX4 hown hK hP 0 rfl rfl 0 (by decide) f24 (fun _ h9 => h9) rfl dX4_isWhole_4 ?_
      refine lv_icmp_ge (tgt := 44) hx hb dX4_isWhole_7 (by decide) (fun cq => ?_) (fun cq => ?_)
      · replace h := h.1 cq
        refine lv_iconst (v := (nI 1)) hx hb dX4_isWhole_44 (by decide) ?_
        exact hret (nI 1) () _ _ _ _ nbo h hP hD hS dX4_isWhole_45
      · replace h := h.2 cq
        refine lv_iconst (v := (nI 0)) hx hb dX4_isWhole_10 (by decide) ?_
        refine lv_istore_n (lv' := [(2, .int (nI 0)), (0, .ref h_this), (1, .int x1)]) hx hb dX4_isWhole_11 rfl hl (by decide) rfl (fun ls hl => ?_)
        obtain ⟨n, h⟩ := h
        exact K_12 x1 n (nI 0) h _ _ hP hD hS _ (lv_sub hl [1, 2, 0] rfl)
  refine lv_iconst (v := (nI 0)) hx hb dX4_isWhole_0 (by decide) ?_
  refine lv_istore_n (lv' := [(1, .int (nI 0)), (0, .ref h_this)]) hx hb dX4_isWhole_1 rfl hl (by decide) rfl (fun ls hl => ?_)
  obtain ⟨n, h⟩ := h
  exact K_2 n (nI 0) h _ _ hP hD hS _ (lv_sub hl [1, 0] rfl)
abbrev cw_X5_without (g : GG) (h_this : Nat) (h_this_lengths : Nat) (h_this_queue : Nat) (c_without : Int32) : va_W := [(h_this, .inr (4, [.ref h_this_lengths, .ref h_this_queue, .int c_without]))]
def wp_X5_without (c_without : Int32) (Q : Int32 → Prop) : Prop :=
    Q c_without
abbrev rm_X5_without : Room := { frames := 0, cells := 0, slots := 0, locals := 0 }
set_option maxHeartbeats 4000000 in
set_option maxRecDepth 100000 in
theorem k_X5_without (l : Launch) (g : GG) (h_this : Nat) (h_this_lengths : Nat) (h_this_queue : Nat) {c_without : Int32} {Q : Int32 → Prop} (h : wp_X5_without c_without Q) : CI l g yX5_without wsX5_without rm_X5_without [.ref h_this] (cw_X5_without g h_this h_this_lengths h_this_queue c_without) (S := Unit) (fun _ => (cw_X5_without g h_this h_this_lengths h_this_queue c_without)) (fun r _ => Q r) 0 0 := by
  refine mk_I (cc := cX5_without) (maxL := 1) (own := RX5) (by decide) rfl rfl (Nat.le_of_ble_eq_true rfl) ?_
  intro p e s m args below meth c A QQ E hret hP hD hS ls hl
  have E2 := E
  obtain ⟨hx, hb, hr, hml, hown, hts, hlocks, hA, hZ, hK, hnm⟩ := E2
  have f34 := hts (.fieldLink RX5 34 "WordBench$Pairs" "without" "I") (by decide +kernel)
  have iX5 : ∀ w ∈ wsX50, w ∈ wsX5_without := fun _ h => List.mem_cons_of_mem _ (List.mem_append_right _ h)
  have hP : va_P g.1 vwCl (cw_X5_without g h_this h_this_lengths h_this_queue c_without) s.heap := hP
  have hD : va_D A (cw_X5_without g h_this h_this_lengths h_this_queue c_without) := hD
  have hl : lv_has ls 1 [(0, .ref h_this)] := hl
  unfold wp_X5_without at h
  refine lv_aload_n hx hb dX5_without_0 rfl (lv_at hl 0 rfl) ?_
  refine va_get (D := g.1) (ci := 4) (v := .int c_without) (C := RX5) (T := TX5) (N := 3) hx hb hts iX5 hown hK hP 0 rfl rfl 2 (by decide) f34 (fun _ h9 => h9) rfl dX5_without_1 ?_
  exact hret c_without () _ _ _ _ rfl h hP hD hS dX5_without_4
abbrev cw_X5_queueNext (g : GG) (h_this : Nat) (h_m : Nat) (h_this_lengths : Nat) (h_this_queue : Nat) (h_m_moves : Nat) (h_m_lights : Nat) (h_m_prices : Nat) (h_m_shares : Nat) (c_without : Int32) (c_lengths : Nat → Int32) (c_queue : Nat → Int32) (c_m_states : Int32) (c_m_letters : Int32) (c_m_moves : Nat → Int32) : va_W := [(h_this, .inr (4, [.ref h_this_lengths, .ref h_this_queue, .int c_without])), (h_this_lengths, .inl (g.2.1, 144, .inl c_lengths)), (h_this_queue, .inl (g.2.1, 144, .inl c_queue)), (h_m, .inr (3, [.int c_m_states, .int c_m_letters, .ref h_m_moves, .ref h_m_lights, .ref h_m_prices, .ref h_m_shares])), (h_m_moves, .inl (g.2.1, 48, .inl c_m_moves))]
def J_X5_queueNext_108 (R_7 : Int32 → Int32 → (Nat → Int32) → (Nat → Int32) → Prop) (x5 : Int32) (x6 : Int32) (c_lengths : Nat → Int32) (c_queue : Nat → Int32) : Prop :=
    R_7 x5 (x6 + (nI 1)) c_lengths c_queue
def L_X5_queueNext_7 (c_without : Int32) (c_m_states : Int32) (c_m_letters : Int32) (c_m_moves : Nat → Int32) (x2 : Int32) (x3 : Int32) (Q : Int32 → (Nat → Int32) → (Nat → Int32) → Prop) : Nat → Int32 → Int32 → (Nat → Int32) → (Nat → Int32) → Prop
  | 0, _, _, _, _ => False
  | n_7 + 1, x5, x6, c_lengths, c_queue =>
    ((c_m_letters ≤ x6 → Q x5 c_lengths c_queue) ∧ (¬ c_m_letters ≤ x6 → wp_X4_target c_m_states c_m_letters c_m_moves x2 x6 (fun r4 => wp_X4_target c_m_states c_m_letters c_m_moves x3 x6 (fun r6 => ((r4 = (-1) → J_X5_queueNext_108 (L_X5_queueNext_7 c_without c_m_states c_m_letters c_m_moves x2 x3 Q n_7) x5 x6 c_lengths c_queue) ∧ (¬ r4 = (-1) → ((r6 = (-1) → J_X5_queueNext_108 (L_X5_queueNext_7 c_without c_m_states c_m_letters c_m_moves x2 x3 Q n_7) x5 x6 c_lengths c_queue) ∧ (¬ r6 = (-1) → wp_X5_lengthOf c_without c_lengths r4 r6 (fun r8 => ((¬ r8 = (-1) → J_X5_queueNext_108 (L_X5_queueNext_7 c_without c_m_states c_m_letters c_m_moves x2 x3 Q n_7) x5 x6 c_lengths c_queue) ∧ (r8 = (-1) → ((x5 < (nI 0) → J_X5_queueNext_108 (L_X5_queueNext_7 c_without c_m_states c_m_letters c_m_moves x2 x3 Q n_7) x5 x6 c_lengths c_queue) ∧ (¬ x5 < (nI 0) → ((x5 < (nI 144) → wp_X5_lengthOf c_without c_lengths x2 x3 (fun r10 => wp_X5_setLength c_without c_lengths r4 r6 (r10 + (nI 1)) (fun c_lengths => vp_in x5 144 ∧ J_X5_queueNext_108 (L_X5_queueNext_7 c_without c_m_states c_m_letters c_m_moves x2 x3 Q n_7) (x5 + (nI 1)) x6 c_lengths (upd c_queue (Int32.toNatClampNeg x5) ((r4 * (nI 12)) + r6))))) ∧ (¬ x5 < (nI 144) → J_X5_queueNext_108 (L_X5_queueNext_7 c_without c_m_states c_m_letters c_m_moves x2 x3 Q n_7) x5 x6 c_lengths c_queue)))))))))))))))
def wp_X5_queueNext (c_without : Int32) (c_lengths : Nat → Int32) (c_queue : Nat → Int32) (c_m_states : Int32) (c_m_letters : Int32) (c_m_moves : Nat → Int32) (x2 : Int32) (x3 : Int32) (x4 : Int32) (Q : Int32 → (Nat → Int32) → (Nat → Int32) → Prop) : Prop :=
    ∃ n, L_X5_queueNext_7 c_without c_m_states c_m_letters c_m_moves x2 x3 Q n x4 (nI 0) c_lengths c_queue
abbrev rm_X5_queueNext : Room := { frames := 1, cells := 0, slots := 0, locals := 23 }
set_option maxHeartbeats 4000000 in
set_option maxRecDepth 100000 in
theorem k_X5_queueNext (l : Launch) (g : GG) (h_this : Nat) (h_m : Nat) (h_this_lengths : Nat) (h_this_queue : Nat) (h_m_moves : Nat) (h_m_lights : Nat) (h_m_prices : Nat) (h_m_shares : Nat) {c_without : Int32} {c_lengths : Nat → Int32} {c_queue : Nat → Int32} {c_m_states : Int32} {c_m_letters : Int32} {c_m_moves : Nat → Int32} {x2 : Int32} {x3 : Int32} {x4 : Int32} {Q : Int32 → (Nat → Int32) → (Nat → Int32) → Prop} (h : wp_X5_queueNext c_without c_lengths c_queue c_m_states c_m_letters c_m_moves x2 x3 x4 Q) : CI l g yX5_queueNext wsX5_queueNext rm_X5_queueNext [.ref h_this, .ref h_m, .int x2, .int x3, .int x4] (cw_X5_queueNext g h_this h_m h_this_lengths h_this_queue h_m_moves h_m_lights h_m_prices h_m_shares c_without c_lengths c_queue c_m_states c_m_letters c_m_moves) (S := (Nat → Int32) × (Nat → Int32)) (fun u => (cw_X5_queueNext g h_this h_m h_this_lengths h_this_queue h_m_moves h_m_lights h_m_prices h_m_shares c_without u.1 u.2 c_m_states c_m_letters c_m_moves)) (fun r u => Q r u.1 u.2) 0 0 := by
  refine mk_I (cc := cX5_queueNext) (maxL := 9) (own := RX5) (by decide) rfl rfl (Nat.le_of_ble_eq_true rfl) ?_
  intro p e s m args below meth c A QQ E hret hP hD hS ls hl
  have E2 := E
  obtain ⟨hx, hb, hr, hml, hown, hts, hlocks, hA, hZ, hK, hnm⟩ := E2
  have f15 := hts (.fieldLink RX5 15 "WordBench$Pairs" "queue" "[I") (by decide +kernel)
  have iX5 : ∀ w ∈ wsX50, w ∈ wsX5_queueNext := fun _ h => List.mem_cons_of_mem _ (List.mem_append_left _ (List.mem_append_right _ h))
  have hP : va_P g.1 vwCl (cw_X5_queueNext g h_this h_m h_this_lengths h_this_queue h_m_moves h_m_lights h_m_prices h_m_shares c_without c_lengths c_queue c_m_states c_m_letters c_m_moves) s.heap := hP
  have hD : va_D A (cw_X5_queueNext g h_this h_m h_this_lengths h_this_queue h_m_moves h_m_lights h_m_prices h_m_shares c_without c_lengths c_queue c_m_states c_m_letters c_m_moves) := hD
  have hl : lv_has ls 9 [(0, .ref h_this), (1, .ref h_m), (2, .int x2), (3, .int x3), (4, .int x4)] := hl
  unfold wp_X5_queueNext at h
  have K_7 : ∀ (n_7 : Nat) (x5 : Int32) (x6 : Int32) (c_lengths : Nat → Int32) (c_queue : Nat → Int32) , L_X5_queueNext_7 c_without c_m_states c_m_letters c_m_moves x2 x3 Q n_7 x5 x6 c_lengths c_queue → ∀ (H : Heap) (locs : List Loc), va_P g.1 vwCl (cw_X5_queueNext g h_this h_m h_this_lengths h_this_queue h_m_moves h_m_lights h_m_prices h_m_shares c_without c_lengths c_queue c_m_states c_m_letters c_m_moves) H → va_D A (cw_X5_queueNext g h_this h_m h_this_lengths h_this_queue h_m_moves h_m_lights h_m_prices h_m_shares c_without c_lengths c_queue c_m_states c_m_letters c_m_moves) → va_S A s.heap H locs → ∀ ls : Array Slot, lv_has ls 9 [(0, .ref h_this), (1, .ref h_m), (2, .int x2), (3, .int x3), (5, .int x5), (6, .int x6)] → W p l e rm_X5_queueNext s m args below meth c H locs 0 0 QQ (F0 m 7 ls []) := by
    intro n_7
    induction n_7 with
    | zero => intro x5 x6 c_lengths c_queue; exact fun h => False.elim h
    | succ n_7 ih_7 =>
      intro x5 x6 c_lengths c_queue h H locs hP hD hS ls hl
      unfold L_X5_queueNext_7 at h
      have K_108 : ∀ (x5 : Int32) (x6 : Int32) (c_lengths : Nat → Int32) (c_queue : Nat → Int32) , J_X5_queueNext_108 (L_X5_queueNext_7 c_without c_m_states c_m_letters c_m_moves x2 x3 Q n_7) x5 x6 c_lengths c_queue → ∀ (H : Heap) (locs : List Loc), va_P g.1 vwCl (cw_X5_queueNext g h_this h_m h_this_lengths h_this_queue h_m_moves h_m_lights h_m_prices h_m_shares c_without c_lengths c_queue c_m_states c_m_letters c_m_moves) H → va_D A (cw_X5_queueNext g h_this h_m h_this_lengths h_this_queue h_m_moves h_m_lights h_m_prices h_m_shares c_without c_lengths c_queue c_m_states c_m_letters c_m_moves) → va_S A s.heap H locs → ∀ ls : Array Slot, lv_has ls 9 [(0, .ref h_this), (1, .ref h_m), (2, .int x2), (3, .int x3), (5, .int x5), (6, .int x6)] → W p l e rm_X5_queueNext s m args below meth c H locs 0 0 QQ (F0 m 108 ls []) := by
        intro x5 x6 c_lengths c_queue h H locs hP hD hS ls hl
        unfold J_X5_queueNext_108 at h
        refine lv_iinc (v := (x6 + (nI 1))) (lv' := [(6, .int (x6 + (nI 1))), (0, .ref h_this), (1, .ref h_m), (2, .int x2), (3, .int x3), (5, .int x5)]) hx hb dX5_queueNext_108 hl (k := 5) rfl rfl (by decide) rfl (fun ls hl => ?_)
        refine lv_goto (tgt := 7) hx hb dX5_queueNext_111 (by decide) ?_
        exact ih_7 x5 (x6 + (nI 1)) c_lengths c_queue h _ _ hP hD hS _ (lv_sub hl [1, 2, 3, 4, 5, 0] rfl)
      refine lv_iload hx hb dX5_queueNext_7 (lv_at hl 5 rfl) ?_
      refine lv_aload_n hx hb dX5_queueNext_9 rfl (lv_at hl 1 rfl) ?_
      refine go_I E (run_V E ((k_X4_letters l g h_m h_m_moves h_m_lights h_m_prices h_m_shares (Q := fun r => r = c_m_letters) rfl) _) (cwV 0 hts gX5_queueNext_X4_letters rfl rfl rfl (by decide +kernel) ⟨Nat.le_of_ble_eq_true rfl, Nat.le_of_ble_eq_true rfl⟩) hP hD hS [3] rfl rfl 0 3 rfl rfl rfl hl rfl rfl (Nat.le_of_ble_eq_true rfl) dX5_queueNext_10 ⟨Nat.le_of_ble_eq_true rfl, Nat.le_of_ble_eq_true rfl⟩) hP hD hS [3] rfl [(true, 0), (true, 1), (true, 2), (false, 0), (true, 4)] rfl (by decide) (fun _ => (cw_X5_queueNext g h_this h_m h_this_lengths h_this_queue h_m_moves h_m_lights h_m_prices h_m_shares c_without c_lengths c_queue c_m_states c_m_letters c_m_moves)) (fun _ => rfl) (fun r2 _ H locs hr_ hP hD hS => ?_)
      have hr_ : c_m_letters = r2 := Eq.symm hr_
      subst hr_
      have hP : va_P g.1 vwCl (cw_X5_queueNext g h_this h_m h_this_lengths h_this_queue h_m_moves h_m_lights h_m_prices h_m_shares c_without c_lengths c_queue c_m_states c_m_letters c_m_moves) H := hP
      have hD : va_D A (cw_X5_queueNext g h_this h_m h_this_lengths h_this_queue h_m_moves h_m_lights h_m_prices h_m_shares c_without c_lengths c_queue c_m_states c_m_letters c_m_moves) := hD
      refine lv_icmp_ge (tgt := 114) hx hb dX5_queueNext_13 (by decide) (fun cq => ?_) (fun cq => ?_)
      · replace h := h.1 cq
        refine lv_iload hx hb dX5_queueNext_114 (lv_at hl 4 rfl) ?_
        exact hret x5 (c_lengths, c_queue) _ _ _ _ rfl h hP hD hS dX5_queueNext_116
      · replace h := h.2 cq
        refine lv_aload_n hx hb dX5_queueNext_16 rfl (lv_at hl 1 rfl) ?_
        refine lv_iload_n hx hb dX5_queueNext_17 rfl (lv_at hl 2 rfl) ?_
        refine lv_iload hx hb dX5_queueNext_18 (lv_at hl 5 rfl) ?_
        refine go_I E (run_V E ((k_X4_target l g h_m h_m_moves h_m_lights h_m_prices h_m_shares h) _) (cwV 2 hts gX5_queueNext_X4_target rfl rfl rfl (by decide +kernel) ⟨Nat.le_of_ble_eq_true rfl, Nat.le_of_ble_eq_true rfl⟩) hP hD hS [3, 4] rfl rfl 0 3 rfl rfl rfl hl rfl rfl (Nat.le_of_ble_eq_true rfl) dX5_queueNext_20 ⟨Nat.le_of_ble_eq_true rfl, Nat.le_of_ble_eq_true rfl⟩) hP hD hS [3, 4] rfl [(true, 0), (true, 1), (true, 2), (false, 0), (false, 1)] rfl (by decide) (fun _ => (cw_X5_queueNext g h_this h_m h_this_lengths h_this_queue h_m_moves h_m_lights h_m_prices h_m_shares c_without c_lengths c_queue c_m_states c_m_letters c_m_moves)) (fun _ => rfl) (fun r4 _ H locs h hP hD hS => ?_)
        try dsimp only at h
        have hP : va_P g.1 vwCl (cw_X5_queueNext g h_this h_m h_this_lengths h_this_queue h_m_moves h_m_lights h_m_prices h_m_shares c_without c_lengths c_queue c_m_states c_m_letters c_m_moves) H := hP
        have hD : va_D A (cw_X5_queueNext g h_this h_m h_this_lengths h_this_queue h_m_moves h_m_lights h_m_prices h_m_shares c_without c_lengths c_queue c_m_states c_m_letters c_m_moves) := hD
        refine lv_istore (lv' := [(7, .int r4), (0, .ref h_this), (1, .ref h_m), (2, .int x2), (3, .int x3), (5, .int x5), (6, .int x6)]) hx hb dX5_queueNext_23 hl (by decide) rfl (fun ls hl => ?_)
        refine lv_aload_n hx hb dX5_queueNext_25 rfl (lv_at hl 2 rfl) ?_
        refine lv_iload_n hx hb dX5_queueNext_26 rfl (lv_at hl 4 rfl) ?_
        refine lv_iload hx hb dX5_queueNext_27 (lv_at hl 6 rfl) ?_
        refine go_I E (run_V E ((k_X4_target l g h_m h_m_moves h_m_lights h_m_prices h_m_shares h) _) (cwV 2 hts gX5_queueNext_X4_target rfl rfl rfl (by decide +kernel) ⟨Nat.le_of_ble_eq_true rfl, Nat.le_of_ble_eq_true rfl⟩) hP hD hS [3, 4] rfl rfl 0 3 rfl rfl rfl hl rfl rfl (Nat.le_of_ble_eq_true rfl) dX5_queueNext_29 ⟨Nat.le_of_ble_eq_true rfl, Nat.le_of_ble_eq_true rfl⟩) hP hD hS [3, 4] rfl [(true, 0), (true, 1), (true, 2), (false, 0), (false, 1)] rfl (by decide) (fun _ => (cw_X5_queueNext g h_this h_m h_this_lengths h_this_queue h_m_moves h_m_lights h_m_prices h_m_shares c_without c_lengths c_queue c_m_states c_m_letters c_m_moves)) (fun _ => rfl) (fun r6 _ H locs h hP hD hS => ?_)
        try dsimp only at h
        have hP : va_P g.1 vwCl (cw_X5_queueNext g h_this h_m h_this_lengths h_this_queue h_m_moves h_m_lights h_m_prices h_m_shares c_without c_lengths c_queue c_m_states c_m_letters c_m_moves) H := hP
        have hD : va_D A (cw_X5_queueNext g h_this h_m h_this_lengths h_this_queue h_m_moves h_m_lights h_m_prices h_m_shares c_without c_lengths c_queue c_m_states c_m_letters c_m_moves) := hD
        refine lv_istore (lv' := [(8, .int r6), (7, .int r4), (0, .ref h_this), (1, .ref h_m), (2, .int x2), (3, .int x3), (5, .int x5), (6, .int x6)]) hx hb dX5_queueNext_32 hl (by decide) rfl (fun ls hl => ?_)
        refine lv_iload hx hb dX5_queueNext_34 (lv_at hl 1 rfl) ?_
        refine lv_iconst (v := (-1)) hx hb dX5_queueNext_36 (by decide) ?_
        refine lv_icmp_eq (tgt := 108) hx hb dX5_queueNext_37 (by decide) (fun cq => ?_) (fun cq => ?_)
        · replace h := h.1 cq
          exact K_108 x5 x6 c_lengths c_queue h _ _ hP hD hS _ (lv_sub hl [2, 3, 4, 5, 6, 7] rfl)
        · replace h := h.2 cq
          refine lv_iload hx hb dX5_queueNext_40 (lv_at hl 0 rfl) ?_
          refine lv_iconst (v := (-1)) hx hb dX5_queueNext_42 (by decide) ?_
          refine lv_icmp_eq (tgt := 108) hx hb dX5_queueNext_43 (by decide) (fun cq => ?_) (fun cq => ?_)
          · replace h := h.1 cq
            exact K_108 x5 x6 c_lengths c_queue h _ _ hP hD hS _ (lv_sub hl [2, 3, 4, 5, 6, 7] rfl)
          · replace h := h.2 cq
            refine lv_aload_n hx hb dX5_queueNext_46 rfl (lv_at hl 2 rfl) ?_
            refine lv_iload hx hb dX5_queueNext_47 (lv_at hl 1 rfl) ?_
            refine lv_iload hx hb dX5_queueNext_49 (lv_at hl 0 rfl) ?_
            refine go_I E (run_V E ((k_X5_lengthOf l g h_this h_this_lengths h_this_queue h) _) (cwV 2 hts gX5_queueNext_X5_lengthOf rfl rfl rfl (by decide +kernel) ⟨Nat.le_of_ble_eq_true rfl, Nat.le_of_ble_eq_true rfl⟩) hP hD hS [0, 1] rfl rfl 0 4 rfl rfl rfl hl rfl rfl (Nat.le_of_ble_eq_true rfl) dX5_queueNext_51 ⟨Nat.le_of_ble_eq_true rfl, Nat.le_of_ble_eq_true rfl⟩) hP hD hS [0, 1] rfl [(false, 0), (false, 1), (true, 2), (true, 3), (true, 4)] rfl (by decide) (fun _ => (cw_X5_queueNext g h_this h_m h_this_lengths h_this_queue h_m_moves h_m_lights h_m_prices h_m_shares c_without c_lengths c_queue c_m_states c_m_letters c_m_moves)) (fun _ => rfl) (fun r8 _ H locs h hP hD hS => ?_)
            try dsimp only at h
            have hP : va_P g.1 vwCl (cw_X5_queueNext g h_this h_m h_this_lengths h_this_queue h_m_moves h_m_lights h_m_prices h_m_shares c_without c_lengths c_queue c_m_states c_m_letters c_m_moves) H := hP
            have hD : va_D A (cw_X5_queueNext g h_this h_m h_this_lengths h_this_queue h_m_moves h_m_lights h_m_prices h_m_shares c_without c_lengths c_queue c_m_states c_m_letters c_m_moves) := hD
            refine lv_iconst (v := (-1)) hx hb dX5_queueNext_54 (by decide) ?_
            refine lv_icmp_ne (tgt := 108) hx hb dX5_queueNext_55 (by decide) (fun cq => ?_) (fun cq => ?_)
            · replace h := h.1 cq
              exact K_108 x5 x6 c_lengths c_queue h _ _ hP hD hS _ (lv_sub hl [2, 3, 4, 5, 6, 7] rfl)
            · replace h := h.2 cq
              refine lv_iload hx hb dX5_queueNext_58 (lv_at hl 6 rfl) ?_
              refine lv_if_lt (tgt := 108) hx hb dX5_queueNext_60 (by decide) (fun cq => ?_) (fun cq => ?_)
              · replace h := h.1 cq
                exact K_108 x5 x6 c_lengths c_queue h _ _ hP hD hS _ (lv_sub hl [2, 3, 4, 5, 6, 7] rfl)
              · replace h := h.2 cq
                refine lv_iload hx hb dX5_queueNext_63 (lv_at hl 6 rfl) ?_
                refine lv_sipush (v := (nI 144)) hx hb dX5_queueNext_65 (by decide) ?_
                refine lv_icmp_lt (tgt := 74) hx hb dX5_queueNext_68 (by decide) (fun cq => ?_) (fun cq => ?_)
                · replace h := h.1 cq
                  refine lv_aload_n hx hb dX5_queueNext_74 rfl (lv_at hl 2 rfl) ?_
                  refine lv_iload hx hb dX5_queueNext_75 (lv_at hl 1 rfl) ?_
                  refine lv_iload hx hb dX5_queueNext_77 (lv_at hl 0 rfl) ?_
                  refine lv_aload_n hx hb dX5_queueNext_79 rfl (lv_at hl 2 rfl) ?_
                  refine lv_iload_n hx hb dX5_queueNext_80 rfl (lv_at hl 4 rfl) ?_
                  refine lv_iload_n hx hb dX5_queueNext_81 rfl (lv_at hl 5 rfl) ?_
                  refine go_I E (run_V E ((k_X5_lengthOf l g h_this h_this_lengths h_this_queue h) _) (cwV 2 hts gX5_queueNext_X5_lengthOf rfl rfl rfl (by decide +kernel) ⟨Nat.le_of_ble_eq_true rfl, Nat.le_of_ble_eq_true rfl⟩) hP hD hS [0, 1] rfl rfl 0 4 rfl rfl rfl hl rfl rfl (Nat.le_of_ble_eq_true rfl) dX5_queueNext_82 ⟨Nat.le_of_ble_eq_true rfl, Nat.le_of_ble_eq_true rfl⟩) hP hD hS [0, 1] rfl [(false, 0), (false, 1), (true, 2), (true, 3), (true, 4)] rfl (by decide) (fun _ => (cw_X5_queueNext g h_this h_m h_this_lengths h_this_queue h_m_moves h_m_lights h_m_prices h_m_shares c_without c_lengths c_queue c_m_states c_m_letters c_m_moves)) (fun _ => rfl) (fun r10 _ H locs h hP hD hS => ?_)
                  try dsimp only at h
                  have hP : va_P g.1 vwCl (cw_X5_queueNext g h_this h_m h_this_lengths h_this_queue h_m_moves h_m_lights h_m_prices h_m_shares c_without c_lengths c_queue c_m_states c_m_letters c_m_moves) H := hP
                  have hD : va_D A (cw_X5_queueNext g h_this h_m h_this_lengths h_this_queue h_m_moves h_m_lights h_m_prices h_m_shares c_without c_lengths c_queue c_m_states c_m_letters c_m_moves) := hD
                  refine lv_iconst (v := (nI 1)) hx hb dX5_queueNext_85 (by decide) ?_
                  refine lv_iadd hx hb dX5_queueNext_86 ?_
                  refine go_V E (run_V E ((k_X5_setLength l g h_this h_this_lengths h_this_queue h) _) (cwV 3 hts gX5_queueNext_X5_setLength rfl rfl rfl (by decide +kernel) ⟨Nat.le_of_ble_eq_true rfl, Nat.le_of_ble_eq_true rfl⟩) hP hD hS [0, 1] rfl rfl 0 4 rfl rfl rfl hl rfl rfl (Nat.le_of_ble_eq_true rfl) dX5_queueNext_87 ⟨Nat.le_of_ble_eq_true rfl, Nat.le_of_ble_eq_true rfl⟩) hP hD hS [0, 1] rfl [(false, 0), (false, 1), (true, 2), (true, 3), (true, 4)] rfl (by decide) (fun u => (cw_X5_queueNext g h_this h_m h_this_lengths h_this_queue h_m_moves h_m_lights h_m_prices h_m_shares c_without u c_queue c_m_states c_m_letters c_m_moves)) (fun _ => rfl) (fun c_lengths H locs h hP hD hS => ?_)
                  try dsimp only at h
                  have hP : va_P g.1 vwCl (cw_X5_queueNext g h_this h_m h_this_lengths h_this_queue h_m_moves h_m_lights h_m_prices h_m_shares c_without c_lengths c_queue c_m_states c_m_letters c_m_moves) H := hP
                  have hD : va_D A (cw_X5_queueNext g h_this h_m h_this_lengths h_this_queue h_m_moves h_m_lights h_m_prices h_m_shares c_without c_lengths c_queue c_m_states c_m_letters c_m_moves) := hD
                  refine lv_aload_n hx hb dX5_queueNext_90 rfl (lv_at hl 2 rfl) ?_
                  refine va_get (D := g.1) (ci := 4) (v := .ref h_this_queue) (C := RX5) (T := TX5) (N := 3) hx hb hts iX5 hown hK hP 0 rfl rfl 1 (by decide) f15 (fun _ h9 => h9) rfl dX5_queueNext_91 ?_
                  refine lv_iload hx hb dX5_queueNext_94 (lv_at hl 6 rfl) ?_
                  refine lv_iload hx hb dX5_queueNext_96 (lv_at hl 1 rfl) ?_
                  refine lv_bipush (v := (nI 12)) hx hb dX5_queueNext_98 (by decide) ?_
                  refine lv_imul hx hb dX5_queueNext_100 ?_
                  refine lv_iload hx hb dX5_queueNext_101 (lv_at hl 0 rfl) ?_
                  refine lv_iadd hx hb dX5_queueNext_103 ?_
                  obtain ⟨hi, h⟩ := h
                  refine va_iast (D := g.1) (n := 144) (f := c_queue) hx hb hK hP hD hS 2 0 rfl rfl hi dX5_queueNext_104 (fun H locs hP hD hS => ?_)
                  have hP : va_P g.1 vwCl (cw_X5_queueNext g h_this h_m h_this_lengths h_this_queue h_m_moves h_m_lights h_m_prices h_m_shares c_without c_lengths (upd c_queue (Int32.toNatClampNeg x5) ((r4 * (nI 12)) + r6)) c_m_states c_m_letters c_m_moves) H := hP
                  have hD : va_D A (cw_X5_queueNext g h_this h_m h_this_lengths h_this_queue h_m_moves h_m_lights h_m_prices h_m_shares c_without c_lengths (upd c_queue (Int32.toNatClampNeg x5) ((r4 * (nI 12)) + r6)) c_m_states c_m_letters c_m_moves) := hD
                  refine lv_iinc (v := (x5 + (nI 1))) (lv' := [(5, .int (x5 + (nI 1))), (8, .int r6), (7, .int r4), (0, .ref h_this), (1, .ref h_m), (2, .int x2), (3, .int x3), (6, .int x6)]) hx hb dX5_queueNext_105 hl (k := 6) rfl rfl (by decide) rfl (fun ls hl => ?_)
                  exact K_108 (x5 + (nI 1)) x6 c_lengths (upd c_queue (Int32.toNatClampNeg x5) ((r4 * (nI 12)) + r6)) h _ _ hP hD hS _ (lv_sub hl [3, 4, 5, 6, 0, 7] rfl)
                · replace h := h.2 cq
                  refine lv_goto (tgt := 108) hx hb dX5_queueNext_71 (by decide) ?_
                  exact K_108 x5 x6 c_lengths c_queue h _ _ hP hD hS _ (lv_sub hl [2, 3, 4, 5, 6, 7] rfl)
  refine lv_iload hx hb dX5_queueNext_0 (lv_at hl 4 rfl) ?_
  refine lv_istore (lv' := [(5, .int x4), (0, .ref h_this), (1, .ref h_m), (2, .int x2), (3, .int x3), (4, .int x4)]) hx hb dX5_queueNext_2 hl (by decide) rfl (fun ls hl => ?_)
  refine lv_iconst (v := (nI 0)) hx hb dX5_queueNext_4 (by decide) ?_
  refine lv_istore (lv' := [(6, .int (nI 0)), (5, .int x4), (0, .ref h_this), (1, .ref h_m), (2, .int x2), (3, .int x3), (4, .int x4)]) hx hb dX5_queueNext_5 hl (by decide) rfl (fun ls hl => ?_)
  obtain ⟨n, h⟩ := h
  exact K_7 n x4 (nI 0) c_lengths c_queue h _ _ hP hD hS _ (lv_sub hl [2, 3, 4, 5, 1, 0] rfl)
abbrev cw_X5_lengthApart (g : GG) (h_this : Nat) (h_m : Nat) (h_this_lengths : Nat) (h_this_queue : Nat) (h_m_moves : Nat) (h_m_lights : Nat) (h_m_prices : Nat) (h_m_shares : Nat) (c_without : Int32) (c_lengths : Nat → Int32) (c_queue : Nat → Int32) (c_m_states : Int32) (c_m_letters : Int32) (c_m_moves : Nat → Int32) (c_m_lights : Nat → Int32) : va_W := [(h_this, .inr (4, [.ref h_this_lengths, .ref h_this_queue, .int c_without])), (h_this_lengths, .inl (g.2.1, 144, .inl c_lengths)), (h_this_queue, .inl (g.2.1, 144, .inl c_queue)), (h_m, .inr (3, [.int c_m_states, .int c_m_letters, .ref h_m_moves, .ref h_m_lights, .ref h_m_prices, .ref h_m_shares])), (h_m_moves, .inl (g.2.1, 48, .inl c_m_moves)), (h_m_lights, .inl (g.2.1, 12, .inl c_m_lights))]
def J_X5_lengthApart_87 (c_without : Int32) (Q : Int32 → (Nat → Int32) → (Nat → Int32) → Prop) (x6 : Int32) (x7 : Int32) (c_lengths : Nat → Int32) (c_queue : Nat → Int32) : Prop :=
    wp_X5_lengthOf c_without c_lengths x6 x7 (fun r12 => Q r12 c_lengths c_queue)
def L_X5_lengthApart_33 (c_without : Int32) (c_m_states : Int32) (c_m_letters : Int32) (c_m_moves : Nat → Int32) (c_m_lights : Nat → Int32) (Q : Int32 → (Nat → Int32) → (Nat → Int32) → Prop) : Nat → Int32 → Int32 → (Nat → Int32) → (Nat → Int32) → Prop
  | 0, _, _, _, _ => False
  | n_33 + 1, x4, x5, c_lengths, c_queue =>
    ((x4 ≤ x5 → Q (-1) c_lengths c_queue) ∧ (¬ x4 ≤ x5 → (((nI 144) ≤ x5 → Q (-1) c_lengths c_queue) ∧ (¬ (nI 144) ≤ x5 → vp_in x5 144 ∧ vp_in x5 144 ∧ wp_X4_lightOf c_m_states c_m_letters c_m_lights ((c_queue (Int32.toNatClampNeg x5)) / (nI 12)) (fun r6 => wp_X4_lightOf c_m_states c_m_letters c_m_lights ((c_queue (Int32.toNatClampNeg x5)) - (c_queue (Int32.toNatClampNeg x5)) / (nI 12) * (nI 12)) (fun r8 => ((r6 = r8 → wp_X5_queueNext c_without c_lengths c_queue c_m_states c_m_letters c_m_moves ((c_queue (Int32.toNatClampNeg x5)) / (nI 12)) ((c_queue (Int32.toNatClampNeg x5)) - (c_queue (Int32.toNatClampNeg x5)) / (nI 12) * (nI 12)) x4 (fun r10 c_lengths c_queue_9 => (L_X5_lengthApart_33 c_without c_m_states c_m_letters c_m_moves c_m_lights Q n_33) r10 (x5 + (nI 1)) c_lengths c_queue_9)) ∧ (¬ r6 = r8 → J_X5_lengthApart_87 c_without Q ((c_queue (Int32.toNatClampNeg x5)) / (nI 12)) ((c_queue (Int32.toNatClampNeg x5)) - (c_queue (Int32.toNatClampNeg x5)) / (nI 12) * (nI 12)) c_lengths c_queue))))))))
def wp_X5_lengthApart (c_without : Int32) (c_lengths : Nat → Int32) (c_queue : Nat → Int32) (c_m_states : Int32) (c_m_letters : Int32) (c_m_moves : Nat → Int32) (c_m_lights : Nat → Int32) (x2 : Int32) (x3 : Int32) (Q : Int32 → (Nat → Int32) → (Nat → Int32) → Prop) : Prop :=
    wp_J7_fill_53178 144 c_lengths (-1) (fun c_lengths => wp_X5_setLength c_without c_lengths x2 x3 (nI 0) (fun c_lengths => vp_in (nI 0) 144 ∧ ∃ n, L_X5_lengthApart_33 c_without c_m_states c_m_letters c_m_moves c_m_lights Q n (nI 1) (nI 0) c_lengths (upd c_queue (Int32.toNatClampNeg (nI 0)) ((x2 * (nI 12)) + x3))))
abbrev rm_X5_lengthApart : Room := { frames := 2, cells := 0, slots := 0, locals := 51 }
set_option maxHeartbeats 4000000 in
set_option maxRecDepth 100000 in
theorem k_X5_lengthApart (l : Launch) (g : GG) (h_this : Nat) (h_m : Nat) (h_this_lengths : Nat) (h_this_queue : Nat) (h_m_moves : Nat) (h_m_lights : Nat) (h_m_prices : Nat) (h_m_shares : Nat) {c_without : Int32} {c_lengths : Nat → Int32} {c_queue : Nat → Int32} {c_m_states : Int32} {c_m_letters : Int32} {c_m_moves : Nat → Int32} {c_m_lights : Nat → Int32} {x2 : Int32} {x3 : Int32} {Q : Int32 → (Nat → Int32) → (Nat → Int32) → Prop} (h : wp_X5_lengthApart c_without c_lengths c_queue c_m_states c_m_letters c_m_moves c_m_lights x2 x3 Q) : CI l g yX5_lengthApart wsX5_lengthApart rm_X5_lengthApart [.ref h_this, .ref h_m, .int x2, .int x3] (cw_X5_lengthApart g h_this h_m h_this_lengths h_this_queue h_m_moves h_m_lights h_m_prices h_m_shares c_without c_lengths c_queue c_m_states c_m_letters c_m_moves c_m_lights) (S := (Nat → Int32) × (Nat → Int32)) (fun u => (cw_X5_lengthApart g h_this h_m h_this_lengths h_this_queue h_m_moves h_m_lights h_m_prices h_m_shares c_without u.1 u.2 c_m_states c_m_letters c_m_moves c_m_lights)) (fun r u => Q r u.1 u.2) 0 0 := by
  refine mk_I (cc := cX5_lengthApart) (maxL := 8) (own := RX5) (by decide) rfl rfl (Nat.le_of_ble_eq_true rfl) ?_
  intro p e s m args below meth c A QQ E hret hP hD hS ls hl
  have E2 := E
  obtain ⟨hx, hb, hr, hml, hown, hts, hlocks, hA, hZ, hK, hnm⟩ := E2
  have f9 := hts (.fieldLink RX5 9 "WordBench$Pairs" "lengths" "[I") (by decide +kernel)
  have f15 := hts (.fieldLink RX5 15 "WordBench$Pairs" "queue" "[I") (by decide +kernel)
  have iX5 : ∀ w ∈ wsX50, w ∈ wsX5_lengthApart := fun _ h => List.mem_cons_of_mem _ (List.mem_append_left _ (List.mem_append_right _ h))
  have hP : va_P g.1 vwCl (cw_X5_lengthApart g h_this h_m h_this_lengths h_this_queue h_m_moves h_m_lights h_m_prices h_m_shares c_without c_lengths c_queue c_m_states c_m_letters c_m_moves c_m_lights) s.heap := hP
  have hD : va_D A (cw_X5_lengthApart g h_this h_m h_this_lengths h_this_queue h_m_moves h_m_lights h_m_prices h_m_shares c_without c_lengths c_queue c_m_states c_m_letters c_m_moves c_m_lights) := hD
  have hl : lv_has ls 8 [(0, .ref h_this), (1, .ref h_m), (2, .int x2), (3, .int x3)] := hl
  unfold wp_X5_lengthApart at h
  have K_87 : ∀ (x6 : Int32) (x7 : Int32) (c_lengths : Nat → Int32) (c_queue : Nat → Int32) , J_X5_lengthApart_87 c_without Q x6 x7 c_lengths c_queue → ∀ (H : Heap) (locs : List Loc), va_P g.1 vwCl (cw_X5_lengthApart g h_this h_m h_this_lengths h_this_queue h_m_moves h_m_lights h_m_prices h_m_shares c_without c_lengths c_queue c_m_states c_m_letters c_m_moves c_m_lights) H → va_D A (cw_X5_lengthApart g h_this h_m h_this_lengths h_this_queue h_m_moves h_m_lights h_m_prices h_m_shares c_without c_lengths c_queue c_m_states c_m_letters c_m_moves c_m_lights) → va_S A s.heap H locs → ∀ ls : Array Slot, lv_has ls 8 [(0, .ref h_this), (6, .int x6), (7, .int x7)] → W p l e rm_X5_lengthApart s m args below meth c H locs 0 0 QQ (F0 m 87 ls []) := by
    intro x6 x7 c_lengths c_queue h H locs hP hD hS ls hl
    unfold J_X5_lengthApart_87 at h
    refine lv_aload_n hx hb dX5_lengthApart_87 rfl (lv_at hl 0 rfl) ?_
    refine lv_iload hx hb dX5_lengthApart_88 (lv_at hl 1 rfl) ?_
    refine lv_iload hx hb dX5_lengthApart_90 (lv_at hl 2 rfl) ?_
    refine go_I E (run_V E ((k_X5_lengthOf l g h_this h_this_lengths h_this_queue h) _) (cwV 2 hts gX5_lengthApart_X5_lengthOf rfl rfl rfl (by decide +kernel) ⟨Nat.le_of_ble_eq_true rfl, Nat.le_of_ble_eq_true rfl⟩) hP hD hS [0, 1] rfl rfl 0 4 rfl rfl rfl hl rfl rfl (Nat.le_of_ble_eq_true rfl) dX5_lengthApart_92 ⟨Nat.le_of_ble_eq_true rfl, Nat.le_of_ble_eq_true rfl⟩) hP hD hS [0, 1] rfl [(false, 0), (false, 1), (true, 2), (true, 3), (true, 4), (true, 5)] rfl (by decide) (fun _ => (cw_X5_lengthApart g h_this h_m h_this_lengths h_this_queue h_m_moves h_m_lights h_m_prices h_m_shares c_without c_lengths c_queue c_m_states c_m_letters c_m_moves c_m_lights)) (fun _ => rfl) (fun r12 _ H locs h hP hD hS => ?_)
    try dsimp only at h
    have hP : va_P g.1 vwCl (cw_X5_lengthApart g h_this h_m h_this_lengths h_this_queue h_m_moves h_m_lights h_m_prices h_m_shares c_without c_lengths c_queue c_m_states c_m_letters c_m_moves c_m_lights) H := hP
    have hD : va_D A (cw_X5_lengthApart g h_this h_m h_this_lengths h_this_queue h_m_moves h_m_lights h_m_prices h_m_shares c_without c_lengths c_queue c_m_states c_m_letters c_m_moves c_m_lights) := hD
    exact hret r12 (c_lengths, c_queue) _ _ _ _ rfl h hP hD hS dX5_lengthApart_95
  have K_33 : ∀ (n_33 : Nat) (x4 : Int32) (x5 : Int32) (c_lengths : Nat → Int32) (c_queue : Nat → Int32) , L_X5_lengthApart_33 c_without c_m_states c_m_letters c_m_moves c_m_lights Q n_33 x4 x5 c_lengths c_queue → ∀ (H : Heap) (locs : List Loc), va_P g.1 vwCl (cw_X5_lengthApart g h_this h_m h_this_lengths h_this_queue h_m_moves h_m_lights h_m_prices h_m_shares c_without c_lengths c_queue c_m_states c_m_letters c_m_moves c_m_lights) H → va_D A (cw_X5_lengthApart g h_this h_m h_this_lengths h_this_queue h_m_moves h_m_lights h_m_prices h_m_shares c_without c_lengths c_queue c_m_states c_m_letters c_m_moves c_m_lights) → va_S A s.heap H locs → ∀ ls : Array Slot, lv_has ls 8 [(0, .ref h_this), (1, .ref h_m), (4, .int x4), (5, .int x5)] → W p l e rm_X5_lengthApart s m args below meth c H locs 0 0 QQ (F0 m 33 ls []) := by
    intro n_33
    induction n_33 with
    | zero => intro x4 x5 c_lengths c_queue; exact fun h => False.elim h
    | succ n_33 ih_33 =>
      intro x4 x5 c_lengths c_queue h H locs hP hD hS ls hl
      unfold L_X5_lengthApart_33 at h
      refine lv_iload hx hb dX5_lengthApart_33 (lv_at hl 3 rfl) ?_
      refine lv_iload hx hb dX5_lengthApart_35 (lv_at hl 2 rfl) ?_
      refine lv_icmp_ge (tgt := 115) hx hb dX5_lengthApart_37 (by decide) (fun cq => ?_) (fun cq => ?_)
      · replace h := h.1 cq
        refine lv_iconst (v := (-1)) hx hb dX5_lengthApart_115 (by decide) ?_
        exact hret (-1) (c_lengths, c_queue) _ _ _ _ rfl h hP hD hS dX5_lengthApart_116
      · replace h := h.2 cq
        refine lv_iload hx hb dX5_lengthApart_40 (lv_at hl 3 rfl) ?_
        refine lv_sipush (v := (nI 144)) hx hb dX5_lengthApart_42 (by decide) ?_
        refine lv_icmp_ge (tgt := 115) hx hb dX5_lengthApart_45 (by decide) (fun cq => ?_) (fun cq => ?_)
        · replace h := h.1 cq
          refine lv_iconst (v := (-1)) hx hb dX5_lengthApart_115 (by decide) ?_
          exact hret (-1) (c_lengths, c_queue) _ _ _ _ rfl h hP hD hS dX5_lengthApart_116
        · replace h := h.2 cq
          refine lv_aload_n hx hb dX5_lengthApart_48 rfl (lv_at hl 0 rfl) ?_
          refine va_get (D := g.1) (ci := 4) (v := .ref h_this_queue) (C := RX5) (T := TX5) (N := 3) hx hb hts iX5 hown hK hP 0 rfl rfl 1 (by decide) f15 (fun _ h9 => h9) rfl dX5_lengthApart_49 ?_
          refine lv_iload hx hb dX5_lengthApart_52 (lv_at hl 3 rfl) ?_
          obtain ⟨hi, h⟩ := h
          refine va_iald (D := g.1) (n := 144) (f := c_queue) hx hb hK hP 2 0 rfl rfl hi dX5_lengthApart_54 ?_
          refine lv_bipush (v := (nI 12)) hx hb dX5_lengthApart_55 (by decide) ?_
          refine lv_idiv hx hb dX5_lengthApart_57 (by decide) ?_
          refine lv_istore (lv' := [(6, .int ((c_queue (Int32.toNatClampNeg x5)) / (nI 12))), (0, .ref h_this), (1, .ref h_m), (4, .int x4), (5, .int x5)]) hx hb dX5_lengthApart_58 hl (by decide) rfl (fun ls hl => ?_)
          refine lv_aload_n hx hb dX5_lengthApart_60 rfl (lv_at hl 1 rfl) ?_
          refine va_get (D := g.1) (ci := 4) (v := .ref h_this_queue) (C := RX5) (T := TX5) (N := 3) hx hb hts iX5 hown hK hP 0 rfl rfl 1 (by decide) f15 (fun _ h9 => h9) rfl dX5_lengthApart_61 ?_
          refine lv_iload hx hb dX5_lengthApart_64 (lv_at hl 4 rfl) ?_
          obtain ⟨hi, h⟩ := h
          refine va_iald (D := g.1) (n := 144) (f := c_queue) hx hb hK hP 2 0 rfl rfl hi dX5_lengthApart_66 ?_
          refine lv_bipush (v := (nI 12)) hx hb dX5_lengthApart_67 (by decide) ?_
          refine lv_irem hx hb dX5_lengthApart_69 (by decide) ?_
          refine lv_istore (lv' := [(7, .int ((c_queue (Int32.toNatClampNeg x5)) - (c_queue (Int32.toNatClampNeg x5)) / (nI 12) * (nI 12))), (6, .int ((c_queue (Int32.toNatClampNeg x5)) / (nI 12))), (0, .ref h_this), (1, .ref h_m), (4, .int x4), (5, .int x5)]) hx hb dX5_lengthApart_70 hl (by decide) rfl (fun ls hl => ?_)
          refine lv_aload_n hx hb dX5_lengthApart_72 rfl (lv_at hl 3 rfl) ?_
          refine lv_iload hx hb dX5_lengthApart_73 (lv_at hl 1 rfl) ?_
          refine go_I E (run_V E ((k_X4_lightOf l g h_m h_m_moves h_m_lights h_m_prices h_m_shares h) _) (cwV 1 hts gX5_lengthApart_X4_lightOf rfl rfl rfl (by decide +kernel) ⟨Nat.le_of_ble_eq_true rfl, Nat.le_of_ble_eq_true rfl⟩) hP hD hS [3, 5] rfl rfl 0 3 rfl rfl rfl hl rfl rfl (Nat.le_of_ble_eq_true rfl) dX5_lengthApart_75 ⟨Nat.le_of_ble_eq_true rfl, Nat.le_of_ble_eq_true rfl⟩) hP hD hS [3, 5] rfl [(true, 0), (true, 1), (true, 2), (false, 0), (true, 4), (false, 1)] rfl (by decide) (fun _ => (cw_X5_lengthApart g h_this h_m h_this_lengths h_this_queue h_m_moves h_m_lights h_m_prices h_m_shares c_without c_lengths c_queue c_m_states c_m_letters c_m_moves c_m_lights)) (fun _ => rfl) (fun r6 _ H locs h hP hD hS => ?_)
          try dsimp only at h
          have hP : va_P g.1 vwCl (cw_X5_lengthApart g h_this h_m h_this_lengths h_this_queue h_m_moves h_m_lights h_m_prices h_m_shares c_without c_lengths c_queue c_m_states c_m_letters c_m_moves c_m_lights) H := hP
          have hD : va_D A (cw_X5_lengthApart g h_this h_m h_this_lengths h_this_queue h_m_moves h_m_lights h_m_prices h_m_shares c_without c_lengths c_queue c_m_states c_m_letters c_m_moves c_m_lights) := hD
          refine lv_aload_n hx hb dX5_lengthApart_78 rfl (lv_at hl 3 rfl) ?_
          refine lv_iload hx hb dX5_lengthApart_79 (lv_at hl 0 rfl) ?_
          refine go_I E (run_V E ((k_X4_lightOf l g h_m h_m_moves h_m_lights h_m_prices h_m_shares h) _) (cwV 1 hts gX5_lengthApart_X4_lightOf rfl rfl rfl (by decide +kernel) ⟨Nat.le_of_ble_eq_true rfl, Nat.le_of_ble_eq_true rfl⟩) hP hD hS [3, 5] rfl rfl 0 3 rfl rfl rfl hl rfl rfl (Nat.le_of_ble_eq_true rfl) dX5_lengthApart_81 ⟨Nat.le_of_ble_eq_true rfl, Nat.le_of_ble_eq_true rfl⟩) hP hD hS [3, 5] rfl [(true, 0), (true, 1), (true, 2), (false, 0), (true, 4), (false, 1)] rfl (by decide) (fun _ => (cw_X5_lengthApart g h_this h_m h_this_lengths h_this_queue h_m_moves h_m_lights h_m_prices h_m_shares c_without c_lengths c_queue c_m_states c_m_letters c_m_moves c_m_lights)) (fun _ => rfl) (fun r8 _ H locs h hP hD hS => ?_)
          try dsimp only at h
          have hP : va_P g.1 vwCl (cw_X5_lengthApart g h_this h_m h_this_lengths h_this_queue h_m_moves h_m_lights h_m_prices h_m_shares c_without c_lengths c_queue c_m_states c_m_letters c_m_moves c_m_lights) H := hP
          have hD : va_D A (cw_X5_lengthApart g h_this h_m h_this_lengths h_this_queue h_m_moves h_m_lights h_m_prices h_m_shares c_without c_lengths c_queue c_m_states c_m_letters c_m_moves c_m_lights) := hD
          refine lv_icmp_eq (tgt := 96) hx hb dX5_lengthApart_84 (by decide) (fun cq => ?_) (fun cq => ?_)
          · replace h := h.1 cq
            refine lv_aload_n hx hb dX5_lengthApart_96 rfl (lv_at hl 2 rfl) ?_
            refine lv_aload_n hx hb dX5_lengthApart_97 rfl (lv_at hl 3 rfl) ?_
            refine lv_iload hx hb dX5_lengthApart_98 (lv_at hl 1 rfl) ?_
            refine lv_iload hx hb dX5_lengthApart_100 (lv_at hl 0 rfl) ?_
            refine lv_iload hx hb dX5_lengthApart_102 (lv_at hl 4 rfl) ?_
            refine go_I E (run_V E ((k_X5_queueNext l g h_this h_m h_this_lengths h_this_queue h_m_moves h_m_lights h_m_prices h_m_shares h) _) (cwV 4 hts gX5_lengthApart_X5_queueNext rfl rfl rfl (by decide +kernel) ⟨Nat.le_of_ble_eq_true rfl, Nat.le_of_ble_eq_true rfl⟩) hP hD hS [0, 1, 2, 3, 4] rfl rfl 0 4 rfl rfl rfl hl rfl rfl (Nat.le_of_ble_eq_true rfl) dX5_lengthApart_104 ⟨Nat.le_of_ble_eq_true rfl, Nat.le_of_ble_eq_true rfl⟩) hP hD hS [0, 1, 2, 3, 4] rfl [(false, 0), (false, 1), (false, 2), (false, 3), (false, 4), (true, 5)] rfl (by decide) (fun u => (cw_X5_lengthApart g h_this h_m h_this_lengths h_this_queue h_m_moves h_m_lights h_m_prices h_m_shares c_without u.1 u.2 c_m_states c_m_letters c_m_moves c_m_lights)) (fun _ => rfl) (fun r10 u H locs h hP hD hS => ?_)
            obtain ⟨c_lengths, c_queue_9⟩ := u
            try dsimp only at h
            have hP : va_P g.1 vwCl (cw_X5_lengthApart g h_this h_m h_this_lengths h_this_queue h_m_moves h_m_lights h_m_prices h_m_shares c_without c_lengths c_queue_9 c_m_states c_m_letters c_m_moves c_m_lights) H := hP
            have hD : va_D A (cw_X5_lengthApart g h_this h_m h_this_lengths h_this_queue h_m_moves h_m_lights h_m_prices h_m_shares c_without c_lengths c_queue_9 c_m_states c_m_letters c_m_moves c_m_lights) := hD
            refine lv_istore (lv' := [(4, .int r10), (7, .int ((c_queue (Int32.toNatClampNeg x5)) - (c_queue (Int32.toNatClampNeg x5)) / (nI 12) * (nI 12))), (6, .int ((c_queue (Int32.toNatClampNeg x5)) / (nI 12))), (0, .ref h_this), (1, .ref h_m), (5, .int x5)]) hx hb dX5_lengthApart_107 hl (by decide) rfl (fun ls hl => ?_)
            refine lv_iinc (v := (x5 + (nI 1))) (lv' := [(5, .int (x5 + (nI 1))), (4, .int r10), (7, .int ((c_queue (Int32.toNatClampNeg x5)) - (c_queue (Int32.toNatClampNeg x5)) / (nI 12) * (nI 12))), (6, .int ((c_queue (Int32.toNatClampNeg x5)) / (nI 12))), (0, .ref h_this), (1, .ref h_m)]) hx hb dX5_lengthApart_109 hl (k := 5) rfl rfl (by decide) rfl (fun ls hl => ?_)
            refine lv_goto (tgt := 33) hx hb dX5_lengthApart_112 (by decide) ?_
            exact ih_33 r10 (x5 + (nI 1)) c_lengths c_queue_9 h _ _ hP hD hS _ (lv_sub hl [4, 5, 1, 0] rfl)
          · replace h := h.2 cq
            exact K_87 ((c_queue (Int32.toNatClampNeg x5)) / (nI 12)) ((c_queue (Int32.toNatClampNeg x5)) - (c_queue (Int32.toNatClampNeg x5)) / (nI 12) * (nI 12)) c_lengths c_queue h _ _ hP hD hS _ (lv_sub hl [2, 1, 0] rfl)
  refine lv_aload_n hx hb dX5_lengthApart_0 rfl (lv_at hl 0 rfl) ?_
  refine va_get (D := g.1) (ci := 4) (v := .ref h_this_lengths) (C := RX5) (T := TX5) (N := 3) hx hb hts iX5 hown hK hP 0 rfl rfl 0 (by decide) f9 (fun _ h9 => h9) rfl dX5_lengthApart_1 ?_
  refine lv_iconst (v := (-1)) hx hb dX5_lengthApart_4 (by decide) ?_
  refine go_V E (run_S E ((k_J7_fill_53178 l g h_this_lengths 144 h) _) (va_cwS 2 hts gX5_lengthApart_J7_fill_53178 rfl rfl rfl (by decide +kernel) ⟨Nat.le_of_ble_eq_true rfl, Nat.le_of_ble_eq_true rfl⟩) hP hD hS [1] rfl rfl hl rfl rfl (Nat.le_of_ble_eq_true rfl) dX5_lengthApart_5 ⟨Nat.le_of_ble_eq_true rfl, Nat.le_of_ble_eq_true rfl⟩) hP hD hS [1] rfl [(true, 0), (false, 0), (true, 2), (true, 3), (true, 4), (true, 5)] rfl (by decide) (fun u => (cw_X5_lengthApart g h_this h_m h_this_lengths h_this_queue h_m_moves h_m_lights h_m_prices h_m_shares c_without u c_queue c_m_states c_m_letters c_m_moves c_m_lights)) (fun _ => rfl) (fun c_lengths H locs h hP hD hS => ?_)
  try dsimp only at h
  have hP : va_P g.1 vwCl (cw_X5_lengthApart g h_this h_m h_this_lengths h_this_queue h_m_moves h_m_lights h_m_prices h_m_shares c_without c_lengths c_queue c_m_states c_m_letters c_m_moves c_m_lights) H := hP
  have hD : va_D A (cw_X5_lengthApart g h_this h_m h_this_lengths h_this_queue h_m_moves h_m_lights h_m_prices h_m_shares c_without c_lengths c_queue c_m_states c_m_letters c_m_moves c_m_lights) := hD
  refine lv_aload_n hx hb dX5_lengthApart_8 rfl (lv_at hl 0 rfl) ?_
  refine lv_iload_n hx hb dX5_lengthApart_9 rfl (lv_at hl 2 rfl) ?_
  refine lv_iload_n hx hb dX5_lengthApart_10 rfl (lv_at hl 3 rfl) ?_
  refine lv_iconst (v := (nI 0)) hx hb dX5_lengthApart_11 (by decide) ?_
  refine go_V E (run_V E ((k_X5_setLength l g h_this h_this_lengths h_this_queue h) _) (cwV 3 hts gX5_lengthApart_X5_setLength rfl rfl rfl (by decide +kernel) ⟨Nat.le_of_ble_eq_true rfl, Nat.le_of_ble_eq_true rfl⟩) hP hD hS [0, 1] rfl rfl 0 4 rfl rfl rfl hl rfl rfl (Nat.le_of_ble_eq_true rfl) dX5_lengthApart_12 ⟨Nat.le_of_ble_eq_true rfl, Nat.le_of_ble_eq_true rfl⟩) hP hD hS [0, 1] rfl [(false, 0), (false, 1), (true, 2), (true, 3), (true, 4), (true, 5)] rfl (by decide) (fun u => (cw_X5_lengthApart g h_this h_m h_this_lengths h_this_queue h_m_moves h_m_lights h_m_prices h_m_shares c_without u c_queue c_m_states c_m_letters c_m_moves c_m_lights)) (fun _ => rfl) (fun c_lengths H locs h hP hD hS => ?_)
  try dsimp only at h
  have hP : va_P g.1 vwCl (cw_X5_lengthApart g h_this h_m h_this_lengths h_this_queue h_m_moves h_m_lights h_m_prices h_m_shares c_without c_lengths c_queue c_m_states c_m_letters c_m_moves c_m_lights) H := hP
  have hD : va_D A (cw_X5_lengthApart g h_this h_m h_this_lengths h_this_queue h_m_moves h_m_lights h_m_prices h_m_shares c_without c_lengths c_queue c_m_states c_m_letters c_m_moves c_m_lights) := hD
  refine lv_aload_n hx hb dX5_lengthApart_15 rfl (lv_at hl 0 rfl) ?_
  refine va_get (D := g.1) (ci := 4) (v := .ref h_this_queue) (C := RX5) (T := TX5) (N := 3) hx hb hts iX5 hown hK hP 0 rfl rfl 1 (by decide) f15 (fun _ h9 => h9) rfl dX5_lengthApart_16 ?_
  refine lv_iconst (v := (nI 0)) hx hb dX5_lengthApart_19 (by decide) ?_
  refine lv_iload_n hx hb dX5_lengthApart_20 rfl (lv_at hl 2 rfl) ?_
  refine lv_bipush (v := (nI 12)) hx hb dX5_lengthApart_21 (by decide) ?_
  refine lv_imul hx hb dX5_lengthApart_23 ?_
  refine lv_iload_n hx hb dX5_lengthApart_24 rfl (lv_at hl 3 rfl) ?_
  refine lv_iadd hx hb dX5_lengthApart_25 ?_
  obtain ⟨hi, h⟩ := h
  refine va_iast (D := g.1) (n := 144) (f := c_queue) hx hb hK hP hD hS 2 0 rfl rfl hi dX5_lengthApart_26 (fun H locs hP hD hS => ?_)
  have hP : va_P g.1 vwCl (cw_X5_lengthApart g h_this h_m h_this_lengths h_this_queue h_m_moves h_m_lights h_m_prices h_m_shares c_without c_lengths (upd c_queue (Int32.toNatClampNeg (nI 0)) ((x2 * (nI 12)) + x3)) c_m_states c_m_letters c_m_moves c_m_lights) H := hP
  have hD : va_D A (cw_X5_lengthApart g h_this h_m h_this_lengths h_this_queue h_m_moves h_m_lights h_m_prices h_m_shares c_without c_lengths (upd c_queue (Int32.toNatClampNeg (nI 0)) ((x2 * (nI 12)) + x3)) c_m_states c_m_letters c_m_moves c_m_lights) := hD
  refine lv_iconst (v := (nI 1)) hx hb dX5_lengthApart_27 (by decide) ?_
  refine lv_istore (lv' := [(4, .int (nI 1)), (0, .ref h_this), (1, .ref h_m), (2, .int x2), (3, .int x3)]) hx hb dX5_lengthApart_28 hl (by decide) rfl (fun ls hl => ?_)
  refine lv_iconst (v := (nI 0)) hx hb dX5_lengthApart_30 (by decide) ?_
  refine lv_istore (lv' := [(5, .int (nI 0)), (4, .int (nI 1)), (0, .ref h_this), (1, .ref h_m), (2, .int x2), (3, .int x3)]) hx hb dX5_lengthApart_31 hl (by decide) rfl (fun ls hl => ?_)
  obtain ⟨n, h⟩ := h
  exact K_33 n (nI 1) (nI 0) c_lengths (upd c_queue (Int32.toNatClampNeg (nI 0)) ((x2 * (nI 12)) + x3)) h _ _ hP hD hS _ (lv_sub hl [2, 3, 1, 0] rfl)
abbrev cw_X6_addKey (g : GG) (h_this : Nat) (h_this_steps : Nat) (h_this_trail : Nat) (h_this_sums : Nat) (h_this_keys : Nat) (c_size : Int32) (c_keys : Nat → Int32) : va_W := [(h_this, .inr (5, [.ref h_this_steps, .ref h_this_trail, .ref h_this_sums, .ref h_this_keys, .int c_size])), (h_this_keys, .inl (g.2.1, 16385, .inl c_keys))]
def J_X6_addKey_89 (x1 : Int32) (Q : Int32 → (Nat → Int32) → Prop) (x2 : Int32) (c_size : Int32) (c_keys : Nat → Int32) : Prop :=
    vp_in x2 16385 ∧ Q c_size (upd c_keys (Int32.toNatClampNeg x2) x1)
def J_X6_addKey_64 (x1 : Int32) (Q : Int32 → (Nat → Int32) → Prop) (x2 : Int32) (c_size : Int32) (c_keys : Nat → Int32) : Prop :=
    J_X6_addKey_89 x1 Q x2 c_size c_keys
def L_X6_addKey_35 (c_size : Int32) (x1 : Int32) (Q : Int32 → (Nat → Int32) → Prop) : Nat → Int32 → Int32 → (Nat → Int32) → Prop
  | 0, _, _, _ => False
  | n_35 + 1, x2, x3, c_keys =>
    (((nI 16385) ≤ x3 → J_X6_addKey_89 x1 Q x2 c_size c_keys) ∧ (¬ (nI 16385) ≤ x3 → ((x2 ≤ (nI 0) → J_X6_addKey_89 x1 Q x2 c_size c_keys) ∧ (¬ x2 ≤ (nI 0) → vp_in ((x2 - (nI 1)) / (nI 2)) 16385 ∧ ((x1 < (c_keys (Int32.toNatClampNeg ((x2 - (nI 1)) / (nI 2)))) → vp_in ((x2 - (nI 1)) / (nI 2)) 16385 ∧ vp_in x2 16385 ∧ (L_X6_addKey_35 c_size x1 Q n_35) ((x2 - (nI 1)) / (nI 2)) (x3 + (nI 1)) (upd c_keys (Int32.toNatClampNeg x2) (c_keys (Int32.toNatClampNeg ((x2 - (nI 1)) / (nI 2)))))) ∧ (¬ x1 < (c_keys (Int32.toNatClampNeg ((x2 - (nI 1)) / (nI 2)))) → J_X6_addKey_64 x1 Q x2 c_size c_keys))))))
def wp_X6_addKey (c_size : Int32) (c_keys : Nat → Int32) (x1 : Int32) (Q : Int32 → (Nat → Int32) → Prop) : Prop :=
    ((c_size < (nI 0) → Q c_size c_keys) ∧ (¬ c_size < (nI 0) → ((c_size < (nI 16385) → ∃ n, L_X6_addKey_35 (c_size + (nI 1)) x1 Q n c_size (nI 0) c_keys) ∧ (¬ c_size < (nI 16385) → Q c_size c_keys))))
abbrev rm_X6_addKey : Room := { frames := 0, cells := 0, slots := 0, locals := 0 }
set_option maxHeartbeats 4000000 in
set_option maxRecDepth 100000 in
theorem k_X6_addKey (l : Launch) (g : GG) (h_this : Nat) (h_this_steps : Nat) (h_this_trail : Nat) (h_this_sums : Nat) (h_this_keys : Nat) {c_size : Int32} {c_keys : Nat → Int32} {x1 : Int32} {Q : Int32 → (Nat → Int32) → Prop} (h : wp_X6_addKey c_size c_keys x1 Q) : CV l g yX6_addKey wsX6_addKey rm_X6_addKey [.ref h_this, .int x1] (cw_X6_addKey g h_this h_this_steps h_this_trail h_this_sums h_this_keys c_size c_keys) (S := Int32 × (Nat → Int32)) (fun u => (cw_X6_addKey g h_this h_this_steps h_this_trail h_this_sums h_this_keys u.1 u.2)) (fun u => Q u.1 u.2) 0 0 := by
  refine mk_V (cc := cX6_addKey) (maxL := 5) (own := RX6) (by decide) rfl rfl (Nat.le_of_ble_eq_true rfl) ?_
  intro p e s m args below meth c A QQ E hret hP hD hS ls hl
  have E2 := E
  obtain ⟨hx, hb, hr, hml, hown, hts, hlocks, hA, hZ, hK, hnm⟩ := E2
  have f44 := hts (.fieldLink RX6 44 "WordBench$PriceSearch" "size" "I") (by decide +kernel)
  have f15 := hts (.fieldLink RX6 15 "WordBench$PriceSearch" "keys" "[I") (by decide +kernel)
  have iX6 : ∀ w ∈ wsX60, w ∈ wsX6_addKey := fun _ h => List.mem_cons_of_mem _ (List.mem_append_right _ h)
  have hP : va_P g.1 vwCl (cw_X6_addKey g h_this h_this_steps h_this_trail h_this_sums h_this_keys c_size c_keys) s.heap := hP
  have hD : va_D A (cw_X6_addKey g h_this h_this_steps h_this_trail h_this_sums h_this_keys c_size c_keys) := hD
  have hl : lv_has ls 5 [(0, .ref h_this), (1, .int x1)] := hl
  unfold wp_X6_addKey at h
  have K_89 : ∀ (x2 : Int32) (c_size : Int32) (c_keys : Nat → Int32) , J_X6_addKey_89 x1 Q x2 c_size c_keys → ∀ (H : Heap) (locs : List Loc), va_P g.1 vwCl (cw_X6_addKey g h_this h_this_steps h_this_trail h_this_sums h_this_keys c_size c_keys) H → va_D A (cw_X6_addKey g h_this h_this_steps h_this_trail h_this_sums h_this_keys c_size c_keys) → va_S A s.heap H locs → ∀ ls : Array Slot, lv_has ls 5 [(0, .ref h_this), (1, .int x1), (2, .int x2)] → W p l e rm_X6_addKey s m args below meth c H locs 0 0 QQ (F0 m 89 ls []) := by
    intro x2 c_size c_keys h H locs hP hD hS ls hl
    unfold J_X6_addKey_89 at h
    refine lv_aload_n hx hb dX6_addKey_89 rfl (lv_at hl 0 rfl) ?_
    refine va_get (D := g.1) (ci := 5) (v := .ref h_this_keys) (C := RX6) (T := TX6) (N := 5) hx hb hts iX6 hown hK hP 0 rfl rfl 3 (by decide) f15 (fun _ h9 => h9) rfl dX6_addKey_90 ?_
    refine lv_iload_n hx hb dX6_addKey_93 rfl (lv_at hl 2 rfl) ?_
    refine lv_iload_n hx hb dX6_addKey_94 rfl (lv_at hl 1 rfl) ?_
    obtain ⟨hi, h⟩ := h
    refine va_iast (D := g.1) (n := 16385) (f := c_keys) hx hb hK hP hD hS 1 0 rfl rfl hi dX6_addKey_95 (fun H locs hP hD hS => ?_)
    have hP : va_P g.1 vwCl (cw_X6_addKey g h_this h_this_steps h_this_trail h_this_sums h_this_keys c_size (upd c_keys (Int32.toNatClampNeg x2) x1)) H := hP
    have hD : va_D A (cw_X6_addKey g h_this h_this_steps h_this_trail h_this_sums h_this_keys c_size (upd c_keys (Int32.toNatClampNeg x2) x1)) := hD
    exact hret (c_size, (upd c_keys (Int32.toNatClampNeg x2) x1)) _ _ _ _ h hP hD hS dX6_addKey_96
  have K_64 : ∀ (x2 : Int32) (c_size : Int32) (c_keys : Nat → Int32) , J_X6_addKey_64 x1 Q x2 c_size c_keys → ∀ (H : Heap) (locs : List Loc), va_P g.1 vwCl (cw_X6_addKey g h_this h_this_steps h_this_trail h_this_sums h_this_keys c_size c_keys) H → va_D A (cw_X6_addKey g h_this h_this_steps h_this_trail h_this_sums h_this_keys c_size c_keys) → va_S A s.heap H locs → ∀ ls : Array Slot, lv_has ls 5 [(0, .ref h_this), (1, .int x1), (2, .int x2)] → W p l e rm_X6_addKey s m args below meth c H locs 0 0 QQ (F0 m 64 ls []) := by
    intro x2 c_size c_keys h H locs hP hD hS ls hl
    unfold J_X6_addKey_64 at h
    refine lv_goto (tgt := 89) hx hb dX6_addKey_64 (by decide) ?_
    exact K_89 x2 c_size c_keys h _ _ hP hD hS _ (lv_sub hl [0, 1, 2] rfl)
  have K_35 : ∀ (c_size : Int32) (n_35 : Nat) (x2 : Int32) (x3 : Int32) (c_keys : Nat → Int32) , L_X6_addKey_35 c_size x1 Q n_35 x2 x3 c_keys → ∀ (H : Heap) (locs : List Loc), va_P g.1 vwCl (cw_X6_addKey g h_this h_this_steps h_this_trail h_this_sums h_this_keys c_size c_keys) H → va_D A (cw_X6_addKey g h_this h_this_steps h_this_trail h_this_sums h_this_keys c_size c_keys) → va_S A s.heap H locs → ∀ ls : Array Slot, lv_has ls 5 [(0, .ref h_this), (1, .int x1), (2, .int x2), (3, .int x3)] → W p l e rm_X6_addKey s m args below meth c H locs 0 0 QQ (F0 m 35 ls []) := by
    intro c_size n_35
    induction n_35 with
    | zero => intro x2 x3 c_keys; exact fun h => False.elim h
    | succ n_35 ih_35 =>
      intro x2 x3 c_keys h H locs hP hD hS ls hl
      unfold L_X6_addKey_35 at h
      refine lv_iload_n hx hb dX6_addKey_35 rfl (lv_at hl 3 rfl) ?_
      refine lv_sipush (v := (nI 16385)) hx hb dX6_addKey_36 (by decide) ?_
      refine lv_icmp_ge (tgt := 89) hx hb dX6_addKey_39 (by decide) (fun cq => ?_) (fun cq => ?_)
      · replace h := h.1 cq
        exact K_89 x2 c_size c_keys h _ _ hP hD hS _ (lv_sub hl [0, 1, 2] rfl)
      · replace h := h.2 cq
        refine lv_iload_n hx hb dX6_addKey_42 rfl (lv_at hl 2 rfl) ?_
        refine lv_if_le (tgt := 89) hx hb dX6_addKey_43 (by decide) (fun cq => ?_) (fun cq => ?_)
        · replace h := h.1 cq
          exact K_89 x2 c_size c_keys h _ _ hP hD hS _ (lv_sub hl [0, 1, 2] rfl)
        · replace h := h.2 cq
          refine lv_iload_n hx hb dX6_addKey_46 rfl (lv_at hl 2 rfl) ?_
          refine lv_iconst (v := (nI 1)) hx hb dX6_addKey_47 (by decide) ?_
          refine lv_isub hx hb dX6_addKey_48 ?_
          refine lv_iconst (v := (nI 2)) hx hb dX6_addKey_49 (by decide) ?_
          refine lv_idiv hx hb dX6_addKey_50 (by decide) ?_
          refine lv_istore (lv' := [(4, .int ((x2 - (nI 1)) / (nI 2))), (0, .ref h_this), (1, .int x1), (2, .int x2), (3, .int x3)]) hx hb dX6_addKey_51 hl (by decide) rfl (fun ls hl => ?_)
          refine lv_aload_n hx hb dX6_addKey_53 rfl (lv_at hl 1 rfl) ?_
          refine va_get (D := g.1) (ci := 5) (v := .ref h_this_keys) (C := RX6) (T := TX6) (N := 5) hx hb hts iX6 hown hK hP 0 rfl rfl 3 (by decide) f15 (fun _ h9 => h9) rfl dX6_addKey_54 ?_
          refine lv_iload hx hb dX6_addKey_57 (lv_at hl 0 rfl) ?_
          obtain ⟨hi, h⟩ := h
          refine va_iald (D := g.1) (n := 16385) (f := c_keys) hx hb hK hP 1 0 rfl rfl hi dX6_addKey_59 ?_
          refine lv_iload_n hx hb dX6_addKey_60 rfl (lv_at hl 2 rfl) ?_
          refine lv_icmp_gt (tgt := 67) hx hb dX6_addKey_61 (by decide) (fun cq => ?_) (fun cq => ?_)
          · replace h := h.1 cq
            refine lv_aload_n hx hb dX6_addKey_67 rfl (lv_at hl 1 rfl) ?_
            refine va_get (D := g.1) (ci := 5) (v := .ref h_this_keys) (C := RX6) (T := TX6) (N := 5) hx hb hts iX6 hown hK hP 0 rfl rfl 3 (by decide) f15 (fun _ h9 => h9) rfl dX6_addKey_68 ?_
            refine lv_iload_n hx hb dX6_addKey_71 rfl (lv_at hl 3 rfl) ?_
            refine lv_aload_n hx hb dX6_addKey_72 rfl (lv_at hl 1 rfl) ?_
            refine va_get (D := g.1) (ci := 5) (v := .ref h_this_keys) (C := RX6) (T := TX6) (N := 5) hx hb hts iX6 hown hK hP 0 rfl rfl 3 (by decide) f15 (fun _ h9 => h9) rfl dX6_addKey_73 ?_
            refine lv_iload hx hb dX6_addKey_76 (lv_at hl 0 rfl) ?_
            obtain ⟨hi, h⟩ := h
            refine va_iald (D := g.1) (n := 16385) (f := c_keys) hx hb hK hP 1 0 rfl rfl hi dX6_addKey_78 ?_
            obtain ⟨hi, h⟩ := h
            refine va_iast (D := g.1) (n := 16385) (f := c_keys) hx hb hK hP hD hS 1 0 rfl rfl hi dX6_addKey_79 (fun H locs hP hD hS => ?_)
            have hP : va_P g.1 vwCl (cw_X6_addKey g h_this h_this_steps h_this_trail h_this_sums h_this_keys c_size (upd c_keys (Int32.toNatClampNeg x2) (c_keys (Int32.toNatClampNeg ((x2 - (nI 1)) / (nI 2)))))) H := hP
            have hD : va_D A (cw_X6_addKey g h_this h_this_steps h_this_trail h_this_sums h_this_keys c_size (upd c_keys (Int32.toNatClampNeg x2) (c_keys (Int32.toNatClampNeg ((x2 - (nI 1)) / (nI 2)))))) := hD
            refine lv_iload hx hb dX6_addKey_80 (lv_at hl 0 rfl) ?_
            refine lv_istore_n (lv' := [(2, .int ((x2 - (nI 1)) / (nI 2))), (4, .int ((x2 - (nI 1)) / (nI 2))), (0, .ref h_this), (1, .int x1), (3, .int x3)]) hx hb dX6_addKey_82 rfl hl (by decide) rfl (fun ls hl => ?_)
            refine lv_iinc (v := (x3 + (nI 1))) (lv' := [(3, .int (x3 + (nI 1))), (2, .int ((x2 - (nI 1)) / (nI 2))), (4, .int ((x2 - (nI 1)) / (nI 2))), (0, .ref h_this), (1, .int x1)]) hx hb dX6_addKey_83 hl (k := 4) rfl rfl (by decide) rfl (fun ls hl => ?_)
            refine lv_goto (tgt := 35) hx hb dX6_addKey_86 (by decide) ?_
            exact ih_35 ((x2 - (nI 1)) / (nI 2)) (x3 + (nI 1)) (upd c_keys (Int32.toNatClampNeg x2) (c_keys (Int32.toNatClampNeg ((x2 - (nI 1)) / (nI 2))))) h _ _ hP hD hS _ (lv_sub hl [3, 4, 1, 0] rfl)
          · replace h := h.2 cq
            exact K_64 x2 c_size c_keys h _ _ hP hD hS _ (lv_sub hl [1, 2, 3] rfl)
  refine lv_aload_n hx hb dX6_addKey_0 rfl (lv_at hl 0 rfl) ?_
  refine va_get (D := g.1) (ci := 5) (v := .int c_size) (C := RX6) (T := TX6) (N := 5) hx hb hts iX6 hown hK hP 0 rfl rfl 4 (by decide) f44 (fun _ h9 => h9) rfl dX6_addKey_1 ?_
  refine lv_if_lt (tgt := 17) hx hb dX6_addKey_4 (by decide) (fun cq => ?_) (fun cq => ?_)
  · replace h := h.1 cq
    exact hret (c_size, c_keys) _ _ _ _ h hP hD hS dX6_addKey_17
  · replace h := h.2 cq
    refine lv_aload_n hx hb dX6_addKey_7 rfl (lv_at hl 0 rfl) ?_
    refine va_get (D := g.1) (ci := 5) (v := .int c_size) (C := RX6) (T := TX6) (N := 5) hx hb hts iX6 hown hK hP 0 rfl rfl 4 (by decide) f44 (fun _ h9 => h9) rfl dX6_addKey_8 ?_
    refine lv_sipush (v := (nI 16385)) hx hb dX6_addKey_11 (by decide) ?_
    refine lv_icmp_lt (tgt := 18) hx hb dX6_addKey_14 (by decide) (fun cq => ?_) (fun cq => ?_)
    · replace h := h.1 cq
      refine lv_aload_n hx hb dX6_addKey_18 rfl (lv_at hl 0 rfl) ?_
      refine va_get (D := g.1) (ci := 5) (v := .int c_size) (C := RX6) (T := TX6) (N := 5) hx hb hts iX6 hown hK hP 0 rfl rfl 4 (by decide) f44 (fun _ h9 => h9) rfl dX6_addKey_19 ?_
      refine lv_istore_n (lv' := [(2, .int c_size), (0, .ref h_this), (1, .int x1)]) hx hb dX6_addKey_22 rfl hl (by decide) rfl (fun ls hl => ?_)
      refine lv_aload_n hx hb dX6_addKey_23 rfl (lv_at hl 1 rfl) ?_
      refine lv_dup hx hb dX6_addKey_24 rfl ?_
      refine va_get (D := g.1) (ci := 5) (v := .int c_size) (C := RX6) (T := TX6) (N := 5) hx hb hts iX6 hown hK hP 0 rfl rfl 4 (by decide) f44 (fun _ h9 => h9) rfl dX6_addKey_25 ?_
      refine lv_iconst (v := (nI 1)) hx hb dX6_addKey_28 (by decide) ?_
      refine lv_iadd hx hb dX6_addKey_29 ?_
      refine va_put (D := g.1) (ci := 5) (v := .int (c_size + (nI 1))) (ty := .int) (C := RX6) (T := TX6) (N := 5) hx hb hts iX6 tyX6 tyX6_ok nmX6 hown hK hP hD hS 0 rfl rfl 4 (by decide) f44 (fun _ h9 => h9) rfl (by decide +kernel) rfl rfl (Nat.le_of_ble_eq_true rfl) dX6_addKey_30 (fun H locs hP hD hS => ?_)
      have hP : va_P g.1 vwCl (cw_X6_addKey g h_this h_this_steps h_this_trail h_this_sums h_this_keys (c_size + (nI 1)) c_keys) H := hP
      have hD : va_D A (cw_X6_addKey g h_this h_this_steps h_this_trail h_this_sums h_this_keys (c_size + (nI 1)) c_keys) := hD
      refine lv_iconst (v := (nI 0)) hx hb dX6_addKey_33 (by decide) ?_
      refine lv_istore_n (lv' := [(3, .int (nI 0)), (2, .int c_size), (0, .ref h_this), (1, .int x1)]) hx hb dX6_addKey_34 rfl hl (by decide) rfl (fun ls hl => ?_)
      obtain ⟨n, h⟩ := h
      exact K_35 (c_size + (nI 1)) n c_size (nI 0) c_keys h _ _ hP hD hS _ (lv_sub hl [2, 3, 1, 0] rfl)
    · replace h := h.2 cq
      exact hret (c_size, c_keys) _ _ _ _ h hP hD hS dX6_addKey_17
abbrev cw_X6_reach (g : GG) (h_this : Nat) (h_this_steps : Nat) (h_this_trail : Nat) (h_this_sums : Nat) (h_this_keys : Nat) (c_size : Int32) (c_sums : Nat → Int32) (c_keys : Nat → Int32) : va_W := [(h_this, .inr (5, [.ref h_this_steps, .ref h_this_trail, .ref h_this_sums, .ref h_this_keys, .int c_size])), (h_this_sums, .inl (g.2.1, 4096, .inl c_sums)), (h_this_keys, .inl (g.2.1, 16385, .inl c_keys))]
def wp_X6_reach (c_size : Int32) (c_sums : Nat → Int32) (c_keys : Nat → Int32) (x1 : Int32) (x2 : Int32) (Q : Int32 → (Nat → Int32) → (Nat → Int32) → Prop) : Prop :=
    ((x1 ≤ (nI 0) → Q c_size c_sums c_keys) ∧ (¬ x1 ≤ (nI 0) → (((nI 4096) ≤ x1 → Q c_size c_sums c_keys) ∧ (¬ (nI 4096) ≤ x1 → vp_in x1 4096 ∧ wp_X6_addKey c_size c_keys ((x2 * (nI 4096)) + x1) (fun c_size c_keys => Q c_size (upd c_sums (Int32.toNatClampNeg x1) x2) c_keys)))))
abbrev rm_X6_reach : Room := { frames := 1, cells := 0, slots := 0, locals := 24 }
set_option maxHeartbeats 4000000 in
set_option maxRecDepth 100000 in
theorem k_X6_reach (l : Launch) (g : GG) (h_this : Nat) (h_this_steps : Nat) (h_this_trail : Nat) (h_this_sums : Nat) (h_this_keys : Nat) {c_size : Int32} {c_sums : Nat → Int32} {c_keys : Nat → Int32} {x1 : Int32} {x2 : Int32} {Q : Int32 → (Nat → Int32) → (Nat → Int32) → Prop} (h : wp_X6_reach c_size c_sums c_keys x1 x2 Q) : CV l g yX6_reach wsX6_reach rm_X6_reach [.ref h_this, .int x1, .int x2] (cw_X6_reach g h_this h_this_steps h_this_trail h_this_sums h_this_keys c_size c_sums c_keys) (S := Int32 × (Nat → Int32) × (Nat → Int32)) (fun u => (cw_X6_reach g h_this h_this_steps h_this_trail h_this_sums h_this_keys u.1 u.2.1 u.2.2)) (fun u => Q u.1 u.2.1 u.2.2) 0 0 := by
  refine mk_V (cc := cX6_reach) (maxL := 3) (own := RX6) (by decide) rfl rfl (Nat.le_of_ble_eq_true rfl) ?_
  intro p e s m args below meth c A QQ E hret hP hD hS ls hl
  have E2 := E
  obtain ⟨hx, hb, hr, hml, hown, hts, hlocks, hA, hZ, hK, hnm⟩ := E2
  have f9 := hts (.fieldLink RX6 9 "WordBench$PriceSearch" "sums" "[I") (by decide +kernel)
  have iX6 : ∀ w ∈ wsX60, w ∈ wsX6_reach := fun _ h => List.mem_cons_of_mem _ (List.mem_append_right _ h)
  have hP : va_P g.1 vwCl (cw_X6_reach g h_this h_this_steps h_this_trail h_this_sums h_this_keys c_size c_sums c_keys) s.heap := hP
  have hD : va_D A (cw_X6_reach g h_this h_this_steps h_this_trail h_this_sums h_this_keys c_size c_sums c_keys) := hD
  have hl : lv_has ls 3 [(0, .ref h_this), (1, .int x1), (2, .int x2)] := hl
  unfold wp_X6_reach at h
  refine lv_iload_n hx hb dX6_reach_0 rfl (lv_at hl 1 rfl) ?_
  refine lv_if_le (tgt := 29) hx hb dX6_reach_1 (by decide) (fun cq => ?_) (fun cq => ?_)
  · replace h := h.1 cq
    exact hret (c_size, c_sums, c_keys) _ _ _ _ h hP hD hS dX6_reach_29
  · replace h := h.2 cq
    refine lv_iload_n hx hb dX6_reach_4 rfl (lv_at hl 1 rfl) ?_
    refine lv_sipush (v := (nI 4096)) hx hb dX6_reach_5 (by decide) ?_
    refine lv_icmp_ge (tgt := 29) hx hb dX6_reach_8 (by decide) (fun cq => ?_) (fun cq => ?_)
    · replace h := h.1 cq
      exact hret (c_size, c_sums, c_keys) _ _ _ _ h hP hD hS dX6_reach_29
    · replace h := h.2 cq
      refine lv_aload_n hx hb dX6_reach_11 rfl (lv_at hl 0 rfl) ?_
      refine va_get (D := g.1) (ci := 5) (v := .ref h_this_sums) (C := RX6) (T := TX6) (N := 5) hx hb hts iX6 hown hK hP 0 rfl rfl 2 (by decide) f9 (fun _ h9 => h9) rfl dX6_reach_12 ?_
      refine lv_iload_n hx hb dX6_reach_15 rfl (lv_at hl 1 rfl) ?_
      refine lv_iload_n hx hb dX6_reach_16 rfl (lv_at hl 2 rfl) ?_
      obtain ⟨hi, h⟩ := h
      refine va_iast (D := g.1) (n := 4096) (f := c_sums) hx hb hK hP hD hS 1 0 rfl rfl hi dX6_reach_17 (fun H locs hP hD hS => ?_)
      have hP : va_P g.1 vwCl (cw_X6_reach g h_this h_this_steps h_this_trail h_this_sums h_this_keys c_size (upd c_sums (Int32.toNatClampNeg x1) x2) c_keys) H := hP
      have hD : va_D A (cw_X6_reach g h_this h_this_steps h_this_trail h_this_sums h_this_keys c_size (upd c_sums (Int32.toNatClampNeg x1) x2) c_keys) := hD
      refine lv_aload_n hx hb dX6_reach_18 rfl (lv_at hl 0 rfl) ?_
      refine lv_iload_n hx hb dX6_reach_19 rfl (lv_at hl 2 rfl) ?_
      refine lv_sipush (v := (nI 4096)) hx hb dX6_reach_20 (by decide) ?_
      refine lv_imul hx hb dX6_reach_23 ?_
      refine lv_iload_n hx hb dX6_reach_24 rfl (lv_at hl 1 rfl) ?_
      refine lv_iadd hx hb dX6_reach_25 ?_
      refine go_V E (run_V E ((k_X6_addKey l g h_this h_this_steps h_this_trail h_this_sums h_this_keys h) _) (cwV 1 hts gX6_reach_X6_addKey rfl rfl rfl (by decide +kernel) ⟨Nat.le_of_ble_eq_true rfl, Nat.le_of_ble_eq_true rfl⟩) hP hD hS [0, 2] rfl rfl 0 5 rfl rfl rfl hl rfl rfl (Nat.le_of_ble_eq_true rfl) dX6_reach_26 ⟨Nat.le_of_ble_eq_true rfl, Nat.le_of_ble_eq_true rfl⟩) hP hD hS [0, 2] rfl [(false, 0), (true, 1), (false, 1)] rfl (by decide) (fun u => (cw_X6_reach g h_this h_this_steps h_this_trail h_this_sums h_this_keys u.1 (upd c_sums (Int32.toNatClampNeg x1) x2) u.2)) (fun _ => rfl) (fun u H locs h hP hD hS => ?_)
      obtain ⟨c_size, c_keys⟩ := u
      try dsimp only at h
      have hP : va_P g.1 vwCl (cw_X6_reach g h_this h_this_steps h_this_trail h_this_sums h_this_keys c_size (upd c_sums (Int32.toNatClampNeg x1) x2) c_keys) H := hP
      have hD : va_D A (cw_X6_reach g h_this h_this_steps h_this_trail h_this_sums h_this_keys c_size (upd c_sums (Int32.toNatClampNeg x1) x2) c_keys) := hD
      exact hret (c_size, (upd c_sums (Int32.toNatClampNeg x1) x2), c_keys) _ _ _ _ h hP hD hS dX6_reach_29
abbrev cw_X6_sink (g : GG) (h_this : Nat) (h_this_steps : Nat) (h_this_trail : Nat) (h_this_sums : Nat) (h_this_keys : Nat) (c_size : Int32) (c_keys : Nat → Int32) : va_W := [(h_this, .inr (5, [.ref h_this_steps, .ref h_this_trail, .ref h_this_sums, .ref h_this_keys, .int c_size])), (h_this_keys, .inl (g.2.1, 16385, .inl c_keys))]
def J_X6_sink_94 (x1 : Int32) (Q : (Nat → Int32) → Prop) (x2 : Int32) (c_keys : Nat → Int32) : Prop :=
    vp_in x2 16385 ∧ Q (upd c_keys (Int32.toNatClampNeg x2) x1)
def J_X6_sink_68 (x1 : Int32) (Q : (Nat → Int32) → Prop) (x2 : Int32) (c_keys : Nat → Int32) : Prop :=
    J_X6_sink_94 x1 Q x2 c_keys
def J_X6_sink_58 (x1 : Int32) (R_4 : Int32 → Int32 → (Nat → Int32) → Prop) (Q : (Nat → Int32) → Prop) (x2 : Int32) (x3 : Int32) (c_keys : Nat → Int32) : Prop :=
    vp_in x3 16385 ∧ (((c_keys (Int32.toNatClampNeg x3)) < x1 → vp_in x3 16385 ∧ vp_in x2 16385 ∧ R_4 x3 (((nI 2) * x3) + (nI 1)) (upd c_keys (Int32.toNatClampNeg x2) (c_keys (Int32.toNatClampNeg x3)))) ∧ (¬ (c_keys (Int32.toNatClampNeg x3)) < x1 → J_X6_sink_68 x1 Q x2 c_keys))
def L_X6_sink_4 (c_size : Int32) (x1 : Int32) (Q : (Nat → Int32) → Prop) : Nat → Int32 → Int32 → (Nat → Int32) → Prop
  | 0, _, _, _ => False
  | n_4 + 1, x2, x3, c_keys =>
    ((c_size ≤ x3 → J_X6_sink_94 x1 Q x2 c_keys) ∧ (¬ c_size ≤ x3 → (((nI 16385) ≤ x3 → J_X6_sink_94 x1 Q x2 c_keys) ∧ (¬ (nI 16385) ≤ x3 → ((c_size ≤ (x3 + (nI 1)) → J_X6_sink_58 x1 (L_X6_sink_4 c_size x1 Q n_4) Q x2 x3 c_keys) ∧ (¬ c_size ≤ (x3 + (nI 1)) → (((nI 16385) ≤ (x3 + (nI 1)) → J_X6_sink_58 x1 (L_X6_sink_4 c_size x1 Q n_4) Q x2 x3 c_keys) ∧ (¬ (nI 16385) ≤ (x3 + (nI 1)) → vp_in (x3 + (nI 1)) 16385 ∧ vp_in x3 16385 ∧ (((c_keys (Int32.toNatClampNeg x3)) ≤ (c_keys (Int32.toNatClampNeg (x3 + (nI 1)))) → J_X6_sink_58 x1 (L_X6_sink_4 c_size x1 Q n_4) Q x2 x3 c_keys) ∧ (¬ (c_keys (Int32.toNatClampNeg x3)) ≤ (c_keys (Int32.toNatClampNeg (x3 + (nI 1)))) → J_X6_sink_58 x1 (L_X6_sink_4 c_size x1 Q n_4) Q x2 (x3 + (nI 1)) c_keys))))))))))
def wp_X6_sink (c_size : Int32) (c_keys : Nat → Int32) (x1 : Int32) (Q : (Nat → Int32) → Prop) : Prop :=
    ∃ n, L_X6_sink_4 c_size x1 Q n (nI 0) (nI 1) c_keys
abbrev rm_X6_sink : Room := { frames := 0, cells := 0, slots := 0, locals := 0 }
set_option maxHeartbeats 4000000 in
set_option maxRecDepth 100000 in
theorem k_X6_sink (l : Launch) (g : GG) (h_this : Nat) (h_this_steps : Nat) (h_this_trail : Nat) (h_this_sums : Nat) (h_this_keys : Nat) {c_size : Int32} {c_keys : Nat → Int32} {x1 : Int32} {Q : (Nat → Int32) → Prop} (h : wp_X6_sink c_size c_keys x1 Q) : CV l g yX6_sink wsX6_sink rm_X6_sink [.ref h_this, .int x1] (cw_X6_sink g h_this h_this_steps h_this_trail h_this_sums h_this_keys c_size c_keys) (S := (Nat → Int32)) (fun u => (cw_X6_sink g h_this h_this_steps h_this_trail h_this_sums h_this_keys c_size u)) (fun u => Q u) 0 0 := by
  refine mk_V (cc := cX6_sink) (maxL := 4) (own := RX6) (by decide) rfl rfl (Nat.le_of_ble_eq_true rfl) ?_
  intro p e s m args below meth c A QQ E hret hP hD hS ls hl
  have E2 := E
  obtain ⟨hx, hb, hr, hml, hown, hts, hlocks, hA, hZ, hK, hnm⟩ := E2
  have f44 := hts (.fieldLink RX6 44 "WordBench$PriceSearch" "size" "I") (by decide +kernel)
  have f15 := hts (.fieldLink RX6 15 "WordBench$PriceSearch" "keys" "[I") (by decide +kernel)
  have iX6 : ∀ w ∈ wsX60, w ∈ wsX6_sink := fun _ h => List.mem_cons_of_mem _ (List.mem_append_right _ h)
  have hP : va_P g.1 vwCl (cw_X6_sink g h_this h_this_steps h_this_trail h_this_sums h_this_keys c_size c_keys) s.heap := hP
  have hD : va_D A (cw_X6_sink g h_this h_this_steps h_this_trail h_this_sums h_this_keys c_size c_keys) := hD
  have hl : lv_has ls 4 [(0, .ref h_this), (1, .int x1)] := hl
  unfold wp_X6_sink at h
  have K_94 : ∀ (x2 : Int32) (c_keys : Nat → Int32) , J_X6_sink_94 x1 Q x2 c_keys → ∀ (H : Heap) (locs : List Loc), va_P g.1 vwCl (cw_X6_sink g h_this h_this_steps h_this_trail h_this_sums h_this_keys c_size c_keys) H → va_D A (cw_X6_sink g h_this h_this_steps h_this_trail h_this_sums h_this_keys c_size c_keys) → va_S A s.heap H locs → ∀ ls : Array Slot, lv_has ls 4 [(0, .ref h_this), (1, .int x1), (2, .int x2)] → W p l e rm_X6_sink s m args below meth c H locs 0 0 QQ (F0 m 94 ls []) := by
    intro x2 c_keys h H locs hP hD hS ls hl
    unfold J_X6_sink_94 at h
    refine lv_aload_n hx hb dX6_sink_94 rfl (lv_at hl 0 rfl) ?_
    refine va_get (D := g.1) (ci := 5) (v := .ref h_this_keys) (C := RX6) (T := TX6) (N := 5) hx hb hts iX6 hown hK hP 0 rfl rfl 3 (by decide) f15 (fun _ h9 => h9) rfl dX6_sink_95 ?_
    refine lv_iload_n hx hb dX6_sink_98 rfl (lv_at hl 2 rfl) ?_
    refine lv_iload_n hx hb dX6_sink_99 rfl (lv_at hl 1 rfl) ?_
    obtain ⟨hi, h⟩ := h
    refine va_iast (D := g.1) (n := 16385) (f := c_keys) hx hb hK hP hD hS 1 0 rfl rfl hi dX6_sink_100 (fun H locs hP hD hS => ?_)
    have hP : va_P g.1 vwCl (cw_X6_sink g h_this h_this_steps h_this_trail h_this_sums h_this_keys c_size (upd c_keys (Int32.toNatClampNeg x2) x1)) H := hP
    have hD : va_D A (cw_X6_sink g h_this h_this_steps h_this_trail h_this_sums h_this_keys c_size (upd c_keys (Int32.toNatClampNeg x2) x1)) := hD
    exact hret (upd c_keys (Int32.toNatClampNeg x2) x1) _ _ _ _ h hP hD hS dX6_sink_101
  have K_68 : ∀ (x2 : Int32) (c_keys : Nat → Int32) , J_X6_sink_68 x1 Q x2 c_keys → ∀ (H : Heap) (locs : List Loc), va_P g.1 vwCl (cw_X6_sink g h_this h_this_steps h_this_trail h_this_sums h_this_keys c_size c_keys) H → va_D A (cw_X6_sink g h_this h_this_steps h_this_trail h_this_sums h_this_keys c_size c_keys) → va_S A s.heap H locs → ∀ ls : Array Slot, lv_has ls 4 [(0, .ref h_this), (1, .int x1), (2, .int x2)] → W p l e rm_X6_sink s m args below meth c H locs 0 0 QQ (F0 m 68 ls []) := by
    intro x2 c_keys h H locs hP hD hS ls hl
    unfold J_X6_sink_68 at h
    refine lv_goto (tgt := 94) hx hb dX6_sink_68 (by decide) ?_
    exact K_94 x2 c_keys h _ _ hP hD hS _ (lv_sub hl [0, 1, 2] rfl)
  have K_4 : ∀ (n_4 : Nat) (x2 : Int32) (x3 : Int32) (c_keys : Nat → Int32) , L_X6_sink_4 c_size x1 Q n_4 x2 x3 c_keys → ∀ (H : Heap) (locs : List Loc), va_P g.1 vwCl (cw_X6_sink g h_this h_this_steps h_this_trail h_this_sums h_this_keys c_size c_keys) H → va_D A (cw_X6_sink g h_this h_this_steps h_this_trail h_this_sums h_this_keys c_size c_keys) → va_S A s.heap H locs → ∀ ls : Array Slot, lv_has ls 4 [(0, .ref h_this), (1, .int x1), (2, .int x2), (3, .int x3)] → W p l e rm_X6_sink s m args below meth c H locs 0 0 QQ (F0 m 4 ls []) := by
    intro n_4
    induction n_4 with
    | zero => intro x2 x3 c_keys; exact fun h => False.elim h
    | succ n_4 ih_4 =>
      intro x2 x3 c_keys h H locs hP hD hS ls hl
      unfold L_X6_sink_4 at h
      have K_58 : ∀ (x2 : Int32) (x3 : Int32) (c_keys : Nat → Int32) , J_X6_sink_58 x1 (L_X6_sink_4 c_size x1 Q n_4) Q x2 x3 c_keys → ∀ (H : Heap) (locs : List Loc), va_P g.1 vwCl (cw_X6_sink g h_this h_this_steps h_this_trail h_this_sums h_this_keys c_size c_keys) H → va_D A (cw_X6_sink g h_this h_this_steps h_this_trail h_this_sums h_this_keys c_size c_keys) → va_S A s.heap H locs → ∀ ls : Array Slot, lv_has ls 4 [(0, .ref h_this), (1, .int x1), (2, .int x2), (3, .int x3)] → W p l e rm_X6_sink s m args below meth c H locs 0 0 QQ (F0 m 58 ls []) := by
        intro x2 x3 c_keys h H locs hP hD hS ls hl
        unfold J_X6_sink_58 at h
        refine lv_aload_n hx hb dX6_sink_58 rfl (lv_at hl 0 rfl) ?_
        refine va_get (D := g.1) (ci := 5) (v := .ref h_this_keys) (C := RX6) (T := TX6) (N := 5) hx hb hts iX6 hown hK hP 0 rfl rfl 3 (by decide) f15 (fun _ h9 => h9) rfl dX6_sink_59 ?_
        refine lv_iload_n hx hb dX6_sink_62 rfl (lv_at hl 3 rfl) ?_
        obtain ⟨hi, h⟩ := h
        refine va_iald (D := g.1) (n := 16385) (f := c_keys) hx hb hK hP 1 0 rfl rfl hi dX6_sink_63 ?_
        refine lv_iload_n hx hb dX6_sink_64 rfl (lv_at hl 1 rfl) ?_
        refine lv_icmp_lt (tgt := 71) hx hb dX6_sink_65 (by decide) (fun cq => ?_) (fun cq => ?_)
        · replace h := h.1 cq
          refine lv_aload_n hx hb dX6_sink_71 rfl (lv_at hl 0 rfl) ?_
          refine va_get (D := g.1) (ci := 5) (v := .ref h_this_keys) (C := RX6) (T := TX6) (N := 5) hx hb hts iX6 hown hK hP 0 rfl rfl 3 (by decide) f15 (fun _ h9 => h9) rfl dX6_sink_72 ?_
          refine lv_iload_n hx hb dX6_sink_75 rfl (lv_at hl 2 rfl) ?_
          refine lv_aload_n hx hb dX6_sink_76 rfl (lv_at hl 0 rfl) ?_
          refine va_get (D := g.1) (ci := 5) (v := .ref h_this_keys) (C := RX6) (T := TX6) (N := 5) hx hb hts iX6 hown hK hP 0 rfl rfl 3 (by decide) f15 (fun _ h9 => h9) rfl dX6_sink_77 ?_
          refine lv_iload_n hx hb dX6_sink_80 rfl (lv_at hl 3 rfl) ?_
          obtain ⟨hi, h⟩ := h
          refine va_iald (D := g.1) (n := 16385) (f := c_keys) hx hb hK hP 1 0 rfl rfl hi dX6_sink_81 ?_
          obtain ⟨hi, h⟩ := h
          refine va_iast (D := g.1) (n := 16385) (f := c_keys) hx hb hK hP hD hS 1 0 rfl rfl hi dX6_sink_82 (fun H locs hP hD hS => ?_)
          have hP : va_P g.1 vwCl (cw_X6_sink g h_this h_this_steps h_this_trail h_this_sums h_this_keys c_size (upd c_keys (Int32.toNatClampNeg x2) (c_keys (Int32.toNatClampNeg x3)))) H := hP
          have hD : va_D A (cw_X6_sink g h_this h_this_steps h_this_trail h_this_sums h_this_keys c_size (upd c_keys (Int32.toNatClampNeg x2) (c_keys (Int32.toNatClampNeg x3)))) := hD
          refine lv_iload_n hx hb dX6_sink_83 rfl (lv_at hl 3 rfl) ?_
          refine lv_istore_n (lv' := [(2, .int x3), (0, .ref h_this), (1, .int x1), (3, .int x3)]) hx hb dX6_sink_84 rfl hl (by decide) rfl (fun ls hl => ?_)
          refine lv_iconst (v := (nI 2)) hx hb dX6_sink_85 (by decide) ?_
          refine lv_iload_n hx hb dX6_sink_86 rfl (lv_at hl 0 rfl) ?_
          refine lv_imul hx hb dX6_sink_87 ?_
          refine lv_iconst (v := (nI 1)) hx hb dX6_sink_88 (by decide) ?_
          refine lv_iadd hx hb dX6_sink_89 ?_
          refine lv_istore_n (lv' := [(3, .int (((nI 2) * x3) + (nI 1))), (2, .int x3), (0, .ref h_this), (1, .int x1)]) hx hb dX6_sink_90 rfl hl (by decide) rfl (fun ls hl => ?_)
          refine lv_goto (tgt := 4) hx hb dX6_sink_91 (by decide) ?_
          exact ih_4 x3 (((nI 2) * x3) + (nI 1)) (upd c_keys (Int32.toNatClampNeg x2) (c_keys (Int32.toNatClampNeg x3))) h _ _ hP hD hS _ (lv_sub hl [2, 3, 1, 0] rfl)
        · replace h := h.2 cq
          exact K_68 x2 c_keys h _ _ hP hD hS _ (lv_sub hl [0, 1, 2] rfl)
      refine lv_iload_n hx hb dX6_sink_4 rfl (lv_at hl 3 rfl) ?_
      refine lv_aload_n hx hb dX6_sink_5 rfl (lv_at hl 0 rfl) ?_
      refine va_get (D := g.1) (ci := 5) (v := .int c_size) (C := RX6) (T := TX6) (N := 5) hx hb hts iX6 hown hK hP 0 rfl rfl 4 (by decide) f44 (fun _ h9 => h9) rfl dX6_sink_6 ?_
      refine lv_icmp_ge (tgt := 94) hx hb dX6_sink_9 (by decide) (fun cq => ?_) (fun cq => ?_)
      · replace h := h.1 cq
        exact K_94 x2 c_keys h _ _ hP hD hS _ (lv_sub hl [0, 1, 2] rfl)
      · replace h := h.2 cq
        refine lv_iload_n hx hb dX6_sink_12 rfl (lv_at hl 3 rfl) ?_
        refine lv_sipush (v := (nI 16385)) hx hb dX6_sink_13 (by decide) ?_
        refine lv_icmp_ge (tgt := 94) hx hb dX6_sink_16 (by decide) (fun cq => ?_) (fun cq => ?_)
        · replace h := h.1 cq
          exact K_94 x2 c_keys h _ _ hP hD hS _ (lv_sub hl [0, 1, 2] rfl)
        · replace h := h.2 cq
          refine lv_iload_n hx hb dX6_sink_19 rfl (lv_at hl 3 rfl) ?_
          refine lv_iconst (v := (nI 1)) hx hb dX6_sink_20 (by decide) ?_
          refine lv_iadd hx hb dX6_sink_21 ?_
          refine lv_aload_n hx hb dX6_sink_22 rfl (lv_at hl 0 rfl) ?_
          refine va_get (D := g.1) (ci := 5) (v := .int c_size) (C := RX6) (T := TX6) (N := 5) hx hb hts iX6 hown hK hP 0 rfl rfl 4 (by decide) f44 (fun _ h9 => h9) rfl dX6_sink_23 ?_
          refine lv_icmp_ge (tgt := 58) hx hb dX6_sink_26 (by decide) (fun cq => ?_) (fun cq => ?_)
          · replace h := h.1 cq
            exact K_58 x2 x3 c_keys h _ _ hP hD hS _ (lv_sub hl [0, 1, 2, 3] rfl)
          · replace h := h.2 cq
            refine lv_iload_n hx hb dX6_sink_29 rfl (lv_at hl 3 rfl) ?_
            refine lv_iconst (v := (nI 1)) hx hb dX6_sink_30 (by decide) ?_
            refine lv_iadd hx hb dX6_sink_31 ?_
            refine lv_sipush (v := (nI 16385)) hx hb dX6_sink_32 (by decide) ?_
            refine lv_icmp_ge (tgt := 58) hx hb dX6_sink_35 (by decide) (fun cq => ?_) (fun cq => ?_)
            · replace h := h.1 cq
              exact K_58 x2 x3 c_keys h _ _ hP hD hS _ (lv_sub hl [0, 1, 2, 3] rfl)
            · replace h := h.2 cq
              refine lv_aload_n hx hb dX6_sink_38 rfl (lv_at hl 0 rfl) ?_
              refine va_get (D := g.1) (ci := 5) (v := .ref h_this_keys) (C := RX6) (T := TX6) (N := 5) hx hb hts iX6 hown hK hP 0 rfl rfl 3 (by decide) f15 (fun _ h9 => h9) rfl dX6_sink_39 ?_
              refine lv_iload_n hx hb dX6_sink_42 rfl (lv_at hl 3 rfl) ?_
              refine lv_iconst (v := (nI 1)) hx hb dX6_sink_43 (by decide) ?_
              refine lv_iadd hx hb dX6_sink_44 ?_
              obtain ⟨hi, h⟩ := h
              refine va_iald (D := g.1) (n := 16385) (f := c_keys) hx hb hK hP 1 0 rfl rfl hi dX6_sink_45 ?_
              refine lv_aload_n hx hb dX6_sink_46 rfl (lv_at hl 0 rfl) ?_
              refine va_get (D := g.1) (ci := 5) (v := .ref h_this_keys) (C := RX6) (T := TX6) (N := 5) hx hb hts iX6 hown hK hP 0 rfl rfl 3 (by decide) f15 (fun _ h9 => h9) rfl dX6_sink_47 ?_
              refine lv_iload_n hx hb dX6_sink_50 rfl (lv_at hl 3 rfl) ?_
              obtain ⟨hi, h⟩ := h
              refine va_iald (D := g.1) (n := 16385) (f := c_keys) hx hb hK hP 1 0 rfl rfl hi dX6_sink_51 ?_
              refine lv_icmp_ge (tgt := 58) hx hb dX6_sink_52 (by decide) (fun cq => ?_) (fun cq => ?_)
              · replace h := h.1 cq
                exact K_58 x2 x3 c_keys h _ _ hP hD hS _ (lv_sub hl [0, 1, 2, 3] rfl)
              · replace h := h.2 cq
                refine lv_iinc (v := (x3 + (nI 1))) (lv' := [(3, .int (x3 + (nI 1))), (0, .ref h_this), (1, .int x1), (2, .int x2)]) hx hb dX6_sink_55 hl (k := 3) rfl rfl (by decide) rfl (fun ls hl => ?_)
                exact K_58 x2 (x3 + (nI 1)) c_keys h _ _ hP hD hS _ (lv_sub hl [1, 2, 3, 0] rfl)
  refine lv_iconst (v := (nI 0)) hx hb dX6_sink_0 (by decide) ?_
  refine lv_istore_n (lv' := [(2, .int (nI 0)), (0, .ref h_this), (1, .int x1)]) hx hb dX6_sink_1 rfl hl (by decide) rfl (fun ls hl => ?_)
  refine lv_iconst (v := (nI 1)) hx hb dX6_sink_2 (by decide) ?_
  refine lv_istore_n (lv' := [(3, .int (nI 1)), (2, .int (nI 0)), (0, .ref h_this), (1, .int x1)]) hx hb dX6_sink_3 rfl hl (by decide) rfl (fun ls hl => ?_)
  obtain ⟨n, h⟩ := h
  exact K_4 n (nI 0) (nI 1) c_keys h _ _ hP hD hS _ (lv_sub hl [2, 3, 1, 0] rfl)
abbrev cw_X6_takeKey (g : GG) (h_this : Nat) (h_this_steps : Nat) (h_this_trail : Nat) (h_this_sums : Nat) (h_this_keys : Nat) (c_size : Int32) (c_keys : Nat → Int32) : va_W := [(h_this, .inr (5, [.ref h_this_steps, .ref h_this_trail, .ref h_this_sums, .ref h_this_keys, .int c_size])), (h_this_keys, .inl (g.2.1, 16385, .inl c_keys))]
def wp_X6_takeKey (c_size : Int32) (c_keys : Nat → Int32) (Q : Int32 → Int32 → (Nat → Int32) → Prop) : Prop :=
    ((c_size ≤ (nI 0) → Q (nI 0) c_size c_keys) ∧ (¬ c_size ≤ (nI 0) → ((c_size ≤ (nI 16385) → vp_in (nI 0) 16385 ∧ vp_in (c_size - (nI 1)) 16385 ∧ wp_X6_sink (c_size - (nI 1)) c_keys (c_keys (Int32.toNatClampNeg (c_size - (nI 1)))) (fun c_keys_1 => Q (c_keys (Int32.toNatClampNeg (nI 0))) (c_size - (nI 1)) c_keys_1)) ∧ (¬ c_size ≤ (nI 16385) → Q (nI 0) c_size c_keys))))
abbrev rm_X6_takeKey : Room := { frames := 1, cells := 0, slots := 0, locals := 23 }
set_option maxHeartbeats 4000000 in
set_option maxRecDepth 100000 in
theorem k_X6_takeKey (l : Launch) (g : GG) (h_this : Nat) (h_this_steps : Nat) (h_this_trail : Nat) (h_this_sums : Nat) (h_this_keys : Nat) {c_size : Int32} {c_keys : Nat → Int32} {Q : Int32 → Int32 → (Nat → Int32) → Prop} (h : wp_X6_takeKey c_size c_keys Q) : CI l g yX6_takeKey wsX6_takeKey rm_X6_takeKey [.ref h_this] (cw_X6_takeKey g h_this h_this_steps h_this_trail h_this_sums h_this_keys c_size c_keys) (S := Int32 × (Nat → Int32)) (fun u => (cw_X6_takeKey g h_this h_this_steps h_this_trail h_this_sums h_this_keys u.1 u.2)) (fun r u => Q r u.1 u.2) 0 0 := by
  refine mk_I (cc := cX6_takeKey) (maxL := 2) (own := RX6) (by decide) rfl rfl (Nat.le_of_ble_eq_true rfl) ?_
  intro p e s m args below meth c A QQ E hret hP hD hS ls hl
  have E2 := E
  obtain ⟨hx, hb, hr, hml, hown, hts, hlocks, hA, hZ, hK, hnm⟩ := E2
  have f44 := hts (.fieldLink RX6 44 "WordBench$PriceSearch" "size" "I") (by decide +kernel)
  have f15 := hts (.fieldLink RX6 15 "WordBench$PriceSearch" "keys" "[I") (by decide +kernel)
  have iX6 : ∀ w ∈ wsX60, w ∈ wsX6_takeKey := fun _ h => List.mem_cons_of_mem _ (List.mem_append_right _ h)
  have hP : va_P g.1 vwCl (cw_X6_takeKey g h_this h_this_steps h_this_trail h_this_sums h_this_keys c_size c_keys) s.heap := hP
  have hD : va_D A (cw_X6_takeKey g h_this h_this_steps h_this_trail h_this_sums h_this_keys c_size c_keys) := hD
  have hl : lv_has ls 2 [(0, .ref h_this)] := hl
  unfold wp_X6_takeKey at h
  refine lv_aload_n hx hb dX6_takeKey_0 rfl (lv_at hl 0 rfl) ?_
  refine va_get (D := g.1) (ci := 5) (v := .int c_size) (C := RX6) (T := TX6) (N := 5) hx hb hts iX6 hown hK hP 0 rfl rfl 4 (by decide) f44 (fun _ h9 => h9) rfl dX6_takeKey_1 ?_
  refine lv_if_le (tgt := 17) hx hb dX6_takeKey_4 (by decide) (fun cq => ?_) (fun cq => ?_)
  · replace h := h.1 cq
    refine lv_iconst (v := (nI 0)) hx hb dX6_takeKey_17 (by decide) ?_
    exact hret (nI 0) (c_size, c_keys) _ _ _ _ rfl h hP hD hS dX6_takeKey_18
  · replace h := h.2 cq
    refine lv_aload_n hx hb dX6_takeKey_7 rfl (lv_at hl 0 rfl) ?_
    refine va_get (D := g.1) (ci := 5) (v := .int c_size) (C := RX6) (T := TX6) (N := 5) hx hb hts iX6 hown hK hP 0 rfl rfl 4 (by decide) f44 (fun _ h9 => h9) rfl dX6_takeKey_8 ?_
    refine lv_sipush (v := (nI 16385)) hx hb dX6_takeKey_11 (by decide) ?_
    refine lv_icmp_le (tgt := 19) hx hb dX6_takeKey_14 (by decide) (fun cq => ?_) (fun cq => ?_)
    · replace h := h.1 cq
      refine lv_aload_n hx hb dX6_takeKey_19 rfl (lv_at hl 0 rfl) ?_
      refine va_get (D := g.1) (ci := 5) (v := .ref h_this_keys) (C := RX6) (T := TX6) (N := 5) hx hb hts iX6 hown hK hP 0 rfl rfl 3 (by decide) f15 (fun _ h9 => h9) rfl dX6_takeKey_20 ?_
      refine lv_iconst (v := (nI 0)) hx hb dX6_takeKey_23 (by decide) ?_
      obtain ⟨hi, h⟩ := h
      refine va_iald (D := g.1) (n := 16385) (f := c_keys) hx hb hK hP 1 0 rfl rfl hi dX6_takeKey_24 ?_
      refine lv_istore_n (lv' := [(1, .int (c_keys (Int32.toNatClampNeg (nI 0)))), (0, .ref h_this)]) hx hb dX6_takeKey_25 rfl hl (by decide) rfl (fun ls hl => ?_)
      refine lv_aload_n hx hb dX6_takeKey_26 rfl (lv_at hl 1 rfl) ?_
      refine lv_dup hx hb dX6_takeKey_27 rfl ?_
      refine va_get (D := g.1) (ci := 5) (v := .int c_size) (C := RX6) (T := TX6) (N := 5) hx hb hts iX6 hown hK hP 0 rfl rfl 4 (by decide) f44 (fun _ h9 => h9) rfl dX6_takeKey_28 ?_
      refine lv_iconst (v := (nI 1)) hx hb dX6_takeKey_31 (by decide) ?_
      refine lv_isub hx hb dX6_takeKey_32 ?_
      refine va_put (D := g.1) (ci := 5) (v := .int (c_size - (nI 1))) (ty := .int) (C := RX6) (T := TX6) (N := 5) hx hb hts iX6 tyX6 tyX6_ok nmX6 hown hK hP hD hS 0 rfl rfl 4 (by decide) f44 (fun _ h9 => h9) rfl (by decide +kernel) rfl rfl (Nat.le_of_ble_eq_true rfl) dX6_takeKey_33 (fun H locs hP hD hS => ?_)
      have hP : va_P g.1 vwCl (cw_X6_takeKey g h_this h_this_steps h_this_trail h_this_sums h_this_keys (c_size - (nI 1)) c_keys) H := hP
      have hD : va_D A (cw_X6_takeKey g h_this h_this_steps h_this_trail h_this_sums h_this_keys (c_size - (nI 1)) c_keys) := hD
      refine lv_aload_n hx hb dX6_takeKey_36 rfl (lv_at hl 1 rfl) ?_
      refine lv_aload_n hx hb dX6_takeKey_37 rfl (lv_at hl 1 rfl) ?_
      refine va_get (D := g.1) (ci := 5) (v := .ref h_this_keys) (C := RX6) (T := TX6) (N := 5) hx hb hts iX6 hown hK hP 0 rfl rfl 3 (by decide) f15 (fun _ h9 => h9) rfl dX6_takeKey_38 ?_
      refine lv_aload_n hx hb dX6_takeKey_41 rfl (lv_at hl 1 rfl) ?_
      refine va_get (D := g.1) (ci := 5) (v := .int (c_size - (nI 1))) (C := RX6) (T := TX6) (N := 5) hx hb hts iX6 hown hK hP 0 rfl rfl 4 (by decide) f44 (fun _ h9 => h9) rfl dX6_takeKey_42 ?_
      obtain ⟨hi, h⟩ := h
      refine va_iald (D := g.1) (n := 16385) (f := c_keys) hx hb hK hP 1 0 rfl rfl hi dX6_takeKey_45 ?_
      refine go_V E (run_V E ((k_X6_sink l g h_this h_this_steps h_this_trail h_this_sums h_this_keys h) _) (cwV 1 hts gX6_takeKey_X6_sink rfl rfl rfl (by decide +kernel) ⟨Nat.le_of_ble_eq_true rfl, Nat.le_of_ble_eq_true rfl⟩) hP hD hS [0, 1] rfl rfl 0 5 rfl rfl rfl hl rfl rfl (Nat.le_of_ble_eq_true rfl) dX6_takeKey_46 ⟨Nat.le_of_ble_eq_true rfl, Nat.le_of_ble_eq_true rfl⟩) hP hD hS [0, 1] rfl [(false, 0), (false, 1)] rfl (by decide) (fun u => (cw_X6_takeKey g h_this h_this_steps h_this_trail h_this_sums h_this_keys (c_size - (nI 1)) u)) (fun _ => rfl) (fun c_keys_1 H locs h hP hD hS => ?_)
      try dsimp only at h
      have hP : va_P g.1 vwCl (cw_X6_takeKey g h_this h_this_steps h_this_trail h_this_sums h_this_keys (c_size - (nI 1)) c_keys_1) H := hP
      have hD : va_D A (cw_X6_takeKey g h_this h_this_steps h_this_trail h_this_sums h_this_keys (c_size - (nI 1)) c_keys_1) := hD
      refine lv_iload_n hx hb dX6_takeKey_49 rfl (lv_at hl 0 rfl) ?_
      exact hret (c_keys (Int32.toNatClampNeg (nI 0))) ((c_size - (nI 1)), c_keys_1) _ _ _ _ rfl h hP hD hS dX6_takeKey_50
    · replace h := h.2 cq
      refine lv_iconst (v := (nI 0)) hx hb dX6_takeKey_17 (by decide) ?_
      exact hret (nI 0) (c_size, c_keys) _ _ _ _ rfl h hP hD hS dX6_takeKey_18
abbrev cw_X6_sumOf (g : GG) (h_this : Nat) (h_this_steps : Nat) (h_this_trail : Nat) (h_this_sums : Nat) (h_this_keys : Nat) (c_size : Int32) (c_sums : Nat → Int32) : va_W := [(h_this, .inr (5, [.ref h_this_steps, .ref h_this_trail, .ref h_this_sums, .ref h_this_keys, .int c_size])), (h_this_sums, .inl (g.2.1, 4096, .inl c_sums))]
def wp_X6_sumOf (c_size : Int32) (c_sums : Nat → Int32) (x1 : Int32) (Q : Int32 → Prop) : Prop :=
    ((x1 ≤ (nI 0) → Q (-1)) ∧ (¬ x1 ≤ (nI 0) → (((nI 4096) ≤ x1 → Q (-1)) ∧ (¬ (nI 4096) ≤ x1 → vp_in x1 4096 ∧ Q (c_sums (Int32.toNatClampNeg x1))))))
abbrev rm_X6_sumOf : Room := { frames := 0, cells := 0, slots := 0, locals := 0 }
set_option maxHeartbeats 4000000 in
set_option maxRecDepth 100000 in
theorem k_X6_sumOf (l : Launch) (g : GG) (h_this : Nat) (h_this_steps : Nat) (h_this_trail : Nat) (h_this_sums : Nat) (h_this_keys : Nat) {c_size : Int32} {c_sums : Nat → Int32} {x1 : Int32} {Q : Int32 → Prop} (h : wp_X6_sumOf c_size c_sums x1 Q) : CI l g yX6_sumOf wsX6_sumOf rm_X6_sumOf [.ref h_this, .int x1] (cw_X6_sumOf g h_this h_this_steps h_this_trail h_this_sums h_this_keys c_size c_sums) (S := Unit) (fun _ => (cw_X6_sumOf g h_this h_this_steps h_this_trail h_this_sums h_this_keys c_size c_sums)) (fun r _ => Q r) 0 0 := by
  refine mk_I (cc := cX6_sumOf) (maxL := 2) (own := RX6) (by decide) rfl rfl (Nat.le_of_ble_eq_true rfl) ?_
  intro p e s m args below meth c A QQ E hret hP hD hS ls hl
  have E2 := E
  obtain ⟨hx, hb, hr, hml, hown, hts, hlocks, hA, hZ, hK, hnm⟩ := E2
  have f9 := hts (.fieldLink RX6 9 "WordBench$PriceSearch" "sums" "[I") (by decide +kernel)
  have iX6 : ∀ w ∈ wsX60, w ∈ wsX6_sumOf := fun _ h => List.mem_cons_of_mem _ (List.mem_append_right _ h)
  have hP : va_P g.1 vwCl (cw_X6_sumOf g h_this h_this_steps h_this_trail h_this_sums h_this_keys c_size c_sums) s.heap := hP
  have hD : va_D A (cw_X6_sumOf g h_this h_this_steps h_this_trail h_this_sums h_this_keys c_size c_sums) := hD
  have hl : lv_has ls 2 [(0, .ref h_this), (1, .int x1)] := hl
  unfold wp_X6_sumOf at h
  refine lv_iload_n hx hb dX6_sumOf_0 rfl (lv_at hl 1 rfl) ?_
  refine lv_if_le (tgt := 20) hx hb dX6_sumOf_1 (by decide) (fun cq => ?_) (fun cq => ?_)
  · replace h := h.1 cq
    refine lv_iconst (v := (-1)) hx hb dX6_sumOf_20 (by decide) ?_
    exact hret (-1) () _ _ _ _ rfl h hP hD hS dX6_sumOf_21
  · replace h := h.2 cq
    refine lv_iload_n hx hb dX6_sumOf_4 rfl (lv_at hl 1 rfl) ?_
    refine lv_sipush (v := (nI 4096)) hx hb dX6_sumOf_5 (by decide) ?_
    refine lv_icmp_ge (tgt := 20) hx hb dX6_sumOf_8 (by decide) (fun cq => ?_) (fun cq => ?_)
    · replace h := h.1 cq
      refine lv_iconst (v := (-1)) hx hb dX6_sumOf_20 (by decide) ?_
      exact hret (-1) () _ _ _ _ rfl h hP hD hS dX6_sumOf_21
    · replace h := h.2 cq
      refine lv_aload_n hx hb dX6_sumOf_11 rfl (lv_at hl 0 rfl) ?_
      refine va_get (D := g.1) (ci := 5) (v := .ref h_this_sums) (C := RX6) (T := TX6) (N := 5) hx hb hts iX6 hown hK hP 0 rfl rfl 2 (by decide) f9 (fun _ h9 => h9) rfl dX6_sumOf_12 ?_
      refine lv_iload_n hx hb dX6_sumOf_15 rfl (lv_at hl 1 rfl) ?_
      obtain ⟨hi, h⟩ := h
      refine va_iald (D := g.1) (n := 4096) (f := c_sums) hx hb hK hP 1 0 rfl rfl hi dX6_sumOf_16 ?_
      refine lv_goto (tgt := 21) hx hb dX6_sumOf_17 (by decide) ?_
      exact hret (c_sums (Int32.toNatClampNeg x1)) () _ _ _ _ rfl h hP hD hS dX6_sumOf_21
