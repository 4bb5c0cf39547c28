abbrev cw_X7_look (g : GG) (h_this : Nat) (h_m : Nat) (h_this_steps : Nat) (h_this_trail : Nat) (h_this_queue : Nat) (h_this_steps_low : Nat) (h_this_steps_high : Nat) (h_this_trail_from : Nat) (h_m_moves : Nat) (h_m_lights : Nat) (h_m_prices : Nat) (h_m_shares : Nat) (c_size : Int32) (c_steps_letters : Int32) (c_steps_low : Nat → Int32) (c_steps_high : Nat → Int32) (c_trail_from : Nat → Int32) (c_queue : Nat → Int32) (c_m_states : Int32) (c_m_letters : Int32) (c_m_moves : Nat → Int32) : va_W := [(h_this, .inr (6, [.ref h_this_steps, .ref h_this_trail, .ref h_this_queue, .int c_size])), (h_this_steps, .inr (7, [.ref h_this_steps_low, .ref h_this_steps_high, .int c_steps_letters])), (h_this_steps_low, .inl (g.2.1, 256, .inl c_steps_low)), (h_this_steps_high, .inl (g.2.1, 256, .inl c_steps_high)), (h_this_trail, .inr (8, [.ref h_this_trail_from])), (h_this_trail_from, .inl (g.2.1, 4096, .inl c_trail_from)), (h_this_queue, .inl (g.2.1, 4096, .inl c_queue)), (h_m, .inr (3, [.int c_m_states, .int c_m_letters, .ref h_m_moves, .ref h_m_lights, .ref h_m_prices, .ref h_m_shares])), (h_m_moves, .inl (g.2.1, 48, .inl c_m_moves))]
def L_X7_look_41 (c_steps_letters : Int32) (c_steps_low : Nat → Int32) (c_steps_high : Nat → Int32) (x3 : Int32) (Q : Int32 → Int32 → Int32 → (Nat → Int32) → (Nat → Int32) → (Nat → Int32) → (Nat → Int32) → Prop) : Nat → Int32 → Int32 → (Nat → Int32) → (Nat → Int32) → Prop
  | 0, _, _, _, _ => False
  | n_41 + 1, x4, c_size, c_trail_from, c_queue =>
    ((c_size ≤ x4 → Q (nI 0) c_size c_steps_letters c_steps_low c_steps_high c_trail_from c_queue) ∧ (¬ c_size ≤ x4 → (((nI 4096) ≤ x4 → Q (nI 0) c_size c_steps_letters c_steps_low c_steps_high c_trail_from c_queue) ∧ (¬ (nI 4096) ≤ x4 → vp_in x4 4096 ∧ wp_X7_lookFrom c_size c_steps_letters c_steps_low c_steps_high c_trail_from c_queue (c_queue (Int32.toNatClampNeg x4)) x3 (fun r8 c_size c_trail_from c_queue => ((r8 = (nI 0) → (L_X7_look_41 c_steps_letters c_steps_low c_steps_high x3 Q n_41) (x4 + (nI 1)) c_size c_trail_from c_queue) ∧ (¬ r8 = (nI 0) → Q r8 c_size c_steps_letters c_steps_low c_steps_high c_trail_from c_queue)))))))
def wp_X7_look (c_size : Int32) (c_steps_letters : Int32) (c_steps_low : Nat → Int32) (c_steps_high : Nat → Int32) (c_trail_from : Nat → Int32) (c_queue : Nat → Int32) (c_m_states : Int32) (c_m_letters : Int32) (c_m_moves : Nat → Int32) (x2 : Int32) (x3 : Int32) (Q : Int32 → Int32 → Int32 → (Nat → Int32) → (Nat → Int32) → (Nat → Int32) → (Nat → Int32) → Prop) : Prop :=
    wp_X8_load c_steps_letters c_steps_low c_steps_high c_m_states c_m_letters c_m_moves (fun c_steps_letters c_steps_low c_steps_high => wp_X9_begin c_trail_from x2 (fun c_trail_from => vp_in (nI 0) 4096 ∧ wp_X7_isWanted x2 x3 (fun r6 => ((r6 = (nI 0) → ∃ n, L_X7_look_41 c_steps_letters c_steps_low c_steps_high x3 Q n (nI 0) (nI 1) c_trail_from (upd c_queue (Int32.toNatClampNeg (nI 0)) x2)) ∧ (¬ r6 = (nI 0) → Q x2 (nI 1) c_steps_letters c_steps_low c_steps_high c_trail_from (upd c_queue (Int32.toNatClampNeg (nI 0)) x2))))))
abbrev rm_X7_look : Room := { frames := 3, cells := 0, slots := 0, locals := 75 }
set_option maxHeartbeats 4000000 in
set_option maxRecDepth 100000 in
theorem k_X7_look (l : Launch) (g : GG) (h_this : Nat) (h_m : Nat) (h_this_steps : Nat) (h_this_trail : Nat) (h_this_queue : Nat) (h_this_steps_low : Nat) (h_this_steps_high : Nat) (h_this_trail_from : Nat) (h_m_moves : Nat) (h_m_lights : Nat) (h_m_prices : Nat) (h_m_shares : Nat) {c_size : Int32} {c_steps_letters : Int32} {c_steps_low : Nat → Int32} {c_steps_high : Nat → Int32} {c_trail_from : Nat → Int32} {c_queue : Nat → Int32} {c_m_states : Int32} {c_m_letters : Int32} {c_m_moves : Nat → Int32} {x2 : Int32} {x3 : Int32} {Q : Int32 → Int32 → Int32 → (Nat → Int32) → (Nat → Int32) → (Nat → Int32) → (Nat → Int32) → Prop} (h : wp_X7_look c_size c_steps_letters c_steps_low c_steps_high c_trail_from c_queue c_m_states c_m_letters c_m_moves x2 x3 Q) : CI l g yX7_look wsX7_look rm_X7_look [.ref h_this, .ref h_m, .int x2, .int x3] (cw_X7_look g h_this h_m h_this_steps h_this_trail h_this_queue h_this_steps_low h_this_steps_high h_this_trail_from h_m_moves h_m_lights h_m_prices h_m_shares c_size c_steps_letters c_steps_low c_steps_high c_trail_from c_queue c_m_states c_m_letters c_m_moves) (S := Int32 × Int32 × (Nat → Int32) × (Nat → Int32) × (Nat → Int32) × (Nat → Int32)) (fun u => (cw_X7_look g h_this h_m h_this_steps h_this_trail h_this_queue h_this_steps_low h_this_steps_high h_this_trail_from h_m_moves h_m_lights h_m_prices h_m_shares u.1 u.2.1 u.2.2.1 u.2.2.2.1 u.2.2.2.2.1 u.2.2.2.2.2 c_m_states c_m_letters c_m_moves)) (fun r u => Q r u.1 u.2.1 u.2.2.1 u.2.2.2.1 u.2.2.2.2.1 u.2.2.2.2.2) 0 0 := by
  refine mk_I (cc := cX7_look) (maxL := 6) (own := RX7) (by decide) rfl rfl (Nat.le_of_ble_eq_true rfl) ?_
  intro p e s m args below meth c A QQ E hret hP hD hS ls hl
  have E2 := E
  obtain ⟨hx, hb, hr, hml, hown, hts, hlocks, hA, hZ, hK, hnm⟩ := E2
  have f15 := hts (.fieldLink RX7 15 "WordBench$SetSearch" "steps" "LWordBench$Steps;") (by decide +kernel)
  have f19 := hts (.fieldLink RX7 19 "WordBench$SetSearch" "trail" "LWordBench$Trail;") (by decide +kernel)
  have f9 := hts (.fieldLink RX7 9 "WordBench$SetSearch" "queue" "[I") (by decide +kernel)
  have f35 := hts (.fieldLink RX7 35 "WordBench$SetSearch" "size" "I") (by decide +kernel)
  have iX7 : ∀ w ∈ wsX70, w ∈ wsX7_look := fun _ h => List.mem_cons_of_mem _ (List.mem_append_left _ (List.mem_append_left _ (List.mem_append_left _ (List.mem_append_right _ h))))
  have hP : va_P g.1 vwCl (cw_X7_look g h_this h_m h_this_steps h_this_trail h_this_queue h_this_steps_low h_this_steps_high h_this_trail_from h_m_moves h_m_lights h_m_prices h_m_shares c_size c_steps_letters c_steps_low c_steps_high c_trail_from c_queue c_m_states c_m_letters c_m_moves) s.heap := hP
  have hD : va_D A (cw_X7_look g h_this h_m h_this_steps h_this_trail h_this_queue h_this_steps_low h_this_steps_high h_this_trail_from h_m_moves h_m_lights h_m_prices h_m_shares c_size c_steps_letters c_steps_low c_steps_high c_trail_from c_queue c_m_states c_m_letters c_m_moves) := hD
  have hl : lv_has ls 6 [(0, .ref h_this), (1, .ref h_m), (2, .int x2), (3, .int x3)] := hl
  unfold wp_X7_look at h
  have K_41 : ∀ (c_steps_letters : Int32) (c_steps_low : Nat → Int32) (c_steps_high : Nat → Int32) (n_41 : Nat) (x4 : Int32) (c_size : Int32) (c_trail_from : Nat → Int32) (c_queue : Nat → Int32) , L_X7_look_41 c_steps_letters c_steps_low c_steps_high x3 Q n_41 x4 c_size c_trail_from c_queue → ∀ (H : Heap) (locs : List Loc), va_P g.1 vwCl (cw_X7_look g h_this h_m h_this_steps h_this_trail h_this_queue h_this_steps_low h_this_steps_high h_this_trail_from h_m_moves h_m_lights h_m_prices h_m_shares c_size c_steps_letters c_steps_low c_steps_high c_trail_from c_queue c_m_states c_m_letters c_m_moves) H → va_D A (cw_X7_look g h_this h_m h_this_steps h_this_trail h_this_queue h_this_steps_low h_this_steps_high h_this_trail_from h_m_moves h_m_lights h_m_prices h_m_shares c_size c_steps_letters c_steps_low c_steps_high c_trail_from c_queue c_m_states c_m_letters c_m_moves) → va_S A s.heap H locs → ∀ ls : Array Slot, lv_has ls 6 [(0, .ref h_this), (3, .int x3), (4, .int x4)] → W p l e rm_X7_look s m args below meth c H locs 0 0 QQ (F0 m 41 ls []) := by
    intro c_steps_letters c_steps_low c_steps_high n_41
    induction n_41 with
    | zero => intro x4 c_size c_trail_from c_queue; exact fun h => False.elim h
    | succ n_41 ih_41 =>
      intro x4 c_size c_trail_from c_queue h H locs hP hD hS ls hl
      unfold L_X7_look_41 at h
      refine lv_iload hx hb dX7_look_41 (lv_at hl 2 rfl) ?_
      refine lv_aload_n hx hb dX7_look_43 rfl (lv_at hl 0 rfl) ?_
      refine va_get (D := g.1) (ci := 6) (v := .int c_size) (C := RX7) (T := TX7) (N := 4) hx hb hts iX7 hown hK hP 0 rfl rfl 3 (by decide) f35 (fun _ h9 => h9) rfl dX7_look_44 ?_
      refine lv_icmp_ge (tgt := 86) hx hb dX7_look_47 (by decide) (fun cq => ?_) (fun cq => ?_)
      · replace h := h.1 cq
        refine lv_iconst (v := (nI 0)) hx hb dX7_look_86 (by decide) ?_
        exact hret (nI 0) (c_size, c_steps_letters, c_steps_low, c_steps_high, c_trail_from, c_queue) _ _ _ _ rfl h hP hD hS dX7_look_87
      · replace h := h.2 cq
        refine lv_iload hx hb dX7_look_50 (lv_at hl 2 rfl) ?_
        refine lv_sipush (v := (nI 4096)) hx hb dX7_look_52 (by decide) ?_
        refine lv_icmp_ge (tgt := 86) hx hb dX7_look_55 (by decide) (fun cq => ?_) (fun cq => ?_)
        · replace h := h.1 cq
          refine lv_iconst (v := (nI 0)) hx hb dX7_look_86 (by decide) ?_
          exact hret (nI 0) (c_size, c_steps_letters, c_steps_low, c_steps_high, c_trail_from, c_queue) _ _ _ _ rfl h hP hD hS dX7_look_87
        · replace h := h.2 cq
          refine lv_aload_n hx hb dX7_look_58 rfl (lv_at hl 0 rfl) ?_
          refine lv_aload_n hx hb dX7_look_59 rfl (lv_at hl 0 rfl) ?_
          refine va_get (D := g.1) (ci := 6) (v := .ref h_this_queue) (C := RX7) (T := TX7) (N := 4) hx hb hts iX7 hown hK hP 0 rfl rfl 2 (by decide) f9 (fun _ h9 => h9) rfl dX7_look_60 ?_
          refine lv_iload hx hb dX7_look_63 (lv_at hl 2 rfl) ?_
          obtain ⟨hi, h⟩ := h
          refine va_iald (D := g.1) (n := 4096) (f := c_queue) hx hb hK hP 6 0 rfl rfl hi dX7_look_65 ?_
          refine lv_iload_n hx hb dX7_look_66 rfl (lv_at hl 1 rfl) ?_
          refine go_I E (run_V E ((k_X7_lookFrom l g h_this h_this_steps h_this_trail h_this_queue h_this_steps_low h_this_steps_high h_this_trail_from h) _) (cwV 2 hts gX7_look_X7_lookFrom rfl rfl rfl (by decide +kernel) ⟨Nat.le_of_ble_eq_true rfl, Nat.le_of_ble_eq_true rfl⟩) hP hD hS [0, 1, 2, 3, 4, 5, 6] rfl rfl 0 6 rfl rfl rfl hl rfl rfl (Nat.le_of_ble_eq_true rfl) dX7_look_67 ⟨Nat.le_of_ble_eq_true rfl, Nat.le_of_ble_eq_true rfl⟩) hP hD hS [0, 1, 2, 3, 4, 5, 6] rfl [(false, 0), (false, 1), (false, 2), (false, 3), (false, 4), (false, 5), (false, 6), (true, 7), (true, 8)] rfl (by decide) (fun u => (cw_X7_look g h_this h_m h_this_steps h_this_trail h_this_queue h_this_steps_low h_this_steps_high h_this_trail_from h_m_moves h_m_lights h_m_prices h_m_shares u.1 c_steps_letters c_steps_low c_steps_high u.2.1 u.2.2 c_m_states c_m_letters c_m_moves)) (fun _ => rfl) (fun r8 u H locs h hP hD hS => ?_)
          obtain ⟨c_size, c_trail_from, c_queue⟩ := u
          try dsimp only at h
          have hP : va_P g.1 vwCl (cw_X7_look g h_this h_m h_this_steps h_this_trail h_this_queue h_this_steps_low h_this_steps_high h_this_trail_from h_m_moves h_m_lights h_m_prices h_m_shares c_size c_steps_letters c_steps_low c_steps_high c_trail_from c_queue c_m_states c_m_letters c_m_moves) H := hP
          have hD : va_D A (cw_X7_look g h_this h_m h_this_steps h_this_trail h_this_queue h_this_steps_low h_this_steps_high h_this_trail_from h_m_moves h_m_lights h_m_prices h_m_shares c_size c_steps_letters c_steps_low c_steps_high c_trail_from c_queue c_m_states c_m_letters c_m_moves) := hD
          refine lv_istore (lv' := [(5, .int r8), (0, .ref h_this), (3, .int x3), (4, .int x4)]) hx hb dX7_look_70 hl (by decide) rfl (fun ls hl => ?_)
          refine lv_iload hx hb dX7_look_72 (lv_at hl 0 rfl) ?_
          refine lv_if_eq (tgt := 80) hx hb dX7_look_74 (by decide) (fun cq => ?_) (fun cq => ?_)
          · replace h := h.1 cq
            refine lv_iinc (v := (x4 + (nI 1))) (lv' := [(4, .int (x4 + (nI 1))), (5, .int r8), (0, .ref h_this), (3, .int x3)]) hx hb dX7_look_80 hl (k := 3) rfl rfl (by decide) rfl (fun ls hl => ?_)
            refine lv_goto (tgt := 41) hx hb dX7_look_83 (by decide) ?_
            exact ih_41 (x4 + (nI 1)) c_size c_trail_from c_queue h _ _ hP hD hS _ (lv_sub hl [2, 3, 0] rfl)
          · replace h := h.2 cq
            refine lv_iload hx hb dX7_look_77 (lv_at hl 0 rfl) ?_
            exact hret r8 (c_size, c_steps_letters, c_steps_low, c_steps_high, c_trail_from, c_queue) _ _ _ _ rfl h hP hD hS dX7_look_79
  refine lv_aload_n hx hb dX7_look_0 rfl (lv_at hl 0 rfl) ?_
  refine va_get (D := g.1) (ci := 6) (v := .ref h_this_steps) (C := RX7) (T := TX7) (N := 4) hx hb hts iX7 hown hK hP 0 rfl rfl 0 (by decide) f15 (fun _ h9 => h9) rfl dX7_look_1 ?_
  refine lv_aload_n hx hb dX7_look_4 rfl (lv_at hl 1 rfl) ?_
  refine go_V E (run_V E ((k_X8_load l g h_this_steps h_m h_this_steps_low h_this_steps_high h_m_moves h_m_lights h_m_prices h_m_shares h) _) (cwV 1 hts gX7_look_X8_load rfl rfl rfl (by decide +kernel) ⟨Nat.le_of_ble_eq_true rfl, Nat.le_of_ble_eq_true rfl⟩) hP hD hS [1, 2, 3, 7, 8] rfl rfl 0 7 rfl rfl rfl hl rfl rfl (Nat.le_of_ble_eq_true rfl) dX7_look_5 ⟨Nat.le_of_ble_eq_true rfl, Nat.le_of_ble_eq_true rfl⟩) hP hD hS [1, 2, 3, 7, 8] rfl [(true, 0), (false, 0), (false, 1), (false, 2), (true, 4), (true, 5), (true, 6), (false, 3), (false, 4)] rfl (by decide) (fun u => (cw_X7_look g h_this h_m h_this_steps h_this_trail h_this_queue h_this_steps_low h_this_steps_high h_this_trail_from h_m_moves h_m_lights h_m_prices h_m_shares c_size u.1 u.2.1 u.2.2 c_trail_from c_queue c_m_states c_m_letters c_m_moves)) (fun _ => rfl) (fun u H locs h hP hD hS => ?_)
  obtain ⟨c_steps_letters, c_steps_low, c_steps_high⟩ := u
  try dsimp only at h
  have hP : va_P g.1 vwCl (cw_X7_look g h_this h_m h_this_steps h_this_trail h_this_queue h_this_steps_low h_this_steps_high h_this_trail_from h_m_moves h_m_lights h_m_prices h_m_shares c_size c_steps_letters c_steps_low c_steps_high c_trail_from c_queue c_m_states c_m_letters c_m_moves) H := hP
  have hD : va_D A (cw_X7_look g h_this h_m h_this_steps h_this_trail h_this_queue h_this_steps_low h_this_steps_high h_this_trail_from h_m_moves h_m_lights h_m_prices h_m_shares c_size c_steps_letters c_steps_low c_steps_high c_trail_from c_queue c_m_states c_m_letters c_m_moves) := hD
  refine lv_aload_n hx hb dX7_look_8 rfl (lv_at hl 0 rfl) ?_
  refine va_get (D := g.1) (ci := 6) (v := .ref h_this_trail) (C := RX7) (T := TX7) (N := 4) hx hb hts iX7 hown hK hP 0 rfl rfl 1 (by decide) f19 (fun _ h9 => h9) rfl dX7_look_9 ?_
  refine lv_iload_n hx hb dX7_look_12 rfl (lv_at hl 2 rfl) ?_
  refine go_V E (run_V E ((k_X9_begin l g h_this_trail h_this_trail_from h) _) (cwV 1 hts gX7_look_X9_begin rfl rfl rfl (by decide +kernel) ⟨Nat.le_of_ble_eq_true rfl, Nat.le_of_ble_eq_true rfl⟩) hP hD hS [4, 5] rfl rfl 0 8 rfl rfl rfl hl rfl rfl (Nat.le_of_ble_eq_true rfl) dX7_look_13 ⟨Nat.le_of_ble_eq_true rfl, Nat.le_of_ble_eq_true rfl⟩) hP hD hS [4, 5] rfl [(true, 0), (true, 1), (true, 2), (true, 3), (false, 0), (false, 1), (true, 6), (true, 7), (true, 8)] rfl (by decide) (fun u => (cw_X7_look g h_this h_m h_this_steps h_this_trail h_this_queue h_this_steps_low h_this_steps_high h_this_trail_from h_m_moves h_m_lights h_m_prices h_m_shares c_size c_steps_letters c_steps_low c_steps_high u c_queue c_m_states c_m_letters c_m_moves)) (fun _ => rfl) (fun c_trail_from H locs h hP hD hS => ?_)
  try dsimp only at h
  have hP : va_P g.1 vwCl (cw_X7_look g h_this h_m h_this_steps h_this_trail h_this_queue h_this_steps_low h_this_steps_high h_this_trail_from h_m_moves h_m_lights h_m_prices h_m_shares c_size c_steps_letters c_steps_low c_steps_high c_trail_from c_queue c_m_states c_m_letters c_m_moves) H := hP
  have hD : va_D A (cw_X7_look g h_this h_m h_this_steps h_this_trail h_this_queue h_this_steps_low h_this_steps_high h_this_trail_from h_m_moves h_m_lights h_m_prices h_m_shares c_size c_steps_letters c_steps_low c_steps_high c_trail_from c_queue c_m_states c_m_letters c_m_moves) := hD
  refine lv_aload_n hx hb dX7_look_16 rfl (lv_at hl 0 rfl) ?_
  refine va_get (D := g.1) (ci := 6) (v := .ref h_this_queue) (C := RX7) (T := TX7) (N := 4) hx hb hts iX7 hown hK hP 0 rfl rfl 2 (by decide) f9 (fun _ h9 => h9) rfl dX7_look_17 ?_
  refine lv_iconst (v := (nI 0)) hx hb dX7_look_20 (by decide) ?_
  refine lv_iload_n hx hb dX7_look_21 rfl (lv_at hl 2 rfl) ?_
  obtain ⟨hi, h⟩ := h
  refine va_iast (D := g.1) (n := 4096) (f := c_queue) hx hb hK hP hD hS 6 0 rfl rfl hi dX7_look_22 (fun H locs hP hD hS => ?_)
  have hP : va_P g.1 vwCl (cw_X7_look g h_this h_m h_this_steps h_this_trail h_this_queue h_this_steps_low h_this_steps_high h_this_trail_from h_m_moves h_m_lights h_m_prices h_m_shares c_size c_steps_letters c_steps_low c_steps_high c_trail_from (upd c_queue (Int32.toNatClampNeg (nI 0)) x2) c_m_states c_m_letters c_m_moves) H := hP
  have hD : va_D A (cw_X7_look g h_this h_m h_this_steps h_this_trail h_this_queue h_this_steps_low h_this_steps_high h_this_trail_from h_m_moves h_m_lights h_m_prices h_m_shares c_size c_steps_letters c_steps_low c_steps_high c_trail_from (upd c_queue (Int32.toNatClampNeg (nI 0)) x2) c_m_states c_m_letters c_m_moves) := hD
  refine lv_aload_n hx hb dX7_look_23 rfl (lv_at hl 0 rfl) ?_
  refine lv_iconst (v := (nI 1)) hx hb dX7_look_24 (by decide) ?_
  refine va_put (D := g.1) (ci := 6) (v := .int (nI 1)) (ty := .int) (C := RX7) (T := TX7) (N := 4) hx hb hts iX7 tyX7 tyX7_ok nmX7 hown hK hP hD hS 0 rfl rfl 3 (by decide) f35 (fun _ h9 => h9) rfl (by decide +kernel) rfl rfl (Nat.le_of_ble_eq_true rfl) dX7_look_25 (fun H locs hP hD hS => ?_)
  have hP : va_P g.1 vwCl (cw_X7_look g h_this h_m h_this_steps h_this_trail h_this_queue h_this_steps_low h_this_steps_high h_this_trail_from h_m_moves h_m_lights h_m_prices h_m_shares (nI 1) c_steps_letters c_steps_low c_steps_high c_trail_from (upd c_queue (Int32.toNatClampNeg (nI 0)) x2) c_m_states c_m_letters c_m_moves) H := hP
  have hD : va_D A (cw_X7_look g h_this h_m h_this_steps h_this_trail h_this_queue h_this_steps_low h_this_steps_high h_this_trail_from h_m_moves h_m_lights h_m_prices h_m_shares (nI 1) c_steps_letters c_steps_low c_steps_high c_trail_from (upd c_queue (Int32.toNatClampNeg (nI 0)) x2) c_m_states c_m_letters c_m_moves) := hD
  refine lv_iload_n hx hb dX7_look_28 rfl (lv_at hl 2 rfl) ?_
  refine lv_iload_n hx hb dX7_look_29 rfl (lv_at hl 3 rfl) ?_
  refine go_I E (run_S E ((k_X7_isWanted l g  h) _) (va_cwS 2 hts gX7_look_X7_isWanted rfl rfl rfl (by decide +kernel) ⟨Nat.le_of_ble_eq_true rfl, Nat.le_of_ble_eq_true rfl⟩) hP hD hS [] rfl rfl hl rfl rfl (Nat.le_of_ble_eq_true rfl) dX7_look_30 ⟨Nat.le_of_ble_eq_true rfl, Nat.le_of_ble_eq_true rfl⟩) hP hD hS [] rfl [(true, 0), (true, 1), (true, 2), (true, 3), (true, 4), (true, 5), (true, 6), (true, 7), (true, 8)] rfl (by decide) (fun _ => (cw_X7_look g h_this h_m h_this_steps h_this_trail h_this_queue h_this_steps_low h_this_steps_high h_this_trail_from h_m_moves h_m_lights h_m_prices h_m_shares (nI 1) c_steps_letters c_steps_low c_steps_high c_trail_from (upd c_queue (Int32.toNatClampNeg (nI 0)) x2) c_m_states c_m_letters c_m_moves)) (fun _ => rfl) (fun r6 _ H locs h hP hD hS => ?_)
  try dsimp only at h
  have hP : va_P g.1 vwCl (cw_X7_look g h_this h_m h_this_steps h_this_trail h_this_queue h_this_steps_low h_this_steps_high h_this_trail_from h_m_moves h_m_lights h_m_prices h_m_shares (nI 1) c_steps_letters c_steps_low c_steps_high c_trail_from (upd c_queue (Int32.toNatClampNeg (nI 0)) x2) c_m_states c_m_letters c_m_moves) H := hP
  have hD : va_D A (cw_X7_look g h_this h_m h_this_steps h_this_trail h_this_queue h_this_steps_low h_this_steps_high h_this_trail_from h_m_moves h_m_lights h_m_prices h_m_shares (nI 1) c_steps_letters c_steps_low c_steps_high c_trail_from (upd c_queue (Int32.toNatClampNeg (nI 0)) x2) c_m_states c_m_letters c_m_moves) := hD
  refine lv_if_eq (tgt := 38) hx hb dX7_look_33 (by decide) (fun cq => ?_) (fun cq => ?_)
  · replace h := h.1 cq
    refine lv_iconst (v := (nI 0)) hx hb dX7_look_38 (by decide) ?_
    refine lv_istore (lv' := [(4, .int (nI 0)), (0, .ref h_this), (1, .ref h_m), (2, .int x2), (3, .int x3)]) hx hb dX7_look_39 hl (by decide) rfl (fun ls hl => ?_)
    obtain ⟨n, h⟩ := h
    exact K_41 c_steps_letters c_steps_low c_steps_high n (nI 0) (nI 1) c_trail_from (upd c_queue (Int32.toNatClampNeg (nI 0)) x2) h _ _ hP hD hS _ (lv_sub hl [1, 4, 0] rfl)
  · replace h := h.2 cq
    refine lv_iload_n hx hb dX7_look_36 rfl (lv_at hl 2 rfl) ?_
    exact hret x2 ((nI 1), c_steps_letters, c_steps_low, c_steps_high, c_trail_from, (upd c_queue (Int32.toNatClampNeg (nI 0)) x2)) _ _ _ _ rfl h hP hD hS dX7_look_37
abbrev cw_X7_size (g : GG) (h_this : Nat) (h_this_steps : Nat) (h_this_trail : Nat) (h_this_queue : Nat) (c_size : Int32) : va_W := [(h_this, .inr (6, [.ref h_this_steps, .ref h_this_trail, .ref h_this_queue, .int c_size]))]
def wp_X7_size (c_size : Int32) (Q : Int32 → Prop) : Prop :=
    Q c_size
abbrev rm_X7_size : Room := { frames := 0, cells := 0, slots := 0, locals := 0 }
set_option maxHeartbeats 4000000 in
set_option maxRecDepth 100000 in
theorem k_X7_size (l : Launch) (g : GG) (h_this : Nat) (h_this_steps : Nat) (h_this_trail : Nat) (h_this_queue : Nat) {c_size : Int32} {Q : Int32 → Prop} (h : wp_X7_size c_size Q) : CI l g yX7_size wsX7_size rm_X7_size [.ref h_this] (cw_X7_size g h_this h_this_steps h_this_trail h_this_queue c_size) (S := Unit) (fun _ => (cw_X7_size g h_this h_this_steps h_this_trail h_this_queue c_size)) (fun r _ => Q r) 0 0 := by
  refine mk_I (cc := cX7_size) (maxL := 1) (own := RX7) (by decide) rfl rfl (Nat.le_of_ble_eq_true rfl) ?_
  intro p e s m args below meth c A QQ E hret hP hD hS ls hl
  have E2 := E
  obtain ⟨hx, hb, hr, hml, hown, hts, hlocks, hA, hZ, hK, hnm⟩ := E2
  have f35 := hts (.fieldLink RX7 35 "WordBench$SetSearch" "size" "I") (by decide +kernel)
  have iX7 : ∀ w ∈ wsX70, w ∈ wsX7_size := fun _ h => List.mem_cons_of_mem _ (List.mem_append_right _ h)
  have hP : va_P g.1 vwCl (cw_X7_size g h_this h_this_steps h_this_trail h_this_queue c_size) s.heap := hP
  have hD : va_D A (cw_X7_size g h_this h_this_steps h_this_trail h_this_queue c_size) := hD
  have hl : lv_has ls 1 [(0, .ref h_this)] := hl
  unfold wp_X7_size at h
  refine lv_aload_n hx hb dX7_size_0 rfl (lv_at hl 0 rfl) ?_
  refine va_get (D := g.1) (ci := 6) (v := .int c_size) (C := RX7) (T := TX7) (N := 4) hx hb hts iX7 hown hK hP 0 rfl rfl 3 (by decide) f35 (fun _ h9 => h9) rfl dX7_size_1 ?_
  exact hret c_size () _ _ _ _ rfl h hP hD hS dX7_size_4
abbrev cw_X7_found (g : GG) (h_this : Nat) (h_this_steps : Nat) (h_this_trail : Nat) (h_this_queue : Nat) (c_size : Int32) (c_queue : Nat → Int32) : va_W := [(h_this, .inr (6, [.ref h_this_steps, .ref h_this_trail, .ref h_this_queue, .int c_size])), (h_this_queue, .inl (g.2.1, 4096, .inl c_queue))]
def wp_X7_found (c_size : Int32) (c_queue : Nat → Int32) (x1 : Int32) (Q : Int32 → Prop) : Prop :=
    ((x1 < (nI 0) → Q (nI 0)) ∧ (¬ x1 < (nI 0) → ((c_size ≤ x1 → Q (nI 0)) ∧ (¬ c_size ≤ x1 → (((nI 4096) ≤ x1 → Q (nI 0)) ∧ (¬ (nI 4096) ≤ x1 → vp_in x1 4096 ∧ Q (c_queue (Int32.toNatClampNeg x1))))))))
abbrev rm_X7_found : Room := { frames := 0, cells := 0, slots := 0, locals := 0 }
set_option maxHeartbeats 4000000 in
set_option maxRecDepth 100000 in
theorem k_X7_found (l : Launch) (g : GG) (h_this : Nat) (h_this_steps : Nat) (h_this_trail : Nat) (h_this_queue : Nat) {c_size : Int32} {c_queue : Nat → Int32} {x1 : Int32} {Q : Int32 → Prop} (h : wp_X7_found c_size c_queue x1 Q) : CI l g yX7_found wsX7_found rm_X7_found [.ref h_this, .int x1] (cw_X7_found g h_this h_this_steps h_this_trail h_this_queue c_size c_queue) (S := Unit) (fun _ => (cw_X7_found g h_this h_this_steps h_this_trail h_this_queue c_size c_queue)) (fun r _ => Q r) 0 0 := by
  refine mk_I (cc := cX7_found) (maxL := 2) (own := RX7) (by decide) rfl rfl (Nat.le_of_ble_eq_true rfl) ?_
  intro p e s m args below meth c A QQ E hret hP hD hS ls hl
  have E2 := E
  obtain ⟨hx, hb, hr, hml, hown, hts, hlocks, hA, hZ, hK, hnm⟩ := E2
  have f35 := hts (.fieldLink RX7 35 "WordBench$SetSearch" "size" "I") (by decide +kernel)
  have f9 := hts (.fieldLink RX7 9 "WordBench$SetSearch" "queue" "[I") (by decide +kernel)
  have iX7 : ∀ w ∈ wsX70, w ∈ wsX7_found := fun _ h => List.mem_cons_of_mem _ (List.mem_append_right _ h)
  have hP : va_P g.1 vwCl (cw_X7_found g h_this h_this_steps h_this_trail h_this_queue c_size c_queue) s.heap := hP
  have hD : va_D A (cw_X7_found g h_this h_this_steps h_this_trail h_this_queue c_size c_queue) := hD
  have hl : lv_has ls 2 [(0, .ref h_this), (1, .int x1)] := hl
  unfold wp_X7_found at h
  refine lv_iload_n hx hb dX7_found_0 rfl (lv_at hl 1 rfl) ?_
  refine lv_if_lt (tgt := 28) hx hb dX7_found_1 (by decide) (fun cq => ?_) (fun cq => ?_)
  · replace h := h.1 cq
    refine lv_iconst (v := (nI 0)) hx hb dX7_found_28 (by decide) ?_
    exact hret (nI 0) () _ _ _ _ rfl h hP hD hS dX7_found_29
  · replace h := h.2 cq
    refine lv_iload_n hx hb dX7_found_4 rfl (lv_at hl 1 rfl) ?_
    refine lv_aload_n hx hb dX7_found_5 rfl (lv_at hl 0 rfl) ?_
    refine va_get (D := g.1) (ci := 6) (v := .int c_size) (C := RX7) (T := TX7) (N := 4) hx hb hts iX7 hown hK hP 0 rfl rfl 3 (by decide) f35 (fun _ h9 => h9) rfl dX7_found_6 ?_
    refine lv_icmp_ge (tgt := 28) hx hb dX7_found_9 (by decide) (fun cq => ?_) (fun cq => ?_)
    · replace h := h.1 cq
      refine lv_iconst (v := (nI 0)) hx hb dX7_found_28 (by decide) ?_
      exact hret (nI 0) () _ _ _ _ rfl h hP hD hS dX7_found_29
    · replace h := h.2 cq
      refine lv_iload_n hx hb dX7_found_12 rfl (lv_at hl 1 rfl) ?_
      refine lv_sipush (v := (nI 4096)) hx hb dX7_found_13 (by decide) ?_
      refine lv_icmp_ge (tgt := 28) hx hb dX7_found_16 (by decide) (fun cq => ?_) (fun cq => ?_)
      · replace h := h.1 cq
        refine lv_iconst (v := (nI 0)) hx hb dX7_found_28 (by decide) ?_
        exact hret (nI 0) () _ _ _ _ rfl h hP hD hS dX7_found_29
      · replace h := h.2 cq
        refine lv_aload_n hx hb dX7_found_19 rfl (lv_at hl 0 rfl) ?_
        refine va_get (D := g.1) (ci := 6) (v := .ref h_this_queue) (C := RX7) (T := TX7) (N := 4) hx hb hts iX7 hown hK hP 0 rfl rfl 2 (by decide) f9 (fun _ h9 => h9) rfl dX7_found_20 ?_
        refine lv_iload_n hx hb dX7_found_23 rfl (lv_at hl 1 rfl) ?_
        obtain ⟨hi, h⟩ := h
        refine va_iald (D := g.1) (n := 4096) (f := c_queue) hx hb hK hP 1 0 rfl rfl hi dX7_found_24 ?_
        refine lv_goto (tgt := 29) hx hb dX7_found_25 (by decide) ?_
        exact hret (c_queue (Int32.toNatClampNeg x1)) () _ _ _ _ rfl h hP hD hS dX7_found_29
abbrev cw_X4_hasLetter (g : GG) (h_this : Nat) (h_this_moves : Nat) (h_this_lights : Nat) (h_this_prices : Nat) (h_this_shares : Nat) (c_states : Int32) (c_letters : Int32) : va_W := [(h_this, .inr (3, [.int c_states, .int c_letters, .ref h_this_moves, .ref h_this_lights, .ref h_this_prices, .ref h_this_shares]))]
def wp_X4_hasLetter (c_states : Int32) (c_letters : Int32) (x1 : Int32) (Q : Int32 → Prop) : Prop :=
    ((x1 < (nI 0) → Q (nI 0)) ∧ (¬ x1 < (nI 0) → ((c_letters ≤ x1 → Q (nI 0)) ∧ (¬ c_letters ≤ x1 → (((nI 4) ≤ x1 → Q (nI 0)) ∧ (¬ (nI 4) ≤ x1 → Q (nI 1)))))))
abbrev rm_X4_hasLetter : Room := { frames := 0, cells := 0, slots := 0, locals := 0 }
set_option maxHeartbeats 4000000 in
set_option maxRecDepth 100000 in
theorem k_X4_hasLetter (l : Launch) (g : GG) (h_this : Nat) (h_this_moves : Nat) (h_this_lights : Nat) (h_this_prices : Nat) (h_this_shares : Nat) {c_states : Int32} {c_letters : Int32} {x1 : Int32} {Q : Int32 → Prop} (h : wp_X4_hasLetter c_states c_letters x1 Q) : CI l g yX4_hasLetter wsX4_hasLetter rm_X4_hasLetter [.ref h_this, .int x1] (cw_X4_hasLetter g h_this h_this_moves h_this_lights h_this_prices h_this_shares c_states c_letters) (S := Unit) (fun _ => (cw_X4_hasLetter g h_this h_this_moves h_this_lights h_this_prices h_this_shares c_states c_letters)) (fun r _ => Q r) 0 0 := by
  refine mk_I (cc := cX4_hasLetter) (maxL := 2) (own := RX4) (by decide) rfl rfl (Nat.le_of_ble_eq_true rfl) ?_
  intro p e s m args below meth c A QQ E hret hP hD hS ls hl
  have E2 := E
  obtain ⟨hx, hb, hr, hml, hown, hts, hlocks, hA, hZ, hK, hnm⟩ := E2
  have f28 := hts (.fieldLink RX4 28 "WordBench$Machine" "letters" "I") (by decide +kernel)
  have iX4 : ∀ w ∈ wsX40, w ∈ wsX4_hasLetter := fun _ h => List.mem_cons_of_mem _ (List.mem_append_right _ h)
  have hP : va_P g.1 vwCl (cw_X4_hasLetter g h_this h_this_moves h_this_lights h_this_prices h_this_shares c_states c_letters) s.heap := hP
  have hD : va_D A (cw_X4_hasLetter g h_this h_this_moves h_this_lights h_this_prices h_this_shares c_states c_letters) := hD
  have hl : lv_has ls 2 [(0, .ref h_this), (1, .int x1)] := hl
  unfold wp_X4_hasLetter at h
  refine lv_iload_n hx hb dX4_hasLetter_0 rfl (lv_at hl 1 rfl) ?_
  refine lv_if_lt (tgt := 21) hx hb dX4_hasLetter_1 (by decide) (fun cq => ?_) (fun cq => ?_)
  · replace h := h.1 cq
    refine lv_iconst (v := (nI 0)) hx hb dX4_hasLetter_21 (by decide) ?_
    exact hret (nI 0) () _ _ _ _ nbz h hP hD hS dX4_hasLetter_22
  · replace h := h.2 cq
    refine lv_iload_n hx hb dX4_hasLetter_4 rfl (lv_at hl 1 rfl) ?_
    refine lv_aload_n hx hb dX4_hasLetter_5 rfl (lv_at hl 0 rfl) ?_
    refine va_get (D := g.1) (ci := 3) (v := .int c_letters) (C := RX4) (T := TX4) (N := 6) hx hb hts iX4 hown hK hP 0 rfl rfl 1 (by decide) f28 (fun _ h9 => h9) rfl dX4_hasLetter_6 ?_
    refine lv_icmp_ge (tgt := 21) hx hb dX4_hasLetter_9 (by decide) (fun cq => ?_) (fun cq => ?_)
    · replace h := h.1 cq
      refine lv_iconst (v := (nI 0)) hx hb dX4_hasLetter_21 (by decide) ?_
      exact hret (nI 0) () _ _ _ _ nbz h hP hD hS dX4_hasLetter_22
    · replace h := h.2 cq
      refine lv_iload_n hx hb dX4_hasLetter_12 rfl (lv_at hl 1 rfl) ?_
      refine lv_iconst (v := (nI 4)) hx hb dX4_hasLetter_13 (by decide) ?_
      refine lv_icmp_ge (tgt := 21) hx hb dX4_hasLetter_14 (by decide) (fun cq => ?_) (fun cq => ?_)
      · replace h := h.1 cq
        refine lv_iconst (v := (nI 0)) hx hb dX4_hasLetter_21 (by decide) ?_
        exact hret (nI 0) () _ _ _ _ nbz h hP hD hS dX4_hasLetter_22
      · replace h := h.2 cq
        refine lv_iconst (v := (nI 1)) hx hb dX4_hasLetter_17 (by decide) ?_
        refine lv_goto (tgt := 22) hx hb dX4_hasLetter_18 (by decide) ?_
        exact hret (nI 1) () _ _ _ _ nbo h hP hD hS dX4_hasLetter_22
abbrev cw_X4_shareOf (g : GG) (h_this : Nat) (h_this_moves : Nat) (h_this_lights : Nat) (h_this_prices : Nat) (h_this_shares : Nat) (c_states : Int32) (c_letters : Int32) (c_shares : Nat → Int32) : va_W := [(h_this, .inr (3, [.int c_states, .int c_letters, .ref h_this_moves, .ref h_this_lights, .ref h_this_prices, .ref h_this_shares])), (h_this_shares, .inl (g.2.1, 4, .inl c_shares))]
def wp_X4_shareOf (c_states : Int32) (c_letters : Int32) (c_shares : Nat → Int32) (x1 : Int32) (Q : Int32 → Prop) : Prop :=
    wp_X4_hasLetter c_states c_letters x1 (fun r2 => ((r2 = (nI 0) → Q (nI 0)) ∧ (¬ r2 = (nI 0) → vp_in x1 4 ∧ Q (c_shares (Int32.toNatClampNeg x1)))))
abbrev rm_X4_shareOf : Room := { frames := 1, cells := 0, slots := 0, locals := 21 }
set_option maxHeartbeats 4000000 in
set_option maxRecDepth 100000 in
theorem k_X4_shareOf (l : Launch) (g : GG) (h_this : Nat) (h_this_moves : Nat) (h_this_lights : Nat) (h_this_prices : Nat) (h_this_shares : Nat) {c_states : Int32} {c_letters : Int32} {c_shares : Nat → Int32} {x1 : Int32} {Q : Int32 → Prop} (h : wp_X4_shareOf c_states c_letters c_shares x1 Q) : CI l g yX4_shareOf wsX4_shareOf rm_X4_shareOf [.ref h_this, .int x1] (cw_X4_shareOf g h_this h_this_moves h_this_lights h_this_prices h_this_shares c_states c_letters c_shares) (S := Unit) (fun _ => (cw_X4_shareOf g h_this h_this_moves h_this_lights h_this_prices h_this_shares c_states c_letters c_shares)) (fun r _ => Q r) 0 0 := by
  refine mk_I (cc := cX4_shareOf) (maxL := 2) (own := RX4) (by decide) rfl rfl (Nat.le_of_ble_eq_true rfl) ?_
  intro p e s m args below meth c A QQ E hret hP hD hS ls hl
  have E2 := E
  obtain ⟨hx, hb, hr, hml, hown, hts, hlocks, hA, hZ, hK, hnm⟩ := E2
  have f21 := hts (.fieldLink RX4 21 "WordBench$Machine" "shares" "[I") (by decide +kernel)
  have iX4 : ∀ w ∈ wsX40, w ∈ wsX4_shareOf := fun _ h => List.mem_cons_of_mem _ (List.mem_append_right _ h)
  have hP : va_P g.1 vwCl (cw_X4_shareOf g h_this h_this_moves h_this_lights h_this_prices h_this_shares c_states c_letters c_shares) s.heap := hP
  have hD : va_D A (cw_X4_shareOf g h_this h_this_moves h_this_lights h_this_prices h_this_shares c_states c_letters c_shares) := hD
  have hl : lv_has ls 2 [(0, .ref h_this), (1, .int x1)] := hl
  unfold wp_X4_shareOf at h
  refine lv_aload_n hx hb dX4_shareOf_0 rfl (lv_at hl 0 rfl) ?_
  refine lv_iload_n hx hb dX4_shareOf_1 rfl (lv_at hl 1 rfl) ?_
  refine go_I E (run_V E ((k_X4_hasLetter l g h_this h_this_moves h_this_lights h_this_prices h_this_shares h) _) (cwV 1 hts gX4_shareOf_X4_hasLetter rfl rfl rfl (by decide +kernel) ⟨Nat.le_of_ble_eq_true rfl, Nat.le_of_ble_eq_true rfl⟩) hP hD hS [0] rfl rfl 0 3 rfl rfl rfl hl rfl rfl (Nat.le_of_ble_eq_true rfl) dX4_shareOf_2 ⟨Nat.le_of_ble_eq_true rfl, Nat.le_of_ble_eq_true rfl⟩) hP hD hS [0] rfl [(false, 0), (true, 1)] rfl (by decide) (fun _ => (cw_X4_shareOf g h_this h_this_moves h_this_lights h_this_prices h_this_shares c_states c_letters c_shares)) (fun _ => rfl) (fun r2 _ H locs h hP hD hS => ?_)
  try dsimp only at h
  have hP : va_P g.1 vwCl (cw_X4_shareOf g h_this h_this_moves h_this_lights h_this_prices h_this_shares c_states c_letters c_shares) H := hP
  have hD : va_D A (cw_X4_shareOf g h_this h_this_moves h_this_lights h_this_prices h_this_shares c_states c_letters c_shares) := hD
  refine lv_if_eq (tgt := 17) hx hb dX4_shareOf_5 (by decide) (fun cq => ?_) (fun cq => ?_)
  · replace h := h.1 cq
    refine lv_iconst (v := (nI 0)) hx hb dX4_shareOf_17 (by decide) ?_
    exact hret (nI 0) () _ _ _ _ rfl h hP hD hS dX4_shareOf_18
  · replace h := h.2 cq
    refine lv_aload_n hx hb dX4_shareOf_8 rfl (lv_at hl 0 rfl) ?_
    refine va_get (D := g.1) (ci := 3) (v := .ref h_this_shares) (C := RX4) (T := TX4) (N := 6) hx hb hts iX4 hown hK hP 0 rfl rfl 5 (by decide) f21 (fun _ h9 => h9) rfl dX4_shareOf_9 ?_
    refine lv_iload_n hx hb dX4_shareOf_12 rfl (lv_at hl 1 rfl) ?_
    obtain ⟨hi, h⟩ := h
    refine va_iald (D := g.1) (n := 4) (f := c_shares) hx hb hK hP 1 0 rfl rfl hi dX4_shareOf_13 ?_
    refine lv_goto (tgt := 18) hx hb dX4_shareOf_14 (by decide) ?_
    exact hret (c_shares (Int32.toNatClampNeg x1)) () _ _ _ _ rfl h hP hD hS dX4_shareOf_18
abbrev cw_X0_spread (g : GG) (h_this : Nat) (h_m : Nat) (h_this_steps : Nat) (h_this_search : Nat) (h_this_now : Nat) (h_this_next : Nat) (h_this_steps_low : Nat) (h_this_steps_high : Nat) (h_this_search_trail : Nat) (h_this_search_queue : Nat) (h_m_moves : Nat) (h_m_lights : Nat) (h_m_prices : Nat) (h_m_shares : Nat) (c_steps_letters : Int32) (c_steps_low : Nat → Int32) (c_steps_high : Nat → Int32) (c_search_size : Int32) (c_search_queue : Nat → Int32) (c_now : Nat → Int64) (c_next : Nat → Int64) (c_m_states : Int32) (c_m_letters : Int32) (c_m_shares : Nat → Int32) : va_W := [(h_this, .inr (0, [.ref h_this_steps, .ref h_this_search, .ref h_this_now, .ref h_this_next])), (h_this_steps, .inr (7, [.ref h_this_steps_low, .ref h_this_steps_high, .int c_steps_letters])), (h_this_steps_low, .inl (g.2.1, 256, .inl c_steps_low)), (h_this_steps_high, .inl (g.2.1, 256, .inl c_steps_high)), (h_this_search, .inr (6, [.ref h_this_steps, .ref h_this_search_trail, .ref h_this_search_queue, .int c_search_size])), (h_this_search_queue, .inl (g.2.1, 4096, .inl c_search_queue)), (h_this_now, .inl (g.2.2.1, 4096, .inr (.inl c_now))), (h_this_next, .inl (g.2.2.1, 4096, .inr (.inl c_next))), (h_m, .inr (3, [.int c_m_states, .int c_m_letters, .ref h_m_moves, .ref h_m_lights, .ref h_m_prices, .ref h_m_shares])), (h_m_shares, .inl (g.2.1, 4, .inl c_m_shares))]
def J_X0_spread_175 (R_125 : Int32 → (Nat → Int64) → (Nat → Int64) → Prop) (x2 : Int32) (c_now : Nat → Int64) (c_next : Nat → Int64) : Prop :=
    R_125 (x2 + (nI 1)) c_now c_next
def L_X0_spread_125 (c_search_size : Int32) (c_search_queue : Nat → Int32) (Q : (Nat → Int64) → (Nat → Int64) → Prop) : Nat → Int32 → (Nat → Int64) → (Nat → Int64) → Prop
  | 0, _, _, _ => False
  | n_125 + 1, x2, c_now, c_next =>
    ((c_search_size ≤ x2 → Q c_now c_next) ∧ (¬ c_search_size ≤ x2 → wp_X7_found c_search_size c_search_queue x2 (fun r6 => ((r6 < (nI 0) → J_X0_spread_175 (L_X0_spread_125 c_search_size c_search_queue Q n_125) x2 c_now c_next) ∧ (¬ r6 < (nI 0) → (((nI 4096) ≤ r6 → J_X0_spread_175 (L_X0_spread_125 c_search_size c_search_queue Q n_125) x2 c_now c_next) ∧ (¬ (nI 4096) ≤ r6 → vp_in r6 4096 ∧ vp_in r6 4096 ∧ vp_in r6 4096 ∧ J_X0_spread_175 (L_X0_spread_125 c_search_size c_search_queue Q n_125) x2 (vp_updL c_now (Int32.toNatClampNeg r6) (c_next (Int32.toNatClampNeg r6))) (vp_updL c_next (Int32.toNatClampNeg r6) (lN 0)))))))))
def J_X0_spread_123 (c_search_size : Int32) (c_search_queue : Nat → Int32) (Q : (Nat → Int64) → (Nat → Int64) → Prop) (c_now : Nat → Int64) (c_next : Nat → Int64) : Prop :=
    ∃ n, L_X0_spread_125 c_search_size c_search_queue Q n (nI 0) c_now c_next
def J_X0_spread_117 (R_2 : Int32 → (Nat → Int64) → Prop) (x2 : Int32) (c_next : Nat → Int64) : Prop :=
    R_2 (x2 + (nI 1)) c_next
def J_X0_spread_111 (R_50 : Int32 → (Nat → Int64) → Prop) (x4 : Int32) (c_next : Nat → Int64) : Prop :=
    R_50 (x4 + (nI 1)) c_next
def L_X0_spread_50 (c_steps_letters : Int32) (c_steps_low : Nat → Int32) (c_steps_high : Nat → Int32) (c_now : Nat → Int64) (c_m_states : Int32) (c_m_letters : Int32) (c_m_shares : Nat → Int32) (x2 : Int32) (x3 : Int32) (R_2 : Int32 → (Nat → Int64) → Prop) : Nat → Int32 → (Nat → Int64) → Prop
  | 0, _, _ => False
  | n_50 + 1, x4, c_next =>
    ((c_steps_letters ≤ x4 → J_X0_spread_117 R_2 x2 c_next) ∧ (¬ c_steps_letters ≤ x4 → wp_X8_after c_steps_letters c_steps_low c_steps_high x3 x4 (fun r12 => ((r12 ≤ (nI 0) → J_X0_spread_111 (L_X0_spread_50 c_steps_letters c_steps_low c_steps_high c_now c_m_states c_m_letters c_m_shares x2 x3 R_2 n_50) x4 c_next) ∧ (¬ r12 ≤ (nI 0) → (((nI 4096) ≤ r12 → J_X0_spread_111 (L_X0_spread_50 c_steps_letters c_steps_low c_steps_high c_now c_m_states c_m_letters c_m_shares x2 x3 R_2 n_50) x4 c_next) ∧ (¬ (nI 4096) ≤ r12 → vp_in r12 4096 ∧ vp_in x3 4096 ∧ wp_X4_shareOf c_m_states c_m_letters c_m_shares x4 (fun r14 => vp_in r12 4096 ∧ J_X0_spread_111 (L_X0_spread_50 c_steps_letters c_steps_low c_steps_high c_now c_m_states c_m_letters c_m_shares x2 x3 R_2 n_50) x4 (vp_updL c_next (Int32.toNatClampNeg r12) ((c_next (Int32.toNatClampNeg r12)) + ((c_now (Int32.toNatClampNeg x3)) * (Int32.toInt64 r14))))))))))))
def L_X0_spread_2 (c_steps_letters : Int32) (c_steps_low : Nat → Int32) (c_steps_high : Nat → Int32) (c_search_size : Int32) (c_search_queue : Nat → Int32) (c_now : Nat → Int64) (c_m_states : Int32) (c_m_letters : Int32) (c_m_shares : Nat → Int32) (Q : (Nat → Int64) → (Nat → Int64) → Prop) : Nat → Int32 → (Nat → Int64) → Prop
  | 0, _, _ => False
  | n_2 + 1, x2, c_next =>
    ((c_search_size ≤ x2 → J_X0_spread_123 c_search_size c_search_queue Q c_now c_next) ∧ (¬ c_search_size ≤ x2 → wp_X7_found c_search_size c_search_queue x2 (fun r8 => ((r8 < (nI 0) → J_X0_spread_117 (L_X0_spread_2 c_steps_letters c_steps_low c_steps_high c_search_size c_search_queue c_now c_m_states c_m_letters c_m_shares Q n_2) x2 c_next) ∧ (¬ r8 < (nI 0) → (((nI 4096) ≤ r8 → J_X0_spread_117 (L_X0_spread_2 c_steps_letters c_steps_low c_steps_high c_search_size c_search_queue c_now c_m_states c_m_letters c_m_shares Q n_2) x2 c_next) ∧ (¬ (nI 4096) ≤ r8 → vp_in r8 4096 ∧ ((¬ (lg_cmp (c_now (Int32.toNatClampNeg r8)) (lN 0)) = (nI 0) → ∃ n, L_X0_spread_50 c_steps_letters c_steps_low c_steps_high c_now c_m_states c_m_letters c_m_shares x2 r8 (L_X0_spread_2 c_steps_letters c_steps_low c_steps_high c_search_size c_search_queue c_now c_m_states c_m_letters c_m_shares Q n_2) n (nI 0) c_next) ∧ ((lg_cmp (c_now (Int32.toNatClampNeg r8)) (lN 0)) = (nI 0) → J_X0_spread_117 (L_X0_spread_2 c_steps_letters c_steps_low c_steps_high c_search_size c_search_queue c_now c_m_states c_m_letters c_m_shares Q n_2) x2 c_next)))))))))
def wp_X0_spread (c_steps_letters : Int32) (c_steps_low : Nat → Int32) (c_steps_high : Nat → Int32) (c_search_size : Int32) (c_search_queue : Nat → Int32) (c_now : Nat → Int64) (c_next : Nat → Int64) (c_m_states : Int32) (c_m_letters : Int32) (c_m_shares : Nat → Int32) (Q : (Nat → Int64) → (Nat → Int64) → Prop) : Prop :=
    ∃ n, L_X0_spread_2 c_steps_letters c_steps_low c_steps_high c_search_size c_search_queue c_now c_m_states c_m_letters c_m_shares Q n (nI 0) c_next
abbrev rm_X0_spread : Room := { frames := 2, cells := 0, slots := 0, locals := 42 }
set_option maxHeartbeats 4000000 in
set_option maxRecDepth 100000 in
theorem k_X0_spread (l : Launch) (g : GG) (h_this : Nat) (h_m : Nat) (h_this_steps : Nat) (h_this_search : Nat) (h_this_now : Nat) (h_this_next : Nat) (h_this_steps_low : Nat) (h_this_steps_high : Nat) (h_this_search_trail : Nat) (h_this_search_queue : Nat) (h_m_moves : Nat) (h_m_lights : Nat) (h_m_prices : Nat) (h_m_shares : Nat) {c_steps_letters : Int32} {c_steps_low : Nat → Int32} {c_steps_high : Nat → Int32} {c_search_size : Int32} {c_search_queue : Nat → Int32} {c_now : Nat → Int64} {c_next : Nat → Int64} {c_m_states : Int32} {c_m_letters : Int32} {c_m_shares : Nat → Int32} {Q : (Nat → Int64) → (Nat → Int64) → Prop} (h : wp_X0_spread c_steps_letters c_steps_low c_steps_high c_search_size c_search_queue c_now c_next c_m_states c_m_letters c_m_shares Q) : CV l g yX0_spread wsX0_spread rm_X0_spread [.ref h_this, .ref h_m] (cw_X0_spread g h_this h_m h_this_steps h_this_search h_this_now h_this_next h_this_steps_low h_this_steps_high h_this_search_trail h_this_search_queue h_m_moves h_m_lights h_m_prices h_m_shares c_steps_letters c_steps_low c_steps_high c_search_size c_search_queue c_now c_next c_m_states c_m_letters c_m_shares) (S := (Nat → Int64) × (Nat → Int64)) (fun u => (cw_X0_spread g h_this h_m h_this_steps h_this_search h_this_now h_this_next h_this_steps_low h_this_steps_high h_this_search_trail h_this_search_queue h_m_moves h_m_lights h_m_prices h_m_shares c_steps_letters c_steps_low c_steps_high c_search_size c_search_queue u.1 u.2 c_m_states c_m_letters c_m_shares)) (fun u => Q u.1 u.2) 0 0 := by
  refine mk_V (cc := cX0_spread) (maxL := 6) (own := RX0) (by decide) rfl rfl (Nat.le_of_ble_eq_true rfl) ?_
  intro p e s m args below meth c A QQ E hret hP hD hS ls hl
  have E2 := E
  obtain ⟨hx, hb, hr, hml, hown, hts, hlocks, hA, hZ, hK, hnm⟩ := E2
  have f22 := hts (.fieldLink RX0 22 "WordBench$Chances" "search" "LWordBench$SetSearch;") (by decide +kernel)
  have f9 := hts (.fieldLink RX0 9 "WordBench$Chances" "now" "[J") (by decide +kernel)
  have f15 := hts (.fieldLink RX0 15 "WordBench$Chances" "next" "[J") (by decide +kernel)
  have f18 := hts (.fieldLink RX0 18 "WordBench$Chances" "steps" "LWordBench$Steps;") (by decide +kernel)
  have iX0 : ∀ w ∈ wsX00, w ∈ wsX0_spread := fun _ h => List.mem_cons_of_mem _ (List.mem_append_left _ (List.mem_append_left _ (List.mem_append_left _ (List.mem_append_right _ h))))
  have hP : va_P g.1 vwCl (cw_X0_spread g h_this h_m h_this_steps h_this_search h_this_now h_this_next h_this_steps_low h_this_steps_high h_this_search_trail h_this_search_queue h_m_moves h_m_lights h_m_prices h_m_shares c_steps_letters c_steps_low c_steps_high c_search_size c_search_queue c_now c_next c_m_states c_m_letters c_m_shares) s.heap := hP
  have hD : va_D A (cw_X0_spread g h_this h_m h_this_steps h_this_search h_this_now h_this_next h_this_steps_low h_this_steps_high h_this_search_trail h_this_search_queue h_m_moves h_m_lights h_m_prices h_m_shares c_steps_letters c_steps_low c_steps_high c_search_size c_search_queue c_now c_next c_m_states c_m_letters c_m_shares) := hD
  have hl : lv_has ls 6 [(0, .ref h_this), (1, .ref h_m)] := hl
  unfold wp_X0_spread at h
  have K_125 : ∀ (n_125 : Nat) (x2 : Int32) (c_now : Nat → Int64) (c_next : Nat → Int64) , L_X0_spread_125 c_search_size c_search_queue Q n_125 x2 c_now c_next → ∀ (H : Heap) (locs : List Loc), va_P g.1 vwCl (cw_X0_spread g h_this h_m h_this_steps h_this_search h_this_now h_this_next h_this_steps_low h_this_steps_high h_this_search_trail h_this_search_queue h_m_moves h_m_lights h_m_prices h_m_shares c_steps_letters c_steps_low c_steps_high c_search_size c_search_queue c_now c_next c_m_states c_m_letters c_m_shares) H → va_D A (cw_X0_spread g h_this h_m h_this_steps h_this_search h_this_now h_this_next h_this_steps_low h_this_steps_high h_this_search_trail h_this_search_queue h_m_moves h_m_lights h_m_prices h_m_shares c_steps_letters c_steps_low c_steps_high c_search_size c_search_queue c_now c_next c_m_states c_m_letters c_m_shares) → va_S A s.heap H locs → ∀ ls : Array Slot, lv_has ls 6 [(0, .ref h_this), (2, .int x2)] → W p l e rm_X0_spread s m args below meth c H locs 0 0 QQ (F0 m 125 ls []) := by
    intro n_125
    induction n_125 with
    | zero => intro x2 c_now c_next; exact fun h => False.elim h
    | succ n_125 ih_125 =>
      intro x2 c_now c_next h H locs hP hD hS ls hl
      unfold L_X0_spread_125 at h
      have K_175 : ∀ (x2 : Int32) (c_now : Nat → Int64) (c_next : Nat → Int64) , J_X0_spread_175 (L_X0_spread_125 c_search_size c_search_queue Q n_125) x2 c_now c_next → ∀ (H : Heap) (locs : List Loc), va_P g.1 vwCl (cw_X0_spread g h_this h_m h_this_steps h_this_search h_this_now h_this_next h_this_steps_low h_this_steps_high h_this_search_trail h_this_search_queue h_m_moves h_m_lights h_m_prices h_m_shares c_steps_letters c_steps_low c_steps_high c_search_size c_search_queue c_now c_next c_m_states c_m_letters c_m_shares) H → va_D A (cw_X0_spread g h_this h_m h_this_steps h_this_search h_this_now h_this_next h_this_steps_low h_this_steps_high h_this_search_trail h_this_search_queue h_m_moves h_m_lights h_m_prices h_m_shares c_steps_letters c_steps_low c_steps_high c_search_size c_search_queue c_now c_next c_m_states c_m_letters c_m_shares) → va_S A s.heap H locs → ∀ ls : Array Slot, lv_has ls 6 [(0, .ref h_this), (2, .int x2)] → W p l e rm_X0_spread s m args below meth c H locs 0 0 QQ (F0 m 175 ls []) := by
        intro x2 c_now c_next h H locs hP hD hS ls hl
        unfold J_X0_spread_175 at h
        refine lv_iinc (v := (x2 + (nI 1))) (lv' := [(2, .int (x2 + (nI 1))), (0, .ref h_this)]) hx hb dX0_spread_175 hl (k := 1) rfl rfl (by decide) rfl (fun ls hl => ?_)
        refine lv_goto (tgt := 125) hx hb dX0_spread_178 (by decide) ?_
        exact ih_125 (x2 + (nI 1)) c_now c_next h _ _ hP hD hS _ (lv_sub hl [1, 0] rfl)
      refine lv_iload_n hx hb dX0_spread_125 rfl (lv_at hl 1 rfl) ?_
      refine lv_aload_n hx hb dX0_spread_126 rfl (lv_at hl 0 rfl) ?_
      refine va_get (D := g.1) (ci := 0) (v := .ref h_this_search) (C := RX0) (T := TX0) (N := 4) hx hb hts iX0 hown hK hP 0 rfl rfl 1 (by decide) f22 (fun _ h9 => h9) rfl dX0_spread_127 ?_
      refine go_I E (run_V E ((k_X7_size l g h_this_search h_this_steps h_this_search_trail h_this_search_queue (Q := fun r => r = c_search_size) rfl) _) (cwV 0 hts gX0_spread_X7_size rfl rfl rfl (by decide +kernel) ⟨Nat.le_of_ble_eq_true rfl, Nat.le_of_ble_eq_true rfl⟩) hP hD hS [4] rfl rfl 0 6 rfl rfl rfl hl rfl rfl (Nat.le_of_ble_eq_true rfl) dX0_spread_130 ⟨Nat.le_of_ble_eq_true rfl, Nat.le_of_ble_eq_true rfl⟩) hP hD hS [4] rfl [(true, 0), (true, 1), (true, 2), (true, 3), (false, 0), (true, 5), (true, 6), (true, 7), (true, 8), (true, 9)] rfl (by decide) (fun _ => (cw_X0_spread g h_this h_m h_this_steps h_this_search h_this_now h_this_next h_this_steps_low h_this_steps_high h_this_search_trail h_this_search_queue h_m_moves h_m_lights h_m_prices h_m_shares c_steps_letters c_steps_low c_steps_high c_search_size c_search_queue c_now c_next c_m_states c_m_letters c_m_shares)) (fun _ => rfl) (fun r4 _ H locs hr_ hP hD hS => ?_)
      have hr_ : c_search_size = r4 := Eq.symm hr_
      subst hr_
      have hP : va_P g.1 vwCl (cw_X0_spread g h_this h_m h_this_steps h_this_search h_this_now h_this_next h_this_steps_low h_this_steps_high h_this_search_trail h_this_search_queue h_m_moves h_m_lights h_m_prices h_m_shares c_steps_letters c_steps_low c_steps_high c_search_size c_search_queue c_now c_next c_m_states c_m_letters c_m_shares) H := hP
      have hD : va_D A (cw_X0_spread g h_this h_m h_this_steps h_this_search h_this_now h_this_next h_this_steps_low h_this_steps_high h_this_search_trail h_this_search_queue h_m_moves h_m_lights h_m_prices h_m_shares c_steps_letters c_steps_low c_steps_high c_search_size c_search_queue c_now c_next c_m_states c_m_letters c_m_shares) := hD
      refine lv_icmp_ge (tgt := 181) hx hb dX0_spread_133 (by decide) (fun cq => ?_) (fun cq => ?_)
      · replace h := h.1 cq
        exact hret (c_now, c_next) _ _ _ _ h hP hD hS dX0_spread_181
      · replace h := h.2 cq
        refine lv_aload_n hx hb dX0_spread_136 rfl (lv_at hl 0 rfl) ?_
        refine va_get (D := g.1) (ci := 0) (v := .ref h_this_search) (C := RX0) (T := TX0) (N := 4) hx hb hts iX0 hown hK hP 0 rfl rfl 1 (by decide) f22 (fun _ h9 => h9) rfl dX0_spread_137 ?_
        refine lv_iload_n hx hb dX0_spread_140 rfl (lv_at hl 1 rfl) ?_
        refine go_I E (run_V E ((k_X7_found l g h_this_search h_this_steps h_this_search_trail h_this_search_queue h) _) (cwV 1 hts gX0_spread_X7_found rfl rfl rfl (by decide +kernel) ⟨Nat.le_of_ble_eq_true rfl, Nat.le_of_ble_eq_true rfl⟩) hP hD hS [4, 5] rfl rfl 0 6 rfl rfl rfl hl rfl rfl (Nat.le_of_ble_eq_true rfl) dX0_spread_141 ⟨Nat.le_of_ble_eq_true rfl, Nat.le_of_ble_eq_true rfl⟩) hP hD hS [4, 5] rfl [(true, 0), (true, 1), (true, 2), (true, 3), (false, 0), (false, 1), (true, 6), (true, 7), (true, 8), (true, 9)] rfl (by decide) (fun _ => (cw_X0_spread g h_this h_m h_this_steps h_this_search h_this_now h_this_next h_this_steps_low h_this_steps_high h_this_search_trail h_this_search_queue h_m_moves h_m_lights h_m_prices h_m_shares c_steps_letters c_steps_low c_steps_high c_search_size c_search_queue c_now c_next c_m_states c_m_letters c_m_shares)) (fun _ => rfl) (fun r6 _ H locs h hP hD hS => ?_)
        try dsimp only at h
        have hP : va_P g.1 vwCl (cw_X0_spread g h_this h_m h_this_steps h_this_search h_this_now h_this_next h_this_steps_low h_this_steps_high h_this_search_trail h_this_search_queue h_m_moves h_m_lights h_m_prices h_m_shares c_steps_letters c_steps_low c_steps_high c_search_size c_search_queue c_now c_next c_m_states c_m_letters c_m_shares) H := hP
        have hD : va_D A (cw_X0_spread g h_this h_m h_this_steps h_this_search h_this_now h_this_next h_this_steps_low h_this_steps_high h_this_search_trail h_this_search_queue h_m_moves h_m_lights h_m_prices h_m_shares c_steps_letters c_steps_low c_steps_high c_search_size c_search_queue c_now c_next c_m_states c_m_letters c_m_shares) := hD
        refine lv_istore_n (lv' := [(3, .int r6), (0, .ref h_this), (2, .int x2)]) hx hb dX0_spread_144 rfl hl (by decide) rfl (fun ls hl => ?_)
        refine lv_iload_n hx hb dX0_spread_145 rfl (lv_at hl 0 rfl) ?_
        refine lv_if_lt (tgt := 175) hx hb dX0_spread_146 (by decide) (fun cq => ?_) (fun cq => ?_)
        · replace h := h.1 cq
          exact K_175 x2 c_now c_next h _ _ hP hD hS _ (lv_sub hl [1, 2] rfl)
        · replace h := h.2 cq
          refine lv_iload_n hx hb dX0_spread_149 rfl (lv_at hl 0 rfl) ?_
          refine lv_sipush (v := (nI 4096)) hx hb dX0_spread_150 (by decide) ?_
          refine lv_icmp_ge (tgt := 175) hx hb dX0_spread_153 (by decide) (fun cq => ?_) (fun cq => ?_)
          · replace h := h.1 cq
            exact K_175 x2 c_now c_next h _ _ hP hD hS _ (lv_sub hl [1, 2] rfl)
          · replace h := h.2 cq
            refine lv_aload_n hx hb dX0_spread_156 rfl (lv_at hl 1 rfl) ?_
            refine va_get (D := g.1) (ci := 0) (v := .ref h_this_now) (C := RX0) (T := TX0) (N := 4) hx hb hts iX0 hown hK hP 0 rfl rfl 2 (by decide) f9 (fun _ h9 => h9) rfl dX0_spread_157 ?_
            refine lv_iload_n hx hb dX0_spread_160 rfl (lv_at hl 0 rfl) ?_
            refine lv_aload_n hx hb dX0_spread_161 rfl (lv_at hl 1 rfl) ?_
            refine va_get (D := g.1) (ci := 0) (v := .ref h_this_next) (C := RX0) (T := TX0) (N := 4) hx hb hts iX0 hown hK hP 0 rfl rfl 3 (by decide) f15 (fun _ h9 => h9) rfl dX0_spread_162 ?_
            refine lv_iload_n hx hb dX0_spread_165 rfl (lv_at hl 0 rfl) ?_
            obtain ⟨hi, h⟩ := h
            refine va_lald (D := g.1) (n := 4096) (f := c_next) hx hb hK hP 7 1 rfl rfl hi dX0_spread_166 ?_
            obtain ⟨hi, h⟩ := h
            refine va_last (D := g.1) (n := 4096) (f := c_now) hx hb hK hP hD hS 6 1 rfl rfl hi dX0_spread_167 (fun H locs hP hD hS => ?_)
            have hP : va_P g.1 vwCl (cw_X0_spread g h_this h_m h_this_steps h_this_search h_this_now h_this_next h_this_steps_low h_this_steps_high h_this_search_trail h_this_search_queue h_m_moves h_m_lights h_m_prices h_m_shares c_steps_letters c_steps_low c_steps_high c_search_size c_search_queue (vp_updL c_now (Int32.toNatClampNeg r6) (c_next (Int32.toNatClampNeg r6))) c_next c_m_states c_m_letters c_m_shares) H := hP
            have hD : va_D A (cw_X0_spread g h_this h_m h_this_steps h_this_search h_this_now h_this_next h_this_steps_low h_this_steps_high h_this_search_trail h_this_search_queue h_m_moves h_m_lights h_m_prices h_m_shares c_steps_letters c_steps_low c_steps_high c_search_size c_search_queue (vp_updL c_now (Int32.toNatClampNeg r6) (c_next (Int32.toNatClampNeg r6))) c_next c_m_states c_m_letters c_m_shares) := hD
            refine lv_aload_n hx hb dX0_spread_168 rfl (lv_at hl 1 rfl) ?_
            refine va_get (D := g.1) (ci := 0) (v := .ref h_this_next) (C := RX0) (T := TX0) (N := 4) hx hb hts iX0 hown hK hP 0 rfl rfl 3 (by decide) f15 (fun _ h9 => h9) rfl dX0_spread_169 ?_
            refine lv_iload_n hx hb dX0_spread_172 rfl (lv_at hl 0 rfl) ?_
            refine lv_lconst (v := lN 0) hx hb dX0_spread_173 (by decide) ?_
            obtain ⟨hi, h⟩ := h
            refine va_last (D := g.1) (n := 4096) (f := c_next) hx hb hK hP hD hS 7 1 rfl rfl hi dX0_spread_174 (fun H locs hP hD hS => ?_)
            have hP : va_P g.1 vwCl (cw_X0_spread g h_this h_m h_this_steps h_this_search h_this_now h_this_next h_this_steps_low h_this_steps_high h_this_search_trail h_this_search_queue h_m_moves h_m_lights h_m_prices h_m_shares c_steps_letters c_steps_low c_steps_high c_search_size c_search_queue (vp_updL c_now (Int32.toNatClampNeg r6) (c_next (Int32.toNatClampNeg r6))) (vp_updL c_next (Int32.toNatClampNeg r6) (lN 0)) c_m_states c_m_letters c_m_shares) H := hP
            have hD : va_D A (cw_X0_spread g h_this h_m h_this_steps h_this_search h_this_now h_this_next h_this_steps_low h_this_steps_high h_this_search_trail h_this_search_queue h_m_moves h_m_lights h_m_prices h_m_shares c_steps_letters c_steps_low c_steps_high c_search_size c_search_queue (vp_updL c_now (Int32.toNatClampNeg r6) (c_next (Int32.toNatClampNeg r6))) (vp_updL c_next (Int32.toNatClampNeg r6) (lN 0)) c_m_states c_m_letters c_m_shares) := hD
            exact K_175 x2 (vp_updL c_now (Int32.toNatClampNeg r6) (c_next (Int32.toNatClampNeg r6))) (vp_updL c_next (Int32.toNatClampNeg r6) (lN 0)) h _ _ hP hD hS _ (lv_sub hl [1, 2] rfl)
  have K_123 : ∀ (c_now : Nat → Int64) (c_next : Nat → Int64) , J_X0_spread_123 c_search_size c_search_queue Q c_now c_next → ∀ (H : Heap) (locs : List Loc), va_P g.1 vwCl (cw_X0_spread g h_this h_m h_this_steps h_this_search h_this_now h_this_next h_this_steps_low h_this_steps_high h_this_search_trail h_this_search_queue h_m_moves h_m_lights h_m_prices h_m_shares c_steps_letters c_steps_low c_steps_high c_search_size c_search_queue c_now c_next c_m_states c_m_letters c_m_shares) H → va_D A (cw_X0_spread g h_this h_m h_this_steps h_this_search h_this_now h_this_next h_this_steps_low h_this_steps_high h_this_search_trail h_this_search_queue h_m_moves h_m_lights h_m_prices h_m_shares c_steps_letters c_steps_low c_steps_high c_search_size c_search_queue c_now c_next c_m_states c_m_letters c_m_shares) → va_S A s.heap H locs → ∀ ls : Array Slot, lv_has ls 6 [(0, .ref h_this)] → W p l e rm_X0_spread s m args below meth c H locs 0 0 QQ (F0 m 123 ls []) := by
    intro c_now c_next h H locs hP hD hS ls hl
    unfold J_X0_spread_123 at h
    refine lv_iconst (v := (nI 0)) hx hb dX0_spread_123 (by decide) ?_
    refine lv_istore_n (lv' := [(2, .int (nI 0)), (0, .ref h_this)]) hx hb dX0_spread_124 rfl hl (by decide) rfl (fun ls hl => ?_)
    obtain ⟨n, h⟩ := h
    exact K_125 n (nI 0) c_now c_next h _ _ hP hD hS _ (lv_sub hl [1, 0] rfl)
  have K_2 : ∀ (c_now : Nat → Int64) (n_2 : Nat) (x2 : Int32) (c_next : Nat → Int64) , L_X0_spread_2 c_steps_letters c_steps_low c_steps_high c_search_size c_search_queue c_now c_m_states c_m_letters c_m_shares Q n_2 x2 c_next → ∀ (H : Heap) (locs : List Loc), va_P g.1 vwCl (cw_X0_spread g h_this h_m h_this_steps h_this_search h_this_now h_this_next h_this_steps_low h_this_steps_high h_this_search_trail h_this_search_queue h_m_moves h_m_lights h_m_prices h_m_shares c_steps_letters c_steps_low c_steps_high c_search_size c_search_queue c_now c_next c_m_states c_m_letters c_m_shares) H → va_D A (cw_X0_spread g h_this h_m h_this_steps h_this_search h_this_now h_this_next h_this_steps_low h_this_steps_high h_this_search_trail h_this_search_queue h_m_moves h_m_lights h_m_prices h_m_shares c_steps_letters c_steps_low c_steps_high c_search_size c_search_queue c_now c_next c_m_states c_m_letters c_m_shares) → va_S A s.heap H locs → ∀ ls : Array Slot, lv_has ls 6 [(0, .ref h_this), (1, .ref h_m), (2, .int x2)] → W p l e rm_X0_spread s m args below meth c H locs 0 0 QQ (F0 m 2 ls []) := by
    intro c_now n_2
    induction n_2 with
    | zero => intro x2 c_next; exact fun h => False.elim h
    | succ n_2 ih_2 =>
      intro x2 c_next h H locs hP hD hS ls hl
      unfold L_X0_spread_2 at h
      have K_117 : ∀ (x2 : Int32) (c_next : Nat → Int64) , J_X0_spread_117 (L_X0_spread_2 c_steps_letters c_steps_low c_steps_high c_search_size c_search_queue c_now c_m_states c_m_letters c_m_shares Q n_2) x2 c_next → ∀ (H : Heap) (locs : List Loc), va_P g.1 vwCl (cw_X0_spread g h_this h_m h_this_steps h_this_search h_this_now h_this_next h_this_steps_low h_this_steps_high h_this_search_trail h_this_search_queue h_m_moves h_m_lights h_m_prices h_m_shares c_steps_letters c_steps_low c_steps_high c_search_size c_search_queue c_now c_next c_m_states c_m_letters c_m_shares) H → va_D A (cw_X0_spread g h_this h_m h_this_steps h_this_search h_this_now h_this_next h_this_steps_low h_this_steps_high h_this_search_trail h_this_search_queue h_m_moves h_m_lights h_m_prices h_m_shares c_steps_letters c_steps_low c_steps_high c_search_size c_search_queue c_now c_next c_m_states c_m_letters c_m_shares) → va_S A s.heap H locs → ∀ ls : Array Slot, lv_has ls 6 [(0, .ref h_this), (1, .ref h_m), (2, .int x2)] → W p l e rm_X0_spread s m args below meth c H locs 0 0 QQ (F0 m 117 ls []) := by
        intro x2 c_next h H locs hP hD hS ls hl
        unfold J_X0_spread_117 at h
        refine lv_iinc (v := (x2 + (nI 1))) (lv' := [(2, .int (x2 + (nI 1))), (0, .ref h_this), (1, .ref h_m)]) hx hb dX0_spread_117 hl (k := 2) rfl rfl (by decide) rfl (fun ls hl => ?_)
        refine lv_goto (tgt := 2) hx hb dX0_spread_120 (by decide) ?_
        exact ih_2 (x2 + (nI 1)) c_next h _ _ hP hD hS _ (lv_sub hl [1, 2, 0] rfl)
      have K_50 : ∀ (x2 : Int32) (x3 : Int32) (n_50 : Nat) (x4 : Int32) (c_next : Nat → Int64) , L_X0_spread_50 c_steps_letters c_steps_low c_steps_high c_now c_m_states c_m_letters c_m_shares x2 x3 (L_X0_spread_2 c_steps_letters c_steps_low c_steps_high c_search_size c_search_queue c_now c_m_states c_m_letters c_m_shares Q n_2) n_50 x4 c_next → ∀ (H : Heap) (locs : List Loc), va_P g.1 vwCl (cw_X0_spread g h_this h_m h_this_steps h_this_search h_this_now h_this_next h_this_steps_low h_this_steps_high h_this_search_trail h_this_search_queue h_m_moves h_m_lights h_m_prices h_m_shares c_steps_letters c_steps_low c_steps_high c_search_size c_search_queue c_now c_next c_m_states c_m_letters c_m_shares) H → va_D A (cw_X0_spread g h_this h_m h_this_steps h_this_search h_this_now h_this_next h_this_steps_low h_this_steps_high h_this_search_trail h_this_search_queue h_m_moves h_m_lights h_m_prices h_m_shares c_steps_letters c_steps_low c_steps_high c_search_size c_search_queue c_now c_next c_m_states c_m_letters c_m_shares) → va_S A s.heap H locs → ∀ ls : Array Slot, lv_has ls 6 [(0, .ref h_this), (1, .ref h_m), (2, .int x2), (3, .int x3), (4, .int x4)] → W p l e rm_X0_spread s m args below meth c H locs 0 0 QQ (F0 m 50 ls []) := by
        intro x2 x3 n_50
        induction n_50 with
        | zero => intro x4 c_next; exact fun h => False.elim h
        | succ n_50 ih_50 =>
          intro x4 c_next h H locs hP hD hS ls hl
          unfold L_X0_spread_50 at h
          have K_111 : ∀ (x4 : Int32) (c_next : Nat → Int64) , J_X0_spread_111 (L_X0_spread_50 c_steps_letters c_steps_low c_steps_high c_now c_m_states c_m_letters c_m_shares x2 x3 (L_X0_spread_2 c_steps_letters c_steps_low c_steps_high c_search_size c_search_queue c_now c_m_states c_m_letters c_m_shares Q n_2) n_50) x4 c_next → ∀ (H : Heap) (locs : List Loc), va_P g.1 vwCl (cw_X0_spread g h_this h_m h_this_steps h_this_search h_this_now h_this_next h_this_steps_low h_this_steps_high h_this_search_trail h_this_search_queue h_m_moves h_m_lights h_m_prices h_m_shares c_steps_letters c_steps_low c_steps_high c_search_size c_search_queue c_now c_next c_m_states c_m_letters c_m_shares) H → va_D A (cw_X0_spread g h_this h_m h_this_steps h_this_search h_this_now h_this_next h_this_steps_low h_this_steps_high h_this_search_trail h_this_search_queue h_m_moves h_m_lights h_m_prices h_m_shares c_steps_letters c_steps_low c_steps_high c_search_size c_search_queue c_now c_next c_m_states c_m_letters c_m_shares) → va_S A s.heap H locs → ∀ ls : Array Slot, lv_has ls 6 [(0, .ref h_this), (1, .ref h_m), (2, .int x2), (3, .int x3), (4, .int x4)] → W p l e rm_X0_spread s m args below meth c H locs 0 0 QQ (F0 m 111 ls []) := by
            intro x4 c_next h H locs hP hD hS ls hl
            unfold J_X0_spread_111 at h
            refine lv_iinc (v := (x4 + (nI 1))) (lv' := [(4, .int (x4 + (nI 1))), (0, .ref h_this), (1, .ref h_m), (2, .int x2), (3, .int x3)]) hx hb dX0_spread_111 hl (k := 4) rfl rfl (by decide) rfl (fun ls hl => ?_)
            refine lv_goto (tgt := 50) hx hb dX0_spread_114 (by decide) ?_
            exact ih_50 (x4 + (nI 1)) c_next h _ _ hP hD hS _ (lv_sub hl [1, 2, 3, 4, 0] rfl)
          refine lv_iload hx hb dX0_spread_50 (lv_at hl 4 rfl) ?_
          refine lv_aload_n hx hb dX0_spread_52 rfl (lv_at hl 0 rfl) ?_
          refine va_get (D := g.1) (ci := 0) (v := .ref h_this_steps) (C := RX0) (T := TX0) (N := 4) hx hb hts iX0 hown hK hP 0 rfl rfl 0 (by decide) f18 (fun _ h9 => h9) rfl dX0_spread_53 ?_
          refine go_I E (run_V E ((k_X8_letters l g h_this_steps h_this_steps_low h_this_steps_high (Q := fun r => r = c_steps_letters) rfl) _) (cwV 0 hts gX0_spread_X8_letters rfl rfl rfl (by decide +kernel) ⟨Nat.le_of_ble_eq_true rfl, Nat.le_of_ble_eq_true rfl⟩) hP hD hS [1] rfl rfl 0 7 rfl rfl rfl hl rfl rfl (Nat.le_of_ble_eq_true rfl) dX0_spread_56 ⟨Nat.le_of_ble_eq_true rfl, Nat.le_of_ble_eq_true rfl⟩) hP hD hS [1] rfl [(true, 0), (false, 0), (true, 2), (true, 3), (true, 4), (true, 5), (true, 6), (true, 7), (true, 8), (true, 9)] rfl (by decide) (fun _ => (cw_X0_spread g h_this h_m h_this_steps h_this_search h_this_now h_this_next h_this_steps_low h_this_steps_high h_this_search_trail h_this_search_queue h_m_moves h_m_lights h_m_prices h_m_shares c_steps_letters c_steps_low c_steps_high c_search_size c_search_queue c_now c_next c_m_states c_m_letters c_m_shares)) (fun _ => rfl) (fun r10 _ H locs hr_ hP hD hS => ?_)
          have hr_ : c_steps_letters = r10 := Eq.symm hr_
          subst hr_
          have hP : va_P g.1 vwCl (cw_X0_spread g h_this h_m h_this_steps h_this_search h_this_now h_this_next h_this_steps_low h_this_steps_high h_this_search_trail h_this_search_queue h_m_moves h_m_lights h_m_prices h_m_shares c_steps_letters c_steps_low c_steps_high c_search_size c_search_queue c_now c_next c_m_states c_m_letters c_m_shares) H := hP
          have hD : va_D A (cw_X0_spread g h_this h_m h_this_steps h_this_search h_this_now h_this_next h_this_steps_low h_this_steps_high h_this_search_trail h_this_search_queue h_m_moves h_m_lights h_m_prices h_m_shares c_steps_letters c_steps_low c_steps_high c_search_size c_search_queue c_now c_next c_m_states c_m_letters c_m_shares) := hD
          refine lv_icmp_ge (tgt := 117) hx hb dX0_spread_59 (by decide) (fun cq => ?_) (fun cq => ?_)
          · replace h := h.1 cq
            exact K_117 x2 c_next h _ _ hP hD hS _ (lv_sub hl [0, 1, 2] rfl)
          · replace h := h.2 cq
            refine lv_aload_n hx hb dX0_spread_62 rfl (lv_at hl 0 rfl) ?_
            refine va_get (D := g.1) (ci := 0) (v := .ref h_this_steps) (C := RX0) (T := TX0) (N := 4) hx hb hts iX0 hown hK hP 0 rfl rfl 0 (by decide) f18 (fun _ h9 => h9) rfl dX0_spread_63 ?_
            refine lv_iload_n hx hb dX0_spread_66 rfl (lv_at hl 3 rfl) ?_
            refine lv_iload hx hb dX0_spread_67 (lv_at hl 4 rfl) ?_
            refine go_I E (run_V E ((k_X8_after l g h_this_steps h_this_steps_low h_this_steps_high h) _) (cwV 2 hts gX0_spread_X8_after rfl rfl rfl (by decide +kernel) ⟨Nat.le_of_ble_eq_true rfl, Nat.le_of_ble_eq_true rfl⟩) hP hD hS [1, 2, 3] rfl rfl 0 7 rfl rfl rfl hl rfl rfl (Nat.le_of_ble_eq_true rfl) dX0_spread_69 ⟨Nat.le_of_ble_eq_true rfl, Nat.le_of_ble_eq_true rfl⟩) hP hD hS [1, 2, 3] rfl [(true, 0), (false, 0), (false, 1), (false, 2), (true, 4), (true, 5), (true, 6), (true, 7), (true, 8), (true, 9)] rfl (by decide) (fun _ => (cw_X0_spread g h_this h_m h_this_steps h_this_search h_this_now h_this_next h_this_steps_low h_this_steps_high h_this_search_trail h_this_search_queue h_m_moves h_m_lights h_m_prices h_m_shares c_steps_letters c_steps_low c_steps_high c_search_size c_search_queue c_now c_next c_m_states c_m_letters c_m_shares)) (fun _ => rfl) (fun r12 _ H locs h hP hD hS => ?_)
            try dsimp only at h
            have hP : va_P g.1 vwCl (cw_X0_spread g h_this h_m h_this_steps h_this_search h_this_now h_this_next h_this_steps_low h_this_steps_high h_this_search_trail h_this_search_queue h_m_moves h_m_lights h_m_prices h_m_shares c_steps_letters c_steps_low c_steps_high c_search_size c_search_queue c_now c_next c_m_states c_m_letters c_m_shares) H := hP
            have hD : va_D A (cw_X0_spread g h_this h_m h_this_steps h_this_search h_this_now h_this_next h_this_steps_low h_this_steps_high h_this_search_trail h_this_search_queue h_m_moves h_m_lights h_m_prices h_m_shares c_steps_letters c_steps_low c_steps_high c_search_size c_search_queue c_now c_next c_m_states c_m_letters c_m_shares) := hD
            refine lv_istore (lv' := [(5, .int r12), (0, .ref h_this), (1, .ref h_m), (2, .int x2), (3, .int x3), (4, .int x4)]) hx hb dX0_spread_72 hl (by decide) rfl (fun ls hl => ?_)
            refine lv_iload hx hb dX0_spread_74 (lv_at hl 0 rfl) ?_
            refine lv_if_le (tgt := 111) hx hb dX0_spread_76 (by decide) (fun cq => ?_) (fun cq => ?_)
            · replace h := h.1 cq
              exact K_111 x4 c_next h _ _ hP hD hS _ (lv_sub hl [1, 2, 3, 4, 5] rfl)
            · replace h := h.2 cq
              refine lv_iload hx hb dX0_spread_79 (lv_at hl 0 rfl) ?_
              refine lv_sipush (v := (nI 4096)) hx hb dX0_spread_81 (by decide) ?_
              refine lv_icmp_ge (tgt := 111) hx hb dX0_spread_84 (by decide) (fun cq => ?_) (fun cq => ?_)
              · replace h := h.1 cq
                exact K_111 x4 c_next h _ _ hP hD hS _ (lv_sub hl [1, 2, 3, 4, 5] rfl)
              · replace h := h.2 cq
                refine lv_aload_n hx hb dX0_spread_87 rfl (lv_at hl 1 rfl) ?_
                refine va_get (D := g.1) (ci := 0) (v := .ref h_this_next) (C := RX0) (T := TX0) (N := 4) hx hb hts iX0 hown hK hP 0 rfl rfl 3 (by decide) f15 (fun _ h9 => h9) rfl dX0_spread_88 ?_
                refine lv_iload hx hb dX0_spread_91 (lv_at hl 0 rfl) ?_
                refine lv_dup2_11 hx hb dX0_spread_93 rfl rfl ?_
                obtain ⟨hi, h⟩ := h
                refine va_lald (D := g.1) (n := 4096) (f := c_next) hx hb hK hP 7 1 rfl rfl hi dX0_spread_94 ?_
                refine lv_aload_n hx hb dX0_spread_95 rfl (lv_at hl 1 rfl) ?_
                refine va_get (D := g.1) (ci := 0) (v := .ref h_this_now) (C := RX0) (T := TX0) (N := 4) hx hb hts iX0 hown hK hP 0 rfl rfl 2 (by decide) f9 (fun _ h9 => h9) rfl dX0_spread_96 ?_
                refine lv_iload_n hx hb dX0_spread_99 rfl (lv_at hl 4 rfl) ?_
                obtain ⟨hi, h⟩ := h
                refine va_lald (D := g.1) (n := 4096) (f := c_now) hx hb hK hP 6 1 rfl rfl hi dX0_spread_100 ?_
                refine lv_aload_n hx hb dX0_spread_101 rfl (lv_at hl 2 rfl) ?_
                refine lv_iload hx hb dX0_spread_102 (lv_at hl 5 rfl) ?_
                refine go_I E (run_V E ((k_X4_shareOf l g h_m h_m_moves h_m_lights h_m_prices h_m_shares h) _) (cwV 1 hts gX0_spread_X4_shareOf rfl rfl rfl (by decide +kernel) ⟨Nat.le_of_ble_eq_true rfl, Nat.le_of_ble_eq_true rfl⟩) hP hD hS [8, 9] rfl rfl 0 3 rfl rfl rfl hl rfl rfl (Nat.le_of_ble_eq_true rfl) dX0_spread_104 ⟨Nat.le_of_ble_eq_true rfl, Nat.le_of_ble_eq_true rfl⟩) hP hD hS [8, 9] rfl [(true, 0), (true, 1), (true, 2), (true, 3), (true, 4), (true, 5), (true, 6), (true, 7), (false, 0), (false, 1)] rfl (by decide) (fun _ => (cw_X0_spread g h_this h_m h_this_steps h_this_search h_this_now h_this_next h_this_steps_low h_this_steps_high h_this_search_trail h_this_search_queue h_m_moves h_m_lights h_m_prices h_m_shares c_steps_letters c_steps_low c_steps_high c_search_size c_search_queue c_now c_next c_m_states c_m_letters c_m_shares)) (fun _ => rfl) (fun r14 _ H locs h hP hD hS => ?_)
                try dsimp only at h
                have hP : va_P g.1 vwCl (cw_X0_spread g h_this h_m h_this_steps h_this_search h_this_now h_this_next h_this_steps_low h_this_steps_high h_this_search_trail h_this_search_queue h_m_moves h_m_lights h_m_prices h_m_shares c_steps_letters c_steps_low c_steps_high c_search_size c_search_queue c_now c_next c_m_states c_m_letters c_m_shares) H := hP
                have hD : va_D A (cw_X0_spread g h_this h_m h_this_steps h_this_search h_this_now h_this_next h_this_steps_low h_this_steps_high h_this_search_trail h_this_search_queue h_m_moves h_m_lights h_m_prices h_m_shares c_steps_letters c_steps_low c_steps_high c_search_size c_search_queue c_now c_next c_m_states c_m_letters c_m_shares) := hD
                refine lv_i2l (v := (Int32.toInt64 r14)) hx hb dX0_spread_107 rfl ?_
                refine lv_lmul hx hb dX0_spread_108 ?_
                refine lv_ladd hx hb dX0_spread_109 ?_
                obtain ⟨hi, h⟩ := h
                refine va_last (D := g.1) (n := 4096) (f := c_next) hx hb hK hP hD hS 7 1 rfl rfl hi dX0_spread_110 (fun H locs hP hD hS => ?_)
                have hP : va_P g.1 vwCl (cw_X0_spread g h_this h_m h_this_steps h_this_search h_this_now h_this_next h_this_steps_low h_this_steps_high h_this_search_trail h_this_search_queue h_m_moves h_m_lights h_m_prices h_m_shares c_steps_letters c_steps_low c_steps_high c_search_size c_search_queue c_now (vp_updL c_next (Int32.toNatClampNeg r12) ((c_next (Int32.toNatClampNeg r12)) + ((c_now (Int32.toNatClampNeg x3)) * (Int32.toInt64 r14)))) c_m_states c_m_letters c_m_shares) H := hP
                have hD : va_D A (cw_X0_spread g h_this h_m h_this_steps h_this_search h_this_now h_this_next h_this_steps_low h_this_steps_high h_this_search_trail h_this_search_queue h_m_moves h_m_lights h_m_prices h_m_shares c_steps_letters c_steps_low c_steps_high c_search_size c_search_queue c_now (vp_updL c_next (Int32.toNatClampNeg r12) ((c_next (Int32.toNatClampNeg r12)) + ((c_now (Int32.toNatClampNeg x3)) * (Int32.toInt64 r14)))) c_m_states c_m_letters c_m_shares) := hD
                exact K_111 x4 (vp_updL c_next (Int32.toNatClampNeg r12) ((c_next (Int32.toNatClampNeg r12)) + ((c_now (Int32.toNatClampNeg x3)) * (Int32.toInt64 r14)))) h _ _ hP hD hS _ (lv_sub hl [1, 2, 3, 4, 5] rfl)
      refine lv_iload_n hx hb dX0_spread_2 rfl (lv_at hl 2 rfl) ?_
      refine lv_aload_n hx hb dX0_spread_3 rfl (lv_at hl 0 rfl) ?_
      refine va_get (D := g.1) (ci := 0) (v := .ref h_this_search) (C := RX0) (T := TX0) (N := 4) hx hb hts iX0 hown hK hP 0 rfl rfl 1 (by decide) f22 (fun _ h9 => h9) rfl dX0_spread_4 ?_
      refine go_I E (run_V E ((k_X7_size l g h_this_search h_this_steps h_this_search_trail h_this_search_queue (Q := fun r => r = c_search_size) rfl) _) (cwV 0 hts gX0_spread_X7_size rfl rfl rfl (by decide +kernel) ⟨Nat.le_of_ble_eq_true rfl, Nat.le_of_ble_eq_true rfl⟩) hP hD hS [4] rfl rfl 0 6 rfl rfl rfl hl rfl rfl (Nat.le_of_ble_eq_true rfl) dX0_spread_7 ⟨Nat.le_of_ble_eq_true rfl, Nat.le_of_ble_eq_true rfl⟩) hP hD hS [4] rfl [(true, 0), (true, 1), (true, 2), (true, 3), (false, 0), (true, 5), (true, 6), (true, 7), (true, 8), (true, 9)] rfl (by decide) (fun _ => (cw_X0_spread g h_this h_m h_this_steps h_this_search h_this_now h_this_next h_this_steps_low h_this_steps_high h_this_search_trail h_this_search_queue h_m_moves h_m_lights h_m_prices h_m_shares c_steps_letters c_steps_low c_steps_high c_search_size c_search_queue c_now c_next c_m_states c_m_letters c_m_shares)) (fun _ => rfl) (fun r2 _ H locs hr_ hP hD hS => ?_)
      have hr_ : c_search_size = r2 := Eq.symm hr_
      subst hr_
      have hP : va_P g.1 vwCl (cw_X0_spread g h_this h_m h_this_steps h_this_search h_this_now h_this_next h_this_steps_low h_this_steps_high h_this_search_trail h_this_search_queue h_m_moves h_m_lights h_m_prices h_m_shares c_steps_letters c_steps_low c_steps_high c_search_size c_search_queue c_now c_next c_m_states c_m_letters c_m_shares) H := hP
      have hD : va_D A (cw_X0_spread g h_this h_m h_this_steps h_this_search h_this_now h_this_next h_this_steps_low h_this_steps_high h_this_search_trail h_this_search_queue h_m_moves h_m_lights h_m_prices h_m_shares c_steps_letters c_steps_low c_steps_high c_search_size c_search_queue c_now c_next c_m_states c_m_letters c_m_shares) := hD
      refine lv_icmp_ge (tgt := 123) hx hb dX0_spread_10 (by decide) (fun cq => ?_) (fun cq => ?_)
      · replace h := h.1 cq
        exact K_123 c_now c_next h _ _ hP hD hS _ (lv_sub hl [0] rfl)
      · replace h := h.2 cq
        refine lv_aload_n hx hb dX0_spread_13 rfl (lv_at hl 0 rfl) ?_
        refine va_get (D := g.1) (ci := 0) (v := .ref h_this_search) (C := RX0) (T := TX0) (N := 4) hx hb hts iX0 hown hK hP 0 rfl rfl 1 (by decide) f22 (fun _ h9 => h9) rfl dX0_spread_14 ?_
        refine lv_iload_n hx hb dX0_spread_17 rfl (lv_at hl 2 rfl) ?_
        refine go_I E (run_V E ((k_X7_found l g h_this_search h_this_steps h_this_search_trail h_this_search_queue h) _) (cwV 1 hts gX0_spread_X7_found rfl rfl rfl (by decide +kernel) ⟨Nat.le_of_ble_eq_true rfl, Nat.le_of_ble_eq_true rfl⟩) hP hD hS [4, 5] rfl rfl 0 6 rfl rfl rfl hl rfl rfl (Nat.le_of_ble_eq_true rfl) dX0_spread_18 ⟨Nat.le_of_ble_eq_true rfl, Nat.le_of_ble_eq_true rfl⟩) hP hD hS [4, 5] rfl [(true, 0), (true, 1), (true, 2), (true, 3), (false, 0), (false, 1), (true, 6), (true, 7), (true, 8), (true, 9)] rfl (by decide) (fun _ => (cw_X0_spread g h_this h_m h_this_steps h_this_search h_this_now h_this_next h_this_steps_low h_this_steps_high h_this_search_trail h_this_search_queue h_m_moves h_m_lights h_m_prices h_m_shares c_steps_letters c_steps_low c_steps_high c_search_size c_search_queue c_now c_next c_m_states c_m_letters c_m_shares)) (fun _ => rfl) (fun r8 _ H locs h hP hD hS => ?_)
        try dsimp only at h
        have hP : va_P g.1 vwCl (cw_X0_spread g h_this h_m h_this_steps h_this_search h_this_now h_this_next h_this_steps_low h_this_steps_high h_this_search_trail h_this_search_queue h_m_moves h_m_lights h_m_prices h_m_shares c_steps_letters c_steps_low c_steps_high c_search_size c_search_queue c_now c_next c_m_states c_m_letters c_m_shares) H := hP
        have hD : va_D A (cw_X0_spread g h_this h_m h_this_steps h_this_search h_this_now h_this_next h_this_steps_low h_this_steps_high h_this_search_trail h_this_search_queue h_m_moves h_m_lights h_m_prices h_m_shares c_steps_letters c_steps_low c_steps_high c_search_size c_search_queue c_now c_next c_m_states c_m_letters c_m_shares) := hD
        refine lv_istore_n (lv' := [(3, .int r8), (0, .ref h_this), (1, .ref h_m), (2, .int x2)]) hx hb dX0_spread_21 rfl hl (by decide) rfl (fun ls hl => ?_)
        refine lv_iload_n hx hb dX0_spread_22 rfl (lv_at hl 0 rfl) ?_
        refine lv_if_lt (tgt := 117) hx hb dX0_spread_23 (by decide) (fun cq => ?_) (fun cq => ?_)
        · replace h := h.1 cq
          exact K_117 x2 c_next h _ _ hP hD hS _ (lv_sub hl [1, 2, 3] rfl)
        · replace h := h.2 cq
          refine lv_iload_n hx hb dX0_spread_26 rfl (lv_at hl 0 rfl) ?_
          refine lv_sipush (v := (nI 4096)) hx hb dX0_spread_27 (by decide) ?_
          refine lv_icmp_ge (tgt := 117) hx hb dX0_spread_30 (by decide) (fun cq => ?_) (fun cq => ?_)
          · replace h := h.1 cq
            exact K_117 x2 c_next h _ _ hP hD hS _ (lv_sub hl [1, 2, 3] rfl)
          · replace h := h.2 cq
            refine lv_aload_n hx hb dX0_spread_33 rfl (lv_at hl 1 rfl) ?_
            refine va_get (D := g.1) (ci := 0) (v := .ref h_this_now) (C := RX0) (T := TX0) (N := 4) hx hb hts iX0 hown hK hP 0 rfl rfl 2 (by decide) f9 (fun _ h9 => h9) rfl dX0_spread_34 ?_
            refine lv_iload_n hx hb dX0_spread_37 rfl (lv_at hl 0 rfl) ?_
            obtain ⟨hi, h⟩ := h
            refine va_lald (D := g.1) (n := 4096) (f := c_now) hx hb hK hP 6 1 rfl rfl hi dX0_spread_38 ?_
            refine lv_lconst (v := lN 0) hx hb dX0_spread_39 (by decide) ?_
            refine W.lcmp hx hb dX0_spread_40 ?_
            refine lv_if_ne (tgt := 47) hx hb dX0_spread_41 (by decide) (fun cq => ?_) (fun cq => ?_)
            · replace h := h.1 cq
              refine lv_iconst (v := (nI 0)) hx hb dX0_spread_47 (by decide) ?_
              refine lv_istore (lv' := [(4, .int (nI 0)), (3, .int r8), (0, .ref h_this), (1, .ref h_m), (2, .int x2)]) hx hb dX0_spread_48 hl (by decide) rfl (fun ls hl => ?_)
              obtain ⟨n, h⟩ := h
              exact K_50 x2 r8 n (nI 0) c_next h _ _ hP hD hS _ (lv_sub hl [2, 3, 4, 1, 0] rfl)
            · replace h := h.2 cq
              refine lv_goto (tgt := 117) hx hb dX0_spread_44 (by decide) ?_
              exact K_117 x2 c_next h _ _ hP hD hS _ (lv_sub hl [1, 2, 3] rfl)
  refine lv_iconst (v := (nI 0)) hx hb dX0_spread_0 (by decide) ?_
  refine lv_istore_n (lv' := [(2, .int (nI 0)), (0, .ref h_this), (1, .ref h_m)]) hx hb dX0_spread_1 rfl hl (by decide) rfl (fun ls hl => ?_)
  obtain ⟨n, h⟩ := h
  exact K_2 c_now n (nI 0) c_next h _ _ hP hD hS _ (lv_sub hl [1, 2, 0] rfl)
abbrev cw_X0_right (g : GG) (h_this : Nat) (h_m : Nat) (h_this_steps : Nat) (h_this_search : Nat) (h_this_now : Nat) (h_this_next : Nat) (h_this_steps_low : Nat) (h_this_steps_high : Nat) (h_this_search_trail : Nat) (h_this_search_queue : Nat) (h_this_search_trail_from : Nat) (h_m_moves : Nat) (h_m_lights : Nat) (h_m_prices : Nat) (h_m_shares : Nat) (c_steps_letters : Int32) (c_steps_low : Nat → Int32) (c_steps_high : Nat → Int32) (c_search_size : Int32) (c_search_trail_from : Nat → Int32) (c_search_queue : Nat → Int32) (c_now : Nat → Int64) (c_next : Nat → Int64) (c_m_states : Int32) (c_m_letters : Int32) (c_m_moves : Nat → Int32) (c_m_shares : Nat → Int32) : va_W := [(h_this, .inr (0, [.ref h_this_steps, .ref h_this_search, .ref h_this_now, .ref h_this_next])), (h_this_steps, .inr (7, [.ref h_this_steps_low, .ref h_this_steps_high, .int c_steps_letters])), (h_this_steps_low, .inl (g.2.1, 256, .inl c_steps_low)), (h_this_steps_high, .inl (g.2.1, 256, .inl c_steps_high)), (h_this_search, .inr (6, [.ref h_this_steps, .ref h_this_search_trail, .ref h_this_search_queue, .int c_search_size])), (h_this_search_trail, .inr (8, [.ref h_this_search_trail_from])), (h_this_search_trail_from, .inl (g.2.1, 4096, .inl c_search_trail_from)), (h_this_search_queue, .inl (g.2.1, 4096, .inl c_search_queue)), (h_this_now, .inl (g.2.2.1, 4096, .inr (.inl c_now))), (h_this_next, .inl (g.2.2.1, 4096, .inr (.inl c_next))), (h_m, .inr (3, [.int c_m_states, .int c_m_letters, .ref h_m_moves, .ref h_m_lights, .ref h_m_prices, .ref h_m_shares])), (h_m_moves, .inl (g.2.1, 48, .inl c_m_moves)), (h_m_shares, .inl (g.2.1, 4, .inl c_m_shares))]
def J_X0_right_122 (R_71 : Int64 → Int32 → Prop) (x4 : Int64) (x6 : Int32) : Prop :=
    R_71 x4 (x6 + (nI 1))
def L_X0_right_71 (c_steps_letters : Int32) (c_steps_low : Nat → Int32) (c_steps_high : Nat → Int32) (c_search_size : Int32) (c_search_trail_from : Nat → Int32) (c_search_queue : Nat → Int32) (c_now : Nat → Int64) (c_next : Nat → Int64) (Q : Int64 → Int32 → (Nat → Int32) → (Nat → Int32) → Int32 → (Nat → Int32) → (Nat → Int32) → (Nat → Int64) → (Nat → Int64) → Prop) : Nat → Int64 → Int32 → Prop
  | 0, _, _ => False
  | n_71 + 1, x4, x6 =>
    ((c_search_size ≤ x6 → Q x4 c_steps_letters c_steps_low c_steps_high c_search_size c_search_trail_from c_search_queue c_now c_next) ∧ (¬ c_search_size ≤ x6 → wp_X7_found c_search_size c_search_queue x6 (fun r10 => wp_X7_isOne r10 (fun r12 => ((r12 = (nI 0) → J_X0_right_122 (L_X0_right_71 c_steps_letters c_steps_low c_steps_high c_search_size c_search_trail_from c_search_queue c_now c_next Q n_71) x4 x6) ∧ (¬ r12 = (nI 0) → (((nI 4096) ≤ r10 → J_X0_right_122 (L_X0_right_71 c_steps_letters c_steps_low c_steps_high c_search_size c_search_trail_from c_search_queue c_now c_next Q n_71) x4 x6) ∧ (¬ (nI 4096) ≤ r10 → vp_in r10 4096 ∧ J_X0_right_122 (L_X0_right_71 c_steps_letters c_steps_low c_steps_high c_search_size c_search_trail_from c_search_queue c_now c_next Q n_71) (x4 + (c_now (Int32.toNatClampNeg r10))) x6))))))))
def J_X0_right_65 (Q : Int64 → Int32 → (Nat → Int32) → (Nat → Int32) → Int32 → (Nat → Int32) → (Nat → Int32) → (Nat → Int64) → (Nat → Int64) → Prop) (c_steps_letters : Int32) (c_steps_low : Nat → Int32) (c_steps_high : Nat → Int32) (c_search_size : Int32) (c_search_trail_from : Nat → Int32) (c_search_queue : Nat → Int32) (c_now : Nat → Int64) (c_next : Nat → Int64) : Prop :=
    ∃ n, L_X0_right_71 c_steps_letters c_steps_low c_steps_high c_search_size c_search_trail_from c_search_queue c_now c_next Q n (lN 0) (nI 0)
def L_X0_right_48 (c_steps_letters : Int32) (c_steps_low : Nat → Int32) (c_steps_high : Nat → Int32) (c_search_size : Int32) (c_search_trail_from : Nat → Int32) (c_search_queue : Nat → Int32) (c_m_states : Int32) (c_m_letters : Int32) (c_m_shares : Nat → Int32) (x3 : Int32) (Q : Int64 → Int32 → (Nat → Int32) → (Nat → Int32) → Int32 → (Nat → Int32) → (Nat → Int32) → (Nat → Int64) → (Nat → Int64) → Prop) : Nat → Int32 → (Nat → Int64) → (Nat → Int64) → Prop
  | 0, _, _, _ => False
  | n_48 + 1, x4, c_now, c_next =>
    ((x3 ≤ x4 → J_X0_right_65 Q c_steps_letters c_steps_low c_steps_high c_search_size c_search_trail_from c_search_queue c_now c_next) ∧ (¬ x3 ≤ x4 → wp_X0_spread c_steps_letters c_steps_low c_steps_high c_search_size c_search_queue c_now c_next c_m_states c_m_letters c_m_shares (fun c_now c_next => (L_X0_right_48 c_steps_letters c_steps_low c_steps_high c_search_size c_search_trail_from c_search_queue c_m_states c_m_letters c_m_shares x3 Q n_48) (x4 + (nI 1)) c_now c_next)))
def J_X0_right_45 (c_m_states : Int32) (c_m_letters : Int32) (c_m_shares : Nat → Int32) (x3 : Int32) (Q : Int64 → Int32 → (Nat → Int32) → (Nat → Int32) → Int32 → (Nat → Int32) → (Nat → Int32) → (Nat → Int64) → (Nat → Int64) → Prop) (c_steps_letters : Int32) (c_steps_low : Nat → Int32) (c_steps_high : Nat → Int32) (c_search_size : Int32) (c_search_trail_from : Nat → Int32) (c_search_queue : Nat → Int32) (c_now : Nat → Int64) (c_next : Nat → Int64) : Prop :=
    ∃ n, L_X0_right_48 c_steps_letters c_steps_low c_steps_high c_search_size c_search_trail_from c_search_queue c_m_states c_m_letters c_m_shares x3 Q n (nI 0) c_now c_next
def wp_X0_right (c_steps_letters : Int32) (c_steps_low : Nat → Int32) (c_steps_high : Nat → Int32) (c_search_size : Int32) (c_search_trail_from : Nat → Int32) (c_search_queue : Nat → Int32) (c_now : Nat → Int64) (c_next : Nat → Int64) (c_m_states : Int32) (c_m_letters : Int32) (c_m_moves : Nat → Int32) (c_m_shares : Nat → Int32) (x2 : Int32) (x3 : Int32) (Q : Int64 → Int32 → (Nat → Int32) → (Nat → Int32) → Int32 → (Nat → Int32) → (Nat → Int32) → (Nat → Int64) → (Nat → Int64) → Prop) : Prop :=
    wp_X7_look c_search_size c_steps_letters c_steps_low c_steps_high c_search_trail_from c_search_queue c_m_states c_m_letters c_m_moves x2 (-1) (fun r2 c_search_size c_steps_letters c_steps_low c_steps_high c_search_trail_from c_search_queue => wp_J7_fill_d0a16 4096 c_now (lN 0) (fun c_now => wp_J7_fill_d0a16 4096 c_next (lN 0) (fun c_next => ((x2 ≤ (nI 0) → J_X0_right_45 c_m_states c_m_letters c_m_shares x3 Q c_steps_letters c_steps_low c_steps_high c_search_size c_search_trail_from c_search_queue c_now c_next) ∧ (¬ x2 ≤ (nI 0) → (((nI 4096) ≤ x2 → J_X0_right_45 c_m_states c_m_letters c_m_shares x3 Q c_steps_letters c_steps_low c_steps_high c_search_size c_search_trail_from c_search_queue c_now c_next) ∧ (¬ (nI 4096) ≤ x2 → vp_in x2 4096 ∧ J_X0_right_45 c_m_states c_m_letters c_m_shares x3 Q c_steps_letters c_steps_low c_steps_high c_search_size c_search_trail_from c_search_queue (vp_updL c_now (Int32.toNatClampNeg x2) (lN 1)) c_next)))))))
abbrev rm_X0_right : Room := { frames := 4, cells := 0, slots := 0, locals := 100 }
set_option maxHeartbeats 4000000 in
set_option maxRecDepth 100000 in
theorem k_X0_right (l : Launch) (g : GG) (h_this : Nat) (h_m : Nat) (h_this_steps : Nat) (h_this_search : Nat) (h_this_now : Nat) (h_this_next : Nat) (h_this_steps_low : Nat) (h_this_steps_high : Nat) (h_this_search_trail : Nat) (h_this_search_queue : Nat) (h_this_search_trail_from : Nat) (h_m_moves : Nat) (h_m_lights : Nat) (h_m_prices : Nat) (h_m_shares : Nat) {c_steps_letters : Int32} {c_steps_low : Nat → Int32} {c_steps_high : Nat → Int32} {c_search_size : Int32} {c_search_trail_from : Nat → Int32} {c_search_queue : Nat → Int32} {c_now : Nat → Int64} {c_next : Nat → Int64} {c_m_states : Int32} {c_m_letters : Int32} {c_m_moves : Nat → Int32} {c_m_shares : Nat → Int32} {x2 : Int32} {x3 : Int32} {Q : Int64 → Int32 → (Nat → Int32) → (Nat → Int32) → Int32 → (Nat → Int32) → (Nat → Int32) → (Nat → Int64) → (Nat → Int64) → Prop} (h : wp_X0_right c_steps_letters c_steps_low c_steps_high c_search_size c_search_trail_from c_search_queue c_now c_next c_m_states c_m_letters c_m_moves c_m_shares x2 x3 Q) : CL l g yX0_right wsX0_right rm_X0_right [.ref h_this, .ref h_m, .int x2, .int x3] (cw_X0_right g h_this h_m h_this_steps h_this_search h_this_now h_this_next h_this_steps_low h_this_steps_high h_this_search_trail h_this_search_queue h_this_search_trail_from h_m_moves h_m_lights h_m_prices h_m_shares c_steps_letters c_steps_low c_steps_high c_search_size c_search_trail_from c_search_queue c_now c_next c_m_states c_m_letters c_m_moves c_m_shares) (S := Int32 × (Nat → Int32) × (Nat → Int32) × Int32 × (Nat → Int32) × (Nat → Int32) × (Nat → Int64) × (Nat → Int64)) (fun u => (cw_X0_right g h_this h_m h_this_steps h_this_search h_this_now h_this_next h_this_steps_low h_this_steps_high h_this_search_trail h_this_search_queue h_this_search_trail_from h_m_moves h_m_lights h_m_prices h_m_shares u.1 u.2.1 u.2.2.1 u.2.2.2.1 u.2.2.2.2.1 u.2.2.2.2.2.1 u.2.2.2.2.2.2.1 u.2.2.2.2.2.2.2 c_m_states c_m_letters c_m_moves c_m_shares)) (fun r u => Q r u.1 u.2.1 u.2.2.1 u.2.2.2.1 u.2.2.2.2.1 u.2.2.2.2.2.1 u.2.2.2.2.2.2.1 u.2.2.2.2.2.2.2) 0 0 := by
  refine mk_L (cc := cX0_right) (maxL := 8) (own := RX0) (by decide) rfl rfl (Nat.le_of_ble_eq_true rfl) ?_
  intro p e s m args below meth c A QQ E hret hP hD hS ls hl
  have E2 := E
  obtain ⟨hx, hb, hr, hml, hown, hts, hlocks, hA, hZ, hK, hnm⟩ := E2
  have f22 := hts (.fieldLink RX0 22 "WordBench$Chances" "search" "LWordBench$SetSearch;") (by decide +kernel)
  have f9 := hts (.fieldLink RX0 9 "WordBench$Chances" "now" "[J") (by decide +kernel)
  have f15 := hts (.fieldLink RX0 15 "WordBench$Chances" "next" "[J") (by decide +kernel)
  have iX0 : ∀ w ∈ wsX00, w ∈ wsX0_right := fun _ h => List.mem_cons_of_mem _ (List.mem_append_left _ (List.mem_append_left _ (List.mem_append_left _ (List.mem_append_left _ (List.mem_append_right _ h)))))
  have hP : va_P g.1 vwCl (cw_X0_right g h_this h_m h_this_steps h_this_search h_this_now h_this_next h_this_steps_low h_this_steps_high h_this_search_trail h_this_search_queue h_this_search_trail_from h_m_moves h_m_lights h_m_prices h_m_shares c_steps_letters c_steps_low c_steps_high c_search_size c_search_trail_from c_search_queue c_now c_next c_m_states c_m_letters c_m_moves c_m_shares) s.heap := hP
  have hD : va_D A (cw_X0_right g h_this h_m h_this_steps h_this_search h_this_now h_this_next h_this_steps_low h_this_steps_high h_this_search_trail h_this_search_queue h_this_search_trail_from h_m_moves h_m_lights h_m_prices h_m_shares c_steps_letters c_steps_low c_steps_high c_search_size c_search_trail_from c_search_queue c_now c_next c_m_states c_m_letters c_m_moves c_m_shares) := hD
  have hl : lv_has ls 8 [(0, .ref h_this), (1, .ref h_m), (2, .int x2), (3, .int x3)] := hl
  unfold wp_X0_right at h
  have K_71 : ∀ (c_steps_letters : Int32) (c_steps_low : Nat → Int32) (c_steps_high : Nat → Int32) (c_search_size : Int32) (c_search_trail_from : Nat → Int32) (c_search_queue : Nat → Int32) (c_now : Nat → Int64) (c_next : Nat → Int64) (n_71 : Nat) (x4 : Int64) (x6 : Int32) , L_X0_right_71 c_steps_letters c_steps_low c_steps_high c_search_size c_search_trail_from c_search_queue c_now c_next Q n_71 x4 x6 → ∀ (H : Heap) (locs : List Loc), va_P g.1 vwCl (cw_X0_right g h_this h_m h_this_steps h_this_search h_this_now h_this_next h_this_steps_low h_this_steps_high h_this_search_trail h_this_search_queue h_this_search_trail_from h_m_moves h_m_lights h_m_prices h_m_shares c_steps_letters c_steps_low c_steps_high c_search_size c_search_trail_from c_search_queue c_now c_next c_m_states c_m_letters c_m_moves c_m_shares) H → va_D A (cw_X0_right g h_this h_m h_this_steps h_this_search h_this_now h_this_next h_this_steps_low h_this_steps_high h_this_search_trail h_this_search_queue h_this_search_trail_from h_m_moves h_m_lights h_m_prices h_m_shares c_steps_letters c_steps_low c_steps_high c_search_size c_search_trail_from c_search_queue c_now c_next c_m_states c_m_letters c_m_moves c_m_shares) → va_S A s.heap H locs → ∀ ls : Array Slot, lv_has ls 8 [(0, .ref h_this), (4, .long x4), (6, .int x6)] → W p l e rm_X0_right s m args below meth c H locs 0 0 QQ (F0 m 71 ls []) := by
    intro c_steps_letters c_steps_low c_steps_high c_search_size c_search_trail_from c_search_queue c_now c_next n_71
    induction n_71 with
    | zero => intro x4 x6; exact fun h => False.elim h
    | succ n_71 ih_71 =>
      intro x4 x6 h H locs hP hD hS ls hl
      unfold L_X0_right_71 at h
      have K_122 : ∀ (x4 : Int64) (x6 : Int32) , J_X0_right_122 (L_X0_right_71 c_steps_letters c_steps_low c_steps_high c_search_size c_search_trail_from c_search_queue c_now c_next Q n_71) x4 x6 → ∀ (H : Heap) (locs : List Loc), va_P g.1 vwCl (cw_X0_right g h_this h_m h_this_steps h_this_search h_this_now h_this_next h_this_steps_low h_this_steps_high h_this_search_trail h_this_search_queue h_this_search_trail_from h_m_moves h_m_lights h_m_prices h_m_shares c_steps_letters c_steps_low c_steps_high c_search_size c_search_trail_from c_search_queue c_now c_next c_m_states c_m_letters c_m_moves c_m_shares) H → va_D A (cw_X0_right g h_this h_m h_this_steps h_this_search h_this_now h_this_next h_this_steps_low h_this_steps_high h_this_search_trail h_this_search_queue h_this_search_trail_from h_m_moves h_m_lights h_m_prices h_m_shares c_steps_letters c_steps_low c_steps_high c_search_size c_search_trail_from c_search_queue c_now c_next c_m_states c_m_letters c_m_moves c_m_shares) → va_S A s.heap H locs → ∀ ls : Array Slot, lv_has ls 8 [(0, .ref h_this), (4, .long x4), (6, .int x6)] → W p l e rm_X0_right s m args below meth c H locs 0 0 QQ (F0 m 122 ls []) := by
        intro x4 x6 h H locs hP hD hS ls hl
        unfold J_X0_right_122 at h
        refine lv_iinc (v := (x6 + (nI 1))) (lv' := [(6, .int (x6 + (nI 1))), (0, .ref h_this), (4, .long x4)]) hx hb dX0_right_122 hl (k := 2) rfl rfl (by decide) rfl (fun ls hl => ?_)
        refine lv_goto (tgt := 71) hx hb dX0_right_125 (by decide) ?_
        exact ih_71 x4 (x6 + (nI 1)) h _ _ hP hD hS _ (lv_sub hl [1, 2, 0] rfl)
      refine lv_iload hx hb dX0_right_71 (lv_at hl 2 rfl) ?_
      refine lv_aload_n hx hb dX0_right_73 rfl (lv_at hl 0 rfl) ?_
      refine va_get (D := g.1) (ci := 0) (v := .ref h_this_search) (C := RX0) (T := TX0) (N := 4) hx hb hts iX0 hown hK hP 0 rfl rfl 1 (by decide) f22 (fun _ h9 => h9) rfl dX0_right_74 ?_
      refine go_I E (run_V E ((k_X7_size l g h_this_search h_this_steps h_this_search_trail h_this_search_queue (Q := fun r => r = c_search_size) rfl) _) (cwV 0 hts gX0_right_X7_size rfl rfl rfl (by decide +kernel) ⟨Nat.le_of_ble_eq_true rfl, Nat.le_of_ble_eq_true rfl⟩) hP hD hS [4] rfl rfl 0 6 rfl rfl rfl hl rfl rfl (Nat.le_of_ble_eq_true rfl) dX0_right_77 ⟨Nat.le_of_ble_eq_true rfl, Nat.le_of_ble_eq_true rfl⟩) hP hD hS [4] rfl [(true, 0), (true, 1), (true, 2), (true, 3), (false, 0), (true, 5), (true, 6), (true, 7), (true, 8), (true, 9), (true, 10), (true, 11), (true, 12)] rfl (by decide) (fun _ => (cw_X0_right g h_this h_m h_this_steps h_this_search h_this_now h_this_next h_this_steps_low h_this_steps_high h_this_search_trail h_this_search_queue h_this_search_trail_from h_m_moves h_m_lights h_m_prices h_m_shares c_steps_letters c_steps_low c_steps_high c_search_size c_search_trail_from c_search_queue c_now c_next c_m_states c_m_letters c_m_moves c_m_shares)) (fun _ => rfl) (fun r8 _ H locs hr_ hP hD hS => ?_)
      have hr_ : c_search_size = r8 := Eq.symm hr_
      subst hr_
      have hP : va_P g.1 vwCl (cw_X0_right g h_this h_m h_this_steps h_this_search h_this_now h_this_next h_this_steps_low h_this_steps_high h_this_search_trail h_this_search_queue h_this_search_trail_from h_m_moves h_m_lights h_m_prices h_m_shares c_steps_letters c_steps_low c_steps_high c_search_size c_search_trail_from c_search_queue c_now c_next c_m_states c_m_letters c_m_moves c_m_shares) H := hP
      have hD : va_D A (cw_X0_right g h_this h_m h_this_steps h_this_search h_this_now h_this_next h_this_steps_low h_this_steps_high h_this_search_trail h_this_search_queue h_this_search_trail_from h_m_moves h_m_lights h_m_prices h_m_shares c_steps_letters c_steps_low c_steps_high c_search_size c_search_trail_from c_search_queue c_now c_next c_m_states c_m_letters c_m_moves c_m_shares) := hD
      refine lv_icmp_ge (tgt := 128) hx hb dX0_right_80 (by decide) (fun cq => ?_) (fun cq => ?_)
      · replace h := h.1 cq
        refine lv_lload hx hb dX0_right_128 (lv_at hl 1 rfl) ?_
        exact hret x4 (c_steps_letters, c_steps_low, c_steps_high, c_search_size, c_search_trail_from, c_search_queue, c_now, c_next) _ _ _ _ h hP hD hS dX0_right_130
      · replace h := h.2 cq
        refine lv_aload_n hx hb dX0_right_83 rfl (lv_at hl 0 rfl) ?_
        refine va_get (D := g.1) (ci := 0) (v := .ref h_this_search) (C := RX0) (T := TX0) (N := 4) hx hb hts iX0 hown hK hP 0 rfl rfl 1 (by decide) f22 (fun _ h9 => h9) rfl dX0_right_84 ?_
        refine lv_iload hx hb dX0_right_87 (lv_at hl 2 rfl) ?_
        refine go_I E (run_V E ((k_X7_found l g h_this_search h_this_steps h_this_search_trail h_this_search_queue h) _) (cwV 1 hts gX0_right_X7_found rfl rfl rfl (by decide +kernel) ⟨Nat.le_of_ble_eq_true rfl, Nat.le_of_ble_eq_true rfl⟩) hP hD hS [4, 7] rfl rfl 0 6 rfl rfl rfl hl rfl rfl (Nat.le_of_ble_eq_true rfl) dX0_right_89 ⟨Nat.le_of_ble_eq_true rfl, Nat.le_of_ble_eq_true rfl⟩) hP hD hS [4, 7] rfl [(true, 0), (true, 1), (true, 2), (true, 3), (false, 0), (true, 5), (true, 6), (false, 1), (true, 8), (true, 9), (true, 10), (true, 11), (true, 12)] rfl (by decide) (fun _ => (cw_X0_right g h_this h_m h_this_steps h_this_search h_this_now h_this_next h_this_steps_low h_this_steps_high h_this_search_trail h_this_search_queue h_this_search_trail_from h_m_moves h_m_lights h_m_prices h_m_shares c_steps_letters c_steps_low c_steps_high c_search_size c_search_trail_from c_search_queue c_now c_next c_m_states c_m_letters c_m_moves c_m_shares)) (fun _ => rfl) (fun r10 _ H locs h hP hD hS => ?_)
        try dsimp only at h
        have hP : va_P g.1 vwCl (cw_X0_right g h_this h_m h_this_steps h_this_search h_this_now h_this_next h_this_steps_low h_this_steps_high h_this_search_trail h_this_search_queue h_this_search_trail_from h_m_moves h_m_lights h_m_prices h_m_shares c_steps_letters c_steps_low c_steps_high c_search_size c_search_trail_from c_search_queue c_now c_next c_m_states c_m_letters c_m_moves c_m_shares) H := hP
        have hD : va_D A (cw_X0_right g h_this h_m h_this_steps h_this_search h_this_now h_this_next h_this_steps_low h_this_steps_high h_this_search_trail h_this_search_queue h_this_search_trail_from h_m_moves h_m_lights h_m_prices h_m_shares c_steps_letters c_steps_low c_steps_high c_search_size c_search_trail_from c_search_queue c_now c_next c_m_states c_m_letters c_m_moves c_m_shares) := hD
        refine lv_istore (lv' := [(7, .int r10), (0, .ref h_this), (4, .long x4), (6, .int x6)]) hx hb dX0_right_92 hl (by decide) rfl (fun ls hl => ?_)
        refine lv_iload hx hb dX0_right_94 (lv_at hl 0 rfl) ?_
        refine go_I E (run_S E ((k_X7_isOne l g  h) _) (va_cwS 1 hts gX0_right_X7_isOne rfl rfl rfl (by decide +kernel) ⟨Nat.le_of_ble_eq_true rfl, Nat.le_of_ble_eq_true rfl⟩) hP hD hS [] rfl rfl hl rfl rfl (Nat.le_of_ble_eq_true rfl) dX0_right_96 ⟨Nat.le_of_ble_eq_true rfl, Nat.le_of_ble_eq_true rfl⟩) hP hD hS [] rfl [(true, 0), (true, 1), (true, 2), (true, 3), (true, 4), (true, 5), (true, 6), (true, 7), (true, 8), (true, 9), (true, 10), (true, 11), (true, 12)] rfl (by decide) (fun _ => (cw_X0_right g h_this h_m h_this_steps h_this_search h_this_now h_this_next h_this_steps_low h_this_steps_high h_this_search_trail h_this_search_queue h_this_search_trail_from h_m_moves h_m_lights h_m_prices h_m_shares c_steps_letters c_steps_low c_steps_high c_search_size c_search_trail_from c_search_queue c_now c_next c_m_states c_m_letters c_m_moves c_m_shares)) (fun _ => rfl) (fun r12 _ H locs h hP hD hS => ?_)
        try dsimp only at h
        have hP : va_P g.1 vwCl (cw_X0_right g h_this h_m h_this_steps h_this_search h_this_now h_this_next h_this_steps_low h_this_steps_high h_this_search_trail h_this_search_queue h_this_search_trail_from h_m_moves h_m_lights h_m_prices h_m_shares c_steps_letters c_steps_low c_steps_high c_search_size c_search_trail_from c_search_queue c_now c_next c_m_states c_m_letters c_m_moves c_m_shares) H := hP
        have hD : va_D A (cw_X0_right g h_this h_m h_this_steps h_this_search h_this_now h_this_next h_this_steps_low h_this_steps_high h_this_search_trail h_this_search_queue h_this_search_trail_from h_m_moves h_m_lights h_m_prices h_m_shares c_steps_letters c_steps_low c_steps_high c_search_size c_search_trail_from c_search_queue c_now c_next c_m_states c_m_letters c_m_moves c_m_shares) := hD
        refine lv_if_eq (tgt := 122) hx hb dX0_right_99 (by decide) (fun cq => ?_) (fun cq => ?_)
        · replace h := h.1 cq
          exact K_122 x4 x6 h _ _ hP hD hS _ (lv_sub hl [1, 2, 3] rfl)
        · replace h := h.2 cq
          refine lv_iload hx hb dX0_right_102 (lv_at hl 0 rfl) ?_
          refine lv_sipush (v := (nI 4096)) hx hb dX0_right_104 (by decide) ?_
          refine lv_icmp_ge (tgt := 122) hx hb dX0_right_107 (by decide) (fun cq => ?_) (fun cq => ?_)
          · replace h := h.1 cq
            exact K_122 x4 x6 h _ _ hP hD hS _ (lv_sub hl [1, 2, 3] rfl)
          · replace h := h.2 cq
            refine lv_lload hx hb dX0_right_110 (lv_at hl 2 rfl) ?_
            refine lv_aload_n hx hb dX0_right_112 rfl (lv_at hl 1 rfl) ?_
            refine va_get (D := g.1) (ci := 0) (v := .ref h_this_now) (C := RX0) (T := TX0) (N := 4) hx hb hts iX0 hown hK hP 0 rfl rfl 2 (by decide) f9 (fun _ h9 => h9) rfl dX0_right_113 ?_
            refine lv_iload hx hb dX0_right_116 (lv_at hl 0 rfl) ?_
            obtain ⟨hi, h⟩ := h
            refine va_lald (D := g.1) (n := 4096) (f := c_now) hx hb hK hP 8 1 rfl rfl hi dX0_right_118 ?_
            refine lv_ladd hx hb dX0_right_119 ?_
            refine lv_lstore (lv' := [(4, .long (x4 + (c_now (Int32.toNatClampNeg r10)))), (7, .int r10), (0, .ref h_this), (6, .int x6)]) hx hb dX0_right_120 hl (by decide) rfl (fun ls hl => ?_)
            exact K_122 (x4 + (c_now (Int32.toNatClampNeg r10))) x6 h _ _ hP hD hS _ (lv_sub hl [2, 0, 3] rfl)
  have K_65 : ∀ (c_steps_letters : Int32) (c_steps_low : Nat → Int32) (c_steps_high : Nat → Int32) (c_search_size : Int32) (c_search_trail_from : Nat → Int32) (c_search_queue : Nat → Int32) (c_now : Nat → Int64) (c_next : Nat → Int64) , J_X0_right_65 Q c_steps_letters c_steps_low c_steps_high c_search_size c_search_trail_from c_search_queue c_now c_next → ∀ (H : Heap) (locs : List Loc), va_P g.1 vwCl (cw_X0_right g h_this h_m h_this_steps h_this_search h_this_now h_this_next h_this_steps_low h_this_steps_high h_this_search_trail h_this_search_queue h_this_search_trail_from h_m_moves h_m_lights h_m_prices h_m_shares c_steps_letters c_steps_low c_steps_high c_search_size c_search_trail_from c_search_queue c_now c_next c_m_states c_m_letters c_m_moves c_m_shares) H → va_D A (cw_X0_right g h_this h_m h_this_steps h_this_search h_this_now h_this_next h_this_steps_low h_this_steps_high h_this_search_trail h_this_search_queue h_this_search_trail_from h_m_moves h_m_lights h_m_prices h_m_shares c_steps_letters c_steps_low c_steps_high c_search_size c_search_trail_from c_search_queue c_now c_next c_m_states c_m_letters c_m_moves c_m_shares) → va_S A s.heap H locs → ∀ ls : Array Slot, lv_has ls 8 [(0, .ref h_this)] → W p l e rm_X0_right s m args below meth c H locs 0 0 QQ (F0 m 65 ls []) := by
    intro c_steps_letters c_steps_low c_steps_high c_search_size c_search_trail_from c_search_queue c_now c_next h H locs hP hD hS ls hl
    unfold J_X0_right_65 at h
    refine lv_lconst (v := lN 0) hx hb dX0_right_65 (by decide) ?_
    refine lv_lstore (lv' := [(4, .long (lN 0)), (0, .ref h_this)]) hx hb dX0_right_66 hl (by decide) rfl (fun ls hl => ?_)
    refine lv_iconst (v := (nI 0)) hx hb dX0_right_68 (by decide) ?_
    refine lv_istore (lv' := [(6, .int (nI 0)), (4, .long (lN 0)), (0, .ref h_this)]) hx hb dX0_right_69 hl (by decide) rfl (fun ls hl => ?_)
    obtain ⟨n, h⟩ := h
    exact K_71 c_steps_letters c_steps_low c_steps_high c_search_size c_search_trail_from c_search_queue c_now c_next n (lN 0) (nI 0) h _ _ hP hD hS _ (lv_sub hl [2, 1, 0] rfl)
  have K_48 : ∀ (c_steps_letters : Int32) (c_steps_low : Nat → Int32) (c_steps_high : Nat → Int32) (c_search_size : Int32) (c_search_trail_from : Nat → Int32) (c_search_queue : Nat → Int32) (n_48 : Nat) (x4 : Int32) (c_now : Nat → Int64) (c_next : Nat → Int64) , L_X0_right_48 c_steps_letters c_steps_low c_steps_high c_search_size c_search_trail_from c_search_queue c_m_states c_m_letters c_m_shares x3 Q n_48 x4 c_now c_next → ∀ (H : Heap) (locs : List Loc), va_P g.1 vwCl (cw_X0_right g h_this h_m h_this_steps h_this_search h_this_now h_this_next h_this_steps_low h_this_steps_high h_this_search_trail h_this_search_queue h_this_search_trail_from h_m_moves h_m_lights h_m_prices h_m_shares c_steps_letters c_steps_low c_steps_high c_search_size c_search_trail_from c_search_queue c_now c_next c_m_states c_m_letters c_m_moves c_m_shares) H → va_D A (cw_X0_right g h_this h_m h_this_steps h_this_search h_this_now h_this_next h_this_steps_low h_this_steps_high h_this_search_trail h_this_search_queue h_this_search_trail_from h_m_moves h_m_lights h_m_prices h_m_shares c_steps_letters c_steps_low c_steps_high c_search_size c_search_trail_from c_search_queue c_now c_next c_m_states c_m_letters c_m_moves c_m_shares) → va_S A s.heap H locs → ∀ ls : Array Slot, lv_has ls 8 [(0, .ref h_this), (1, .ref h_m), (3, .int x3), (4, .int x4)] → W p l e rm_X0_right s m args below meth c H locs 0 0 QQ (F0 m 48 ls []) := by
    intro c_steps_letters c_steps_low c_steps_high c_search_size c_search_trail_from c_search_queue n_48
    induction n_48 with
    | zero => intro x4 c_now c_next; exact fun h => False.elim h
    | succ n_48 ih_48 =>
      intro x4 c_now c_next h H locs hP hD hS ls hl
      unfold L_X0_right_48 at h
      refine lv_iload hx hb dX0_right_48 (lv_at hl 3 rfl) ?_
      refine lv_iload_n hx hb dX0_right_50 rfl (lv_at hl 2 rfl) ?_
      refine lv_icmp_ge (tgt := 65) hx hb dX0_right_51 (by decide) (fun cq => ?_) (fun cq => ?_)
      · replace h := h.1 cq
        exact K_65 c_steps_letters c_steps_low c_steps_high c_search_size c_search_trail_from c_search_queue c_now c_next h _ _ hP hD hS _ (lv_sub hl [0] rfl)
      · replace h := h.2 cq
        refine lv_aload_n hx hb dX0_right_54 rfl (lv_at hl 0 rfl) ?_
        refine lv_aload_n hx hb dX0_right_55 rfl (lv_at hl 1 rfl) ?_
        refine go_V E (run_V E ((k_X0_spread l g h_this h_m h_this_steps h_this_search h_this_now h_this_next h_this_steps_low h_this_steps_high h_this_search_trail h_this_search_queue h_m_moves h_m_lights h_m_prices h_m_shares h) _) (cwV 1 hts gX0_right_X0_spread rfl rfl rfl (by decide +kernel) ⟨Nat.le_of_ble_eq_true rfl, Nat.le_of_ble_eq_true rfl⟩) hP hD hS [0, 1, 2, 3, 4, 7, 8, 9, 10, 12] rfl rfl 0 0 rfl rfl rfl hl rfl rfl (Nat.le_of_ble_eq_true rfl) dX0_right_56 ⟨Nat.le_of_ble_eq_true rfl, Nat.le_of_ble_eq_true rfl⟩) hP hD hS [0, 1, 2, 3, 4, 7, 8, 9, 10, 12] rfl [(false, 0), (false, 1), (false, 2), (false, 3), (false, 4), (true, 5), (true, 6), (false, 5), (false, 6), (false, 7), (false, 8), (true, 11), (false, 9)] rfl (by decide) (fun u => (cw_X0_right g h_this h_m h_this_steps h_this_search h_this_now h_this_next h_this_steps_low h_this_steps_high h_this_search_trail h_this_search_queue h_this_search_trail_from h_m_moves h_m_lights h_m_prices h_m_shares c_steps_letters c_steps_low c_steps_high c_search_size c_search_trail_from c_search_queue u.1 u.2 c_m_states c_m_letters c_m_moves c_m_shares)) (fun _ => rfl) (fun u H locs h hP hD hS => ?_)
        obtain ⟨c_now, c_next⟩ := u
        try dsimp only at h
        have hP : va_P g.1 vwCl (cw_X0_right g h_this h_m h_this_steps h_this_search h_this_now h_this_next h_this_steps_low h_this_steps_high h_this_search_trail h_this_search_queue h_this_search_trail_from h_m_moves h_m_lights h_m_prices h_m_shares c_steps_letters c_steps_low c_steps_high c_search_size c_search_trail_from c_search_queue c_now c_next c_m_states c_m_letters c_m_moves c_m_shares) H := hP
        have hD : va_D A (cw_X0_right g h_this h_m h_this_steps h_this_search h_this_now h_this_next h_this_steps_low h_this_steps_high h_this_search_trail h_this_search_queue h_this_search_trail_from h_m_moves h_m_lights h_m_prices h_m_shares c_steps_letters c_steps_low c_steps_high c_search_size c_search_trail_from c_search_queue c_now c_next c_m_states c_m_letters c_m_moves c_m_shares) := hD
        refine lv_iinc (v := (x4 + (nI 1))) (lv' := [(4, .int (x4 + (nI 1))), (0, .ref h_this), (1, .ref h_m), (3, .int x3)]) hx hb dX0_right_59 hl (k := 3) rfl rfl (by decide) rfl (fun ls hl => ?_)
        refine lv_goto (tgt := 48) hx hb dX0_right_62 (by decide) ?_
        exact ih_48 (x4 + (nI 1)) c_now c_next h _ _ hP hD hS _ (lv_sub hl [1, 2, 3, 0] rfl)
  have K_45 : ∀ (c_steps_letters : Int32) (c_steps_low : Nat → Int32) (c_steps_high : Nat → Int32) (c_search_size : Int32) (c_search_trail_from : Nat → Int32) (c_search_queue : Nat → Int32) (c_now : Nat → Int64) (c_next : Nat → Int64) , J_X0_right_45 c_m_states c_m_letters c_m_shares x3 Q c_steps_letters c_steps_low c_steps_high c_search_size c_search_trail_from c_search_queue c_now c_next → ∀ (H : Heap) (locs : List Loc), va_P g.1 vwCl (cw_X0_right g h_this h_m h_this_steps h_this_search h_this_now h_this_next h_this_steps_low h_this_steps_high h_this_search_trail h_this_search_queue h_this_search_trail_from h_m_moves h_m_lights h_m_prices h_m_shares c_steps_letters c_steps_low c_steps_high c_search_size c_search_trail_from c_search_queue c_now c_next c_m_states c_m_letters c_m_moves c_m_shares) H → va_D A (cw_X0_right g h_this h_m h_this_steps h_this_search h_this_now h_this_next h_this_steps_low h_this_steps_high h_this_search_trail h_this_search_queue h_this_search_trail_from h_m_moves h_m_lights h_m_prices h_m_shares c_steps_letters c_steps_low c_steps_high c_search_size c_search_trail_from c_search_queue c_now c_next c_m_states c_m_letters c_m_moves c_m_shares) → va_S A s.heap H locs → ∀ ls : Array Slot, lv_has ls 8 [(0, .ref h_this), (1, .ref h_m), (3, .int x3)] → W p l e rm_X0_right s m args below meth c H locs 0 0 QQ (F0 m 45 ls []) := by
    intro c_steps_letters c_steps_low c_steps_high c_search_size c_search_trail_from c_search_queue c_now c_next h H locs hP hD hS ls hl
    unfold J_X0_right_45 at h
    refine lv_iconst (v := (nI 0)) hx hb dX0_right_45 (by decide) ?_
    refine lv_istore (lv' := [(4, .int (nI 0)), (0, .ref h_this), (1, .ref h_m), (3, .int x3)]) hx hb dX0_right_46 hl (by decide) rfl (fun ls hl => ?_)
    obtain ⟨n, h⟩ := h
    exact K_48 c_steps_letters c_steps_low c_steps_high c_search_size c_search_trail_from c_search_queue n (nI 0) c_now c_next h _ _ hP hD hS _ (lv_sub hl [1, 2, 3, 0] rfl)
  refine lv_aload_n hx hb dX0_right_0 rfl (lv_at hl 0 rfl) ?_
  refine va_get (D := g.1) (ci := 0) (v := .ref h_this_search) (C := RX0) (T := TX0) (N := 4) hx hb hts iX0 hown hK hP 0 rfl rfl 1 (by decide) f22 (fun _ h9 => h9) rfl dX0_right_1 ?_
  refine lv_aload_n hx hb dX0_right_4 rfl (lv_at hl 1 rfl) ?_
  refine lv_iload_n hx hb dX0_right_5 rfl (lv_at hl 2 rfl) ?_
  refine lv_iconst (v := (-1)) hx hb dX0_right_6 (by decide) ?_
  refine go_I E (run_V E ((k_X7_look l g h_this_search h_m h_this_steps h_this_search_trail h_this_search_queue h_this_steps_low h_this_steps_high h_this_search_trail_from h_m_moves h_m_lights h_m_prices h_m_shares h) _) (cwV 3 hts gX0_right_X7_look rfl rfl rfl (by decide +kernel) ⟨Nat.le_of_ble_eq_true rfl, Nat.le_of_ble_eq_true rfl⟩) hP hD hS [4, 1, 2, 3, 5, 6, 7, 10, 11] rfl rfl 0 6 rfl rfl rfl hl rfl rfl (Nat.le_of_ble_eq_true rfl) dX0_right_7 ⟨Nat.le_of_ble_eq_true rfl, Nat.le_of_ble_eq_true rfl⟩) hP hD hS [4, 1, 2, 3, 5, 6, 7, 10, 11] rfl [(true, 0), (false, 1), (false, 2), (false, 3), (false, 0), (false, 4), (false, 5), (false, 6), (true, 8), (true, 9), (false, 7), (false, 8), (true, 12)] rfl (by decide) (fun u => (cw_X0_right g h_this h_m h_this_steps h_this_search h_this_now h_this_next h_this_steps_low h_this_steps_high h_this_search_trail h_this_search_queue h_this_search_trail_from h_m_moves h_m_lights h_m_prices h_m_shares u.2.1 u.2.2.1 u.2.2.2.1 u.1 u.2.2.2.2.1 u.2.2.2.2.2 c_now c_next c_m_states c_m_letters c_m_moves c_m_shares)) (fun _ => rfl) (fun r2 u H locs h hP hD hS => ?_)
  obtain ⟨c_search_size, c_steps_letters, c_steps_low, c_steps_high, c_search_trail_from, c_search_queue⟩ := u
  try dsimp only at h
  have hP : va_P g.1 vwCl (cw_X0_right g h_this h_m h_this_steps h_this_search h_this_now h_this_next h_this_steps_low h_this_steps_high h_this_search_trail h_this_search_queue h_this_search_trail_from h_m_moves h_m_lights h_m_prices h_m_shares c_steps_letters c_steps_low c_steps_high c_search_size c_search_trail_from c_search_queue c_now c_next c_m_states c_m_letters c_m_moves c_m_shares) H := hP
  have hD : va_D A (cw_X0_right g h_this h_m h_this_steps h_this_search h_this_now h_this_next h_this_steps_low h_this_steps_high h_this_search_trail h_this_search_queue h_this_search_trail_from h_m_moves h_m_lights h_m_prices h_m_shares c_steps_letters c_steps_low c_steps_high c_search_size c_search_trail_from c_search_queue c_now c_next c_m_states c_m_letters c_m_moves c_m_shares) := hD
  refine lv_pop hx hb dX0_right_10 rfl ?_
  refine lv_aload_n hx hb dX0_right_11 rfl (lv_at hl 0 rfl) ?_
  refine va_get (D := g.1) (ci := 0) (v := .ref h_this_now) (C := RX0) (T := TX0) (N := 4) hx hb hts iX0 hown hK hP 0 rfl rfl 2 (by decide) f9 (fun _ h9 => h9) rfl dX0_right_12 ?_
  refine lv_lconst (v := lN 0) hx hb dX0_right_15 (by decide) ?_
  refine go_V E (run_S E ((k_J7_fill_d0a16 l g h_this_now 4096 h) _) (va_cwS 2 hts gX0_right_J7_fill_d0a16 rfl rfl rfl (by decide +kernel) ⟨Nat.le_of_ble_eq_true rfl, Nat.le_of_ble_eq_true rfl⟩) hP hD hS [8] rfl rfl hl rfl rfl (Nat.le_of_ble_eq_true rfl) dX0_right_16 ⟨Nat.le_of_ble_eq_true rfl, Nat.le_of_ble_eq_true rfl⟩) hP hD hS [8] rfl [(true, 0), (true, 1), (true, 2), (true, 3), (true, 4), (true, 5), (true, 6), (true, 7), (false, 0), (true, 9), (true, 10), (true, 11), (true, 12)] rfl (by decide) (fun u => (cw_X0_right g h_this h_m h_this_steps h_this_search h_this_now h_this_next h_this_steps_low h_this_steps_high h_this_search_trail h_this_search_queue h_this_search_trail_from h_m_moves h_m_lights h_m_prices h_m_shares c_steps_letters c_steps_low c_steps_high c_search_size c_search_trail_from c_search_queue u c_next c_m_states c_m_letters c_m_moves c_m_shares)) (fun _ => rfl) (fun c_now H locs h hP hD hS => ?_)
  try dsimp only at h
  have hP : va_P g.1 vwCl (cw_X0_right g h_this h_m h_this_steps h_this_search h_this_now h_this_next h_this_steps_low h_this_steps_high h_this_search_trail h_this_search_queue h_this_search_trail_from h_m_moves h_m_lights h_m_prices h_m_shares c_steps_letters c_steps_low c_steps_high c_search_size c_search_trail_from c_search_queue c_now c_next c_m_states c_m_letters c_m_moves c_m_shares) H := hP
  have hD : va_D A (cw_X0_right g h_this h_m h_this_steps h_this_search h_this_now h_this_next h_this_steps_low h_this_steps_high h_this_search_trail h_this_search_queue h_this_search_trail_from h_m_moves h_m_lights h_m_prices h_m_shares c_steps_letters c_steps_low c_steps_high c_search_size c_search_trail_from c_search_queue c_now c_next c_m_states c_m_letters c_m_moves c_m_shares) := hD
  refine lv_aload_n hx hb dX0_right_19 rfl (lv_at hl 0 rfl) ?_
  refine va_get (D := g.1) (ci := 0) (v := .ref h_this_next) (C := RX0) (T := TX0) (N := 4) hx hb hts iX0 hown hK hP 0 rfl rfl 3 (by decide) f15 (fun _ h9 => h9) rfl dX0_right_20 ?_
  refine lv_lconst (v := lN 0) hx hb dX0_right_23 (by decide) ?_
  refine go_V E (run_S E ((k_J7_fill_d0a16 l g h_this_next 4096 h) _) (va_cwS 2 hts gX0_right_J7_fill_d0a16 rfl rfl rfl (by decide +kernel) ⟨Nat.le_of_ble_eq_true rfl, Nat.le_of_ble_eq_true rfl⟩) hP hD hS [9] rfl rfl hl rfl rfl (Nat.le_of_ble_eq_true rfl) dX0_right_24 ⟨Nat.le_of_ble_eq_true rfl, Nat.le_of_ble_eq_true rfl⟩) hP hD hS [9] rfl [(true, 0), (true, 1), (true, 2), (true, 3), (true, 4), (true, 5), (true, 6), (true, 7), (true, 8), (false, 0), (true, 10), (true, 11), (true, 12)] rfl (by decide) (fun u => (cw_X0_right g h_this h_m h_this_steps h_this_search h_this_now h_this_next h_this_steps_low h_this_steps_high h_this_search_trail h_this_search_queue h_this_search_trail_from h_m_moves h_m_lights h_m_prices h_m_shares c_steps_letters c_steps_low c_steps_high c_search_size c_search_trail_from c_search_queue c_now u c_m_states c_m_letters c_m_moves c_m_shares)) (fun _ => rfl) (fun c_next H locs h hP hD hS => ?_)
  try dsimp only at h
  have hP : va_P g.1 vwCl (cw_X0_right g h_this h_m h_this_steps h_this_search h_this_now h_this_next h_this_steps_low h_this_steps_high h_this_search_trail h_this_search_queue h_this_search_trail_from h_m_moves h_m_lights h_m_prices h_m_shares c_steps_letters c_steps_low c_steps_high c_search_size c_search_trail_from c_search_queue c_now c_next c_m_states c_m_letters c_m_moves c_m_shares) H := hP
  have hD : va_D A (cw_X0_right g h_this h_m h_this_steps h_this_search h_this_now h_this_next h_this_steps_low h_this_steps_high h_this_search_trail h_this_search_queue h_this_search_trail_from h_m_moves h_m_lights h_m_prices h_m_shares c_steps_letters c_steps_low c_steps_high c_search_size c_search_trail_from c_search_queue c_now c_next c_m_states c_m_letters c_m_moves c_m_shares) := hD
  refine lv_iload_n hx hb dX0_right_27 rfl (lv_at hl 2 rfl) ?_
  refine lv_if_le (tgt := 45) hx hb dX0_right_28 (by decide) (fun cq => ?_) (fun cq => ?_)
  · replace h := h.1 cq
    exact K_45 c_steps_letters c_steps_low c_steps_high c_search_size c_search_trail_from c_search_queue c_now c_next h _ _ hP hD hS _ (lv_sub hl [0, 1, 3] rfl)
  · replace h := h.2 cq
    refine lv_iload_n hx hb dX0_right_31 rfl (lv_at hl 2 rfl) ?_
    refine lv_sipush (v := (nI 4096)) hx hb dX0_right_32 (by decide) ?_
    refine lv_icmp_ge (tgt := 45) hx hb dX0_right_35 (by decide) (fun cq => ?_) (fun cq => ?_)
    · replace h := h.1 cq
      exact K_45 c_steps_letters c_steps_low c_steps_high c_search_size c_search_trail_from c_search_queue c_now c_next h _ _ hP hD hS _ (lv_sub hl [0, 1, 3] rfl)
    · replace h := h.2 cq
      refine lv_aload_n hx hb dX0_right_38 rfl (lv_at hl 0 rfl) ?_
      refine va_get (D := g.1) (ci := 0) (v := .ref h_this_now) (C := RX0) (T := TX0) (N := 4) hx hb hts iX0 hown hK hP 0 rfl rfl 2 (by decide) f9 (fun _ h9 => h9) rfl dX0_right_39 ?_
      refine lv_iload_n hx hb dX0_right_42 rfl (lv_at hl 2 rfl) ?_
      refine lv_lconst (v := lN 1) hx hb dX0_right_43 (by decide) ?_
      obtain ⟨hi, h⟩ := h
      refine va_last (D := g.1) (n := 4096) (f := c_now) hx hb hK hP hD hS 8 1 rfl rfl hi dX0_right_44 (fun H locs hP hD hS => ?_)
      have hP : va_P g.1 vwCl (cw_X0_right g h_this h_m h_this_steps h_this_search h_this_now h_this_next h_this_steps_low h_this_steps_high h_this_search_trail h_this_search_queue h_this_search_trail_from h_m_moves h_m_lights h_m_prices h_m_shares c_steps_letters c_steps_low c_steps_high c_search_size c_search_trail_from c_search_queue (vp_updL c_now (Int32.toNatClampNeg x2) (lN 1)) c_next c_m_states c_m_letters c_m_moves c_m_shares) H := hP
      have hD : va_D A (cw_X0_right g h_this h_m h_this_steps h_this_search h_this_now h_this_next h_this_steps_low h_this_steps_high h_this_search_trail h_this_search_queue h_this_search_trail_from h_m_moves h_m_lights h_m_prices h_m_shares c_steps_letters c_steps_low c_steps_high c_search_size c_search_trail_from c_search_queue (vp_updL c_now (Int32.toNatClampNeg x2) (lN 1)) c_next c_m_states c_m_letters c_m_moves c_m_shares) := hD
      exact K_45 c_steps_letters c_steps_low c_steps_high c_search_size c_search_trail_from c_search_queue (vp_updL c_now (Int32.toNatClampNeg x2) (lN 1)) c_next h _ _ hP hD hS _ (lv_sub hl [0, 1, 3] rfl)
