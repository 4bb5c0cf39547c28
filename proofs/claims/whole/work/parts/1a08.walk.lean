abbrev cw_X6_goOn (g : GG) (h_this : Nat) (h_m : Nat) (h_this_steps : Nat) (h_this_trail : Nat) (h_this_sums : Nat) (h_this_keys : Nat) (h_this_steps_low : Nat) (h_this_steps_high : Nat) (h_this_trail_from : Nat) (h_m_moves : Nat) (h_m_lights : Nat) (h_m_prices : Nat) (h_m_shares : Nat) (c_size : Int32) (c_steps_letters : Int32) (c_steps_low : Nat → Int32) (c_steps_high : Nat → Int32) (c_trail_from : Nat → Int32) (c_sums : Nat → Int32) (c_keys : Nat → Int32) (c_m_states : Int32) (c_m_letters : Int32) (c_m_prices : Nat → Int32) : va_W := [(h_this, .inr (5, [.ref h_this_steps, .ref h_this_trail, .ref h_this_sums, .ref h_this_keys, .int c_size])), (h_this_steps, .inr (7, [.ref h_this_steps_low, .ref h_this_steps_high, .int c_steps_letters])), (h_this_steps_low, .inl (g.2.1, 256, .inl c_steps_low)), (h_this_steps_high, .inl (g.2.1, 256, .inl c_steps_high)), (h_this_trail, .inr (8, [.ref h_this_trail_from])), (h_this_trail_from, .inl (g.2.1, 4096, .inl c_trail_from)), (h_this_sums, .inl (g.2.1, 4096, .inl c_sums)), (h_this_keys, .inl (g.2.1, 16385, .inl c_keys)), (h_m, .inr (3, [.int c_m_states, .int c_m_letters, .ref h_m_moves, .ref h_m_lights, .ref h_m_prices, .ref h_m_shares])), (h_m_prices, .inl (g.2.1, 4, .inl c_m_prices))]
def J_X6_goOn_82 (R_2 : Int32 → Int32 → (Nat → Int32) → (Nat → Int32) → (Nat → Int32) → Prop) (x3 : Int32) (c_size : Int32) (c_trail_from : Nat → Int32) (c_sums : Nat → Int32) (c_keys : Nat → Int32) : Prop :=
    R_2 (x3 + (nI 1)) c_size c_trail_from c_sums c_keys
def J_X6_goOn_63 (x2 : Int32) (R_2 : Int32 → Int32 → (Nat → Int32) → (Nat → Int32) → (Nat → Int32) → Prop) (x3 : Int32) (x4 : Int32) (x5 : Int32) (c_size : Int32) (c_trail_from : Nat → Int32) (c_sums : Nat → Int32) (c_keys : Nat → Int32) : Prop :=
    wp_X9_mark c_trail_from x4 x2 x3 (fun c_trail_from => wp_X6_reach c_size c_sums c_keys x4 x5 (fun c_size c_sums c_keys => J_X6_goOn_82 R_2 x3 c_size c_trail_from c_sums c_keys))
def L_X6_goOn_2 (c_steps_letters : Int32) (c_steps_low : Nat → Int32) (c_steps_high : Nat → Int32) (c_m_states : Int32) (c_m_letters : Int32) (c_m_prices : Nat → Int32) (x2 : Int32) (Q : Int32 → (Nat → Int32) → (Nat → Int32) → (Nat → Int32) → Prop) : Nat → Int32 → Int32 → (Nat → Int32) → (Nat → Int32) → (Nat → Int32) → Prop
  | 0, _, _, _, _, _ => False
  | n_2 + 1, x3, c_size, c_trail_from, c_sums, c_keys =>
    ((c_steps_letters ≤ x3 → Q c_size c_trail_from c_sums c_keys) ∧ (¬ c_steps_letters ≤ x3 → wp_X8_after c_steps_letters c_steps_low c_steps_high x2 x3 (fun r4 => wp_X6_sumOf c_size c_sums x2 (fun r6 => wp_X4_priceOf c_m_states c_m_letters c_m_prices x3 (fun r8 => ((r4 = (nI 0) → J_X6_goOn_82 (L_X6_goOn_2 c_steps_letters c_steps_low c_steps_high c_m_states c_m_letters c_m_prices x2 Q n_2) x3 c_size c_trail_from c_sums c_keys) ∧ (¬ r4 = (nI 0) → wp_X6_sumOf c_size c_sums r4 (fun r10 => ((r10 = (-1) → J_X6_goOn_63 x2 (L_X6_goOn_2 c_steps_letters c_steps_low c_steps_high c_m_states c_m_letters c_m_prices x2 Q n_2) x3 r4 (r6 + r8) c_size c_trail_from c_sums c_keys) ∧ (¬ r10 = (-1) → wp_X6_sumOf c_size c_sums r4 (fun r16 => ((r16 ≤ (r6 + r8) → J_X6_goOn_82 (L_X6_goOn_2 c_steps_letters c_steps_low c_steps_high c_m_states c_m_letters c_m_prices x2 Q n_2) x3 c_size c_trail_from c_sums c_keys) ∧ (¬ r16 ≤ (r6 + r8) → J_X6_goOn_63 x2 (L_X6_goOn_2 c_steps_letters c_steps_low c_steps_high c_m_states c_m_letters c_m_prices x2 Q n_2) x3 r4 (r6 + r8) c_size c_trail_from c_sums c_keys)))))))))))))
def wp_X6_goOn (c_size : Int32) (c_steps_letters : Int32) (c_steps_low : Nat → Int32) (c_steps_high : Nat → Int32) (c_trail_from : Nat → Int32) (c_sums : Nat → Int32) (c_keys : Nat → Int32) (c_m_states : Int32) (c_m_letters : Int32) (c_m_prices : Nat → Int32) (x2 : Int32) (Q : Int32 → (Nat → Int32) → (Nat → Int32) → (Nat → Int32) → Prop) : Prop :=
    ∃ n, L_X6_goOn_2 c_steps_letters c_steps_low c_steps_high c_m_states c_m_letters c_m_prices x2 Q n (nI 0) c_size c_trail_from c_sums c_keys
abbrev rm_X6_goOn : Room := { frames := 2, cells := 0, slots := 0, locals := 46 }
set_option maxHeartbeats 4000000 in
set_option maxRecDepth 100000 in
theorem k_X6_goOn (l : Launch) (g : GG) (h_this : Nat) (h_m : Nat) (h_this_steps : Nat) (h_this_trail : Nat) (h_this_sums : Nat) (h_this_keys : Nat) (h_this_steps_low : Nat) (h_this_steps_high : Nat) (h_this_trail_from : Nat) (h_m_moves : Nat) (h_m_lights : Nat) (h_m_prices : Nat) (h_m_shares : Nat) {c_size : Int32} {c_steps_letters : Int32} {c_steps_low : Nat → Int32} {c_steps_high : Nat → Int32} {c_trail_from : Nat → Int32} {c_sums : Nat → Int32} {c_keys : Nat → Int32} {c_m_states : Int32} {c_m_letters : Int32} {c_m_prices : Nat → Int32} {x2 : Int32} {Q : Int32 → (Nat → Int32) → (Nat → Int32) → (Nat → Int32) → Prop} (h : wp_X6_goOn c_size c_steps_letters c_steps_low c_steps_high c_trail_from c_sums c_keys c_m_states c_m_letters c_m_prices x2 Q) : CV l g yX6_goOn wsX6_goOn rm_X6_goOn [.ref h_this, .ref h_m, .int x2] (cw_X6_goOn g h_this h_m h_this_steps h_this_trail h_this_sums h_this_keys h_this_steps_low h_this_steps_high h_this_trail_from h_m_moves h_m_lights h_m_prices h_m_shares c_size c_steps_letters c_steps_low c_steps_high c_trail_from c_sums c_keys c_m_states c_m_letters c_m_prices) (S := Int32 × (Nat → Int32) × (Nat → Int32) × (Nat → Int32)) (fun u => (cw_X6_goOn g h_this h_m h_this_steps h_this_trail h_this_sums h_this_keys h_this_steps_low h_this_steps_high h_this_trail_from h_m_moves h_m_lights h_m_prices h_m_shares u.1 c_steps_letters c_steps_low c_steps_high u.2.1 u.2.2.1 u.2.2.2 c_m_states c_m_letters c_m_prices)) (fun u => Q u.1 u.2.1 u.2.2.1 u.2.2.2) 0 0 := by
  refine mk_V (cc := cX6_goOn) (maxL := 6) (own := RX6) (by decide) rfl rfl (Nat.le_of_ble_eq_true rfl) ?_
  intro p e s m args below meth c A QQ E hret hP hD hS ls hl
  have E2 := E
  obtain ⟨hx, hb, hr, hml, hown, hts, hlocks, hA, hZ, hK, hnm⟩ := E2
  have f18 := hts (.fieldLink RX6 18 "WordBench$PriceSearch" "steps" "LWordBench$Steps;") (by decide +kernel)
  have f22 := hts (.fieldLink RX6 22 "WordBench$PriceSearch" "trail" "LWordBench$Trail;") (by decide +kernel)
  have iX6 : ∀ w ∈ wsX60, w ∈ wsX6_goOn := fun _ h => List.mem_cons_of_mem _ (List.mem_append_left _ (List.mem_append_left _ (List.mem_append_left _ (List.mem_append_right _ h))))
  have hP : va_P g.1 vwCl (cw_X6_goOn g h_this h_m h_this_steps h_this_trail h_this_sums h_this_keys h_this_steps_low h_this_steps_high h_this_trail_from h_m_moves h_m_lights h_m_prices h_m_shares c_size c_steps_letters c_steps_low c_steps_high c_trail_from c_sums c_keys c_m_states c_m_letters c_m_prices) s.heap := hP
  have hD : va_D A (cw_X6_goOn g h_this h_m h_this_steps h_this_trail h_this_sums h_this_keys h_this_steps_low h_this_steps_high h_this_trail_from h_m_moves h_m_lights h_m_prices h_m_shares c_size c_steps_letters c_steps_low c_steps_high c_trail_from c_sums c_keys c_m_states c_m_letters c_m_prices) := hD
  have hl : lv_has ls 6 [(0, .ref h_this), (1, .ref h_m), (2, .int x2)] := hl
  unfold wp_X6_goOn at h
  have K_2 : ∀ (n_2 : Nat) (x3 : Int32) (c_size : Int32) (c_trail_from : Nat → Int32) (c_sums : Nat → Int32) (c_keys : Nat → Int32) , L_X6_goOn_2 c_steps_letters c_steps_low c_steps_high c_m_states c_m_letters c_m_prices x2 Q n_2 x3 c_size c_trail_from c_sums c_keys → ∀ (H : Heap) (locs : List Loc), va_P g.1 vwCl (cw_X6_goOn g h_this h_m h_this_steps h_this_trail h_this_sums h_this_keys h_this_steps_low h_this_steps_high h_this_trail_from h_m_moves h_m_lights h_m_prices h_m_shares c_size c_steps_letters c_steps_low c_steps_high c_trail_from c_sums c_keys c_m_states c_m_letters c_m_prices) H → va_D A (cw_X6_goOn g h_this h_m h_this_steps h_this_trail h_this_sums h_this_keys h_this_steps_low h_this_steps_high h_this_trail_from h_m_moves h_m_lights h_m_prices h_m_shares c_size c_steps_letters c_steps_low c_steps_high c_trail_from c_sums c_keys c_m_states c_m_letters c_m_prices) → va_S A s.heap H locs → ∀ ls : Array Slot, lv_has ls 6 [(0, .ref h_this), (1, .ref h_m), (2, .int x2), (3, .int x3)] → W p l e rm_X6_goOn s m args below meth c H locs 0 0 QQ (F0 m 2 ls []) := by
    intro n_2
    induction n_2 with
    | zero => intro x3 c_size c_trail_from c_sums c_keys; exact fun h => False.elim h
    | succ n_2 ih_2 =>
      intro x3 c_size c_trail_from c_sums c_keys h H locs hP hD hS ls hl
      unfold L_X6_goOn_2 at h
      have K_82 : ∀ (x3 : Int32) (c_size : Int32) (c_trail_from : Nat → Int32) (c_sums : Nat → Int32) (c_keys : Nat → Int32) , J_X6_goOn_82 (L_X6_goOn_2 c_steps_letters c_steps_low c_steps_high c_m_states c_m_letters c_m_prices x2 Q n_2) x3 c_size c_trail_from c_sums c_keys → ∀ (H : Heap) (locs : List Loc), va_P g.1 vwCl (cw_X6_goOn g h_this h_m h_this_steps h_this_trail h_this_sums h_this_keys h_this_steps_low h_this_steps_high h_this_trail_from h_m_moves h_m_lights h_m_prices h_m_shares c_size c_steps_letters c_steps_low c_steps_high c_trail_from c_sums c_keys c_m_states c_m_letters c_m_prices) H → va_D A (cw_X6_goOn g h_this h_m h_this_steps h_this_trail h_this_sums h_this_keys h_this_steps_low h_this_steps_high h_this_trail_from h_m_moves h_m_lights h_m_prices h_m_shares c_size c_steps_letters c_steps_low c_steps_high c_trail_from c_sums c_keys c_m_states c_m_letters c_m_prices) → va_S A s.heap H locs → ∀ ls : Array Slot, lv_has ls 6 [(0, .ref h_this), (1, .ref h_m), (2, .int x2), (3, .int x3)] → W p l e rm_X6_goOn s m args below meth c H locs 0 0 QQ (F0 m 82 ls []) := by
        intro x3 c_size c_trail_from c_sums c_keys h H locs hP hD hS ls hl
        unfold J_X6_goOn_82 at h
        refine lv_iinc (v := (x3 + (nI 1))) (lv' := [(3, .int (x3 + (nI 1))), (0, .ref h_this), (1, .ref h_m), (2, .int x2)]) hx hb dX6_goOn_82 hl (k := 3) rfl rfl (by decide) rfl (fun ls hl => ?_)
        refine lv_goto (tgt := 2) hx hb dX6_goOn_85 (by decide) ?_
        exact ih_2 (x3 + (nI 1)) c_size c_trail_from c_sums c_keys h _ _ hP hD hS _ (lv_sub hl [1, 2, 3, 0] rfl)
      have K_63 : ∀ (x3 : Int32) (x4 : Int32) (x5 : Int32) (c_size : Int32) (c_trail_from : Nat → Int32) (c_sums : Nat → Int32) (c_keys : Nat → Int32) , J_X6_goOn_63 x2 (L_X6_goOn_2 c_steps_letters c_steps_low c_steps_high c_m_states c_m_letters c_m_prices x2 Q n_2) x3 x4 x5 c_size c_trail_from c_sums c_keys → ∀ (H : Heap) (locs : List Loc), va_P g.1 vwCl (cw_X6_goOn g h_this h_m h_this_steps h_this_trail h_this_sums h_this_keys h_this_steps_low h_this_steps_high h_this_trail_from h_m_moves h_m_lights h_m_prices h_m_shares c_size c_steps_letters c_steps_low c_steps_high c_trail_from c_sums c_keys c_m_states c_m_letters c_m_prices) H → va_D A (cw_X6_goOn g h_this h_m h_this_steps h_this_trail h_this_sums h_this_keys h_this_steps_low h_this_steps_high h_this_trail_from h_m_moves h_m_lights h_m_prices h_m_shares c_size c_steps_letters c_steps_low c_steps_high c_trail_from c_sums c_keys c_m_states c_m_letters c_m_prices) → va_S A s.heap H locs → ∀ ls : Array Slot, lv_has ls 6 [(0, .ref h_this), (1, .ref h_m), (2, .int x2), (3, .int x3), (4, .int x4), (5, .int x5)] → W p l e rm_X6_goOn s m args below meth c H locs 0 0 QQ (F0 m 63 ls []) := by
        intro x3 x4 x5 c_size c_trail_from c_sums c_keys h H locs hP hD hS ls hl
        unfold J_X6_goOn_63 at h
        refine lv_aload_n hx hb dX6_goOn_63 rfl (lv_at hl 0 rfl) ?_
        refine va_get (D := g.1) (ci := 5) (v := .ref h_this_trail) (C := RX6) (T := TX6) (N := 5) hx hb hts iX6 hown hK hP 0 rfl rfl 1 (by decide) f22 (fun _ h9 => h9) rfl dX6_goOn_64 ?_
        refine lv_iload hx hb dX6_goOn_67 (lv_at hl 4 rfl) ?_
        refine lv_iload_n hx hb dX6_goOn_69 rfl (lv_at hl 2 rfl) ?_
        refine lv_iload_n hx hb dX6_goOn_70 rfl (lv_at hl 3 rfl) ?_
        refine go_V E (run_V E ((k_X9_mark l g h_this_trail h_this_trail_from h) _) (cwV 3 hts gX6_goOn_X9_mark rfl rfl rfl (by decide +kernel) ⟨Nat.le_of_ble_eq_true rfl, Nat.le_of_ble_eq_true rfl⟩) hP hD hS [4, 5] rfl rfl 0 8 rfl rfl rfl hl rfl rfl (Nat.le_of_ble_eq_true rfl) dX6_goOn_71 ⟨Nat.le_of_ble_eq_true rfl, Nat.le_of_ble_eq_true rfl⟩) hP hD hS [4, 5] rfl [(true, 0), (true, 1), (true, 2), (true, 3), (false, 0), (false, 1), (true, 6), (true, 7), (true, 8), (true, 9)] rfl (by decide) (fun u => (cw_X6_goOn g h_this h_m h_this_steps h_this_trail h_this_sums h_this_keys h_this_steps_low h_this_steps_high h_this_trail_from h_m_moves h_m_lights h_m_prices h_m_shares c_size c_steps_letters c_steps_low c_steps_high u c_sums c_keys c_m_states c_m_letters c_m_prices)) (fun _ => rfl) (fun c_trail_from H locs h hP hD hS => ?_)
        try dsimp only at h
        have hP : va_P g.1 vwCl (cw_X6_goOn g h_this h_m h_this_steps h_this_trail h_this_sums h_this_keys h_this_steps_low h_this_steps_high h_this_trail_from h_m_moves h_m_lights h_m_prices h_m_shares c_size c_steps_letters c_steps_low c_steps_high c_trail_from c_sums c_keys c_m_states c_m_letters c_m_prices) H := hP
        have hD : va_D A (cw_X6_goOn g h_this h_m h_this_steps h_this_trail h_this_sums h_this_keys h_this_steps_low h_this_steps_high h_this_trail_from h_m_moves h_m_lights h_m_prices h_m_shares c_size c_steps_letters c_steps_low c_steps_high c_trail_from c_sums c_keys c_m_states c_m_letters c_m_prices) := hD
        refine lv_aload_n hx hb dX6_goOn_74 rfl (lv_at hl 0 rfl) ?_
        refine lv_iload hx hb dX6_goOn_75 (lv_at hl 4 rfl) ?_
        refine lv_iload hx hb dX6_goOn_77 (lv_at hl 5 rfl) ?_
        refine go_V E (run_V E ((k_X6_reach l g h_this h_this_steps h_this_trail h_this_sums h_this_keys h) _) (cwV 2 hts gX6_goOn_X6_reach rfl rfl rfl (by decide +kernel) ⟨Nat.le_of_ble_eq_true rfl, Nat.le_of_ble_eq_true rfl⟩) hP hD hS [0, 6, 7] rfl rfl 0 5 rfl rfl rfl hl rfl rfl (Nat.le_of_ble_eq_true rfl) dX6_goOn_79 ⟨Nat.le_of_ble_eq_true rfl, Nat.le_of_ble_eq_true rfl⟩) hP hD hS [0, 6, 7] rfl [(false, 0), (true, 1), (true, 2), (true, 3), (true, 4), (true, 5), (false, 1), (false, 2), (true, 8), (true, 9)] rfl (by decide) (fun u => (cw_X6_goOn g h_this h_m h_this_steps h_this_trail h_this_sums h_this_keys h_this_steps_low h_this_steps_high h_this_trail_from h_m_moves h_m_lights h_m_prices h_m_shares u.1 c_steps_letters c_steps_low c_steps_high c_trail_from u.2.1 u.2.2 c_m_states c_m_letters c_m_prices)) (fun _ => rfl) (fun u H locs h hP hD hS => ?_)
        obtain ⟨c_size, c_sums, c_keys⟩ := u
        try dsimp only at h
        have hP : va_P g.1 vwCl (cw_X6_goOn g h_this h_m h_this_steps h_this_trail h_this_sums h_this_keys h_this_steps_low h_this_steps_high h_this_trail_from h_m_moves h_m_lights h_m_prices h_m_shares c_size c_steps_letters c_steps_low c_steps_high c_trail_from c_sums c_keys c_m_states c_m_letters c_m_prices) H := hP
        have hD : va_D A (cw_X6_goOn g h_this h_m h_this_steps h_this_trail h_this_sums h_this_keys h_this_steps_low h_this_steps_high h_this_trail_from h_m_moves h_m_lights h_m_prices h_m_shares c_size c_steps_letters c_steps_low c_steps_high c_trail_from c_sums c_keys c_m_states c_m_letters c_m_prices) := hD
        exact K_82 x3 c_size c_trail_from c_sums c_keys h _ _ hP hD hS _ (lv_sub hl [0, 1, 2, 3] rfl)
      refine lv_iload_n hx hb dX6_goOn_2 rfl (lv_at hl 3 rfl) ?_
      refine lv_aload_n hx hb dX6_goOn_3 rfl (lv_at hl 0 rfl) ?_
      refine va_get (D := g.1) (ci := 5) (v := .ref h_this_steps) (C := RX6) (T := TX6) (N := 5) hx hb hts iX6 hown hK hP 0 rfl rfl 0 (by decide) f18 (fun _ h9 => h9) rfl dX6_goOn_4 ?_
      refine go_I E (run_V E ((k_X8_letters l g h_this_steps h_this_steps_low h_this_steps_high (Q := fun r => r = c_steps_letters) rfl) _) (cwV 0 hts gX6_goOn_X8_letters rfl rfl rfl (by decide +kernel) ⟨Nat.le_of_ble_eq_true rfl, Nat.le_of_ble_eq_true rfl⟩) hP hD hS [1] rfl rfl 0 7 rfl rfl rfl hl rfl rfl (Nat.le_of_ble_eq_true rfl) dX6_goOn_7 ⟨Nat.le_of_ble_eq_true rfl, Nat.le_of_ble_eq_true rfl⟩) hP hD hS [1] rfl [(true, 0), (false, 0), (true, 2), (true, 3), (true, 4), (true, 5), (true, 6), (true, 7), (true, 8), (true, 9)] rfl (by decide) (fun _ => (cw_X6_goOn g h_this h_m h_this_steps h_this_trail h_this_sums h_this_keys h_this_steps_low h_this_steps_high h_this_trail_from h_m_moves h_m_lights h_m_prices h_m_shares c_size c_steps_letters c_steps_low c_steps_high c_trail_from c_sums c_keys c_m_states c_m_letters c_m_prices)) (fun _ => rfl) (fun r2 _ H locs hr_ hP hD hS => ?_)
      have hr_ : c_steps_letters = r2 := Eq.symm hr_
      subst hr_
      have hP : va_P g.1 vwCl (cw_X6_goOn g h_this h_m h_this_steps h_this_trail h_this_sums h_this_keys h_this_steps_low h_this_steps_high h_this_trail_from h_m_moves h_m_lights h_m_prices h_m_shares c_size c_steps_letters c_steps_low c_steps_high c_trail_from c_sums c_keys c_m_states c_m_letters c_m_prices) H := hP
      have hD : va_D A (cw_X6_goOn g h_this h_m h_this_steps h_this_trail h_this_sums h_this_keys h_this_steps_low h_this_steps_high h_this_trail_from h_m_moves h_m_lights h_m_prices h_m_shares c_size c_steps_letters c_steps_low c_steps_high c_trail_from c_sums c_keys c_m_states c_m_letters c_m_prices) := hD
      refine lv_icmp_ge (tgt := 88) hx hb dX6_goOn_10 (by decide) (fun cq => ?_) (fun cq => ?_)
      · replace h := h.1 cq
        exact hret (c_size, c_trail_from, c_sums, c_keys) _ _ _ _ h hP hD hS dX6_goOn_88
      · replace h := h.2 cq
        refine lv_aload_n hx hb dX6_goOn_13 rfl (lv_at hl 0 rfl) ?_
        refine va_get (D := g.1) (ci := 5) (v := .ref h_this_steps) (C := RX6) (T := TX6) (N := 5) hx hb hts iX6 hown hK hP 0 rfl rfl 0 (by decide) f18 (fun _ h9 => h9) rfl dX6_goOn_14 ?_
        refine lv_iload_n hx hb dX6_goOn_17 rfl (lv_at hl 2 rfl) ?_
        refine lv_iload_n hx hb dX6_goOn_18 rfl (lv_at hl 3 rfl) ?_
        refine go_I E (run_V E ((k_X8_after l g h_this_steps h_this_steps_low h_this_steps_high h) _) (cwV 2 hts gX6_goOn_X8_after rfl rfl rfl (by decide +kernel) ⟨Nat.le_of_ble_eq_true rfl, Nat.le_of_ble_eq_true rfl⟩) hP hD hS [1, 2, 3] rfl rfl 0 7 rfl rfl rfl hl rfl rfl (Nat.le_of_ble_eq_true rfl) dX6_goOn_19 ⟨Nat.le_of_ble_eq_true rfl, Nat.le_of_ble_eq_true rfl⟩) hP hD hS [1, 2, 3] rfl [(true, 0), (false, 0), (false, 1), (false, 2), (true, 4), (true, 5), (true, 6), (true, 7), (true, 8), (true, 9)] rfl (by decide) (fun _ => (cw_X6_goOn g h_this h_m h_this_steps h_this_trail h_this_sums h_this_keys h_this_steps_low h_this_steps_high h_this_trail_from h_m_moves h_m_lights h_m_prices h_m_shares c_size c_steps_letters c_steps_low c_steps_high c_trail_from c_sums c_keys c_m_states c_m_letters c_m_prices)) (fun _ => rfl) (fun r4 _ H locs h hP hD hS => ?_)
        try dsimp only at h
        have hP : va_P g.1 vwCl (cw_X6_goOn g h_this h_m h_this_steps h_this_trail h_this_sums h_this_keys h_this_steps_low h_this_steps_high h_this_trail_from h_m_moves h_m_lights h_m_prices h_m_shares c_size c_steps_letters c_steps_low c_steps_high c_trail_from c_sums c_keys c_m_states c_m_letters c_m_prices) H := hP
        have hD : va_D A (cw_X6_goOn g h_this h_m h_this_steps h_this_trail h_this_sums h_this_keys h_this_steps_low h_this_steps_high h_this_trail_from h_m_moves h_m_lights h_m_prices h_m_shares c_size c_steps_letters c_steps_low c_steps_high c_trail_from c_sums c_keys c_m_states c_m_letters c_m_prices) := hD
        refine lv_istore (lv' := [(4, .int r4), (0, .ref h_this), (1, .ref h_m), (2, .int x2), (3, .int x3)]) hx hb dX6_goOn_22 hl (by decide) rfl (fun ls hl => ?_)
        refine lv_aload_n hx hb dX6_goOn_24 rfl (lv_at hl 1 rfl) ?_
        refine lv_iload_n hx hb dX6_goOn_25 rfl (lv_at hl 3 rfl) ?_
        refine go_I E (run_V E ((k_X6_sumOf l g h_this h_this_steps h_this_trail h_this_sums h_this_keys h) _) (cwV 1 hts gX6_goOn_X6_sumOf rfl rfl rfl (by decide +kernel) ⟨Nat.le_of_ble_eq_true rfl, Nat.le_of_ble_eq_true rfl⟩) hP hD hS [0, 6] rfl rfl 0 5 rfl rfl rfl hl rfl rfl (Nat.le_of_ble_eq_true rfl) dX6_goOn_26 ⟨Nat.le_of_ble_eq_true rfl, Nat.le_of_ble_eq_true rfl⟩) hP hD hS [0, 6] rfl [(false, 0), (true, 1), (true, 2), (true, 3), (true, 4), (true, 5), (false, 1), (true, 7), (true, 8), (true, 9)] rfl (by decide) (fun _ => (cw_X6_goOn g h_this h_m h_this_steps h_this_trail h_this_sums h_this_keys h_this_steps_low h_this_steps_high h_this_trail_from h_m_moves h_m_lights h_m_prices h_m_shares c_size c_steps_letters c_steps_low c_steps_high c_trail_from c_sums c_keys c_m_states c_m_letters c_m_prices)) (fun _ => rfl) (fun r6 _ H locs h hP hD hS => ?_)
        try dsimp only at h
        have hP : va_P g.1 vwCl (cw_X6_goOn g h_this h_m h_this_steps h_this_trail h_this_sums h_this_keys h_this_steps_low h_this_steps_high h_this_trail_from h_m_moves h_m_lights h_m_prices h_m_shares c_size c_steps_letters c_steps_low c_steps_high c_trail_from c_sums c_keys c_m_states c_m_letters c_m_prices) H := hP
        have hD : va_D A (cw_X6_goOn g h_this h_m h_this_steps h_this_trail h_this_sums h_this_keys h_this_steps_low h_this_steps_high h_this_trail_from h_m_moves h_m_lights h_m_prices h_m_shares c_size c_steps_letters c_steps_low c_steps_high c_trail_from c_sums c_keys c_m_states c_m_letters c_m_prices) := hD
        refine lv_aload_n hx hb dX6_goOn_29 rfl (lv_at hl 2 rfl) ?_
        refine lv_iload_n hx hb dX6_goOn_30 rfl (lv_at hl 4 rfl) ?_
        refine go_I E (run_V E ((k_X4_priceOf l g h_m h_m_moves h_m_lights h_m_prices h_m_shares h) _) (cwV 1 hts gX6_goOn_X4_priceOf rfl rfl rfl (by decide +kernel) ⟨Nat.le_of_ble_eq_true rfl, Nat.le_of_ble_eq_true rfl⟩) hP hD hS [8, 9] rfl rfl 0 3 rfl rfl rfl hl rfl rfl (Nat.le_of_ble_eq_true rfl) dX6_goOn_31 ⟨Nat.le_of_ble_eq_true rfl, Nat.le_of_ble_eq_true rfl⟩) hP hD hS [8, 9] rfl [(true, 0), (true, 1), (true, 2), (true, 3), (true, 4), (true, 5), (true, 6), (true, 7), (false, 0), (false, 1)] rfl (by decide) (fun _ => (cw_X6_goOn g h_this h_m h_this_steps h_this_trail h_this_sums h_this_keys h_this_steps_low h_this_steps_high h_this_trail_from h_m_moves h_m_lights h_m_prices h_m_shares c_size c_steps_letters c_steps_low c_steps_high c_trail_from c_sums c_keys c_m_states c_m_letters c_m_prices)) (fun _ => rfl) (fun r8 _ H locs h hP hD hS => ?_)
        try dsimp only at h
        have hP : va_P g.1 vwCl (cw_X6_goOn g h_this h_m h_this_steps h_this_trail h_this_sums h_this_keys h_this_steps_low h_this_steps_high h_this_trail_from h_m_moves h_m_lights h_m_prices h_m_shares c_size c_steps_letters c_steps_low c_steps_high c_trail_from c_sums c_keys c_m_states c_m_letters c_m_prices) H := hP
        have hD : va_D A (cw_X6_goOn g h_this h_m h_this_steps h_this_trail h_this_sums h_this_keys h_this_steps_low h_this_steps_high h_this_trail_from h_m_moves h_m_lights h_m_prices h_m_shares c_size c_steps_letters c_steps_low c_steps_high c_trail_from c_sums c_keys c_m_states c_m_letters c_m_prices) := hD
        refine lv_iadd hx hb dX6_goOn_34 ?_
        refine lv_istore (lv' := [(5, .int (r6 + r8)), (4, .int r4), (0, .ref h_this), (1, .ref h_m), (2, .int x2), (3, .int x3)]) hx hb dX6_goOn_35 hl (by decide) rfl (fun ls hl => ?_)
        refine lv_iload hx hb dX6_goOn_37 (lv_at hl 1 rfl) ?_
        refine lv_if_eq (tgt := 82) hx hb dX6_goOn_39 (by decide) (fun cq => ?_) (fun cq => ?_)
        · replace h := h.1 cq
          exact K_82 x3 c_size c_trail_from c_sums c_keys h _ _ hP hD hS _ (lv_sub hl [2, 3, 4, 5] rfl)
        · replace h := h.2 cq
          refine lv_aload_n hx hb dX6_goOn_42 rfl (lv_at hl 2 rfl) ?_
          refine lv_iload hx hb dX6_goOn_43 (lv_at hl 1 rfl) ?_
          refine go_I E (run_V E ((k_X6_sumOf l g h_this h_this_steps h_this_trail h_this_sums h_this_keys h) _) (cwV 1 hts gX6_goOn_X6_sumOf rfl rfl rfl (by decide +kernel) ⟨Nat.le_of_ble_eq_true rfl, Nat.le_of_ble_eq_true rfl⟩) hP hD hS [0, 6] rfl rfl 0 5 rfl rfl rfl hl rfl rfl (Nat.le_of_ble_eq_true rfl) dX6_goOn_45 ⟨Nat.le_of_ble_eq_true rfl, Nat.le_of_ble_eq_true rfl⟩) hP hD hS [0, 6] rfl [(false, 0), (true, 1), (true, 2), (true, 3), (true, 4), (true, 5), (false, 1), (true, 7), (true, 8), (true, 9)] rfl (by decide) (fun _ => (cw_X6_goOn g h_this h_m h_this_steps h_this_trail h_this_sums h_this_keys h_this_steps_low h_this_steps_high h_this_trail_from h_m_moves h_m_lights h_m_prices h_m_shares c_size c_steps_letters c_steps_low c_steps_high c_trail_from c_sums c_keys c_m_states c_m_letters c_m_prices)) (fun _ => rfl) (fun r10 _ H locs h hP hD hS => ?_)
          try dsimp only at h
          have hP : va_P g.1 vwCl (cw_X6_goOn g h_this h_m h_this_steps h_this_trail h_this_sums h_this_keys h_this_steps_low h_this_steps_high h_this_trail_from h_m_moves h_m_lights h_m_prices h_m_shares c_size c_steps_letters c_steps_low c_steps_high c_trail_from c_sums c_keys c_m_states c_m_letters c_m_prices) H := hP
          have hD : va_D A (cw_X6_goOn g h_this h_m h_this_steps h_this_trail h_this_sums h_this_keys h_this_steps_low h_this_steps_high h_this_trail_from h_m_moves h_m_lights h_m_prices h_m_shares c_size c_steps_letters c_steps_low c_steps_high c_trail_from c_sums c_keys c_m_states c_m_letters c_m_prices) := hD
          refine lv_iconst (v := (-1)) hx hb dX6_goOn_48 (by decide) ?_
          refine lv_icmp_eq (tgt := 63) hx hb dX6_goOn_49 (by decide) (fun cq => ?_) (fun cq => ?_)
          · replace h := h.1 cq
            exact K_63 x3 r4 (r6 + r8) c_size c_trail_from c_sums c_keys h _ _ hP hD hS _ (lv_sub hl [2, 3, 4, 5, 1, 0] rfl)
          · replace h := h.2 cq
            refine lv_aload_n hx hb dX6_goOn_52 rfl (lv_at hl 2 rfl) ?_
            refine lv_iload hx hb dX6_goOn_53 (lv_at hl 1 rfl) ?_
            refine go_I E (run_V E ((k_X6_sumOf l g h_this h_this_steps h_this_trail h_this_sums h_this_keys h) _) (cwV 1 hts gX6_goOn_X6_sumOf rfl rfl rfl (by decide +kernel) ⟨Nat.le_of_ble_eq_true rfl, Nat.le_of_ble_eq_true rfl⟩) hP hD hS [0, 6] rfl rfl 0 5 rfl rfl rfl hl rfl rfl (Nat.le_of_ble_eq_true rfl) dX6_goOn_55 ⟨Nat.le_of_ble_eq_true rfl, Nat.le_of_ble_eq_true rfl⟩) hP hD hS [0, 6] rfl [(false, 0), (true, 1), (true, 2), (true, 3), (true, 4), (true, 5), (false, 1), (true, 7), (true, 8), (true, 9)] rfl (by decide) (fun _ => (cw_X6_goOn g h_this h_m h_this_steps h_this_trail h_this_sums h_this_keys h_this_steps_low h_this_steps_high h_this_trail_from h_m_moves h_m_lights h_m_prices h_m_shares c_size c_steps_letters c_steps_low c_steps_high c_trail_from c_sums c_keys c_m_states c_m_letters c_m_prices)) (fun _ => rfl) (fun r16 _ H locs h hP hD hS => ?_)
            try dsimp only at h
            have hP : va_P g.1 vwCl (cw_X6_goOn g h_this h_m h_this_steps h_this_trail h_this_sums h_this_keys h_this_steps_low h_this_steps_high h_this_trail_from h_m_moves h_m_lights h_m_prices h_m_shares c_size c_steps_letters c_steps_low c_steps_high c_trail_from c_sums c_keys c_m_states c_m_letters c_m_prices) H := hP
            have hD : va_D A (cw_X6_goOn g h_this h_m h_this_steps h_this_trail h_this_sums h_this_keys h_this_steps_low h_this_steps_high h_this_trail_from h_m_moves h_m_lights h_m_prices h_m_shares c_size c_steps_letters c_steps_low c_steps_high c_trail_from c_sums c_keys c_m_states c_m_letters c_m_prices) := hD
            refine lv_iload hx hb dX6_goOn_58 (lv_at hl 0 rfl) ?_
            refine lv_icmp_le (tgt := 82) hx hb dX6_goOn_60 (by decide) (fun cq => ?_) (fun cq => ?_)
            · replace h := h.1 cq
              exact K_82 x3 c_size c_trail_from c_sums c_keys h _ _ hP hD hS _ (lv_sub hl [2, 3, 4, 5] rfl)
            · replace h := h.2 cq
              exact K_63 x3 r4 (r6 + r8) c_size c_trail_from c_sums c_keys h _ _ hP hD hS _ (lv_sub hl [2, 3, 4, 5, 1, 0] rfl)
  refine lv_iconst (v := (nI 0)) hx hb dX6_goOn_0 (by decide) ?_
  refine lv_istore_n (lv' := [(3, .int (nI 0)), (0, .ref h_this), (1, .ref h_m), (2, .int x2)]) hx hb dX6_goOn_1 rfl hl (by decide) rfl (fun ls hl => ?_)
  obtain ⟨n, h⟩ := h
  exact K_2 n (nI 0) c_size c_trail_from c_sums c_keys h _ _ hP hD hS _ (lv_sub hl [1, 2, 3, 0] rfl)
abbrev cw_X6_look (g : GG) (h_this : Nat) (h_m : Nat) (h_this_steps : Nat) (h_this_trail : Nat) (h_this_sums : Nat) (h_this_keys : Nat) (h_this_steps_low : Nat) (h_this_steps_high : Nat) (h_this_trail_from : Nat) (h_m_moves : Nat) (h_m_lights : Nat) (h_m_prices : Nat) (h_m_shares : Nat) (c_size : Int32) (c_steps_letters : Int32) (c_steps_low : Nat → Int32) (c_steps_high : Nat → Int32) (c_trail_from : Nat → Int32) (c_sums : Nat → Int32) (c_keys : Nat → Int32) (c_m_states : Int32) (c_m_letters : Int32) (c_m_moves : Nat → Int32) (c_m_prices : Nat → Int32) : va_W := [(h_this, .inr (5, [.ref h_this_steps, .ref h_this_trail, .ref h_this_sums, .ref h_this_keys, .int c_size])), (h_this_steps, .inr (7, [.ref h_this_steps_low, .ref h_this_steps_high, .int c_steps_letters])), (h_this_steps_low, .inl (g.2.1, 256, .inl c_steps_low)), (h_this_steps_high, .inl (g.2.1, 256, .inl c_steps_high)), (h_this_trail, .inr (8, [.ref h_this_trail_from])), (h_this_trail_from, .inl (g.2.1, 4096, .inl c_trail_from)), (h_this_sums, .inl (g.2.1, 4096, .inl c_sums)), (h_this_keys, .inl (g.2.1, 16385, .inl c_keys)), (h_m, .inr (3, [.int c_m_states, .int c_m_letters, .ref h_m_moves, .ref h_m_lights, .ref h_m_prices, .ref h_m_shares])), (h_m_moves, .inl (g.2.1, 48, .inl c_m_moves)), (h_m_prices, .inl (g.2.1, 4, .inl c_m_prices))]
def J_X6_look_100 (R_37 : Int32 → Int32 → (Nat → Int32) → (Nat → Int32) → (Nat → Int32) → Prop) (x3 : Int32) (c_size : Int32) (c_trail_from : Nat → Int32) (c_sums : Nat → Int32) (c_keys : Nat → Int32) : Prop :=
    R_37 (x3 + (nI 1)) c_size c_trail_from c_sums c_keys
def L_X6_look_37 (c_steps_letters : Int32) (c_steps_low : Nat → Int32) (c_steps_high : Nat → Int32) (c_m_states : Int32) (c_m_letters : Int32) (c_m_prices : Nat → Int32) (Q : Int32 → Int32 → Int32 → (Nat → Int32) → (Nat → Int32) → (Nat → Int32) → (Nat → Int32) → (Nat → Int32) → Prop) : Nat → Int32 → Int32 → (Nat → Int32) → (Nat → Int32) → (Nat → Int32) → Prop
  | 0, _, _, _, _, _ => False
  | n_37 + 1, x3, c_size, c_trail_from, c_sums, c_keys =>
    (((nI 16385) ≤ x3 → Q (nI 0) c_size c_steps_letters c_steps_low c_steps_high c_trail_from c_sums c_keys) ∧ (¬ (nI 16385) ≤ x3 → ((c_size ≤ (nI 0) → Q (nI 0) c_size c_steps_letters c_steps_low c_steps_high c_trail_from c_sums c_keys) ∧ (¬ c_size ≤ (nI 0) → wp_X6_takeKey c_size c_keys (fun r10 c_size c_keys => wp_X6_sumOf c_size c_sums (r10 &&& (nI 4095)) (fun r12 => (((r10 >>> ((nI 12) &&& 31)) = r12 → wp_X7_isOne (r10 &&& (nI 4095)) (fun r14 => ((r14 = (nI 0) → wp_X6_goOn c_size c_steps_letters c_steps_low c_steps_high c_trail_from c_sums c_keys c_m_states c_m_letters c_m_prices (r10 &&& (nI 4095)) (fun c_size c_trail_from c_sums c_keys => J_X6_look_100 (L_X6_look_37 c_steps_letters c_steps_low c_steps_high c_m_states c_m_letters c_m_prices Q n_37) x3 c_size c_trail_from c_sums c_keys)) ∧ (¬ r14 = (nI 0) → Q (r10 &&& (nI 4095)) c_size c_steps_letters c_steps_low c_steps_high c_trail_from c_sums c_keys)))) ∧ (¬ (r10 >>> ((nI 12) &&& 31)) = r12 → J_X6_look_100 (L_X6_look_37 c_steps_letters c_steps_low c_steps_high c_m_states c_m_letters c_m_prices Q n_37) x3 c_size c_trail_from c_sums c_keys))))))))
def wp_X6_look (c_size : Int32) (c_steps_letters : Int32) (c_steps_low : Nat → Int32) (c_steps_high : Nat → Int32) (c_trail_from : Nat → Int32) (c_sums : Nat → Int32) (c_keys : Nat → Int32) (c_m_states : Int32) (c_m_letters : Int32) (c_m_moves : Nat → Int32) (c_m_prices : Nat → Int32) (x2 : Int32) (Q : Int32 → Int32 → Int32 → (Nat → Int32) → (Nat → Int32) → (Nat → Int32) → (Nat → Int32) → (Nat → Int32) → Prop) : Prop :=
    wp_X8_load c_steps_letters c_steps_low c_steps_high c_m_states c_m_letters c_m_moves (fun c_steps_letters c_steps_low c_steps_high => wp_X9_begin c_trail_from x2 (fun c_trail_from => wp_J7_fill_53178 4096 c_sums (-1) (fun c_sums => wp_X6_reach (nI 0) c_sums c_keys x2 (nI 0) (fun c_size c_sums c_keys => ∃ n, L_X6_look_37 c_steps_letters c_steps_low c_steps_high c_m_states c_m_letters c_m_prices Q n (nI 0) c_size c_trail_from c_sums c_keys))))
abbrev rm_X6_look : Room := { frames := 3, cells := 0, slots := 0, locals := 75 }
set_option maxHeartbeats 4000000 in
set_option maxRecDepth 100000 in
theorem k_X6_look (l : Launch) (g : GG) (h_this : Nat) (h_m : Nat) (h_this_steps : Nat) (h_this_trail : Nat) (h_this_sums : Nat) (h_this_keys : Nat) (h_this_steps_low : Nat) (h_this_steps_high : Nat) (h_this_trail_from : Nat) (h_m_moves : Nat) (h_m_lights : Nat) (h_m_prices : Nat) (h_m_shares : Nat) {c_size : Int32} {c_steps_letters : Int32} {c_steps_low : Nat → Int32} {c_steps_high : Nat → Int32} {c_trail_from : Nat → Int32} {c_sums : Nat → Int32} {c_keys : Nat → Int32} {c_m_states : Int32} {c_m_letters : Int32} {c_m_moves : Nat → Int32} {c_m_prices : Nat → Int32} {x2 : Int32} {Q : Int32 → Int32 → Int32 → (Nat → Int32) → (Nat → Int32) → (Nat → Int32) → (Nat → Int32) → (Nat → Int32) → Prop} (h : wp_X6_look c_size c_steps_letters c_steps_low c_steps_high c_trail_from c_sums c_keys c_m_states c_m_letters c_m_moves c_m_prices x2 Q) : CI l g yX6_look wsX6_look rm_X6_look [.ref h_this, .ref h_m, .int x2] (cw_X6_look g h_this h_m h_this_steps h_this_trail h_this_sums h_this_keys h_this_steps_low h_this_steps_high h_this_trail_from h_m_moves h_m_lights h_m_prices h_m_shares c_size c_steps_letters c_steps_low c_steps_high c_trail_from c_sums c_keys c_m_states c_m_letters c_m_moves c_m_prices) (S := Int32 × Int32 × (Nat → Int32) × (Nat → Int32) × (Nat → Int32) × (Nat → Int32) × (Nat → Int32)) (fun u => (cw_X6_look g h_this h_m h_this_steps h_this_trail h_this_sums h_this_keys h_this_steps_low h_this_steps_high h_this_trail_from h_m_moves h_m_lights h_m_prices h_m_shares u.1 u.2.1 u.2.2.1 u.2.2.2.1 u.2.2.2.2.1 u.2.2.2.2.2.1 u.2.2.2.2.2.2 c_m_states c_m_letters c_m_moves c_m_prices)) (fun r u => Q r u.1 u.2.1 u.2.2.1 u.2.2.2.1 u.2.2.2.2.1 u.2.2.2.2.2.1 u.2.2.2.2.2.2) 0 0 := by
  refine mk_I (cc := cX6_look) (maxL := 6) (own := RX6) (by decide) rfl rfl (Nat.le_of_ble_eq_true rfl) ?_
  intro p e s m args below meth c A QQ E hret hP hD hS ls hl
  have E2 := E
  obtain ⟨hx, hb, hr, hml, hown, hts, hlocks, hA, hZ, hK, hnm⟩ := E2
  have f18 := hts (.fieldLink RX6 18 "WordBench$PriceSearch" "steps" "LWordBench$Steps;") (by decide +kernel)
  have f22 := hts (.fieldLink RX6 22 "WordBench$PriceSearch" "trail" "LWordBench$Trail;") (by decide +kernel)
  have f9 := hts (.fieldLink RX6 9 "WordBench$PriceSearch" "sums" "[I") (by decide +kernel)
  have f44 := hts (.fieldLink RX6 44 "WordBench$PriceSearch" "size" "I") (by decide +kernel)
  have iX6 : ∀ w ∈ wsX60, w ∈ wsX6_look := fun _ h => List.mem_cons_of_mem _ (List.mem_append_left _ (List.mem_append_left _ (List.mem_append_left _ (List.mem_append_right _ h))))
  have hP : va_P g.1 vwCl (cw_X6_look g h_this h_m h_this_steps h_this_trail h_this_sums h_this_keys h_this_steps_low h_this_steps_high h_this_trail_from h_m_moves h_m_lights h_m_prices h_m_shares c_size c_steps_letters c_steps_low c_steps_high c_trail_from c_sums c_keys c_m_states c_m_letters c_m_moves c_m_prices) s.heap := hP
  have hD : va_D A (cw_X6_look g h_this h_m h_this_steps h_this_trail h_this_sums h_this_keys h_this_steps_low h_this_steps_high h_this_trail_from h_m_moves h_m_lights h_m_prices h_m_shares c_size c_steps_letters c_steps_low c_steps_high c_trail_from c_sums c_keys c_m_states c_m_letters c_m_moves c_m_prices) := hD
  have hl : lv_has ls 6 [(0, .ref h_this), (1, .ref h_m), (2, .int x2)] := hl
  unfold wp_X6_look at h
  have K_37 : ∀ (c_steps_letters : Int32) (c_steps_low : Nat → Int32) (c_steps_high : Nat → Int32) (n_37 : Nat) (x3 : Int32) (c_size : Int32) (c_trail_from : Nat → Int32) (c_sums : Nat → Int32) (c_keys : Nat → Int32) , L_X6_look_37 c_steps_letters c_steps_low c_steps_high c_m_states c_m_letters c_m_prices Q n_37 x3 c_size c_trail_from c_sums c_keys → ∀ (H : Heap) (locs : List Loc), va_P g.1 vwCl (cw_X6_look g h_this h_m h_this_steps h_this_trail h_this_sums h_this_keys h_this_steps_low h_this_steps_high h_this_trail_from h_m_moves h_m_lights h_m_prices h_m_shares c_size c_steps_letters c_steps_low c_steps_high c_trail_from c_sums c_keys c_m_states c_m_letters c_m_moves c_m_prices) H → va_D A (cw_X6_look g h_this h_m h_this_steps h_this_trail h_this_sums h_this_keys h_this_steps_low h_this_steps_high h_this_trail_from h_m_moves h_m_lights h_m_prices h_m_shares c_size c_steps_letters c_steps_low c_steps_high c_trail_from c_sums c_keys c_m_states c_m_letters c_m_moves c_m_prices) → va_S A s.heap H locs → ∀ ls : Array Slot, lv_has ls 6 [(0, .ref h_this), (1, .ref h_m), (3, .int x3)] → W p l e rm_X6_look s m args below meth c H locs 0 0 QQ (F0 m 37 ls []) := by
    intro c_steps_letters c_steps_low c_steps_high n_37
    induction n_37 with
    | zero => intro x3 c_size c_trail_from c_sums c_keys; exact fun h => False.elim h
    | succ n_37 ih_37 =>
      intro x3 c_size c_trail_from c_sums c_keys h H locs hP hD hS ls hl
      unfold L_X6_look_37 at h
      have K_100 : ∀ (x3 : Int32) (c_size : Int32) (c_trail_from : Nat → Int32) (c_sums : Nat → Int32) (c_keys : Nat → Int32) , J_X6_look_100 (L_X6_look_37 c_steps_letters c_steps_low c_steps_high c_m_states c_m_letters c_m_prices Q n_37) x3 c_size c_trail_from c_sums c_keys → ∀ (H : Heap) (locs : List Loc), va_P g.1 vwCl (cw_X6_look g h_this h_m h_this_steps h_this_trail h_this_sums h_this_keys h_this_steps_low h_this_steps_high h_this_trail_from h_m_moves h_m_lights h_m_prices h_m_shares c_size c_steps_letters c_steps_low c_steps_high c_trail_from c_sums c_keys c_m_states c_m_letters c_m_moves c_m_prices) H → va_D A (cw_X6_look g h_this h_m h_this_steps h_this_trail h_this_sums h_this_keys h_this_steps_low h_this_steps_high h_this_trail_from h_m_moves h_m_lights h_m_prices h_m_shares c_size c_steps_letters c_steps_low c_steps_high c_trail_from c_sums c_keys c_m_states c_m_letters c_m_moves c_m_prices) → va_S A s.heap H locs → ∀ ls : Array Slot, lv_has ls 6 [(0, .ref h_this), (1, .ref h_m), (3, .int x3)] → W p l e rm_X6_look s m args below meth c H locs 0 0 QQ (F0 m 100 ls []) := by
        intro x3 c_size c_trail_from c_sums c_keys h H locs hP hD hS ls hl
        unfold J_X6_look_100 at h
        refine lv_iinc (v := (x3 + (nI 1))) (lv' := [(3, .int (x3 + (nI 1))), (0, .ref h_this), (1, .ref h_m)]) hx hb dX6_look_100 hl (k := 2) rfl rfl (by decide) rfl (fun ls hl => ?_)
        refine lv_goto (tgt := 37) hx hb dX6_look_103 (by decide) ?_
        exact ih_37 (x3 + (nI 1)) c_size c_trail_from c_sums c_keys h _ _ hP hD hS _ (lv_sub hl [1, 2, 0] rfl)
      refine lv_iload_n hx hb dX6_look_37 rfl (lv_at hl 2 rfl) ?_
      refine lv_sipush (v := (nI 16385)) hx hb dX6_look_38 (by decide) ?_
      refine lv_icmp_ge (tgt := 106) hx hb dX6_look_41 (by decide) (fun cq => ?_) (fun cq => ?_)
      · replace h := h.1 cq
        refine lv_iconst (v := (nI 0)) hx hb dX6_look_106 (by decide) ?_
        exact hret (nI 0) (c_size, c_steps_letters, c_steps_low, c_steps_high, c_trail_from, c_sums, c_keys) _ _ _ _ rfl h hP hD hS dX6_look_107
      · replace h := h.2 cq
        refine lv_aload_n hx hb dX6_look_44 rfl (lv_at hl 0 rfl) ?_
        refine va_get (D := g.1) (ci := 5) (v := .int c_size) (C := RX6) (T := TX6) (N := 5) hx hb hts iX6 hown hK hP 0 rfl rfl 4 (by decide) f44 (fun _ h9 => h9) rfl dX6_look_45 ?_
        refine lv_if_le (tgt := 106) hx hb dX6_look_48 (by decide) (fun cq => ?_) (fun cq => ?_)
        · replace h := h.1 cq
          refine lv_iconst (v := (nI 0)) hx hb dX6_look_106 (by decide) ?_
          exact hret (nI 0) (c_size, c_steps_letters, c_steps_low, c_steps_high, c_trail_from, c_sums, c_keys) _ _ _ _ rfl h hP hD hS dX6_look_107
        · replace h := h.2 cq
          refine lv_aload_n hx hb dX6_look_51 rfl (lv_at hl 0 rfl) ?_
          refine go_I E (run_V E ((k_X6_takeKey l g h_this h_this_steps h_this_trail h_this_sums h_this_keys h) _) (cwV 0 hts gX6_look_X6_takeKey rfl rfl rfl (by decide +kernel) ⟨Nat.le_of_ble_eq_true rfl, Nat.le_of_ble_eq_true rfl⟩) hP hD hS [0, 7] rfl rfl 0 5 rfl rfl rfl hl rfl rfl (Nat.le_of_ble_eq_true rfl) dX6_look_52 ⟨Nat.le_of_ble_eq_true rfl, Nat.le_of_ble_eq_true rfl⟩) hP hD hS [0, 7] rfl [(false, 0), (true, 1), (true, 2), (true, 3), (true, 4), (true, 5), (true, 6), (false, 1), (true, 8), (true, 9), (true, 10)] rfl (by decide) (fun u => (cw_X6_look g h_this h_m h_this_steps h_this_trail h_this_sums h_this_keys h_this_steps_low h_this_steps_high h_this_trail_from h_m_moves h_m_lights h_m_prices h_m_shares u.1 c_steps_letters c_steps_low c_steps_high c_trail_from c_sums u.2 c_m_states c_m_letters c_m_moves c_m_prices)) (fun _ => rfl) (fun r10 u H locs h hP hD hS => ?_)
          obtain ⟨c_size, c_keys⟩ := u
          try dsimp only at h
          have hP : va_P g.1 vwCl (cw_X6_look g h_this h_m h_this_steps h_this_trail h_this_sums h_this_keys h_this_steps_low h_this_steps_high h_this_trail_from h_m_moves h_m_lights h_m_prices h_m_shares c_size c_steps_letters c_steps_low c_steps_high c_trail_from c_sums c_keys c_m_states c_m_letters c_m_moves c_m_prices) H := hP
          have hD : va_D A (cw_X6_look g h_this h_m h_this_steps h_this_trail h_this_sums h_this_keys h_this_steps_low h_this_steps_high h_this_trail_from h_m_moves h_m_lights h_m_prices h_m_shares c_size c_steps_letters c_steps_low c_steps_high c_trail_from c_sums c_keys c_m_states c_m_letters c_m_moves c_m_prices) := hD
          refine lv_istore (lv' := [(4, .int r10), (0, .ref h_this), (1, .ref h_m), (3, .int x3)]) hx hb dX6_look_55 hl (by decide) rfl (fun ls hl => ?_)
          refine lv_iload hx hb dX6_look_57 (lv_at hl 0 rfl) ?_
          refine lv_sipush (v := (nI 4095)) hx hb dX6_look_59 (by decide) ?_
          refine lv_iand hx hb dX6_look_62 ?_
          refine lv_istore (lv' := [(5, .int (r10 &&& (nI 4095))), (4, .int r10), (0, .ref h_this), (1, .ref h_m), (3, .int x3)]) hx hb dX6_look_63 hl (by decide) rfl (fun ls hl => ?_)
          refine lv_iload hx hb dX6_look_65 (lv_at hl 1 rfl) ?_
          refine lv_bipush (v := (nI 12)) hx hb dX6_look_67 (by decide) ?_
          refine lv_ishr hx hb dX6_look_69 ?_
          refine lv_aload_n hx hb dX6_look_70 rfl (lv_at hl 2 rfl) ?_
          refine lv_iload hx hb dX6_look_71 (lv_at hl 0 rfl) ?_
          refine go_I E (run_V E ((k_X6_sumOf l g h_this h_this_steps h_this_trail h_this_sums h_this_keys h) _) (cwV 1 hts gX6_look_X6_sumOf rfl rfl rfl (by decide +kernel) ⟨Nat.le_of_ble_eq_true rfl, Nat.le_of_ble_eq_true rfl⟩) hP hD hS [0, 6] rfl rfl 0 5 rfl rfl rfl hl rfl rfl (Nat.le_of_ble_eq_true rfl) dX6_look_73 ⟨Nat.le_of_ble_eq_true rfl, Nat.le_of_ble_eq_true rfl⟩) hP hD hS [0, 6] rfl [(false, 0), (true, 1), (true, 2), (true, 3), (true, 4), (true, 5), (false, 1), (true, 7), (true, 8), (true, 9), (true, 10)] rfl (by decide) (fun _ => (cw_X6_look g h_this h_m h_this_steps h_this_trail h_this_sums h_this_keys h_this_steps_low h_this_steps_high h_this_trail_from h_m_moves h_m_lights h_m_prices h_m_shares c_size c_steps_letters c_steps_low c_steps_high c_trail_from c_sums c_keys c_m_states c_m_letters c_m_moves c_m_prices)) (fun _ => rfl) (fun r12 _ H locs h hP hD hS => ?_)
          try dsimp only at h
          have hP : va_P g.1 vwCl (cw_X6_look g h_this h_m h_this_steps h_this_trail h_this_sums h_this_keys h_this_steps_low h_this_steps_high h_this_trail_from h_m_moves h_m_lights h_m_prices h_m_shares c_size c_steps_letters c_steps_low c_steps_high c_trail_from c_sums c_keys c_m_states c_m_letters c_m_moves c_m_prices) H := hP
          have hD : va_D A (cw_X6_look g h_this h_m h_this_steps h_this_trail h_this_sums h_this_keys h_this_steps_low h_this_steps_high h_this_trail_from h_m_moves h_m_lights h_m_prices h_m_shares c_size c_steps_letters c_steps_low c_steps_high c_trail_from c_sums c_keys c_m_states c_m_letters c_m_moves c_m_prices) := hD
          refine lv_icmp_eq (tgt := 82) hx hb dX6_look_76 (by decide) (fun cq => ?_) (fun cq => ?_)
          · replace h := h.1 cq
            refine lv_iload hx hb dX6_look_82 (lv_at hl 0 rfl) ?_
            refine go_I E (run_S E ((k_X7_isOne l g  h) _) (va_cwS 1 hts gX6_look_X7_isOne rfl rfl rfl (by decide +kernel) ⟨Nat.le_of_ble_eq_true rfl, Nat.le_of_ble_eq_true rfl⟩) hP hD hS [] rfl rfl hl rfl rfl (Nat.le_of_ble_eq_true rfl) dX6_look_84 ⟨Nat.le_of_ble_eq_true rfl, Nat.le_of_ble_eq_true rfl⟩) hP hD hS [] rfl [(true, 0), (true, 1), (true, 2), (true, 3), (true, 4), (true, 5), (true, 6), (true, 7), (true, 8), (true, 9), (true, 10)] rfl (by decide) (fun _ => (cw_X6_look g h_this h_m h_this_steps h_this_trail h_this_sums h_this_keys h_this_steps_low h_this_steps_high h_this_trail_from h_m_moves h_m_lights h_m_prices h_m_shares c_size c_steps_letters c_steps_low c_steps_high c_trail_from c_sums c_keys c_m_states c_m_letters c_m_moves c_m_prices)) (fun _ => rfl) (fun r14 _ H locs h hP hD hS => ?_)
            try dsimp only at h
            have hP : va_P g.1 vwCl (cw_X6_look g h_this h_m h_this_steps h_this_trail h_this_sums h_this_keys h_this_steps_low h_this_steps_high h_this_trail_from h_m_moves h_m_lights h_m_prices h_m_shares c_size c_steps_letters c_steps_low c_steps_high c_trail_from c_sums c_keys c_m_states c_m_letters c_m_moves c_m_prices) H := hP
            have hD : va_D A (cw_X6_look g h_this h_m h_this_steps h_this_trail h_this_sums h_this_keys h_this_steps_low h_this_steps_high h_this_trail_from h_m_moves h_m_lights h_m_prices h_m_shares c_size c_steps_letters c_steps_low c_steps_high c_trail_from c_sums c_keys c_m_states c_m_letters c_m_moves c_m_prices) := hD
            refine lv_if_eq (tgt := 93) hx hb dX6_look_87 (by decide) (fun cq => ?_) (fun cq => ?_)
            · replace h := h.1 cq
              refine lv_aload_n hx hb dX6_look_93 rfl (lv_at hl 2 rfl) ?_
              refine lv_aload_n hx hb dX6_look_94 rfl (lv_at hl 3 rfl) ?_
              refine lv_iload hx hb dX6_look_95 (lv_at hl 0 rfl) ?_
              refine go_V E (run_V E ((k_X6_goOn l g h_this h_m h_this_steps h_this_trail h_this_sums h_this_keys h_this_steps_low h_this_steps_high h_this_trail_from h_m_moves h_m_lights h_m_prices h_m_shares h) _) (cwV 2 hts gX6_look_X6_goOn rfl rfl rfl (by decide +kernel) ⟨Nat.le_of_ble_eq_true rfl, Nat.le_of_ble_eq_true rfl⟩) hP hD hS [0, 1, 2, 3, 4, 5, 6, 7, 8, 10] rfl rfl 0 5 rfl rfl rfl hl rfl rfl (Nat.le_of_ble_eq_true rfl) dX6_look_97 ⟨Nat.le_of_ble_eq_true rfl, Nat.le_of_ble_eq_true rfl⟩) hP hD hS [0, 1, 2, 3, 4, 5, 6, 7, 8, 10] rfl [(false, 0), (false, 1), (false, 2), (false, 3), (false, 4), (false, 5), (false, 6), (false, 7), (false, 8), (true, 9), (false, 9)] rfl (by decide) (fun u => (cw_X6_look g h_this h_m h_this_steps h_this_trail h_this_sums h_this_keys h_this_steps_low h_this_steps_high h_this_trail_from h_m_moves h_m_lights h_m_prices h_m_shares u.1 c_steps_letters c_steps_low c_steps_high u.2.1 u.2.2.1 u.2.2.2 c_m_states c_m_letters c_m_moves c_m_prices)) (fun _ => rfl) (fun u H locs h hP hD hS => ?_)
              obtain ⟨c_size, c_trail_from, c_sums, c_keys⟩ := u
              try dsimp only at h
              have hP : va_P g.1 vwCl (cw_X6_look g h_this h_m h_this_steps h_this_trail h_this_sums h_this_keys h_this_steps_low h_this_steps_high h_this_trail_from h_m_moves h_m_lights h_m_prices h_m_shares c_size c_steps_letters c_steps_low c_steps_high c_trail_from c_sums c_keys c_m_states c_m_letters c_m_moves c_m_prices) H := hP
              have hD : va_D A (cw_X6_look g h_this h_m h_this_steps h_this_trail h_this_sums h_this_keys h_this_steps_low h_this_steps_high h_this_trail_from h_m_moves h_m_lights h_m_prices h_m_shares c_size c_steps_letters c_steps_low c_steps_high c_trail_from c_sums c_keys c_m_states c_m_letters c_m_moves c_m_prices) := hD
              exact K_100 x3 c_size c_trail_from c_sums c_keys h _ _ hP hD hS _ (lv_sub hl [2, 3, 4] rfl)
            · replace h := h.2 cq
              refine lv_iload hx hb dX6_look_90 (lv_at hl 0 rfl) ?_
              exact hret (r10 &&& (nI 4095)) (c_size, c_steps_letters, c_steps_low, c_steps_high, c_trail_from, c_sums, c_keys) _ _ _ _ rfl h hP hD hS dX6_look_92
          · replace h := h.2 cq
            refine lv_goto (tgt := 100) hx hb dX6_look_79 (by decide) ?_
            exact K_100 x3 c_size c_trail_from c_sums c_keys h _ _ hP hD hS _ (lv_sub hl [2, 3, 4] rfl)
  refine lv_aload_n hx hb dX6_look_0 rfl (lv_at hl 0 rfl) ?_
  refine va_get (D := g.1) (ci := 5) (v := .ref h_this_steps) (C := RX6) (T := TX6) (N := 5) hx hb hts iX6 hown hK hP 0 rfl rfl 0 (by decide) f18 (fun _ h9 => h9) rfl dX6_look_1 ?_
  refine lv_aload_n hx hb dX6_look_4 rfl (lv_at hl 1 rfl) ?_
  refine go_V E (run_V E ((k_X8_load l g h_this_steps h_m h_this_steps_low h_this_steps_high h_m_moves h_m_lights h_m_prices h_m_shares h) _) (cwV 1 hts gX6_look_X8_load rfl rfl rfl (by decide +kernel) ⟨Nat.le_of_ble_eq_true rfl, Nat.le_of_ble_eq_true rfl⟩) hP hD hS [1, 2, 3, 8, 9] rfl rfl 0 7 rfl rfl rfl hl rfl rfl (Nat.le_of_ble_eq_true rfl) dX6_look_5 ⟨Nat.le_of_ble_eq_true rfl, Nat.le_of_ble_eq_true rfl⟩) hP hD hS [1, 2, 3, 8, 9] rfl [(true, 0), (false, 0), (false, 1), (false, 2), (true, 4), (true, 5), (true, 6), (true, 7), (false, 3), (false, 4), (true, 10)] rfl (by decide) (fun u => (cw_X6_look g h_this h_m h_this_steps h_this_trail h_this_sums h_this_keys h_this_steps_low h_this_steps_high h_this_trail_from h_m_moves h_m_lights h_m_prices h_m_shares c_size u.1 u.2.1 u.2.2 c_trail_from c_sums c_keys c_m_states c_m_letters c_m_moves c_m_prices)) (fun _ => rfl) (fun u H locs h hP hD hS => ?_)
  obtain ⟨c_steps_letters, c_steps_low, c_steps_high⟩ := u
  try dsimp only at h
  have hP : va_P g.1 vwCl (cw_X6_look g h_this h_m h_this_steps h_this_trail h_this_sums h_this_keys h_this_steps_low h_this_steps_high h_this_trail_from h_m_moves h_m_lights h_m_prices h_m_shares c_size c_steps_letters c_steps_low c_steps_high c_trail_from c_sums c_keys c_m_states c_m_letters c_m_moves c_m_prices) H := hP
  have hD : va_D A (cw_X6_look g h_this h_m h_this_steps h_this_trail h_this_sums h_this_keys h_this_steps_low h_this_steps_high h_this_trail_from h_m_moves h_m_lights h_m_prices h_m_shares c_size c_steps_letters c_steps_low c_steps_high c_trail_from c_sums c_keys c_m_states c_m_letters c_m_moves c_m_prices) := hD
  refine lv_aload_n hx hb dX6_look_8 rfl (lv_at hl 0 rfl) ?_
  refine va_get (D := g.1) (ci := 5) (v := .ref h_this_trail) (C := RX6) (T := TX6) (N := 5) hx hb hts iX6 hown hK hP 0 rfl rfl 1 (by decide) f22 (fun _ h9 => h9) rfl dX6_look_9 ?_
  refine lv_iload_n hx hb dX6_look_12 rfl (lv_at hl 2 rfl) ?_
  refine go_V E (run_V E ((k_X9_begin l g h_this_trail h_this_trail_from h) _) (cwV 1 hts gX6_look_X9_begin rfl rfl rfl (by decide +kernel) ⟨Nat.le_of_ble_eq_true rfl, Nat.le_of_ble_eq_true rfl⟩) hP hD hS [4, 5] rfl rfl 0 8 rfl rfl rfl hl rfl rfl (Nat.le_of_ble_eq_true rfl) dX6_look_13 ⟨Nat.le_of_ble_eq_true rfl, Nat.le_of_ble_eq_true rfl⟩) hP hD hS [4, 5] rfl [(true, 0), (true, 1), (true, 2), (true, 3), (false, 0), (false, 1), (true, 6), (true, 7), (true, 8), (true, 9), (true, 10)] rfl (by decide) (fun u => (cw_X6_look g h_this h_m h_this_steps h_this_trail h_this_sums h_this_keys h_this_steps_low h_this_steps_high h_this_trail_from h_m_moves h_m_lights h_m_prices h_m_shares c_size c_steps_letters c_steps_low c_steps_high u c_sums c_keys c_m_states c_m_letters c_m_moves c_m_prices)) (fun _ => rfl) (fun c_trail_from H locs h hP hD hS => ?_)
  try dsimp only at h
  have hP : va_P g.1 vwCl (cw_X6_look g h_this h_m h_this_steps h_this_trail h_this_sums h_this_keys h_this_steps_low h_this_steps_high h_this_trail_from h_m_moves h_m_lights h_m_prices h_m_shares c_size c_steps_letters c_steps_low c_steps_high c_trail_from c_sums c_keys c_m_states c_m_letters c_m_moves c_m_prices) H := hP
  have hD : va_D A (cw_X6_look g h_this h_m h_this_steps h_this_trail h_this_sums h_this_keys h_this_steps_low h_this_steps_high h_this_trail_from h_m_moves h_m_lights h_m_prices h_m_shares c_size c_steps_letters c_steps_low c_steps_high c_trail_from c_sums c_keys c_m_states c_m_letters c_m_moves c_m_prices) := hD
  refine lv_aload_n hx hb dX6_look_16 rfl (lv_at hl 0 rfl) ?_
  refine va_get (D := g.1) (ci := 5) (v := .ref h_this_sums) (C := RX6) (T := TX6) (N := 5) hx hb hts iX6 hown hK hP 0 rfl rfl 2 (by decide) f9 (fun _ h9 => h9) rfl dX6_look_17 ?_
  refine lv_iconst (v := (-1)) hx hb dX6_look_20 (by decide) ?_
  refine go_V E (run_S E ((k_J7_fill_53178 l g h_this_sums 4096 h) _) (va_cwS 2 hts gX6_look_J7_fill_53178 rfl rfl rfl (by decide +kernel) ⟨Nat.le_of_ble_eq_true rfl, Nat.le_of_ble_eq_true rfl⟩) hP hD hS [6] rfl rfl hl rfl rfl (Nat.le_of_ble_eq_true rfl) dX6_look_21 ⟨Nat.le_of_ble_eq_true rfl, Nat.le_of_ble_eq_true rfl⟩) hP hD hS [6] rfl [(true, 0), (true, 1), (true, 2), (true, 3), (true, 4), (true, 5), (false, 0), (true, 7), (true, 8), (true, 9), (true, 10)] rfl (by decide) (fun u => (cw_X6_look g h_this h_m h_this_steps h_this_trail h_this_sums h_this_keys h_this_steps_low h_this_steps_high h_this_trail_from h_m_moves h_m_lights h_m_prices h_m_shares c_size c_steps_letters c_steps_low c_steps_high c_trail_from u c_keys c_m_states c_m_letters c_m_moves c_m_prices)) (fun _ => rfl) (fun c_sums H locs h hP hD hS => ?_)
  try dsimp only at h
  have hP : va_P g.1 vwCl (cw_X6_look g h_this h_m h_this_steps h_this_trail h_this_sums h_this_keys h_this_steps_low h_this_steps_high h_this_trail_from h_m_moves h_m_lights h_m_prices h_m_shares c_size c_steps_letters c_steps_low c_steps_high c_trail_from c_sums c_keys c_m_states c_m_letters c_m_moves c_m_prices) H := hP
  have hD : va_D A (cw_X6_look g h_this h_m h_this_steps h_this_trail h_this_sums h_this_keys h_this_steps_low h_this_steps_high h_this_trail_from h_m_moves h_m_lights h_m_prices h_m_shares c_size c_steps_letters c_steps_low c_steps_high c_trail_from c_sums c_keys c_m_states c_m_letters c_m_moves c_m_prices) := hD
  refine lv_aload_n hx hb dX6_look_24 rfl (lv_at hl 0 rfl) ?_
  refine lv_iconst (v := (nI 0)) hx hb dX6_look_25 (by decide) ?_
  refine va_put (D := g.1) (ci := 5) (v := .int (nI 0)) (ty := .int) (C := RX6) (T := TX6) (N := 5) hx hb hts iX6 tyX6 tyX6_ok nmX6 hown hK hP hD hS 0 rfl rfl 4 (by decide) f44 (fun _ h9 => h9) rfl (by decide +kernel) rfl rfl (Nat.le_of_ble_eq_true rfl) dX6_look_26 (fun H locs hP hD hS => ?_)
  have hP : va_P g.1 vwCl (cw_X6_look g h_this h_m h_this_steps h_this_trail h_this_sums h_this_keys h_this_steps_low h_this_steps_high h_this_trail_from h_m_moves h_m_lights h_m_prices h_m_shares (nI 0) c_steps_letters c_steps_low c_steps_high c_trail_from c_sums c_keys c_m_states c_m_letters c_m_moves c_m_prices) H := hP
  have hD : va_D A (cw_X6_look g h_this h_m h_this_steps h_this_trail h_this_sums h_this_keys h_this_steps_low h_this_steps_high h_this_trail_from h_m_moves h_m_lights h_m_prices h_m_shares (nI 0) c_steps_letters c_steps_low c_steps_high c_trail_from c_sums c_keys c_m_states c_m_letters c_m_moves c_m_prices) := hD
  refine lv_aload_n hx hb dX6_look_29 rfl (lv_at hl 0 rfl) ?_
  refine lv_iload_n hx hb dX6_look_30 rfl (lv_at hl 2 rfl) ?_
  refine lv_iconst (v := (nI 0)) hx hb dX6_look_31 (by decide) ?_
  refine go_V E (run_V E ((k_X6_reach l g h_this h_this_steps h_this_trail h_this_sums h_this_keys h) _) (cwV 2 hts gX6_look_X6_reach rfl rfl rfl (by decide +kernel) ⟨Nat.le_of_ble_eq_true rfl, Nat.le_of_ble_eq_true rfl⟩) hP hD hS [0, 6, 7] rfl rfl 0 5 rfl rfl rfl hl rfl rfl (Nat.le_of_ble_eq_true rfl) dX6_look_32 ⟨Nat.le_of_ble_eq_true rfl, Nat.le_of_ble_eq_true rfl⟩) hP hD hS [0, 6, 7] rfl [(false, 0), (true, 1), (true, 2), (true, 3), (true, 4), (true, 5), (false, 1), (false, 2), (true, 8), (true, 9), (true, 10)] rfl (by decide) (fun u => (cw_X6_look g h_this h_m h_this_steps h_this_trail h_this_sums h_this_keys h_this_steps_low h_this_steps_high h_this_trail_from h_m_moves h_m_lights h_m_prices h_m_shares u.1 c_steps_letters c_steps_low c_steps_high c_trail_from u.2.1 u.2.2 c_m_states c_m_letters c_m_moves c_m_prices)) (fun _ => rfl) (fun u H locs h hP hD hS => ?_)
  obtain ⟨c_size, c_sums, c_keys⟩ := u
  try dsimp only at h
  have hP : va_P g.1 vwCl (cw_X6_look g h_this h_m h_this_steps h_this_trail h_this_sums h_this_keys h_this_steps_low h_this_steps_high h_this_trail_from h_m_moves h_m_lights h_m_prices h_m_shares c_size c_steps_letters c_steps_low c_steps_high c_trail_from c_sums c_keys c_m_states c_m_letters c_m_moves c_m_prices) H := hP
  have hD : va_D A (cw_X6_look g h_this h_m h_this_steps h_this_trail h_this_sums h_this_keys h_this_steps_low h_this_steps_high h_this_trail_from h_m_moves h_m_lights h_m_prices h_m_shares c_size c_steps_letters c_steps_low c_steps_high c_trail_from c_sums c_keys c_m_states c_m_letters c_m_moves c_m_prices) := hD
  refine lv_iconst (v := (nI 0)) hx hb dX6_look_35 (by decide) ?_
  refine lv_istore_n (lv' := [(3, .int (nI 0)), (0, .ref h_this), (1, .ref h_m), (2, .int x2)]) hx hb dX6_look_36 rfl hl (by decide) rfl (fun ls hl => ?_)
  obtain ⟨n, h⟩ := h
  exact K_37 c_steps_letters c_steps_low c_steps_high n (nI 0) c_size c_trail_from c_sums c_keys h _ _ hP hD hS _ (lv_sub hl [1, 2, 0] rfl)
abbrev cw_X7_fewest (g : GG) (h_this : Nat) (h_this_steps : Nat) (h_this_trail : Nat) (h_this_queue : Nat) (c_size : Int32) (c_queue : Nat → Int32) : va_W := [(h_this, .inr (6, [.ref h_this_steps, .ref h_this_trail, .ref h_this_queue, .int c_size])), (h_this_queue, .inl (g.2.1, 4096, .inl c_queue))]
def J_X7_fewest_37 (R_8 : Int32 → Int32 → Prop) (x1 : Int32) (x2 : Int32) : Prop :=
    R_8 x1 (x2 + (nI 1))
def L_X7_fewest_8 (c_size : Int32) (c_queue : Nat → Int32) (Q : Int32 → Prop) : Nat → Int32 → Int32 → Prop
  | 0, _, _ => False
  | n_8 + 1, x1, x2 =>
    ((c_size ≤ x2 → Q x1) ∧ (¬ c_size ≤ x2 → wp_X7_found c_size c_queue x2 (fun r4 => wp_J6_bitCount_0f7a4 r4 (fun r6 => wp_J6_bitCount_0f7a4 x1 (fun r8 => ((r8 ≤ r6 → J_X7_fewest_37 (L_X7_fewest_8 c_size c_queue Q n_8) x1 x2) ∧ (¬ r8 ≤ r6 → wp_X7_found c_size c_queue x2 (fun r10 => J_X7_fewest_37 (L_X7_fewest_8 c_size c_queue Q n_8) r10 x2))))))))
def wp_X7_fewest (c_size : Int32) (c_queue : Nat → Int32) (Q : Int32 → Prop) : Prop :=
    wp_X7_found c_size c_queue (nI 0) (fun r2 => ∃ n, L_X7_fewest_8 c_size c_queue Q n r2 (nI 1))
abbrev rm_X7_fewest : Room := { frames := 1, cells := 0, slots := 0, locals := 21 }
set_option maxHeartbeats 4000000 in
set_option maxRecDepth 100000 in
theorem k_X7_fewest (l : Launch) (g : GG) (h_this : Nat) (h_this_steps : Nat) (h_this_trail : Nat) (h_this_queue : Nat) {c_size : Int32} {c_queue : Nat → Int32} {Q : Int32 → Prop} (h : wp_X7_fewest c_size c_queue Q) : CI l g yX7_fewest wsX7_fewest rm_X7_fewest [.ref h_this] (cw_X7_fewest g h_this h_this_steps h_this_trail h_this_queue c_size c_queue) (S := Unit) (fun _ => (cw_X7_fewest g h_this h_this_steps h_this_trail h_this_queue c_size c_queue)) (fun r _ => Q r) 0 0 := by
  refine mk_I (cc := cX7_fewest) (maxL := 3) (own := RX7) (by decide) rfl rfl (Nat.le_of_ble_eq_true rfl) ?_
  intro p e s m args below meth c A QQ E hret hP hD hS ls hl
  have E2 := E
  obtain ⟨hx, hb, hr, hml, hown, hts, hlocks, hA, hZ, hK, hnm⟩ := E2
  have f35 := hts (.fieldLink RX7 35 "WordBench$SetSearch" "size" "I") (by decide +kernel)
  have iX7 : ∀ w ∈ wsX70, w ∈ wsX7_fewest := fun _ h => List.mem_cons_of_mem _ (List.mem_append_right _ h)
  have hP : va_P g.1 vwCl (cw_X7_fewest g h_this h_this_steps h_this_trail h_this_queue c_size c_queue) s.heap := hP
  have hD : va_D A (cw_X7_fewest g h_this h_this_steps h_this_trail h_this_queue c_size c_queue) := hD
  have hl : lv_has ls 3 [(0, .ref h_this)] := hl
  unfold wp_X7_fewest at h
  have K_8 : ∀ (n_8 : Nat) (x1 : Int32) (x2 : Int32) , L_X7_fewest_8 c_size c_queue Q n_8 x1 x2 → ∀ (H : Heap) (locs : List Loc), va_P g.1 vwCl (cw_X7_fewest g h_this h_this_steps h_this_trail h_this_queue c_size c_queue) H → va_D A (cw_X7_fewest g h_this h_this_steps h_this_trail h_this_queue c_size c_queue) → va_S A s.heap H locs → ∀ ls : Array Slot, lv_has ls 3 [(0, .ref h_this), (1, .int x1), (2, .int x2)] → W p l e rm_X7_fewest s m args below meth c H locs 0 0 QQ (F0 m 8 ls []) := by
    intro n_8
    induction n_8 with
    | zero => intro x1 x2; exact fun h => False.elim h
    | succ n_8 ih_8 =>
      intro x1 x2 h H locs hP hD hS ls hl
      unfold L_X7_fewest_8 at h
      have K_37 : ∀ (x1 : Int32) (x2 : Int32) , J_X7_fewest_37 (L_X7_fewest_8 c_size c_queue Q n_8) x1 x2 → ∀ (H : Heap) (locs : List Loc), va_P g.1 vwCl (cw_X7_fewest g h_this h_this_steps h_this_trail h_this_queue c_size c_queue) H → va_D A (cw_X7_fewest g h_this h_this_steps h_this_trail h_this_queue c_size c_queue) → va_S A s.heap H locs → ∀ ls : Array Slot, lv_has ls 3 [(0, .ref h_this), (1, .int x1), (2, .int x2)] → W p l e rm_X7_fewest s m args below meth c H locs 0 0 QQ (F0 m 37 ls []) := by
        intro x1 x2 h H locs hP hD hS ls hl
        unfold J_X7_fewest_37 at h
        refine lv_iinc (v := (x2 + (nI 1))) (lv' := [(2, .int (x2 + (nI 1))), (0, .ref h_this), (1, .int x1)]) hx hb dX7_fewest_37 hl (k := 2) rfl rfl (by decide) rfl (fun ls hl => ?_)
        refine lv_goto (tgt := 8) hx hb dX7_fewest_40 (by decide) ?_
        exact ih_8 x1 (x2 + (nI 1)) h _ _ hP hD hS _ (lv_sub hl [1, 2, 0] rfl)
      refine lv_iload_n hx hb dX7_fewest_8 rfl (lv_at hl 2 rfl) ?_
      refine lv_aload_n hx hb dX7_fewest_9 rfl (lv_at hl 0 rfl) ?_
      refine va_get (D := g.1) (ci := 6) (v := .int c_size) (C := RX7) (T := TX7) (N := 4) hx hb hts iX7 hown hK hP 0 rfl rfl 3 (by decide) f35 (fun _ h9 => h9) rfl dX7_fewest_10 ?_
      refine lv_icmp_ge (tgt := 43) hx hb dX7_fewest_13 (by decide) (fun cq => ?_) (fun cq => ?_)
      · replace h := h.1 cq
        refine lv_iload_n hx hb dX7_fewest_43 rfl (lv_at hl 1 rfl) ?_
        exact hret x1 () _ _ _ _ rfl h hP hD hS dX7_fewest_44
      · replace h := h.2 cq
        refine lv_aload_n hx hb dX7_fewest_16 rfl (lv_at hl 0 rfl) ?_
        refine lv_iload_n hx hb dX7_fewest_17 rfl (lv_at hl 2 rfl) ?_
        refine go_I E (run_V E ((k_X7_found l g h_this h_this_steps h_this_trail h_this_queue h) _) (cwV 1 hts gX7_fewest_X7_found rfl rfl rfl (by decide +kernel) ⟨Nat.le_of_ble_eq_true rfl, Nat.le_of_ble_eq_true rfl⟩) hP hD hS [0, 1] rfl rfl 0 6 rfl rfl rfl hl rfl rfl (Nat.le_of_ble_eq_true rfl) dX7_fewest_18 ⟨Nat.le_of_ble_eq_true rfl, Nat.le_of_ble_eq_true rfl⟩) hP hD hS [0, 1] rfl [(false, 0), (false, 1)] rfl (by decide) (fun _ => (cw_X7_fewest g h_this h_this_steps h_this_trail h_this_queue c_size c_queue)) (fun _ => rfl) (fun r4 _ H locs h hP hD hS => ?_)
        try dsimp only at h
        have hP : va_P g.1 vwCl (cw_X7_fewest g h_this h_this_steps h_this_trail h_this_queue c_size c_queue) H := hP
        have hD : va_D A (cw_X7_fewest g h_this h_this_steps h_this_trail h_this_queue c_size c_queue) := hD
        refine go_I E (run_S E ((k_J6_bitCount_0f7a4 l g  h) _) (va_cwS 1 hts gX7_fewest_J6_bitCount_0f7a4 rfl rfl rfl (by decide +kernel) ⟨Nat.le_of_ble_eq_true rfl, Nat.le_of_ble_eq_true rfl⟩) hP hD hS [] rfl rfl hl rfl rfl (Nat.le_of_ble_eq_true rfl) dX7_fewest_21 ⟨Nat.le_of_ble_eq_true rfl, Nat.le_of_ble_eq_true rfl⟩) hP hD hS [] rfl [(true, 0), (true, 1)] rfl (by decide) (fun _ => (cw_X7_fewest g h_this h_this_steps h_this_trail h_this_queue c_size c_queue)) (fun _ => rfl) (fun r6 _ H locs h hP hD hS => ?_)
        try dsimp only at h
        have hP : va_P g.1 vwCl (cw_X7_fewest g h_this h_this_steps h_this_trail h_this_queue c_size c_queue) H := hP
        have hD : va_D A (cw_X7_fewest g h_this h_this_steps h_this_trail h_this_queue c_size c_queue) := hD
        refine lv_iload_n hx hb dX7_fewest_24 rfl (lv_at hl 1 rfl) ?_
        refine go_I E (run_S E ((k_J6_bitCount_0f7a4 l g  h) _) (va_cwS 1 hts gX7_fewest_J6_bitCount_0f7a4 rfl rfl rfl (by decide +kernel) ⟨Nat.le_of_ble_eq_true rfl, Nat.le_of_ble_eq_true rfl⟩) hP hD hS [] rfl rfl hl rfl rfl (Nat.le_of_ble_eq_true rfl) dX7_fewest_25 ⟨Nat.le_of_ble_eq_true rfl, Nat.le_of_ble_eq_true rfl⟩) hP hD hS [] rfl [(true, 0), (true, 1)] rfl (by decide) (fun _ => (cw_X7_fewest g h_this h_this_steps h_this_trail h_this_queue c_size c_queue)) (fun _ => rfl) (fun r8 _ H locs h hP hD hS => ?_)
        try dsimp only at h
        have hP : va_P g.1 vwCl (cw_X7_fewest g h_this h_this_steps h_this_trail h_this_queue c_size c_queue) H := hP
        have hD : va_D A (cw_X7_fewest g h_this h_this_steps h_this_trail h_this_queue c_size c_queue) := hD
        refine lv_icmp_ge (tgt := 37) hx hb dX7_fewest_28 (by decide) (fun cq => ?_) (fun cq => ?_)
        · replace h := h.1 cq
          exact K_37 x1 x2 h _ _ hP hD hS _ (lv_sub hl [0, 1, 2] rfl)
        · replace h := h.2 cq
          refine lv_aload_n hx hb dX7_fewest_31 rfl (lv_at hl 0 rfl) ?_
          refine lv_iload_n hx hb dX7_fewest_32 rfl (lv_at hl 2 rfl) ?_
          refine go_I E (run_V E ((k_X7_found l g h_this h_this_steps h_this_trail h_this_queue h) _) (cwV 1 hts gX7_fewest_X7_found rfl rfl rfl (by decide +kernel) ⟨Nat.le_of_ble_eq_true rfl, Nat.le_of_ble_eq_true rfl⟩) hP hD hS [0, 1] rfl rfl 0 6 rfl rfl rfl hl rfl rfl (Nat.le_of_ble_eq_true rfl) dX7_fewest_33 ⟨Nat.le_of_ble_eq_true rfl, Nat.le_of_ble_eq_true rfl⟩) hP hD hS [0, 1] rfl [(false, 0), (false, 1)] rfl (by decide) (fun _ => (cw_X7_fewest g h_this h_this_steps h_this_trail h_this_queue c_size c_queue)) (fun _ => rfl) (fun r10 _ H locs h hP hD hS => ?_)
          try dsimp only at h
          have hP : va_P g.1 vwCl (cw_X7_fewest g h_this h_this_steps h_this_trail h_this_queue c_size c_queue) H := hP
          have hD : va_D A (cw_X7_fewest g h_this h_this_steps h_this_trail h_this_queue c_size c_queue) := hD
          refine lv_istore_n (lv' := [(1, .int r10), (0, .ref h_this), (2, .int x2)]) hx hb dX7_fewest_36 rfl hl (by decide) rfl (fun ls hl => ?_)
          exact K_37 r10 x2 h _ _ hP hD hS _ (lv_sub hl [1, 0, 2] rfl)
  refine lv_aload_n hx hb dX7_fewest_0 rfl (lv_at hl 0 rfl) ?_
  refine lv_iconst (v := (nI 0)) hx hb dX7_fewest_1 (by decide) ?_
  refine go_I E (run_V E ((k_X7_found l g h_this h_this_steps h_this_trail h_this_queue h) _) (cwV 1 hts gX7_fewest_X7_found rfl rfl rfl (by decide +kernel) ⟨Nat.le_of_ble_eq_true rfl, Nat.le_of_ble_eq_true rfl⟩) hP hD hS [0, 1] rfl rfl 0 6 rfl rfl rfl hl rfl rfl (Nat.le_of_ble_eq_true rfl) dX7_fewest_2 ⟨Nat.le_of_ble_eq_true rfl, Nat.le_of_ble_eq_true rfl⟩) hP hD hS [0, 1] rfl [(false, 0), (false, 1)] rfl (by decide) (fun _ => (cw_X7_fewest g h_this h_this_steps h_this_trail h_this_queue c_size c_queue)) (fun _ => rfl) (fun r2 _ H locs h hP hD hS => ?_)
  try dsimp only at h
  have hP : va_P g.1 vwCl (cw_X7_fewest g h_this h_this_steps h_this_trail h_this_queue c_size c_queue) H := hP
  have hD : va_D A (cw_X7_fewest g h_this h_this_steps h_this_trail h_this_queue c_size c_queue) := hD
  refine lv_istore_n (lv' := [(1, .int r2), (0, .ref h_this)]) hx hb dX7_fewest_5 rfl hl (by decide) rfl (fun ls hl => ?_)
  refine lv_iconst (v := (nI 1)) hx hb dX7_fewest_6 (by decide) ?_
  refine lv_istore_n (lv' := [(2, .int (nI 1)), (1, .int r2), (0, .ref h_this)]) hx hb dX7_fewest_7 rfl hl (by decide) rfl (fun ls hl => ?_)
  obtain ⟨n, h⟩ := h
  exact K_8 n r2 (nI 1) h _ _ hP hD hS _ (lv_sub hl [2, 1, 0] rfl)
abbrev cw_X9_before (g : GG) (h_this : Nat) (h_this_from : Nat) (c_from : Nat → Int32) : va_W := [(h_this, .inr (8, [.ref h_this_from])), (h_this_from, .inl (g.2.1, 4096, .inl c_from))]
def wp_X9_before (c_from : Nat → Int32) (x1 : Int32) (Q : Int32 → Prop) : Prop :=
    wp_X9_knows c_from x1 (fun r2 => ((r2 = (nI 0) → Q (nI 0)) ∧ (¬ r2 = (nI 0) → vp_in x1 4096 ∧ Q ((c_from (Int32.toNatClampNeg x1)) / (nI 4)))))
abbrev rm_X9_before : Room := { frames := 1, cells := 0, slots := 0, locals := 21 }
set_option maxHeartbeats 4000000 in
set_option maxRecDepth 100000 in
theorem k_X9_before (l : Launch) (g : GG) (h_this : Nat) (h_this_from : Nat) {c_from : Nat → Int32} {x1 : Int32} {Q : Int32 → Prop} (h : wp_X9_before c_from x1 Q) : CI l g yX9_before wsX9_before rm_X9_before [.ref h_this, .int x1] (cw_X9_before g h_this h_this_from c_from) (S := Unit) (fun _ => (cw_X9_before g h_this h_this_from c_from)) (fun r _ => Q r) 0 0 := by
  refine mk_I (cc := cX9_before) (maxL := 2) (own := RX9) (by decide) rfl rfl (Nat.le_of_ble_eq_true rfl) ?_
  intro p e s m args below meth c A QQ E hret hP hD hS ls hl
  have E2 := E
  obtain ⟨hx, hb, hr, hml, hown, hts, hlocks, hA, hZ, hK, hnm⟩ := E2
  have f9 := hts (.fieldLink RX9 9 "WordBench$Trail" "from" "[I") (by decide +kernel)
  have iX9 : ∀ w ∈ wsX90, w ∈ wsX9_before := fun _ h => List.mem_cons_of_mem _ (List.mem_append_right _ h)
  have hP : va_P g.1 vwCl (cw_X9_before g h_this h_this_from c_from) s.heap := hP
  have hD : va_D A (cw_X9_before g h_this h_this_from c_from) := hD
  have hl : lv_has ls 2 [(0, .ref h_this), (1, .int x1)] := hl
  unfold wp_X9_before at h
  refine lv_aload_n hx hb dX9_before_0 rfl (lv_at hl 0 rfl) ?_
  refine lv_iload_n hx hb dX9_before_1 rfl (lv_at hl 1 rfl) ?_
  refine go_I E (run_V E ((k_X9_knows l g h_this h_this_from h) _) (cwV 1 hts gX9_before_X9_knows rfl rfl rfl (by decide +kernel) ⟨Nat.le_of_ble_eq_true rfl, Nat.le_of_ble_eq_true rfl⟩) hP hD hS [0, 1] rfl rfl 0 8 rfl rfl rfl hl rfl rfl (Nat.le_of_ble_eq_true rfl) dX9_before_2 ⟨Nat.le_of_ble_eq_true rfl, Nat.le_of_ble_eq_true rfl⟩) hP hD hS [0, 1] rfl [(false, 0), (false, 1)] rfl (by decide) (fun _ => (cw_X9_before g h_this h_this_from c_from)) (fun _ => rfl) (fun r2 _ H locs h hP hD hS => ?_)
  try dsimp only at h
  have hP : va_P g.1 vwCl (cw_X9_before g h_this h_this_from c_from) H := hP
  have hD : va_D A (cw_X9_before g h_this h_this_from c_from) := hD
  refine lv_if_eq (tgt := 19) hx hb dX9_before_5 (by decide) (fun cq => ?_) (fun cq => ?_)
  · replace h := h.1 cq
    refine lv_iconst (v := (nI 0)) hx hb dX9_before_19 (by decide) ?_
    exact hret (nI 0) () _ _ _ _ rfl h hP hD hS dX9_before_20
  · replace h := h.2 cq
    refine lv_aload_n hx hb dX9_before_8 rfl (lv_at hl 0 rfl) ?_
    refine va_get (D := g.1) (ci := 8) (v := .ref h_this_from) (C := RX9) (T := TX9) (N := 1) hx hb hts iX9 hown hK hP 0 rfl rfl 0 (by decide) f9 (fun _ h9 => h9) rfl dX9_before_9 ?_
    refine lv_iload_n hx hb dX9_before_12 rfl (lv_at hl 1 rfl) ?_
    obtain ⟨hi, h⟩ := h
    refine va_iald (D := g.1) (n := 4096) (f := c_from) hx hb hK hP 1 0 rfl rfl hi dX9_before_13 ?_
    refine lv_iconst (v := (nI 4)) hx hb dX9_before_14 (by decide) ?_
    refine lv_idiv hx hb dX9_before_15 (by decide) ?_
    refine lv_goto (tgt := 20) hx hb dX9_before_16 (by decide) ?_
    exact hret ((c_from (Int32.toNatClampNeg x1)) / (nI 4)) () _ _ _ _ rfl h hP hD hS dX9_before_20
abbrev cw_X9_lengthTo (g : GG) (h_this : Nat) (h_this_from : Nat) (c_from : Nat → Int32) : va_W := [(h_this, .inr (8, [.ref h_this_from])), (h_this_from, .inl (g.2.1, 4096, .inl c_from))]
def L_X9_lengthTo_11 (c_from : Nat → Int32) (Q : Int32 → Prop) : Nat → Int32 → Int32 → Int32 → Prop
  | 0, _, _, _ => False
  | n_11 + 1, x2, x3, x4 =>
    (((nI 4096) ≤ x4 → Q x2) ∧ (¬ (nI 4096) ≤ x4 → ((x3 = (nI 0) → Q x2) ∧ (¬ x3 = (nI 0) → wp_X9_before c_from x3 (fun r4 => (L_X9_lengthTo_11 c_from Q n_11) (x2 + (nI 1)) r4 (x4 + (nI 1)))))))
def wp_X9_lengthTo (c_from : Nat → Int32) (x1 : Int32) (Q : Int32 → Prop) : Prop :=
    wp_X9_before c_from x1 (fun r2 => ∃ n, L_X9_lengthTo_11 c_from Q n (nI 0) r2 (nI 0))
abbrev rm_X9_lengthTo : Room := { frames := 2, cells := 0, slots := 0, locals := 42 }
set_option maxHeartbeats 4000000 in
set_option maxRecDepth 100000 in
theorem k_X9_lengthTo (l : Launch) (g : GG) (h_this : Nat) (h_this_from : Nat) {c_from : Nat → Int32} {x1 : Int32} {Q : Int32 → Prop} (h : wp_X9_lengthTo c_from x1 Q) : CI l g yX9_lengthTo wsX9_lengthTo rm_X9_lengthTo [.ref h_this, .int x1] (cw_X9_lengthTo g h_this h_this_from c_from) (S := Unit) (fun _ => (cw_X9_lengthTo g h_this h_this_from c_from)) (fun r _ => Q r) 0 0 := by
  refine mk_I (cc := cX9_lengthTo) (maxL := 5) (own := RX9) (by decide) rfl rfl (Nat.le_of_ble_eq_true rfl) ?_
  intro p e s m args below meth c A QQ E hret hP hD hS ls hl
  have E2 := E
  obtain ⟨hx, hb, hr, hml, hown, hts, hlocks, hA, hZ, hK, hnm⟩ := E2
  have hP : va_P g.1 vwCl (cw_X9_lengthTo g h_this h_this_from c_from) s.heap := hP
  have hD : va_D A (cw_X9_lengthTo g h_this h_this_from c_from) := hD
  have hl : lv_has ls 5 [(0, .ref h_this), (1, .int x1)] := hl
  unfold wp_X9_lengthTo at h
  have K_11 : ∀ (n_11 : Nat) (x2 : Int32) (x3 : Int32) (x4 : Int32) , L_X9_lengthTo_11 c_from Q n_11 x2 x3 x4 → ∀ (H : Heap) (locs : List Loc), va_P g.1 vwCl (cw_X9_lengthTo g h_this h_this_from c_from) H → va_D A (cw_X9_lengthTo g h_this h_this_from c_from) → va_S A s.heap H locs → ∀ ls : Array Slot, lv_has ls 5 [(0, .ref h_this), (2, .int x2), (3, .int x3), (4, .int x4)] → W p l e rm_X9_lengthTo s m args below meth c H locs 0 0 QQ (F0 m 11 ls []) := by
    intro n_11
    induction n_11 with
    | zero => intro x2 x3 x4; exact fun h => False.elim h
    | succ n_11 ih_11 =>
      intro x2 x3 x4 h H locs hP hD hS ls hl
      unfold L_X9_lengthTo_11 at h
      refine lv_iload hx hb dX9_lengthTo_11 (lv_at hl 3 rfl) ?_
      refine lv_sipush (v := (nI 4096)) hx hb dX9_lengthTo_13 (by decide) ?_
      refine lv_icmp_ge (tgt := 38) hx hb dX9_lengthTo_16 (by decide) (fun cq => ?_) (fun cq => ?_)
      · replace h := h.1 cq
        refine lv_iload_n hx hb dX9_lengthTo_38 rfl (lv_at hl 1 rfl) ?_
        exact hret x2 () _ _ _ _ rfl h hP hD hS dX9_lengthTo_39
      · replace h := h.2 cq
        refine lv_iload_n hx hb dX9_lengthTo_19 rfl (lv_at hl 2 rfl) ?_
        refine lv_if_eq (tgt := 38) hx hb dX9_lengthTo_20 (by decide) (fun cq => ?_) (fun cq => ?_)
        · replace h := h.1 cq
          refine lv_iload_n hx hb dX9_lengthTo_38 rfl (lv_at hl 1 rfl) ?_
          exact hret x2 () _ _ _ _ rfl h hP hD hS dX9_lengthTo_39
        · replace h := h.2 cq
          refine lv_iinc (v := (x2 + (nI 1))) (lv' := [(2, .int (x2 + (nI 1))), (0, .ref h_this), (3, .int x3), (4, .int x4)]) hx hb dX9_lengthTo_23 hl (k := 1) rfl rfl (by decide) rfl (fun ls hl => ?_)
          refine lv_aload_n hx hb dX9_lengthTo_26 rfl (lv_at hl 1 rfl) ?_
          refine lv_iload_n hx hb dX9_lengthTo_27 rfl (lv_at hl 2 rfl) ?_
          refine go_I E (run_V E ((k_X9_before l g h_this h_this_from h) _) (cwV 1 hts gX9_lengthTo_X9_before rfl rfl rfl (by decide +kernel) ⟨Nat.le_of_ble_eq_true rfl, Nat.le_of_ble_eq_true rfl⟩) hP hD hS [0, 1] rfl rfl 0 8 rfl rfl rfl hl rfl rfl (Nat.le_of_ble_eq_true rfl) dX9_lengthTo_28 ⟨Nat.le_of_ble_eq_true rfl, Nat.le_of_ble_eq_true rfl⟩) hP hD hS [0, 1] rfl [(false, 0), (false, 1)] rfl (by decide) (fun _ => (cw_X9_lengthTo g h_this h_this_from c_from)) (fun _ => rfl) (fun r4 _ H locs h hP hD hS => ?_)
          try dsimp only at h
          have hP : va_P g.1 vwCl (cw_X9_lengthTo g h_this h_this_from c_from) H := hP
          have hD : va_D A (cw_X9_lengthTo g h_this h_this_from c_from) := hD
          refine lv_istore_n (lv' := [(3, .int r4), (2, .int (x2 + (nI 1))), (0, .ref h_this), (4, .int x4)]) hx hb dX9_lengthTo_31 rfl hl (by decide) rfl (fun ls hl => ?_)
          refine lv_iinc (v := (x4 + (nI 1))) (lv' := [(4, .int (x4 + (nI 1))), (3, .int r4), (2, .int (x2 + (nI 1))), (0, .ref h_this)]) hx hb dX9_lengthTo_32 hl (k := 3) rfl rfl (by decide) rfl (fun ls hl => ?_)
          refine lv_goto (tgt := 11) hx hb dX9_lengthTo_35 (by decide) ?_
          exact ih_11 (x2 + (nI 1)) r4 (x4 + (nI 1)) h _ _ hP hD hS _ (lv_sub hl [3, 2, 1, 0] rfl)
  refine lv_iconst (v := (nI 0)) hx hb dX9_lengthTo_0 (by decide) ?_
  refine lv_istore_n (lv' := [(2, .int (nI 0)), (0, .ref h_this), (1, .int x1)]) hx hb dX9_lengthTo_1 rfl hl (by decide) rfl (fun ls hl => ?_)
  refine lv_aload_n hx hb dX9_lengthTo_2 rfl (lv_at hl 1 rfl) ?_
  refine lv_iload_n hx hb dX9_lengthTo_3 rfl (lv_at hl 2 rfl) ?_
  refine go_I E (run_V E ((k_X9_before l g h_this h_this_from h) _) (cwV 1 hts gX9_lengthTo_X9_before rfl rfl rfl (by decide +kernel) ⟨Nat.le_of_ble_eq_true rfl, Nat.le_of_ble_eq_true rfl⟩) hP hD hS [0, 1] rfl rfl 0 8 rfl rfl rfl hl rfl rfl (Nat.le_of_ble_eq_true rfl) dX9_lengthTo_4 ⟨Nat.le_of_ble_eq_true rfl, Nat.le_of_ble_eq_true rfl⟩) hP hD hS [0, 1] rfl [(false, 0), (false, 1)] rfl (by decide) (fun _ => (cw_X9_lengthTo g h_this h_this_from c_from)) (fun _ => rfl) (fun r2 _ H locs h hP hD hS => ?_)
  try dsimp only at h
  have hP : va_P g.1 vwCl (cw_X9_lengthTo g h_this h_this_from c_from) H := hP
  have hD : va_D A (cw_X9_lengthTo g h_this h_this_from c_from) := hD
  refine lv_istore_n (lv' := [(3, .int r2), (2, .int (nI 0)), (0, .ref h_this), (1, .int x1)]) hx hb dX9_lengthTo_7 rfl hl (by decide) rfl (fun ls hl => ?_)
  refine lv_iconst (v := (nI 0)) hx hb dX9_lengthTo_8 (by decide) ?_
  refine lv_istore (lv' := [(4, .int (nI 0)), (3, .int r2), (2, .int (nI 0)), (0, .ref h_this), (1, .int x1)]) hx hb dX9_lengthTo_9 hl (by decide) rfl (fun ls hl => ?_)
  obtain ⟨n, h⟩ := h
  exact K_11 n (nI 0) r2 (nI 0) h _ _ hP hD hS _ (lv_sub hl [3, 2, 1, 0] rfl)
abbrev cw_X9_giveWord (g : GG) (h_this : Nat) (h_wd : Nat) (h_this_from : Nat) (h_wd_row : Nat) (c_from : Nat → Int32) (c_wd_length : Int32) (c_wd_row : Nat → Int32) : va_W := [(h_this, .inr (8, [.ref h_this_from])), (h_this_from, .inl (g.2.1, 4096, .inl c_from)), (h_wd, .inr (9, [.ref h_wd_row, .int c_wd_length])), (h_wd_row, .inl (g.2.1, 600, .inl c_wd_row))]
def L_X9_giveWord_13 (c_from : Nat → Int32) (c_wd_length : Int32) (Q : Int32 → (Nat → Int32) → Prop) : Nat → Int32 → Int32 → (Nat → Int32) → Prop
  | 0, _, _, _ => False
  | n_13 + 1, x4, x5, c_wd_row =>
    ((x5 < (nI 0) → Q c_wd_length c_wd_row) ∧ (¬ x5 < (nI 0) → wp_X9_knows c_from x4 (fun r4 => ((r4 = (nI 0) → Q c_wd_length c_wd_row) ∧ (¬ r4 = (nI 0) → vp_in x4 4096 ∧ wp_X10_put c_wd_length c_wd_row x5 ((c_from (Int32.toNatClampNeg x4)) - (c_from (Int32.toNatClampNeg x4)) / (nI 4) * (nI 4)) (fun c_wd_row => wp_X9_before c_from x4 (fun r8 => (L_X9_giveWord_13 c_from c_wd_length Q n_13) r8 (x5 + (-1)) c_wd_row)))))))
def wp_X9_giveWord (c_from : Nat → Int32) (c_wd_length : Int32) (c_wd_row : Nat → Int32) (x1 : Int32) (x2 : Int32) (Q : Int32 → (Nat → Int32) → Prop) : Prop :=
    wp_X10_resize c_wd_length x2 (fun c_wd_length => ∃ n, L_X9_giveWord_13 c_from c_wd_length Q n x1 (x2 - (nI 1)) c_wd_row)
abbrev rm_X9_giveWord : Room := { frames := 2, cells := 0, slots := 0, locals := 42 }
set_option maxHeartbeats 4000000 in
set_option maxRecDepth 100000 in
theorem k_X9_giveWord (l : Launch) (g : GG) (h_this : Nat) (h_wd : Nat) (h_this_from : Nat) (h_wd_row : Nat) {c_from : Nat → Int32} {c_wd_length : Int32} {c_wd_row : Nat → Int32} {x1 : Int32} {x2 : Int32} {Q : Int32 → (Nat → Int32) → Prop} (h : wp_X9_giveWord c_from c_wd_length c_wd_row x1 x2 Q) : CV l g yX9_giveWord wsX9_giveWord rm_X9_giveWord [.ref h_this, .int x1, .int x2, .ref h_wd] (cw_X9_giveWord g h_this h_wd h_this_from h_wd_row c_from c_wd_length c_wd_row) (S := Int32 × (Nat → Int32)) (fun u => (cw_X9_giveWord g h_this h_wd h_this_from h_wd_row c_from u.1 u.2)) (fun u => Q u.1 u.2) 0 0 := by
  refine mk_V (cc := cX9_giveWord) (maxL := 6) (own := RX9) (by decide) rfl rfl (Nat.le_of_ble_eq_true rfl) ?_
  intro p e s m args below meth c A QQ E hret hP hD hS ls hl
  have E2 := E
  obtain ⟨hx, hb, hr, hml, hown, hts, hlocks, hA, hZ, hK, hnm⟩ := E2
  have f9 := hts (.fieldLink RX9 9 "WordBench$Trail" "from" "[I") (by decide +kernel)
  have iX9 : ∀ w ∈ wsX90, w ∈ wsX9_giveWord := fun _ h => List.mem_cons_of_mem _ (List.mem_append_left _ (List.mem_append_right _ h))
  have hP : va_P g.1 vwCl (cw_X9_giveWord g h_this h_wd h_this_from h_wd_row c_from c_wd_length c_wd_row) s.heap := hP
  have hD : va_D A (cw_X9_giveWord g h_this h_wd h_this_from h_wd_row c_from c_wd_length c_wd_row) := hD
  have hl : lv_has ls 6 [(0, .ref h_this), (1, .int x1), (2, .int x2), (3, .ref h_wd)] := hl
  unfold wp_X9_giveWord at h
  have K_13 : ∀ (c_wd_length : Int32) (n_13 : Nat) (x4 : Int32) (x5 : Int32) (c_wd_row : Nat → Int32) , L_X9_giveWord_13 c_from c_wd_length Q n_13 x4 x5 c_wd_row → ∀ (H : Heap) (locs : List Loc), va_P g.1 vwCl (cw_X9_giveWord g h_this h_wd h_this_from h_wd_row c_from c_wd_length c_wd_row) H → va_D A (cw_X9_giveWord g h_this h_wd h_this_from h_wd_row c_from c_wd_length c_wd_row) → va_S A s.heap H locs → ∀ ls : Array Slot, lv_has ls 6 [(0, .ref h_this), (3, .ref h_wd), (4, .int x4), (5, .int x5)] → W p l e rm_X9_giveWord s m args below meth c H locs 0 0 QQ (F0 m 13 ls []) := by
    intro c_wd_length n_13
    induction n_13 with
    | zero => intro x4 x5 c_wd_row; exact fun h => False.elim h
    | succ n_13 ih_13 =>
      intro x4 x5 c_wd_row h H locs hP hD hS ls hl
      unfold L_X9_giveWord_13 at h
      refine lv_iload hx hb dX9_giveWord_13 (lv_at hl 3 rfl) ?_
      refine lv_if_lt (tgt := 56) hx hb dX9_giveWord_15 (by decide) (fun cq => ?_) (fun cq => ?_)
      · replace h := h.1 cq
        exact hret (c_wd_length, c_wd_row) _ _ _ _ h hP hD hS dX9_giveWord_56
      · replace h := h.2 cq
        refine lv_aload_n hx hb dX9_giveWord_18 rfl (lv_at hl 0 rfl) ?_
        refine lv_iload hx hb dX9_giveWord_19 (lv_at hl 2 rfl) ?_
        refine go_I E (run_V E ((k_X9_knows l g h_this h_this_from h) _) (cwV 1 hts gX9_giveWord_X9_knows rfl rfl rfl (by decide +kernel) ⟨Nat.le_of_ble_eq_true rfl, Nat.le_of_ble_eq_true rfl⟩) hP hD hS [0, 1] rfl rfl 0 8 rfl rfl rfl hl rfl rfl (Nat.le_of_ble_eq_true rfl) dX9_giveWord_21 ⟨Nat.le_of_ble_eq_true rfl, Nat.le_of_ble_eq_true rfl⟩) hP hD hS [0, 1] rfl [(false, 0), (false, 1), (true, 2), (true, 3)] rfl (by decide) (fun _ => (cw_X9_giveWord g h_this h_wd h_this_from h_wd_row c_from c_wd_length c_wd_row)) (fun _ => rfl) (fun r4 _ H locs h hP hD hS => ?_)
        try dsimp only at h
        have hP : va_P g.1 vwCl (cw_X9_giveWord g h_this h_wd h_this_from h_wd_row c_from c_wd_length c_wd_row) H := hP
        have hD : va_D A (cw_X9_giveWord g h_this h_wd h_this_from h_wd_row c_from c_wd_length c_wd_row) := hD
        refine lv_if_eq (tgt := 56) hx hb dX9_giveWord_24 (by decide) (fun cq => ?_) (fun cq => ?_)
        · replace h := h.1 cq
          exact hret (c_wd_length, c_wd_row) _ _ _ _ h hP hD hS dX9_giveWord_56
        · replace h := h.2 cq
          refine lv_aload_n hx hb dX9_giveWord_27 rfl (lv_at hl 1 rfl) ?_
          refine lv_iload hx hb dX9_giveWord_28 (lv_at hl 3 rfl) ?_
          refine lv_aload_n hx hb dX9_giveWord_30 rfl (lv_at hl 0 rfl) ?_
          refine va_get (D := g.1) (ci := 8) (v := .ref h_this_from) (C := RX9) (T := TX9) (N := 1) hx hb hts iX9 hown hK hP 0 rfl rfl 0 (by decide) f9 (fun _ h9 => h9) rfl dX9_giveWord_31 ?_
          refine lv_iload hx hb dX9_giveWord_34 (lv_at hl 2 rfl) ?_
          obtain ⟨hi, h⟩ := h
          refine va_iald (D := g.1) (n := 4096) (f := c_from) hx hb hK hP 1 0 rfl rfl hi dX9_giveWord_36 ?_
          refine lv_iconst (v := (nI 4)) hx hb dX9_giveWord_37 (by decide) ?_
          refine lv_irem hx hb dX9_giveWord_38 (by decide) ?_
          refine go_V E (run_V E ((k_X10_put l g h_wd h_wd_row h) _) (cwV 2 hts gX9_giveWord_X10_put rfl rfl rfl (by decide +kernel) ⟨Nat.le_of_ble_eq_true rfl, Nat.le_of_ble_eq_true rfl⟩) hP hD hS [2, 3] rfl rfl 0 9 rfl rfl rfl hl rfl rfl (Nat.le_of_ble_eq_true rfl) dX9_giveWord_39 ⟨Nat.le_of_ble_eq_true rfl, Nat.le_of_ble_eq_true rfl⟩) hP hD hS [2, 3] rfl [(true, 0), (true, 1), (false, 0), (false, 1)] rfl (by decide) (fun u => (cw_X9_giveWord g h_this h_wd h_this_from h_wd_row c_from c_wd_length u)) (fun _ => rfl) (fun c_wd_row H locs h hP hD hS => ?_)
          try dsimp only at h
          have hP : va_P g.1 vwCl (cw_X9_giveWord g h_this h_wd h_this_from h_wd_row c_from c_wd_length c_wd_row) H := hP
          have hD : va_D A (cw_X9_giveWord g h_this h_wd h_this_from h_wd_row c_from c_wd_length c_wd_row) := hD
          refine lv_aload_n hx hb dX9_giveWord_42 rfl (lv_at hl 0 rfl) ?_
          refine lv_iload hx hb dX9_giveWord_43 (lv_at hl 2 rfl) ?_
          refine go_I E (run_V E ((k_X9_before l g h_this h_this_from h) _) (cwV 1 hts gX9_giveWord_X9_before rfl rfl rfl (by decide +kernel) ⟨Nat.le_of_ble_eq_true rfl, Nat.le_of_ble_eq_true rfl⟩) hP hD hS [0, 1] rfl rfl 0 8 rfl rfl rfl hl rfl rfl (Nat.le_of_ble_eq_true rfl) dX9_giveWord_45 ⟨Nat.le_of_ble_eq_true rfl, Nat.le_of_ble_eq_true rfl⟩) hP hD hS [0, 1] rfl [(false, 0), (false, 1), (true, 2), (true, 3)] rfl (by decide) (fun _ => (cw_X9_giveWord g h_this h_wd h_this_from h_wd_row c_from c_wd_length c_wd_row)) (fun _ => rfl) (fun r8 _ H locs h hP hD hS => ?_)
          try dsimp only at h
          have hP : va_P g.1 vwCl (cw_X9_giveWord g h_this h_wd h_this_from h_wd_row c_from c_wd_length c_wd_row) H := hP
          have hD : va_D A (cw_X9_giveWord g h_this h_wd h_this_from h_wd_row c_from c_wd_length c_wd_row) := hD
          refine lv_istore (lv' := [(4, .int r8), (0, .ref h_this), (3, .ref h_wd), (5, .int x5)]) hx hb dX9_giveWord_48 hl (by decide) rfl (fun ls hl => ?_)
          refine lv_iinc (v := (x5 + (-1))) (lv' := [(5, .int (x5 + (-1))), (4, .int r8), (0, .ref h_this), (3, .ref h_wd)]) hx hb dX9_giveWord_50 hl (k := 3) rfl rfl (by decide) rfl (fun ls hl => ?_)
          refine lv_goto (tgt := 13) hx hb dX9_giveWord_53 (by decide) ?_
          exact ih_13 r8 (x5 + (-1)) c_wd_row h _ _ hP hD hS _ (lv_sub hl [2, 3, 1, 0] rfl)
  refine lv_aload_n hx hb dX9_giveWord_0 rfl (lv_at hl 3 rfl) ?_
  refine lv_iload_n hx hb dX9_giveWord_1 rfl (lv_at hl 2 rfl) ?_
  refine go_V E (run_V E ((k_X10_resize l g h_wd h_wd_row h) _) (cwV 1 hts gX9_giveWord_X10_resize rfl rfl rfl (by decide +kernel) ⟨Nat.le_of_ble_eq_true rfl, Nat.le_of_ble_eq_true rfl⟩) hP hD hS [2] rfl rfl 0 9 rfl rfl rfl hl rfl rfl (Nat.le_of_ble_eq_true rfl) dX9_giveWord_2 ⟨Nat.le_of_ble_eq_true rfl, Nat.le_of_ble_eq_true rfl⟩) hP hD hS [2] rfl [(true, 0), (true, 1), (false, 0), (true, 3)] rfl (by decide) (fun u => (cw_X9_giveWord g h_this h_wd h_this_from h_wd_row c_from u c_wd_row)) (fun _ => rfl) (fun c_wd_length H locs h hP hD hS => ?_)
  try dsimp only at h
  have hP : va_P g.1 vwCl (cw_X9_giveWord g h_this h_wd h_this_from h_wd_row c_from c_wd_length c_wd_row) H := hP
  have hD : va_D A (cw_X9_giveWord g h_this h_wd h_this_from h_wd_row c_from c_wd_length c_wd_row) := hD
  refine lv_iload_n hx hb dX9_giveWord_5 rfl (lv_at hl 1 rfl) ?_
  refine lv_istore (lv' := [(4, .int x1), (0, .ref h_this), (1, .int x1), (2, .int x2), (3, .ref h_wd)]) hx hb dX9_giveWord_6 hl (by decide) rfl (fun ls hl => ?_)
  refine lv_iload_n hx hb dX9_giveWord_8 rfl (lv_at hl 3 rfl) ?_
  refine lv_iconst (v := (nI 1)) hx hb dX9_giveWord_9 (by decide) ?_
  refine lv_isub hx hb dX9_giveWord_10 ?_
  refine lv_istore (lv' := [(5, .int (x2 - (nI 1))), (4, .int x1), (0, .ref h_this), (1, .int x1), (2, .int x2), (3, .ref h_wd)]) hx hb dX9_giveWord_11 hl (by decide) rfl (fun ls hl => ?_)
  obtain ⟨n, h⟩ := h
  exact K_13 c_wd_length n x1 (x2 - (nI 1)) c_wd_row h _ _ hP hD hS _ (lv_sub hl [2, 5, 1, 0] rfl)
abbrev cw_X10_isOf (g : GG) (h_this : Nat) (h_m : Nat) (h_this_row : Nat) (h_m_moves : Nat) (h_m_lights : Nat) (h_m_prices : Nat) (h_m_shares : Nat) (c_length : Int32) (c_row : Nat → Int32) (c_m_states : Int32) (c_m_letters : Int32) : va_W := [(h_this, .inr (9, [.ref h_this_row, .int c_length])), (h_this_row, .inl (g.2.1, 600, .inl c_row)), (h_m, .inr (3, [.int c_m_states, .int c_m_letters, .ref h_m_moves, .ref h_m_lights, .ref h_m_prices, .ref h_m_shares]))]
def L_X10_isOf_2 (c_length : Int32) (c_row : Nat → Int32) (c_m_states : Int32) (c_m_letters : Int32) (Q : Int32 → Prop) : Nat → Int32 → Prop
  | 0, _ => False
  | n_2 + 1, x2 =>
    ((c_length ≤ x2 → Q (nI 1)) ∧ (¬ c_length ≤ x2 → (((nI 600) ≤ x2 → Q (nI 1)) ∧ (¬ (nI 600) ≤ x2 → vp_in x2 600 ∧ wp_X4_hasLetter c_m_states c_m_letters (c_row (Int32.toNatClampNeg x2)) (fun r2 => ((¬ r2 = (nI 0) → (L_X10_isOf_2 c_length c_row c_m_states c_m_letters Q n_2) (x2 + (nI 1))) ∧ (r2 = (nI 0) → Q (nI 0))))))))
def wp_X10_isOf (c_length : Int32) (c_row : Nat → Int32) (c_m_states : Int32) (c_m_letters : Int32) (Q : Int32 → Prop) : Prop :=
    ∃ n, L_X10_isOf_2 c_length c_row c_m_states c_m_letters Q n (nI 0)
abbrev rm_X10_isOf : Room := { frames := 1, cells := 0, slots := 0, locals := 21 }
set_option maxHeartbeats 4000000 in
set_option maxRecDepth 100000 in
theorem k_X10_isOf (l : Launch) (g : GG) (h_this : Nat) (h_m : Nat) (h_this_row : Nat) (h_m_moves : Nat) (h_m_lights : Nat) (h_m_prices : Nat) (h_m_shares : Nat) {c_length : Int32} {c_row : Nat → Int32} {c_m_states : Int32} {c_m_letters : Int32} {Q : Int32 → Prop} (h : wp_X10_isOf c_length c_row c_m_states c_m_letters Q) : CI l g yX10_isOf wsX10_isOf rm_X10_isOf [.ref h_this, .ref h_m] (cw_X10_isOf g h_this h_m h_this_row h_m_moves h_m_lights h_m_prices h_m_shares c_length c_row c_m_states c_m_letters) (S := Unit) (fun _ => (cw_X10_isOf g h_this h_m h_this_row h_m_moves h_m_lights h_m_prices h_m_shares c_length c_row c_m_states c_m_letters)) (fun r _ => Q r) 0 0 := by
  refine mk_I (cc := cX10_isOf) (maxL := 3) (own := RX10) (by decide) rfl rfl (Nat.le_of_ble_eq_true rfl) ?_
  intro p e s m args below meth c A QQ E hret hP hD hS ls hl
  have E2 := E
  obtain ⟨hx, hb, hr, hml, hown, hts, hlocks, hA, hZ, hK, hnm⟩ := E2
  have f15 := hts (.fieldLink RX10 15 "WordBench$Word" "length" "I") (by decide +kernel)
  have f9 := hts (.fieldLink RX10 9 "WordBench$Word" "row" "[I") (by decide +kernel)
  have iX10 : ∀ w ∈ wsX100, w ∈ wsX10_isOf := fun _ h => List.mem_cons_of_mem _ (List.mem_append_left _ (List.mem_append_right _ h))
  have hP : va_P g.1 vwCl (cw_X10_isOf g h_this h_m h_this_row h_m_moves h_m_lights h_m_prices h_m_shares c_length c_row c_m_states c_m_letters) s.heap := hP
  have hD : va_D A (cw_X10_isOf g h_this h_m h_this_row h_m_moves h_m_lights h_m_prices h_m_shares c_length c_row c_m_states c_m_letters) := hD
  have hl : lv_has ls 3 [(0, .ref h_this), (1, .ref h_m)] := hl
  unfold wp_X10_isOf at h
  have K_2 : ∀ (n_2 : Nat) (x2 : Int32) , L_X10_isOf_2 c_length c_row c_m_states c_m_letters Q n_2 x2 → ∀ (H : Heap) (locs : List Loc), va_P g.1 vwCl (cw_X10_isOf g h_this h_m h_this_row h_m_moves h_m_lights h_m_prices h_m_shares c_length c_row c_m_states c_m_letters) H → va_D A (cw_X10_isOf g h_this h_m h_this_row h_m_moves h_m_lights h_m_prices h_m_shares c_length c_row c_m_states c_m_letters) → va_S A s.heap H locs → ∀ ls : Array Slot, lv_has ls 3 [(0, .ref h_this), (1, .ref h_m), (2, .int x2)] → W p l e rm_X10_isOf s m args below meth c H locs 0 0 QQ (F0 m 2 ls []) := by
    intro n_2
    induction n_2 with
    | zero => intro x2; exact fun h => False.elim h
    | succ n_2 ih_2 =>
      intro x2 h H locs hP hD hS ls hl
      unfold L_X10_isOf_2 at h
      refine lv_iload_n hx hb dX10_isOf_2 rfl (lv_at hl 2 rfl) ?_
      refine lv_aload_n hx hb dX10_isOf_3 rfl (lv_at hl 0 rfl) ?_
      refine va_get (D := g.1) (ci := 9) (v := .int c_length) (C := RX10) (T := TX10) (N := 2) hx hb hts iX10 hown hK hP 0 rfl rfl 1 (by decide) f15 (fun _ h9 => h9) rfl dX10_isOf_4 ?_
      refine lv_icmp_ge (tgt := 38) hx hb dX10_isOf_7 (by decide) (fun cq => ?_) (fun cq => ?_)
      · replace h := h.1 cq
        refine lv_iconst (v := (nI 1)) hx hb dX10_isOf_38 (by decide) ?_
        exact hret (nI 1) () _ _ _ _ nbo h hP hD hS dX10_isOf_39
      · replace h := h.2 cq
        refine lv_iload_n hx hb dX10_isOf_10 rfl (lv_at hl 2 rfl) ?_
        refine lv_sipush (v := (nI 600)) hx hb dX10_isOf_11 (by decide) ?_
        refine lv_icmp_ge (tgt := 38) hx hb dX10_isOf_14 (by decide) (fun cq => ?_) (fun cq => ?_)
        · replace h := h.1 cq
          refine lv_iconst (v := (nI 1)) hx hb dX10_isOf_38 (by decide) ?_
          exact hret (nI 1) () _ _ _ _ nbo h hP hD hS dX10_isOf_39
        · replace h := h.2 cq
          refine lv_aload_n hx hb dX10_isOf_17 rfl (lv_at hl 1 rfl) ?_
          refine lv_aload_n hx hb dX10_isOf_18 rfl (lv_at hl 0 rfl) ?_
          refine va_get (D := g.1) (ci := 9) (v := .ref h_this_row) (C := RX10) (T := TX10) (N := 2) hx hb hts iX10 hown hK hP 0 rfl rfl 0 (by decide) f9 (fun _ h9 => h9) rfl dX10_isOf_19 ?_
          refine lv_iload_n hx hb dX10_isOf_22 rfl (lv_at hl 2 rfl) ?_
          obtain ⟨hi, h⟩ := h
          refine va_iald (D := g.1) (n := 600) (f := c_row) hx hb hK hP 1 0 rfl rfl hi dX10_isOf_23 ?_
          refine go_I E (run_V E ((k_X4_hasLetter l g h_m h_m_moves h_m_lights h_m_prices h_m_shares h) _) (cwV 1 hts gX10_isOf_X4_hasLetter rfl rfl rfl (by decide +kernel) ⟨Nat.le_of_ble_eq_true rfl, Nat.le_of_ble_eq_true rfl⟩) hP hD hS [2] rfl rfl 0 3 rfl rfl rfl hl rfl rfl (Nat.le_of_ble_eq_true rfl) dX10_isOf_24 ⟨Nat.le_of_ble_eq_true rfl, Nat.le_of_ble_eq_true rfl⟩) hP hD hS [2] rfl [(true, 0), (true, 1), (false, 0)] rfl (by decide) (fun _ => (cw_X10_isOf g h_this h_m h_this_row h_m_moves h_m_lights h_m_prices h_m_shares c_length c_row c_m_states c_m_letters)) (fun _ => rfl) (fun r2 _ H locs h hP hD hS => ?_)
          try dsimp only at h
          have hP : va_P g.1 vwCl (cw_X10_isOf g h_this h_m h_this_row h_m_moves h_m_lights h_m_prices h_m_shares c_length c_row c_m_states c_m_letters) H := hP
          have hD : va_D A (cw_X10_isOf g h_this h_m h_this_row h_m_moves h_m_lights h_m_prices h_m_shares c_length c_row c_m_states c_m_letters) := hD
          refine lv_if_ne (tgt := 32) hx hb dX10_isOf_27 (by decide) (fun cq => ?_) (fun cq => ?_)
          · replace h := h.1 cq
            refine lv_iinc (v := (x2 + (nI 1))) (lv' := [(2, .int (x2 + (nI 1))), (0, .ref h_this), (1, .ref h_m)]) hx hb dX10_isOf_32 hl (k := 2) rfl rfl (by decide) rfl (fun ls hl => ?_)
            refine lv_goto (tgt := 2) hx hb dX10_isOf_35 (by decide) ?_
            exact ih_2 (x2 + (nI 1)) h _ _ hP hD hS _ (lv_sub hl [1, 2, 0] rfl)
          · replace h := h.2 cq
            refine lv_iconst (v := (nI 0)) hx hb dX10_isOf_30 (by decide) ?_
            exact hret (nI 0) () _ _ _ _ nbz h hP hD hS dX10_isOf_31
  refine lv_iconst (v := (nI 0)) hx hb dX10_isOf_0 (by decide) ?_
  refine lv_istore_n (lv' := [(2, .int (nI 0)), (0, .ref h_this), (1, .ref h_m)]) hx hb dX10_isOf_1 rfl hl (by decide) rfl (fun ls hl => ?_)
  obtain ⟨n, h⟩ := h
  exact K_2 n (nI 0) h _ _ hP hD hS _ (lv_sub hl [1, 2, 0] rfl)
