abbrev cw_X11_colour_s (g : GG) (h_this : Nat) (h_this_machines : Nat) (h_this_word : Nat) (h_this_steps : Nat) (h_this_trail : Nat) (h_this_search : Nat) (h_this_prices : Nat) (h_this_odds : Nat) (h_this_pairs : Nat) (h_this_greed : Nat) (h_this_colouring : Nat) (h_this_colouring_orders : Nat) (h_this_colouring_together : Nat) (h_this_colouring_painted : Nat) (h_this_colouring_painted_moves : Nat) (h_this_colouring_painted_lights : Nat) (h_this_colouring_painted_prices : Nat) (h_this_colouring_painted_shares : Nat) (h_m_moves : Nat) (h_m_lights : Nat) (h_m_prices : Nat) (h_m_shares : Nat) (h_m : Nat) (c_made : Int32) (c_machines : Nat → Option Nat) (c_colouring_orders : Nat → Int32) (c_colouring_together : Nat → Int32) (c_colouring_painted_states : Int32) (c_colouring_painted_letters : Int32) (c_colouring_painted_moves : Nat → Int32) (c_m_states : Int32) (c_m_letters : Int32) (c_m_moves : Nat → Int32) : va_W := [(h_this, .inr (10, [.ref h_this_machines, .int c_made, .ref h_this_word, .ref h_this_steps, .ref h_this_trail, .ref h_this_search, .ref h_this_prices, .ref h_this_odds, .ref h_this_pairs, .ref h_this_greed, .ref h_this_colouring])), (h_this_machines, .inl (g.2.2.2.2, 6, .inr (.inr (.inr (.inr c_machines))))), (h_this_colouring, .inr (1, [.ref h_this_colouring_orders, .ref h_this_colouring_together, .ref h_this_colouring_painted])), (h_this_colouring_orders, .inl (g.2.1, 12, .inl c_colouring_orders)), (h_this_colouring_together, .inl (g.2.1, 12, .inl c_colouring_together)), (h_this_colouring_painted, .inr (3, [.int c_colouring_painted_states, .int c_colouring_painted_letters, .ref h_this_colouring_painted_moves, .ref h_this_colouring_painted_lights, .ref h_this_colouring_painted_prices, .ref h_this_colouring_painted_shares])), (h_this_colouring_painted_moves, .inl (g.2.1, 48, .inl c_colouring_painted_moves)), (h_m, .inr (3, [.int c_m_states, .int c_m_letters, .ref h_m_moves, .ref h_m_lights, .ref h_m_prices, .ref h_m_shares])), (h_m_moves, .inl (g.2.1, 48, .inl c_m_moves))]
def wp_X11_colour_s (c_made : Int32) (c_machines : Nat → Option Nat) (c_colouring_orders : Nat → Int32) (c_colouring_together : Nat → Int32) (c_colouring_painted_states : Int32) (c_colouring_painted_letters : Int32) (c_colouring_painted_moves : Nat → Int32) (c_m_states : Int32) (c_m_letters : Int32) (c_m_moves : Nat → Int32) (x1 : Int32) (Q : Int32 → (Nat → Int32) → (Nat → Int32) → (Nat → Int32) → (Nat → Int32) → Prop) : Prop :=
    wp_X4_isWhole c_m_states c_m_letters c_m_moves (fun r4 => ((r4 = (nI 0) → Q (-3) c_colouring_orders c_colouring_together c_colouring_painted_moves c_m_moves) ∧ (¬ r4 = (nI 0) → wp_X1_paint c_colouring_orders c_colouring_together c_colouring_painted_states c_colouring_painted_letters c_colouring_painted_moves c_m_states c_m_letters c_m_moves (fun r6 c_colouring_orders c_colouring_together c_colouring_painted_moves c_m_moves => Q r6 c_colouring_orders c_colouring_together c_colouring_painted_moves c_m_moves))))
abbrev rm_X11_colour_s : Room := { frames := 6, cells := 0, slots := 0, locals := 145 }
set_option maxHeartbeats 4000000 in
set_option maxRecDepth 100000 in
theorem k_X11_colour_s (l : Launch) (g : GG) (h_this : Nat) (h_this_machines : Nat) (h_this_word : Nat) (h_this_steps : Nat) (h_this_trail : Nat) (h_this_search : Nat) (h_this_prices : Nat) (h_this_odds : Nat) (h_this_pairs : Nat) (h_this_greed : Nat) (h_this_colouring : Nat) (h_this_colouring_orders : Nat) (h_this_colouring_together : Nat) (h_this_colouring_painted : Nat) (h_this_colouring_painted_moves : Nat) (h_this_colouring_painted_lights : Nat) (h_this_colouring_painted_prices : Nat) (h_this_colouring_painted_shares : Nat) (h_m_moves : Nat) (h_m_lights : Nat) (h_m_prices : Nat) (h_m_shares : Nat) (h_m : Nat) {c_made : Int32} {c_machines : Nat → Option Nat} {c_colouring_orders : Nat → Int32} {c_colouring_together : Nat → Int32} {c_colouring_painted_states : Int32} {c_colouring_painted_letters : Int32} {c_colouring_painted_moves : Nat → Int32} {c_m_states : Int32} {c_m_letters : Int32} {c_m_moves : Nat → Int32} {x1 : Int32} {Q : Int32 → (Nat → Int32) → (Nat → Int32) → (Nat → Int32) → (Nat → Int32) → Prop} (hm : wp_X11_machineAt c_made c_machines x1 (fun r => r = some h_m)) (h : wp_X11_colour_s c_made c_machines c_colouring_orders c_colouring_together c_colouring_painted_states c_colouring_painted_letters c_colouring_painted_moves c_m_states c_m_letters c_m_moves x1 Q) : CI l g yX11_colour wsX11_colour rm_X11_colour_s [.ref h_this, .int x1] (cw_X11_colour_s g h_this h_this_machines h_this_word h_this_steps h_this_trail h_this_search h_this_prices h_this_odds h_this_pairs h_this_greed h_this_colouring h_this_colouring_orders h_this_colouring_together h_this_colouring_painted h_this_colouring_painted_moves h_this_colouring_painted_lights h_this_colouring_painted_prices h_this_colouring_painted_shares h_m_moves h_m_lights h_m_prices h_m_shares h_m c_made c_machines c_colouring_orders c_colouring_together c_colouring_painted_states c_colouring_painted_letters c_colouring_painted_moves c_m_states c_m_letters c_m_moves) (S := (Nat → Int32) × (Nat → Int32) × (Nat → Int32) × (Nat → Int32)) (fun u => (cw_X11_colour_s g h_this h_this_machines h_this_word h_this_steps h_this_trail h_this_search h_this_prices h_this_odds h_this_pairs h_this_greed h_this_colouring h_this_colouring_orders h_this_colouring_together h_this_colouring_painted h_this_colouring_painted_moves h_this_colouring_painted_lights h_this_colouring_painted_prices h_this_colouring_painted_shares h_m_moves h_m_lights h_m_prices h_m_shares h_m c_made c_machines u.1 u.2.1 c_colouring_painted_states c_colouring_painted_letters u.2.2.1 c_m_states c_m_letters u.2.2.2)) (fun r u => Q r u.1 u.2.1 u.2.2.1 u.2.2.2) 0 0 := by
  refine mk_I (cc := cX11_colour) (maxL := 3) (own := RX11) (by decide) rfl rfl (Nat.le_of_ble_eq_true rfl) ?_
  intro p e s m args below meth c A QQ E hret hP hD hS ls hl
  have E2 := E
  obtain ⟨hx, hb, hr, hml, hown, hts, hlocks, hA, hZ, hK, hnm⟩ := E2
  have f80 := hts (.fieldLink RX11 80 "WordBench" "colouring" "LWordBench$Colouring;") (by decide +kernel)
  have iX11 : ∀ w ∈ wsX110, w ∈ wsX11_colour := fun _ h => List.mem_cons_of_mem _ (List.mem_append_left _ (List.mem_append_left _ (List.mem_append_right _ h)))
  have hP : va_P g.1 vwCl (cw_X11_colour_s g h_this h_this_machines h_this_word h_this_steps h_this_trail h_this_search h_this_prices h_this_odds h_this_pairs h_this_greed h_this_colouring h_this_colouring_orders h_this_colouring_together h_this_colouring_painted h_this_colouring_painted_moves h_this_colouring_painted_lights h_this_colouring_painted_prices h_this_colouring_painted_shares h_m_moves h_m_lights h_m_prices h_m_shares h_m c_made c_machines c_colouring_orders c_colouring_together c_colouring_painted_states c_colouring_painted_letters c_colouring_painted_moves c_m_states c_m_letters c_m_moves) s.heap := hP
  have hD : va_D A (cw_X11_colour_s g h_this h_this_machines h_this_word h_this_steps h_this_trail h_this_search h_this_prices h_this_odds h_this_pairs h_this_greed h_this_colouring h_this_colouring_orders h_this_colouring_together h_this_colouring_painted h_this_colouring_painted_moves h_this_colouring_painted_lights h_this_colouring_painted_prices h_this_colouring_painted_shares h_m_moves h_m_lights h_m_prices h_m_shares h_m c_made c_machines c_colouring_orders c_colouring_together c_colouring_painted_states c_colouring_painted_letters c_colouring_painted_moves c_m_states c_m_letters c_m_moves) := hD
  have hl : lv_has ls 3 [(0, .ref h_this), (1, .int x1)] := hl
  unfold wp_X11_colour_s at h
  refine lv_aload_n hx hb dX11_colour_0 rfl (lv_at hl 0 rfl) ?_
  refine lv_iload_n hx hb dX11_colour_1 rfl (lv_at hl 1 rfl) ?_
  refine go_Q E (run_V E ((k_X11_machineAt l g h_this h_this_machines h_this_word h_this_steps h_this_trail h_this_search h_this_prices h_this_odds h_this_pairs h_this_greed h_this_colouring hm) _) (cwV 1 hts gX11_colour_X11_machineAt rfl rfl rfl (by decide +kernel) ⟨Nat.le_of_ble_eq_true rfl, Nat.le_of_ble_eq_true rfl⟩) hP hD hS [0, 1] rfl rfl 0 10 rfl rfl rfl hl rfl rfl (Nat.le_of_ble_eq_true rfl) dX11_colour_2 ⟨Nat.le_of_ble_eq_true rfl, Nat.le_of_ble_eq_true rfl⟩) hP hD hS [0, 1] rfl [(false, 0), (false, 1), (true, 2), (true, 3), (true, 4), (true, 5), (true, 6), (true, 7), (true, 8)] rfl (by decide) (fun _ => (cw_X11_colour_s g h_this h_this_machines h_this_word h_this_steps h_this_trail h_this_search h_this_prices h_this_odds h_this_pairs h_this_greed h_this_colouring h_this_colouring_orders h_this_colouring_together h_this_colouring_painted h_this_colouring_painted_moves h_this_colouring_painted_lights h_this_colouring_painted_prices h_this_colouring_painted_shares h_m_moves h_m_lights h_m_prices h_m_shares h_m c_made c_machines c_colouring_orders c_colouring_together c_colouring_painted_states c_colouring_painted_letters c_colouring_painted_moves c_m_states c_m_letters c_m_moves)) (fun _ => rfl) (fun r2 _ H locs hr_ hP hD hS => ?_)
  have hr_ : some h_m = r2 := Eq.symm hr_
  subst hr_
  refine W.eq (g2 := F0 m 5 ls [.ref h_m]) rfl ?_
  have hP : va_P g.1 vwCl (cw_X11_colour_s g h_this h_this_machines h_this_word h_this_steps h_this_trail h_this_search h_this_prices h_this_odds h_this_pairs h_this_greed h_this_colouring h_this_colouring_orders h_this_colouring_together h_this_colouring_painted h_this_colouring_painted_moves h_this_colouring_painted_lights h_this_colouring_painted_prices h_this_colouring_painted_shares h_m_moves h_m_lights h_m_prices h_m_shares h_m c_made c_machines c_colouring_orders c_colouring_together c_colouring_painted_states c_colouring_painted_letters c_colouring_painted_moves c_m_states c_m_letters c_m_moves) H := hP
  have hD : va_D A (cw_X11_colour_s g h_this h_this_machines h_this_word h_this_steps h_this_trail h_this_search h_this_prices h_this_odds h_this_pairs h_this_greed h_this_colouring h_this_colouring_orders h_this_colouring_together h_this_colouring_painted h_this_colouring_painted_moves h_this_colouring_painted_lights h_this_colouring_painted_prices h_this_colouring_painted_shares h_m_moves h_m_lights h_m_prices h_m_shares h_m c_made c_machines c_colouring_orders c_colouring_together c_colouring_painted_states c_colouring_painted_letters c_colouring_painted_moves c_m_states c_m_letters c_m_moves) := hD
  refine lv_astore_n (lv' := [(2, .ref h_m), (0, .ref h_this), (1, .int x1)]) hx hb dX11_colour_5 rfl hl (by decide) rfl (fun ls hl => ?_)
  refine lv_aload_n hx hb dX11_colour_6 rfl (lv_at hl 0 rfl) ?_
  refine lv_ifnonnull (tgt := 13) hx hb dX11_colour_7 (by decide) ?_
  refine lv_aload_n hx hb dX11_colour_13 rfl (lv_at hl 0 rfl) ?_
  refine go_I E (run_V E ((k_X4_isWhole l g h_m h_m_moves h_m_lights h_m_prices h_m_shares h) _) (cwV 0 hts gX11_colour_X4_isWhole rfl rfl rfl (by decide +kernel) ⟨Nat.le_of_ble_eq_true rfl, Nat.le_of_ble_eq_true rfl⟩) hP hD hS [7, 8] rfl rfl 0 3 rfl rfl rfl hl rfl rfl (Nat.le_of_ble_eq_true rfl) dX11_colour_14 ⟨Nat.le_of_ble_eq_true rfl, Nat.le_of_ble_eq_true rfl⟩) hP hD hS [7, 8] rfl [(true, 0), (true, 1), (true, 2), (true, 3), (true, 4), (true, 5), (true, 6), (false, 0), (false, 1)] rfl (by decide) (fun _ => (cw_X11_colour_s g h_this h_this_machines h_this_word h_this_steps h_this_trail h_this_search h_this_prices h_this_odds h_this_pairs h_this_greed h_this_colouring h_this_colouring_orders h_this_colouring_together h_this_colouring_painted h_this_colouring_painted_moves h_this_colouring_painted_lights h_this_colouring_painted_prices h_this_colouring_painted_shares h_m_moves h_m_lights h_m_prices h_m_shares h_m c_made c_machines c_colouring_orders c_colouring_together c_colouring_painted_states c_colouring_painted_letters c_colouring_painted_moves c_m_states c_m_letters c_m_moves)) (fun _ => rfl) (fun r4 _ H locs h hP hD hS => ?_)
  try dsimp only at h
  have hP : va_P g.1 vwCl (cw_X11_colour_s g h_this h_this_machines h_this_word h_this_steps h_this_trail h_this_search h_this_prices h_this_odds h_this_pairs h_this_greed h_this_colouring h_this_colouring_orders h_this_colouring_together h_this_colouring_painted h_this_colouring_painted_moves h_this_colouring_painted_lights h_this_colouring_painted_prices h_this_colouring_painted_shares h_m_moves h_m_lights h_m_prices h_m_shares h_m c_made c_machines c_colouring_orders c_colouring_together c_colouring_painted_states c_colouring_painted_letters c_colouring_painted_moves c_m_states c_m_letters c_m_moves) H := hP
  have hD : va_D A (cw_X11_colour_s g h_this h_this_machines h_this_word h_this_steps h_this_trail h_this_search h_this_prices h_this_odds h_this_pairs h_this_greed h_this_colouring h_this_colouring_orders h_this_colouring_together h_this_colouring_painted h_this_colouring_painted_moves h_this_colouring_painted_lights h_this_colouring_painted_prices h_this_colouring_painted_shares h_m_moves h_m_lights h_m_prices h_m_shares h_m c_made c_machines c_colouring_orders c_colouring_together c_colouring_painted_states c_colouring_painted_letters c_colouring_painted_moves c_m_states c_m_letters c_m_moves) := hD
  refine lv_if_eq (tgt := 31) hx hb dX11_colour_17 (by decide) (fun cq => ?_) (fun cq => ?_)
  · replace h := h.1 cq
    refine lv_bipush (v := (-3)) hx hb dX11_colour_31 (by decide) ?_
    exact hret (-3) (c_colouring_orders, c_colouring_together, c_colouring_painted_moves, c_m_moves) _ _ _ _ rfl h hP hD hS dX11_colour_33
  · replace h := h.2 cq
    refine lv_aload_n hx hb dX11_colour_20 rfl (lv_at hl 1 rfl) ?_
    refine va_get (D := g.1) (ci := 10) (v := .ref h_this_colouring) (C := RX11) (T := TX11) (N := 11) hx hb hts iX11 hown hK hP 0 rfl rfl 10 (by decide) f80 (fun _ h9 => h9) rfl dX11_colour_21 ?_
    refine lv_aload_n hx hb dX11_colour_24 rfl (lv_at hl 0 rfl) ?_
    refine go_I E (run_V E ((k_X1_paint l g h_this_colouring h_m h_this_colouring_orders h_this_colouring_together h_this_colouring_painted h_this_colouring_painted_moves h_this_colouring_painted_lights h_this_colouring_painted_prices h_this_colouring_painted_shares h_m_moves h_m_lights h_m_prices h_m_shares h) _) (cwV 1 hts gX11_colour_X1_paint rfl rfl rfl (by decide +kernel) ⟨Nat.le_of_ble_eq_true rfl, Nat.le_of_ble_eq_true rfl⟩) hP hD hS [2, 3, 4, 5, 6, 7, 8] rfl rfl 0 1 rfl rfl rfl hl rfl rfl (Nat.le_of_ble_eq_true rfl) dX11_colour_25 ⟨Nat.le_of_ble_eq_true rfl, Nat.le_of_ble_eq_true rfl⟩) hP hD hS [2, 3, 4, 5, 6, 7, 8] rfl [(true, 0), (true, 1), (false, 0), (false, 1), (false, 2), (false, 3), (false, 4), (false, 5), (false, 6)] rfl (by decide) (fun u => (cw_X11_colour_s g h_this h_this_machines h_this_word h_this_steps h_this_trail h_this_search h_this_prices h_this_odds h_this_pairs h_this_greed h_this_colouring h_this_colouring_orders h_this_colouring_together h_this_colouring_painted h_this_colouring_painted_moves h_this_colouring_painted_lights h_this_colouring_painted_prices h_this_colouring_painted_shares h_m_moves h_m_lights h_m_prices h_m_shares h_m c_made c_machines u.1 u.2.1 c_colouring_painted_states c_colouring_painted_letters u.2.2.1 c_m_states c_m_letters u.2.2.2)) (fun _ => rfl) (fun r6 u H locs h hP hD hS => ?_)
    obtain ⟨c_colouring_orders, c_colouring_together, c_colouring_painted_moves, c_m_moves⟩ := u
    try dsimp only at h
    have hP : va_P g.1 vwCl (cw_X11_colour_s g h_this h_this_machines h_this_word h_this_steps h_this_trail h_this_search h_this_prices h_this_odds h_this_pairs h_this_greed h_this_colouring h_this_colouring_orders h_this_colouring_together h_this_colouring_painted h_this_colouring_painted_moves h_this_colouring_painted_lights h_this_colouring_painted_prices h_this_colouring_painted_shares h_m_moves h_m_lights h_m_prices h_m_shares h_m c_made c_machines c_colouring_orders c_colouring_together c_colouring_painted_states c_colouring_painted_letters c_colouring_painted_moves c_m_states c_m_letters c_m_moves) H := hP
    have hD : va_D A (cw_X11_colour_s g h_this h_this_machines h_this_word h_this_steps h_this_trail h_this_search h_this_prices h_this_odds h_this_pairs h_this_greed h_this_colouring h_this_colouring_orders h_this_colouring_together h_this_colouring_painted h_this_colouring_painted_moves h_this_colouring_painted_lights h_this_colouring_painted_prices h_this_colouring_painted_shares h_m_moves h_m_lights h_m_prices h_m_shares h_m c_made c_machines c_colouring_orders c_colouring_together c_colouring_painted_states c_colouring_painted_letters c_colouring_painted_moves c_m_states c_m_letters c_m_moves) := hD
    refine lv_goto (tgt := 33) hx hb dX11_colour_28 (by decide) ?_
    exact hret r6 (c_colouring_orders, c_colouring_together, c_colouring_painted_moves, c_m_moves) _ _ _ _ rfl h hP hD hS dX11_colour_33
abbrev cw_X11_colour_n (g : GG) (h_this : Nat) (h_this_machines : Nat) (h_this_word : Nat) (h_this_steps : Nat) (h_this_trail : Nat) (h_this_search : Nat) (h_this_prices : Nat) (h_this_odds : Nat) (h_this_pairs : Nat) (h_this_greed : Nat) (h_this_colouring : Nat) (c_made : Int32) (c_machines : Nat → Option Nat) : va_W := [(h_this, .inr (10, [.ref h_this_machines, .int c_made, .ref h_this_word, .ref h_this_steps, .ref h_this_trail, .ref h_this_search, .ref h_this_prices, .ref h_this_odds, .ref h_this_pairs, .ref h_this_greed, .ref h_this_colouring])), (h_this_machines, .inl (g.2.2.2.2, 6, .inr (.inr (.inr (.inr c_machines)))))]
def wp_X11_colour_n (c_made : Int32) (c_machines : Nat → Option Nat) (x1 : Int32) (Q : Int32 → Prop) : Prop :=
    Q (-2)
abbrev rm_X11_colour_n : Room := { frames := 1, cells := 0, slots := 0, locals := 21 }
set_option maxHeartbeats 4000000 in
set_option maxRecDepth 100000 in
theorem k_X11_colour_n (l : Launch) (g : GG) (h_this : Nat) (h_this_machines : Nat) (h_this_word : Nat) (h_this_steps : Nat) (h_this_trail : Nat) (h_this_search : Nat) (h_this_prices : Nat) (h_this_odds : Nat) (h_this_pairs : Nat) (h_this_greed : Nat) (h_this_colouring : Nat) {c_made : Int32} {c_machines : Nat → Option Nat} {x1 : Int32} {Q : Int32 → Prop} (hm : wp_X11_machineAt c_made c_machines x1 (fun r => r = none)) (h : wp_X11_colour_n c_made c_machines x1 Q) : CI l g yX11_colour wsX11_colour rm_X11_colour_n [.ref h_this, .int x1] (cw_X11_colour_n g h_this h_this_machines h_this_word h_this_steps h_this_trail h_this_search h_this_prices h_this_odds h_this_pairs h_this_greed h_this_colouring c_made c_machines) (S := Unit) (fun _ => (cw_X11_colour_n g h_this h_this_machines h_this_word h_this_steps h_this_trail h_this_search h_this_prices h_this_odds h_this_pairs h_this_greed h_this_colouring c_made c_machines)) (fun r _ => Q r) 0 0 := by
  refine mk_I (cc := cX11_colour) (maxL := 3) (own := RX11) (by decide) rfl rfl (Nat.le_of_ble_eq_true rfl) ?_
  intro p e s m args below meth c A QQ E hret hP hD hS ls hl
  have E2 := E
  obtain ⟨hx, hb, hr, hml, hown, hts, hlocks, hA, hZ, hK, hnm⟩ := E2
  have hP : va_P g.1 vwCl (cw_X11_colour_n g h_this h_this_machines h_this_word h_this_steps h_this_trail h_this_search h_this_prices h_this_odds h_this_pairs h_this_greed h_this_colouring c_made c_machines) s.heap := hP
  have hD : va_D A (cw_X11_colour_n g h_this h_this_machines h_this_word h_this_steps h_this_trail h_this_search h_this_prices h_this_odds h_this_pairs h_this_greed h_this_colouring c_made c_machines) := hD
  have hl : lv_has ls 3 [(0, .ref h_this), (1, .int x1)] := hl
  unfold wp_X11_colour_n at h
  refine lv_aload_n hx hb dX11_colour_0 rfl (lv_at hl 0 rfl) ?_
  refine lv_iload_n hx hb dX11_colour_1 rfl (lv_at hl 1 rfl) ?_
  refine go_Q E (run_V E ((k_X11_machineAt l g h_this h_this_machines h_this_word h_this_steps h_this_trail h_this_search h_this_prices h_this_odds h_this_pairs h_this_greed h_this_colouring hm) _) (cwV 1 hts gX11_colour_X11_machineAt rfl rfl rfl (by decide +kernel) ⟨Nat.le_of_ble_eq_true rfl, Nat.le_of_ble_eq_true rfl⟩) hP hD hS [0, 1] rfl rfl 0 10 rfl rfl rfl hl rfl rfl (Nat.le_of_ble_eq_true rfl) dX11_colour_2 ⟨Nat.le_of_ble_eq_true rfl, Nat.le_of_ble_eq_true rfl⟩) hP hD hS [0, 1] rfl [(false, 0), (false, 1)] rfl (by decide) (fun _ => (cw_X11_colour_n g h_this h_this_machines h_this_word h_this_steps h_this_trail h_this_search h_this_prices h_this_odds h_this_pairs h_this_greed h_this_colouring c_made c_machines)) (fun _ => rfl) (fun r2 _ H locs hr_ hP hD hS => ?_)
  have hr_ : none = r2 := Eq.symm hr_
  subst hr_
  refine W.eq (g2 := F0 m 5 ls [.null]) rfl ?_
  have hP : va_P g.1 vwCl (cw_X11_colour_n g h_this h_this_machines h_this_word h_this_steps h_this_trail h_this_search h_this_prices h_this_odds h_this_pairs h_this_greed h_this_colouring c_made c_machines) H := hP
  have hD : va_D A (cw_X11_colour_n g h_this h_this_machines h_this_word h_this_steps h_this_trail h_this_search h_this_prices h_this_odds h_this_pairs h_this_greed h_this_colouring c_made c_machines) := hD
  refine lv_astore_nN (lv' := [(2, .null), (0, .ref h_this), (1, .int x1)]) hx hb dX11_colour_5 rfl hl (by decide) rfl (fun ls hl => ?_)
  refine lv_aload_nN hx hb dX11_colour_6 rfl (lv_at hl 0 rfl) ?_
  refine lv_ifnonnullN hx hb dX11_colour_7 ?_
  refine lv_bipush (v := (-2)) hx hb dX11_colour_10 (by decide) ?_
  exact hret (-2) () _ _ _ _ rfl h hP hD hS dX11_colour_12
abbrev cw_X11_apart_s (g : GG) (h_this : Nat) (h_this_machines : Nat) (h_this_word : Nat) (h_this_steps : Nat) (h_this_trail : Nat) (h_this_search : Nat) (h_this_prices : Nat) (h_this_odds : Nat) (h_this_pairs : Nat) (h_this_greed : Nat) (h_this_colouring : Nat) (h_this_pairs_lengths : Nat) (h_this_pairs_queue : Nat) (h_m_moves : Nat) (h_m_lights : Nat) (h_m_prices : Nat) (h_m_shares : Nat) (h_m : Nat) (c_made : Int32) (c_machines : Nat → Option Nat) (c_pairs_without : Int32) (c_pairs_lengths : Nat → Int32) (c_pairs_queue : Nat → Int32) (c_m_states : Int32) (c_m_letters : Int32) (c_m_moves : Nat → Int32) (c_m_lights : Nat → Int32) : va_W := [(h_this, .inr (10, [.ref h_this_machines, .int c_made, .ref h_this_word, .ref h_this_steps, .ref h_this_trail, .ref h_this_search, .ref h_this_prices, .ref h_this_odds, .ref h_this_pairs, .ref h_this_greed, .ref h_this_colouring])), (h_this_machines, .inl (g.2.2.2.2, 6, .inr (.inr (.inr (.inr c_machines))))), (h_this_pairs, .inr (4, [.ref h_this_pairs_lengths, .ref h_this_pairs_queue, .int c_pairs_without])), (h_this_pairs_lengths, .inl (g.2.1, 144, .inl c_pairs_lengths)), (h_this_pairs_queue, .inl (g.2.1, 144, .inl c_pairs_queue)), (h_m, .inr (3, [.int c_m_states, .int c_m_letters, .ref h_m_moves, .ref h_m_lights, .ref h_m_prices, .ref h_m_shares])), (h_m_moves, .inl (g.2.1, 48, .inl c_m_moves)), (h_m_lights, .inl (g.2.1, 12, .inl c_m_lights))]
def wp_X11_apart_s (c_made : Int32) (c_machines : Nat → Option Nat) (c_pairs_without : Int32) (c_pairs_lengths : Nat → Int32) (c_pairs_queue : Nat → Int32) (c_m_states : Int32) (c_m_letters : Int32) (c_m_moves : Nat → Int32) (c_m_lights : Nat → Int32) (x1 : Int32) (x2 : Int32) (x3 : Int32) (Q : Int32 → (Nat → Int32) → (Nat → Int32) → Prop) : Prop :=
    wp_X4_hasState c_m_states c_m_letters x2 (fun r4 => ((r4 = (nI 0) → Q (-2) c_pairs_lengths c_pairs_queue) ∧ (¬ r4 = (nI 0) → wp_X4_hasState c_m_states c_m_letters x3 (fun r6 => ((¬ r6 = (nI 0) → wp_X5_lengthApart c_pairs_without c_pairs_lengths c_pairs_queue c_m_states c_m_letters c_m_moves c_m_lights x2 x3 (fun r8 c_pairs_lengths c_pairs_queue => Q r8 c_pairs_lengths c_pairs_queue)) ∧ (r6 = (nI 0) → Q (-2) c_pairs_lengths c_pairs_queue))))))
abbrev rm_X11_apart_s : Room := { frames := 3, cells := 0, slots := 0, locals := 78 }
set_option maxHeartbeats 4000000 in
set_option maxRecDepth 100000 in
theorem k_X11_apart_s (l : Launch) (g : GG) (h_this : Nat) (h_this_machines : Nat) (h_this_word : Nat) (h_this_steps : Nat) (h_this_trail : Nat) (h_this_search : Nat) (h_this_prices : Nat) (h_this_odds : Nat) (h_this_pairs : Nat) (h_this_greed : Nat) (h_this_colouring : Nat) (h_this_pairs_lengths : Nat) (h_this_pairs_queue : Nat) (h_m_moves : Nat) (h_m_lights : Nat) (h_m_prices : Nat) (h_m_shares : Nat) (h_m : Nat) {c_made : Int32} {c_machines : Nat → Option Nat} {c_pairs_without : Int32} {c_pairs_lengths : Nat → Int32} {c_pairs_queue : Nat → Int32} {c_m_states : Int32} {c_m_letters : Int32} {c_m_moves : Nat → Int32} {c_m_lights : Nat → Int32} {x1 : Int32} {x2 : Int32} {x3 : Int32} {Q : Int32 → (Nat → Int32) → (Nat → Int32) → Prop} (hm : wp_X11_machineAt c_made c_machines x1 (fun r => r = some h_m)) (h : wp_X11_apart_s c_made c_machines c_pairs_without c_pairs_lengths c_pairs_queue c_m_states c_m_letters c_m_moves c_m_lights x1 x2 x3 Q) : CI l g yX11_apart wsX11_apart rm_X11_apart_s [.ref h_this, .int x1, .int x2, .int x3] (cw_X11_apart_s g h_this h_this_machines h_this_word h_this_steps h_this_trail h_this_search h_this_prices h_this_odds h_this_pairs h_this_greed h_this_colouring h_this_pairs_lengths h_this_pairs_queue h_m_moves h_m_lights h_m_prices h_m_shares h_m c_made c_machines c_pairs_without c_pairs_lengths c_pairs_queue c_m_states c_m_letters c_m_moves c_m_lights) (S := (Nat → Int32) × (Nat → Int32)) (fun u => (cw_X11_apart_s g h_this h_this_machines h_this_word h_this_steps h_this_trail h_this_search h_this_prices h_this_odds h_this_pairs h_this_greed h_this_colouring h_this_pairs_lengths h_this_pairs_queue h_m_moves h_m_lights h_m_prices h_m_shares h_m c_made c_machines c_pairs_without u.1 u.2 c_m_states c_m_letters c_m_moves c_m_lights)) (fun r u => Q r u.1 u.2) 0 0 := by
  refine mk_I (cc := cX11_apart) (maxL := 5) (own := RX11) (by decide) rfl rfl (Nat.le_of_ble_eq_true rfl) ?_
  intro p e s m args below meth c A QQ E hret hP hD hS ls hl
  have E2 := E
  obtain ⟨hx, hb, hr, hml, hown, hts, hlocks, hA, hZ, hK, hnm⟩ := E2
  have f64 := hts (.fieldLink RX11 64 "WordBench" "pairs" "LWordBench$Pairs;") (by decide +kernel)
  have iX11 : ∀ w ∈ wsX110, w ∈ wsX11_apart := fun _ h => List.mem_cons_of_mem _ (List.mem_append_left _ (List.mem_append_left _ (List.mem_append_right _ h)))
  have hP : va_P g.1 vwCl (cw_X11_apart_s g h_this h_this_machines h_this_word h_this_steps h_this_trail h_this_search h_this_prices h_this_odds h_this_pairs h_this_greed h_this_colouring h_this_pairs_lengths h_this_pairs_queue h_m_moves h_m_lights h_m_prices h_m_shares h_m c_made c_machines c_pairs_without c_pairs_lengths c_pairs_queue c_m_states c_m_letters c_m_moves c_m_lights) s.heap := hP
  have hD : va_D A (cw_X11_apart_s g h_this h_this_machines h_this_word h_this_steps h_this_trail h_this_search h_this_prices h_this_odds h_this_pairs h_this_greed h_this_colouring h_this_pairs_lengths h_this_pairs_queue h_m_moves h_m_lights h_m_prices h_m_shares h_m c_made c_machines c_pairs_without c_pairs_lengths c_pairs_queue c_m_states c_m_letters c_m_moves c_m_lights) := hD
  have hl : lv_has ls 5 [(0, .ref h_this), (1, .int x1), (2, .int x2), (3, .int x3)] := hl
  unfold wp_X11_apart_s at h
  refine lv_aload_n hx hb dX11_apart_0 rfl (lv_at hl 0 rfl) ?_
  refine lv_iload_n hx hb dX11_apart_1 rfl (lv_at hl 1 rfl) ?_
  refine go_Q E (run_V E ((k_X11_machineAt l g h_this h_this_machines h_this_word h_this_steps h_this_trail h_this_search h_this_prices h_this_odds h_this_pairs h_this_greed h_this_colouring hm) _) (cwV 1 hts gX11_apart_X11_machineAt rfl rfl rfl (by decide +kernel) ⟨Nat.le_of_ble_eq_true rfl, Nat.le_of_ble_eq_true rfl⟩) hP hD hS [0, 1] rfl rfl 0 10 rfl rfl rfl hl rfl rfl (Nat.le_of_ble_eq_true rfl) dX11_apart_2 ⟨Nat.le_of_ble_eq_true rfl, Nat.le_of_ble_eq_true rfl⟩) hP hD hS [0, 1] rfl [(false, 0), (false, 1), (true, 2), (true, 3), (true, 4), (true, 5), (true, 6), (true, 7)] rfl (by decide) (fun _ => (cw_X11_apart_s g h_this h_this_machines h_this_word h_this_steps h_this_trail h_this_search h_this_prices h_this_odds h_this_pairs h_this_greed h_this_colouring h_this_pairs_lengths h_this_pairs_queue h_m_moves h_m_lights h_m_prices h_m_shares h_m c_made c_machines c_pairs_without c_pairs_lengths c_pairs_queue c_m_states c_m_letters c_m_moves c_m_lights)) (fun _ => rfl) (fun r2 _ H locs hr_ hP hD hS => ?_)
  have hr_ : some h_m = r2 := Eq.symm hr_
  subst hr_
  refine W.eq (g2 := F0 m 5 ls [.ref h_m]) rfl ?_
  have hP : va_P g.1 vwCl (cw_X11_apart_s g h_this h_this_machines h_this_word h_this_steps h_this_trail h_this_search h_this_prices h_this_odds h_this_pairs h_this_greed h_this_colouring h_this_pairs_lengths h_this_pairs_queue h_m_moves h_m_lights h_m_prices h_m_shares h_m c_made c_machines c_pairs_without c_pairs_lengths c_pairs_queue c_m_states c_m_letters c_m_moves c_m_lights) H := hP
  have hD : va_D A (cw_X11_apart_s g h_this h_this_machines h_this_word h_this_steps h_this_trail h_this_search h_this_prices h_this_odds h_this_pairs h_this_greed h_this_colouring h_this_pairs_lengths h_this_pairs_queue h_m_moves h_m_lights h_m_prices h_m_shares h_m c_made c_machines c_pairs_without c_pairs_lengths c_pairs_queue c_m_states c_m_letters c_m_moves c_m_lights) := hD
  refine lv_astore (lv' := [(4, .ref h_m), (0, .ref h_this), (1, .int x1), (2, .int x2), (3, .int x3)]) hx hb dX11_apart_5 hl (by decide) rfl (fun ls hl => ?_)
  refine lv_aload hx hb dX11_apart_7 (lv_at hl 0 rfl) ?_
  refine lv_ifnull hx hb dX11_apart_9 ?_
  refine lv_aload hx hb dX11_apart_12 (lv_at hl 0 rfl) ?_
  refine lv_iload_n hx hb dX11_apart_14 rfl (lv_at hl 3 rfl) ?_
  refine go_I E (run_V E ((k_X4_hasState l g h_m h_m_moves h_m_lights h_m_prices h_m_shares h) _) (cwV 1 hts gX11_apart_X4_hasState rfl rfl rfl (by decide +kernel) ⟨Nat.le_of_ble_eq_true rfl, Nat.le_of_ble_eq_true rfl⟩) hP hD hS [5] rfl rfl 0 3 rfl rfl rfl hl rfl rfl (Nat.le_of_ble_eq_true rfl) dX11_apart_15 ⟨Nat.le_of_ble_eq_true rfl, Nat.le_of_ble_eq_true rfl⟩) hP hD hS [5] rfl [(true, 0), (true, 1), (true, 2), (true, 3), (true, 4), (false, 0), (true, 6), (true, 7)] rfl (by decide) (fun _ => (cw_X11_apart_s g h_this h_this_machines h_this_word h_this_steps h_this_trail h_this_search h_this_prices h_this_odds h_this_pairs h_this_greed h_this_colouring h_this_pairs_lengths h_this_pairs_queue h_m_moves h_m_lights h_m_prices h_m_shares h_m c_made c_machines c_pairs_without c_pairs_lengths c_pairs_queue c_m_states c_m_letters c_m_moves c_m_lights)) (fun _ => rfl) (fun r4 _ H locs h hP hD hS => ?_)
  try dsimp only at h
  have hP : va_P g.1 vwCl (cw_X11_apart_s g h_this h_this_machines h_this_word h_this_steps h_this_trail h_this_search h_this_prices h_this_odds h_this_pairs h_this_greed h_this_colouring h_this_pairs_lengths h_this_pairs_queue h_m_moves h_m_lights h_m_prices h_m_shares h_m c_made c_machines c_pairs_without c_pairs_lengths c_pairs_queue c_m_states c_m_letters c_m_moves c_m_lights) H := hP
  have hD : va_D A (cw_X11_apart_s g h_this h_this_machines h_this_word h_this_steps h_this_trail h_this_search h_this_prices h_this_odds h_this_pairs h_this_greed h_this_colouring h_this_pairs_lengths h_this_pairs_queue h_m_moves h_m_lights h_m_prices h_m_shares h_m c_made c_machines c_pairs_without c_pairs_lengths c_pairs_queue c_m_states c_m_letters c_m_moves c_m_lights) := hD
  refine lv_if_eq (tgt := 30) hx hb dX11_apart_18 (by decide) (fun cq => ?_) (fun cq => ?_)
  · replace h := h.1 cq
    refine lv_bipush (v := (-2)) hx hb dX11_apart_30 (by decide) ?_
    exact hret (-2) (c_pairs_lengths, c_pairs_queue) _ _ _ _ rfl h hP hD hS dX11_apart_32
  · replace h := h.2 cq
    refine lv_aload hx hb dX11_apart_21 (lv_at hl 0 rfl) ?_
    refine lv_iload_n hx hb dX11_apart_23 rfl (lv_at hl 4 rfl) ?_
    refine go_I E (run_V E ((k_X4_hasState l g h_m h_m_moves h_m_lights h_m_prices h_m_shares h) _) (cwV 1 hts gX11_apart_X4_hasState rfl rfl rfl (by decide +kernel) ⟨Nat.le_of_ble_eq_true rfl, Nat.le_of_ble_eq_true rfl⟩) hP hD hS [5] rfl rfl 0 3 rfl rfl rfl hl rfl rfl (Nat.le_of_ble_eq_true rfl) dX11_apart_24 ⟨Nat.le_of_ble_eq_true rfl, Nat.le_of_ble_eq_true rfl⟩) hP hD hS [5] rfl [(true, 0), (true, 1), (true, 2), (true, 3), (true, 4), (false, 0), (true, 6), (true, 7)] rfl (by decide) (fun _ => (cw_X11_apart_s g h_this h_this_machines h_this_word h_this_steps h_this_trail h_this_search h_this_prices h_this_odds h_this_pairs h_this_greed h_this_colouring h_this_pairs_lengths h_this_pairs_queue h_m_moves h_m_lights h_m_prices h_m_shares h_m c_made c_machines c_pairs_without c_pairs_lengths c_pairs_queue c_m_states c_m_letters c_m_moves c_m_lights)) (fun _ => rfl) (fun r6 _ H locs h hP hD hS => ?_)
    try dsimp only at h
    have hP : va_P g.1 vwCl (cw_X11_apart_s g h_this h_this_machines h_this_word h_this_steps h_this_trail h_this_search h_this_prices h_this_odds h_this_pairs h_this_greed h_this_colouring h_this_pairs_lengths h_this_pairs_queue h_m_moves h_m_lights h_m_prices h_m_shares h_m c_made c_machines c_pairs_without c_pairs_lengths c_pairs_queue c_m_states c_m_letters c_m_moves c_m_lights) H := hP
    have hD : va_D A (cw_X11_apart_s g h_this h_this_machines h_this_word h_this_steps h_this_trail h_this_search h_this_prices h_this_odds h_this_pairs h_this_greed h_this_colouring h_this_pairs_lengths h_this_pairs_queue h_m_moves h_m_lights h_m_prices h_m_shares h_m c_made c_machines c_pairs_without c_pairs_lengths c_pairs_queue c_m_states c_m_letters c_m_moves c_m_lights) := hD
    refine lv_if_ne (tgt := 33) hx hb dX11_apart_27 (by decide) (fun cq => ?_) (fun cq => ?_)
    · replace h := h.1 cq
      refine lv_aload_n hx hb dX11_apart_33 rfl (lv_at hl 1 rfl) ?_
      refine va_get (D := g.1) (ci := 10) (v := .ref h_this_pairs) (C := RX11) (T := TX11) (N := 11) hx hb hts iX11 hown hK hP 0 rfl rfl 8 (by decide) f64 (fun _ h9 => h9) rfl dX11_apart_34 ?_
      refine lv_aload hx hb dX11_apart_37 (lv_at hl 0 rfl) ?_
      refine lv_iload_n hx hb dX11_apart_39 rfl (lv_at hl 3 rfl) ?_
      refine lv_iload_n hx hb dX11_apart_40 rfl (lv_at hl 4 rfl) ?_
      refine go_I E (run_V E ((k_X5_lengthApart l g h_this_pairs h_m h_this_pairs_lengths h_this_pairs_queue h_m_moves h_m_lights h_m_prices h_m_shares h) _) (cwV 3 hts gX11_apart_X5_lengthApart rfl rfl rfl (by decide +kernel) ⟨Nat.le_of_ble_eq_true rfl, Nat.le_of_ble_eq_true rfl⟩) hP hD hS [2, 3, 4, 5, 6, 7] rfl rfl 0 4 rfl rfl rfl hl rfl rfl (Nat.le_of_ble_eq_true rfl) dX11_apart_41 ⟨Nat.le_of_ble_eq_true rfl, Nat.le_of_ble_eq_true rfl⟩) hP hD hS [2, 3, 4, 5, 6, 7] rfl [(true, 0), (true, 1), (false, 0), (false, 1), (false, 2), (false, 3), (false, 4), (false, 5)] rfl (by decide) (fun u => (cw_X11_apart_s g h_this h_this_machines h_this_word h_this_steps h_this_trail h_this_search h_this_prices h_this_odds h_this_pairs h_this_greed h_this_colouring h_this_pairs_lengths h_this_pairs_queue h_m_moves h_m_lights h_m_prices h_m_shares h_m c_made c_machines c_pairs_without u.1 u.2 c_m_states c_m_letters c_m_moves c_m_lights)) (fun _ => rfl) (fun r8 u H locs h hP hD hS => ?_)
      obtain ⟨c_pairs_lengths, c_pairs_queue⟩ := u
      try dsimp only at h
      have hP : va_P g.1 vwCl (cw_X11_apart_s g h_this h_this_machines h_this_word h_this_steps h_this_trail h_this_search h_this_prices h_this_odds h_this_pairs h_this_greed h_this_colouring h_this_pairs_lengths h_this_pairs_queue h_m_moves h_m_lights h_m_prices h_m_shares h_m c_made c_machines c_pairs_without c_pairs_lengths c_pairs_queue c_m_states c_m_letters c_m_moves c_m_lights) H := hP
      have hD : va_D A (cw_X11_apart_s g h_this h_this_machines h_this_word h_this_steps h_this_trail h_this_search h_this_prices h_this_odds h_this_pairs h_this_greed h_this_colouring h_this_pairs_lengths h_this_pairs_queue h_m_moves h_m_lights h_m_prices h_m_shares h_m c_made c_machines c_pairs_without c_pairs_lengths c_pairs_queue c_m_states c_m_letters c_m_moves c_m_lights) := hD
      exact hret r8 (c_pairs_lengths, c_pairs_queue) _ _ _ _ rfl h hP hD hS dX11_apart_44
    · replace h := h.2 cq
      refine lv_bipush (v := (-2)) hx hb dX11_apart_30 (by decide) ?_
      exact hret (-2) (c_pairs_lengths, c_pairs_queue) _ _ _ _ rfl h hP hD hS dX11_apart_32
abbrev cw_X11_apart_n (g : GG) (h_this : Nat) (h_this_machines : Nat) (h_this_word : Nat) (h_this_steps : Nat) (h_this_trail : Nat) (h_this_search : Nat) (h_this_prices : Nat) (h_this_odds : Nat) (h_this_pairs : Nat) (h_this_greed : Nat) (h_this_colouring : Nat) (c_made : Int32) (c_machines : Nat → Option Nat) : va_W := [(h_this, .inr (10, [.ref h_this_machines, .int c_made, .ref h_this_word, .ref h_this_steps, .ref h_this_trail, .ref h_this_search, .ref h_this_prices, .ref h_this_odds, .ref h_this_pairs, .ref h_this_greed, .ref h_this_colouring])), (h_this_machines, .inl (g.2.2.2.2, 6, .inr (.inr (.inr (.inr c_machines)))))]
def wp_X11_apart_n (c_made : Int32) (c_machines : Nat → Option Nat) (x1 : Int32) (x2 : Int32) (x3 : Int32) (Q : Int32 → Prop) : Prop :=
    Q (-2)
abbrev rm_X11_apart_n : Room := { frames := 1, cells := 0, slots := 0, locals := 21 }
set_option maxHeartbeats 4000000 in
set_option maxRecDepth 100000 in
theorem k_X11_apart_n (l : Launch) (g : GG) (h_this : Nat) (h_this_machines : Nat) (h_this_word : Nat) (h_this_steps : Nat) (h_this_trail : Nat) (h_this_search : Nat) (h_this_prices : Nat) (h_this_odds : Nat) (h_this_pairs : Nat) (h_this_greed : Nat) (h_this_colouring : Nat) {c_made : Int32} {c_machines : Nat → Option Nat} {x1 : Int32} {x2 : Int32} {x3 : Int32} {Q : Int32 → Prop} (hm : wp_X11_machineAt c_made c_machines x1 (fun r => r = none)) (h : wp_X11_apart_n c_made c_machines x1 x2 x3 Q) : CI l g yX11_apart wsX11_apart rm_X11_apart_n [.ref h_this, .int x1, .int x2, .int x3] (cw_X11_apart_n g h_this h_this_machines h_this_word h_this_steps h_this_trail h_this_search h_this_prices h_this_odds h_this_pairs h_this_greed h_this_colouring c_made c_machines) (S := Unit) (fun _ => (cw_X11_apart_n g h_this h_this_machines h_this_word h_this_steps h_this_trail h_this_search h_this_prices h_this_odds h_this_pairs h_this_greed h_this_colouring c_made c_machines)) (fun r _ => Q r) 0 0 := by
  refine mk_I (cc := cX11_apart) (maxL := 5) (own := RX11) (by decide) rfl rfl (Nat.le_of_ble_eq_true rfl) ?_
  intro p e s m args below meth c A QQ E hret hP hD hS ls hl
  have E2 := E
  obtain ⟨hx, hb, hr, hml, hown, hts, hlocks, hA, hZ, hK, hnm⟩ := E2
  have hP : va_P g.1 vwCl (cw_X11_apart_n g h_this h_this_machines h_this_word h_this_steps h_this_trail h_this_search h_this_prices h_this_odds h_this_pairs h_this_greed h_this_colouring c_made c_machines) s.heap := hP
  have hD : va_D A (cw_X11_apart_n g h_this h_this_machines h_this_word h_this_steps h_this_trail h_this_search h_this_prices h_this_odds h_this_pairs h_this_greed h_this_colouring c_made c_machines) := hD
  have hl : lv_has ls 5 [(0, .ref h_this), (1, .int x1), (2, .int x2), (3, .int x3)] := hl
  unfold wp_X11_apart_n at h
  refine lv_aload_n hx hb dX11_apart_0 rfl (lv_at hl 0 rfl) ?_
  refine lv_iload_n hx hb dX11_apart_1 rfl (lv_at hl 1 rfl) ?_
  refine go_Q E (run_V E ((k_X11_machineAt l g h_this h_this_machines h_this_word h_this_steps h_this_trail h_this_search h_this_prices h_this_odds h_this_pairs h_this_greed h_this_colouring hm) _) (cwV 1 hts gX11_apart_X11_machineAt rfl rfl rfl (by decide +kernel) ⟨Nat.le_of_ble_eq_true rfl, Nat.le_of_ble_eq_true rfl⟩) hP hD hS [0, 1] rfl rfl 0 10 rfl rfl rfl hl rfl rfl (Nat.le_of_ble_eq_true rfl) dX11_apart_2 ⟨Nat.le_of_ble_eq_true rfl, Nat.le_of_ble_eq_true rfl⟩) hP hD hS [0, 1] rfl [(false, 0), (false, 1)] rfl (by decide) (fun _ => (cw_X11_apart_n g h_this h_this_machines h_this_word h_this_steps h_this_trail h_this_search h_this_prices h_this_odds h_this_pairs h_this_greed h_this_colouring c_made c_machines)) (fun _ => rfl) (fun r2 _ H locs hr_ hP hD hS => ?_)
  have hr_ : none = r2 := Eq.symm hr_
  subst hr_
  refine W.eq (g2 := F0 m 5 ls [.null]) rfl ?_
  have hP : va_P g.1 vwCl (cw_X11_apart_n g h_this h_this_machines h_this_word h_this_steps h_this_trail h_this_search h_this_prices h_this_odds h_this_pairs h_this_greed h_this_colouring c_made c_machines) H := hP
  have hD : va_D A (cw_X11_apart_n g h_this h_this_machines h_this_word h_this_steps h_this_trail h_this_search h_this_prices h_this_odds h_this_pairs h_this_greed h_this_colouring c_made c_machines) := hD
  refine lv_astoreN (lv' := [(4, .null), (0, .ref h_this), (1, .int x1), (2, .int x2), (3, .int x3)]) hx hb dX11_apart_5 hl (by decide) rfl (fun ls hl => ?_)
  refine lv_aloadN hx hb dX11_apart_7 (lv_at hl 0 rfl) ?_
  refine lv_ifnullN (tgt := 30) hx hb dX11_apart_9 (by decide) ?_
  refine lv_bipush (v := (-2)) hx hb dX11_apart_30 (by decide) ?_
  exact hret (-2) () _ _ _ _ rfl h hP hD hS dX11_apart_32
abbrev cw_X11_count (g : GG) (h_this : Nat) (h_this_machines : Nat) (h_this_word : Nat) (h_this_steps : Nat) (h_this_trail : Nat) (h_this_search : Nat) (h_this_prices : Nat) (h_this_odds : Nat) (h_this_pairs : Nat) (h_this_greed : Nat) (h_this_colouring : Nat) (h_this_word_row : Nat) (c_made : Int32) (c_word_length : Int32) : va_W := [(h_this, .inr (10, [.ref h_this_machines, .int c_made, .ref h_this_word, .ref h_this_steps, .ref h_this_trail, .ref h_this_search, .ref h_this_prices, .ref h_this_odds, .ref h_this_pairs, .ref h_this_greed, .ref h_this_colouring])), (h_this_word, .inr (9, [.ref h_this_word_row, .int c_word_length]))]
def wp_X11_count (c_made : Int32) (c_word_length : Int32) (x1 : Int32) (Q : Int32 → Prop) : Prop :=
    ((x1 < (nI 0) → Q (-2)) ∧ (¬ x1 < (nI 0) → ((x1 ≤ (nI 1) → ((¬ x1 = (nI 0) → Q c_word_length) ∧ (x1 = (nI 0) → Q c_made))) ∧ (¬ x1 ≤ (nI 1) → Q (-2)))))
abbrev rm_X11_count : Room := { frames := 1, cells := 0, slots := 0, locals := 20 }
set_option maxHeartbeats 4000000 in
set_option maxRecDepth 100000 in
theorem k_X11_count (l : Launch) (g : GG) (h_this : Nat) (h_this_machines : Nat) (h_this_word : Nat) (h_this_steps : Nat) (h_this_trail : Nat) (h_this_search : Nat) (h_this_prices : Nat) (h_this_odds : Nat) (h_this_pairs : Nat) (h_this_greed : Nat) (h_this_colouring : Nat) (h_this_word_row : Nat) {c_made : Int32} {c_word_length : Int32} {x1 : Int32} {Q : Int32 → Prop} (h : wp_X11_count c_made c_word_length x1 Q) : CI l g yX11_count wsX11_count rm_X11_count [.ref h_this, .int x1] (cw_X11_count g h_this h_this_machines h_this_word h_this_steps h_this_trail h_this_search h_this_prices h_this_odds h_this_pairs h_this_greed h_this_colouring h_this_word_row c_made c_word_length) (S := Unit) (fun _ => (cw_X11_count g h_this h_this_machines h_this_word h_this_steps h_this_trail h_this_search h_this_prices h_this_odds h_this_pairs h_this_greed h_this_colouring h_this_word_row c_made c_word_length)) (fun r _ => Q r) 0 0 := by
  refine mk_I (cc := cX11_count) (maxL := 2) (own := RX11) (by decide) rfl rfl (Nat.le_of_ble_eq_true rfl) ?_
  intro p e s m args below meth c A QQ E hret hP hD hS ls hl
  have E2 := E
  obtain ⟨hx, hb, hr, hml, hown, hts, hlocks, hA, hZ, hK, hnm⟩ := E2
  have f18 := hts (.fieldLink RX11 18 "WordBench" "word" "LWordBench$Word;") (by decide +kernel)
  have f84 := hts (.fieldLink RX11 84 "WordBench" "made" "I") (by decide +kernel)
  have iX11 : ∀ w ∈ wsX110, w ∈ wsX11_count := fun _ h => List.mem_cons_of_mem _ (List.mem_append_left _ (List.mem_append_right _ h))
  have hP : va_P g.1 vwCl (cw_X11_count g h_this h_this_machines h_this_word h_this_steps h_this_trail h_this_search h_this_prices h_this_odds h_this_pairs h_this_greed h_this_colouring h_this_word_row c_made c_word_length) s.heap := hP
  have hD : va_D A (cw_X11_count g h_this h_this_machines h_this_word h_this_steps h_this_trail h_this_search h_this_prices h_this_odds h_this_pairs h_this_greed h_this_colouring h_this_word_row c_made c_word_length) := hD
  have hl : lv_has ls 2 [(0, .ref h_this), (1, .int x1)] := hl
  unfold wp_X11_count at h
  refine lv_iload_n hx hb dX11_count_0 rfl (lv_at hl 1 rfl) ?_
  refine lv_if_lt (tgt := 9) hx hb dX11_count_1 (by decide) (fun cq => ?_) (fun cq => ?_)
  · replace h := h.1 cq
    refine lv_bipush (v := (-2)) hx hb dX11_count_9 (by decide) ?_
    exact hret (-2) () _ _ _ _ rfl h hP hD hS dX11_count_11
  · replace h := h.2 cq
    refine lv_iload_n hx hb dX11_count_4 rfl (lv_at hl 1 rfl) ?_
    refine lv_iconst (v := (nI 1)) hx hb dX11_count_5 (by decide) ?_
    refine lv_icmp_le (tgt := 12) hx hb dX11_count_6 (by decide) (fun cq => ?_) (fun cq => ?_)
    · replace h := h.1 cq
      refine lv_iload_n hx hb dX11_count_12 rfl (lv_at hl 1 rfl) ?_
      refine lv_if_ne (tgt := 23) hx hb dX11_count_13 (by decide) (fun cq => ?_) (fun cq => ?_)
      · replace h := h.1 cq
        refine lv_aload_n hx hb dX11_count_23 rfl (lv_at hl 0 rfl) ?_
        refine va_get (D := g.1) (ci := 10) (v := .ref h_this_word) (C := RX11) (T := TX11) (N := 11) hx hb hts iX11 hown hK hP 0 rfl rfl 2 (by decide) f18 (fun _ h9 => h9) rfl dX11_count_24 ?_
        refine go_I E (run_V E ((k_X10_length l g h_this_word h_this_word_row (Q := fun r => r = c_word_length) rfl) _) (cwV 0 hts gX11_count_X10_length rfl rfl rfl (by decide +kernel) ⟨Nat.le_of_ble_eq_true rfl, Nat.le_of_ble_eq_true rfl⟩) hP hD hS [1] rfl rfl 0 9 rfl rfl rfl hl rfl rfl (Nat.le_of_ble_eq_true rfl) dX11_count_27 ⟨Nat.le_of_ble_eq_true rfl, Nat.le_of_ble_eq_true rfl⟩) hP hD hS [1] rfl [(true, 0), (false, 0)] rfl (by decide) (fun _ => (cw_X11_count g h_this h_this_machines h_this_word h_this_steps h_this_trail h_this_search h_this_prices h_this_odds h_this_pairs h_this_greed h_this_colouring h_this_word_row c_made c_word_length)) (fun _ => rfl) (fun r2 _ H locs hr_ hP hD hS => ?_)
        have hr_ : c_word_length = r2 := Eq.symm hr_
        subst hr_
        have hP : va_P g.1 vwCl (cw_X11_count g h_this h_this_machines h_this_word h_this_steps h_this_trail h_this_search h_this_prices h_this_odds h_this_pairs h_this_greed h_this_colouring h_this_word_row c_made c_word_length) H := hP
        have hD : va_D A (cw_X11_count g h_this h_this_machines h_this_word h_this_steps h_this_trail h_this_search h_this_prices h_this_odds h_this_pairs h_this_greed h_this_colouring h_this_word_row c_made c_word_length) := hD
        exact hret c_word_length () _ _ _ _ rfl h hP hD hS dX11_count_30
      · replace h := h.2 cq
        refine lv_aload_n hx hb dX11_count_16 rfl (lv_at hl 0 rfl) ?_
        refine va_get (D := g.1) (ci := 10) (v := .int c_made) (C := RX11) (T := TX11) (N := 11) hx hb hts iX11 hown hK hP 0 rfl rfl 1 (by decide) f84 (fun _ h9 => h9) rfl dX11_count_17 ?_
        refine lv_goto (tgt := 30) hx hb dX11_count_20 (by decide) ?_
        exact hret c_made () _ _ _ _ rfl h hP hD hS dX11_count_30
    · replace h := h.2 cq
      refine lv_bipush (v := (-2)) hx hb dX11_count_9 (by decide) ?_
      exact hret (-2) () _ _ _ _ rfl h hP hD hS dX11_count_11
abbrev cw_X11_digestOf (g : GG) (h_m : Nat) (h_m_moves : Nat) (h_m_lights : Nat) (h_m_prices : Nat) (h_m_shares : Nat) (c_m_states : Int32) (c_m_letters : Int32) (c_m_moves : Nat → Int32) (c_m_lights : Nat → Int32) (c_m_prices : Nat → Int32) (c_m_shares : Nat → Int32) : va_W := [(h_m, .inr (3, [.int c_m_states, .int c_m_letters, .ref h_m_moves, .ref h_m_lights, .ref h_m_prices, .ref h_m_shares])), (h_m_moves, .inl (g.2.1, 48, .inl c_m_moves)), (h_m_lights, .inl (g.2.1, 12, .inl c_m_lights)), (h_m_prices, .inl (g.2.1, 4, .inl c_m_prices)), (h_m_shares, .inl (g.2.1, 4, .inl c_m_shares))]
def L_X11_digestOf_100 (c_m_states : Int32) (c_m_letters : Int32) (c_m_prices : Nat → Int32) (c_m_shares : Nat → Int32) (Q : Int64 → Prop) : Nat → Int64 → Int32 → Prop
  | 0, _, _ => False
  | n_100 + 1, x3, x5 =>
    ((c_m_letters ≤ x5 → Q x3) ∧ (¬ c_m_letters ≤ x5 → wp_X4_priceOf c_m_states c_m_letters c_m_prices x5 (fun r6 => wp_X4_shareOf c_m_states c_m_letters c_m_shares x5 (fun r8 => (L_X11_digestOf_100 c_m_states c_m_letters c_m_prices c_m_shares Q n_100) (((lN 31) * (((lN 31) * x3) + (Int32.toInt64 r6))) + (Int32.toInt64 r8)) (x5 + (nI 1))))))
def J_X11_digestOf_97 (c_m_states : Int32) (c_m_letters : Int32) (c_m_prices : Nat → Int32) (c_m_shares : Nat → Int32) (Q : Int64 → Prop) (x3 : Int64) : Prop :=
    ∃ n, L_X11_digestOf_100 c_m_states c_m_letters c_m_prices c_m_shares Q n x3 (nI 0)
def J_X11_digestOf_77 (c_m_states : Int32) (c_m_letters : Int32) (c_m_lights : Nat → Int32) (R_34 : Int64 → Int32 → Prop) (x3 : Int64) (x5 : Int32) : Prop :=
    wp_X4_lightOf c_m_states c_m_letters c_m_lights x5 (fun r12 => R_34 (((lN 31) * x3) + (Int32.toInt64 r12)) (x5 + (nI 1)))
def L_X11_digestOf_46 (c_m_states : Int32) (c_m_letters : Int32) (c_m_moves : Nat → Int32) (c_m_lights : Nat → Int32) (x5 : Int32) (R_34 : Int64 → Int32 → Prop) : Nat → Int64 → Int32 → Prop
  | 0, _, _ => False
  | n_46 + 1, x3, x6 =>
    ((c_m_letters ≤ x6 → J_X11_digestOf_77 c_m_states c_m_letters c_m_lights R_34 x3 x5) ∧ (¬ c_m_letters ≤ x6 → wp_X4_target c_m_states c_m_letters c_m_moves x5 x6 (fun r14 => (L_X11_digestOf_46 c_m_states c_m_letters c_m_moves c_m_lights x5 R_34 n_46) (((lN 31) * x3) + (Int32.toInt64 r14)) (x6 + (nI 1)))))
def L_X11_digestOf_34 (c_m_states : Int32) (c_m_letters : Int32) (c_m_moves : Nat → Int32) (c_m_lights : Nat → Int32) (c_m_prices : Nat → Int32) (c_m_shares : Nat → Int32) (Q : Int64 → Prop) : Nat → Int64 → Int32 → Prop
  | 0, _, _ => False
  | n_34 + 1, x3, x5 =>
    ((c_m_states ≤ x5 → J_X11_digestOf_97 c_m_states c_m_letters c_m_prices c_m_shares Q x3) ∧ (¬ c_m_states ≤ x5 → ∃ n, L_X11_digestOf_46 c_m_states c_m_letters c_m_moves c_m_lights x5 (L_X11_digestOf_34 c_m_states c_m_letters c_m_moves c_m_lights c_m_prices c_m_shares Q n_34) n x3 (nI 0)))
def J_X11_digestOf_31 (c_m_states : Int32) (c_m_letters : Int32) (c_m_moves : Nat → Int32) (c_m_lights : Nat → Int32) (c_m_prices : Nat → Int32) (c_m_shares : Nat → Int32) (Q : Int64 → Prop) (x3 : Int64) : Prop :=
    ∃ n, L_X11_digestOf_34 c_m_states c_m_letters c_m_moves c_m_lights c_m_prices c_m_shares Q n x3 (nI 0)
def L_X11_digestOf_5 (c_m_states : Int32) (c_m_letters : Int32) (c_m_moves : Nat → Int32) (c_m_lights : Nat → Int32) (c_m_prices : Nat → Int32) (c_m_shares : Nat → Int32) (Q : Int64 → Prop) : Nat → Int64 → Int32 → Prop
  | 0, _, _ => False
  | n_5 + 1, x3, x5 =>
    (((nI 2) < x5 → J_X11_digestOf_31 c_m_states c_m_letters c_m_moves c_m_lights c_m_prices c_m_shares Q x3) ∧ (¬ (nI 2) < x5 → wp_X11_fact c_m_states c_m_letters c_m_moves x5 (fun r16 => (L_X11_digestOf_5 c_m_states c_m_letters c_m_moves c_m_lights c_m_prices c_m_shares Q n_5) (((lN 31) * x3) + (Int32.toInt64 r16)) (x5 + (nI 1)))))
def wp_X11_digestOf (c_m_states : Int32) (c_m_letters : Int32) (c_m_moves : Nat → Int32) (c_m_lights : Nat → Int32) (c_m_prices : Nat → Int32) (c_m_shares : Nat → Int32) (x1 : Int64) (Q : Int64 → Prop) : Prop :=
    ∃ n, L_X11_digestOf_5 c_m_states c_m_letters c_m_moves c_m_lights c_m_prices c_m_shares Q n x1 (nI 0)
abbrev rm_X11_digestOf : Room := { frames := 3, cells := 0, slots := 0, locals := 66 }
set_option maxHeartbeats 4000000 in
set_option maxRecDepth 100000 in
theorem k_X11_digestOf (l : Launch) (g : GG) (h_m : Nat) (h_m_moves : Nat) (h_m_lights : Nat) (h_m_prices : Nat) (h_m_shares : Nat) {c_m_states : Int32} {c_m_letters : Int32} {c_m_moves : Nat → Int32} {c_m_lights : Nat → Int32} {c_m_prices : Nat → Int32} {c_m_shares : Nat → Int32} {x1 : Int64} {Q : Int64 → Prop} (h : wp_X11_digestOf c_m_states c_m_letters c_m_moves c_m_lights c_m_prices c_m_shares x1 Q) : CL l g yX11_digestOf wsX11_digestOf rm_X11_digestOf [.ref h_m, .long x1] (cw_X11_digestOf g h_m h_m_moves h_m_lights h_m_prices h_m_shares c_m_states c_m_letters c_m_moves c_m_lights c_m_prices c_m_shares) (S := Unit) (fun _ => (cw_X11_digestOf g h_m h_m_moves h_m_lights h_m_prices h_m_shares c_m_states c_m_letters c_m_moves c_m_lights c_m_prices c_m_shares)) (fun r _ => Q r) 0 0 := by
  refine mk_L (cc := cX11_digestOf) (maxL := 7) (own := RX11) (by decide) rfl rfl (Nat.le_of_ble_eq_true rfl) ?_
  intro p e s m args below meth c A QQ E hret hP hD hS ls hl
  have E2 := E
  obtain ⟨hx, hb, hr, hml, hown, hts, hlocks, hA, hZ, hK, hnm⟩ := E2
  have f218 := hts (.constantLong RX11 218 (31)) (by decide +kernel)
  have hP : va_P g.1 vwCl (cw_X11_digestOf g h_m h_m_moves h_m_lights h_m_prices h_m_shares c_m_states c_m_letters c_m_moves c_m_lights c_m_prices c_m_shares) s.heap := hP
  have hD : va_D A (cw_X11_digestOf g h_m h_m_moves h_m_lights h_m_prices h_m_shares c_m_states c_m_letters c_m_moves c_m_lights c_m_prices c_m_shares) := hD
  have hl : lv_has ls 7 [(0, .ref h_m), (1, .long x1)] := hl
  unfold wp_X11_digestOf at h
  have K_100 : ∀ (n_100 : Nat) (x3 : Int64) (x5 : Int32) , L_X11_digestOf_100 c_m_states c_m_letters c_m_prices c_m_shares Q n_100 x3 x5 → ∀ (H : Heap) (locs : List Loc), va_P g.1 vwCl (cw_X11_digestOf g h_m h_m_moves h_m_lights h_m_prices h_m_shares c_m_states c_m_letters c_m_moves c_m_lights c_m_prices c_m_shares) H → va_D A (cw_X11_digestOf g h_m h_m_moves h_m_lights h_m_prices h_m_shares c_m_states c_m_letters c_m_moves c_m_lights c_m_prices c_m_shares) → va_S A s.heap H locs → ∀ ls : Array Slot, lv_has ls 7 [(0, .ref h_m), (3, .long x3), (5, .int x5)] → W p l e rm_X11_digestOf s m args below meth c H locs 0 0 QQ (F0 m 100 ls []) := by
    intro n_100
    induction n_100 with
    | zero => intro x3 x5; exact fun h => False.elim h
    | succ n_100 ih_100 =>
      intro x3 x5 h H locs hP hD hS ls hl
      unfold L_X11_digestOf_100 at h
      refine lv_iload hx hb dX11_digestOf_100 (lv_at hl 2 rfl) ?_
      refine lv_aload_n hx hb dX11_digestOf_102 rfl (lv_at hl 0 rfl) ?_
      refine go_I E (run_V E ((k_X4_letters l g h_m h_m_moves h_m_lights h_m_prices h_m_shares (Q := fun r => r = c_m_letters) rfl) _) (cwV 0 hts gX11_digestOf_X4_letters rfl rfl rfl (by decide +kernel) ⟨Nat.le_of_ble_eq_true rfl, Nat.le_of_ble_eq_true rfl⟩) hP hD hS [0] rfl rfl 0 3 rfl rfl rfl hl rfl rfl (Nat.le_of_ble_eq_true rfl) dX11_digestOf_103 ⟨Nat.le_of_ble_eq_true rfl, Nat.le_of_ble_eq_true rfl⟩) hP hD hS [0] rfl [(false, 0), (true, 1), (true, 2), (true, 3), (true, 4)] rfl (by decide) (fun _ => (cw_X11_digestOf g h_m h_m_moves h_m_lights h_m_prices h_m_shares c_m_states c_m_letters c_m_moves c_m_lights c_m_prices c_m_shares)) (fun _ => rfl) (fun r4 _ H locs hr_ hP hD hS => ?_)
      have hr_ : c_m_letters = r4 := Eq.symm hr_
      subst hr_
      have hP : va_P g.1 vwCl (cw_X11_digestOf g h_m h_m_moves h_m_lights h_m_prices h_m_shares c_m_states c_m_letters c_m_moves c_m_lights c_m_prices c_m_shares) H := hP
      have hD : va_D A (cw_X11_digestOf g h_m h_m_moves h_m_lights h_m_prices h_m_shares c_m_states c_m_letters c_m_moves c_m_lights c_m_prices c_m_shares) := hD
      refine lv_icmp_ge (tgt := 143) hx hb dX11_digestOf_106 (by decide) (fun cq => ?_) (fun cq => ?_)
      · replace h := h.1 cq
        refine lv_lload_n hx hb dX11_digestOf_143 rfl (lv_at hl 1 rfl) ?_
        exact hret x3 () _ _ _ _ h hP hD hS dX11_digestOf_144
      · replace h := h.2 cq
        refine lv_ldc2 (v := (lN 31)) hx hb hown f218 dX11_digestOf_109 ?_
        refine lv_lload_n hx hb dX11_digestOf_112 rfl (lv_at hl 1 rfl) ?_
        refine lv_lmul hx hb dX11_digestOf_113 ?_
        refine lv_aload_n hx hb dX11_digestOf_114 rfl (lv_at hl 0 rfl) ?_
        refine lv_iload hx hb dX11_digestOf_115 (lv_at hl 2 rfl) ?_
        refine go_I E (run_V E ((k_X4_priceOf l g h_m h_m_moves h_m_lights h_m_prices h_m_shares h) _) (cwV 1 hts gX11_digestOf_X4_priceOf rfl rfl rfl (by decide +kernel) ⟨Nat.le_of_ble_eq_true rfl, Nat.le_of_ble_eq_true rfl⟩) hP hD hS [0, 3] rfl rfl 0 3 rfl rfl rfl hl rfl rfl (Nat.le_of_ble_eq_true rfl) dX11_digestOf_117 ⟨Nat.le_of_ble_eq_true rfl, Nat.le_of_ble_eq_true rfl⟩) hP hD hS [0, 3] rfl [(false, 0), (true, 1), (true, 2), (false, 1), (true, 4)] rfl (by decide) (fun _ => (cw_X11_digestOf g h_m h_m_moves h_m_lights h_m_prices h_m_shares c_m_states c_m_letters c_m_moves c_m_lights c_m_prices c_m_shares)) (fun _ => rfl) (fun r6 _ H locs h hP hD hS => ?_)
        try dsimp only at h
        have hP : va_P g.1 vwCl (cw_X11_digestOf g h_m h_m_moves h_m_lights h_m_prices h_m_shares c_m_states c_m_letters c_m_moves c_m_lights c_m_prices c_m_shares) H := hP
        have hD : va_D A (cw_X11_digestOf g h_m h_m_moves h_m_lights h_m_prices h_m_shares c_m_states c_m_letters c_m_moves c_m_lights c_m_prices c_m_shares) := hD
        refine lv_i2l (v := (Int32.toInt64 r6)) hx hb dX11_digestOf_120 rfl ?_
        refine lv_ladd hx hb dX11_digestOf_121 ?_
        refine lv_lstore_n (lv' := [(3, .long (((lN 31) * x3) + (Int32.toInt64 r6))), (0, .ref h_m), (5, .int x5)]) hx hb dX11_digestOf_122 rfl hl (by decide) rfl (fun ls hl => ?_)
        refine lv_ldc2 (v := (lN 31)) hx hb hown f218 dX11_digestOf_123 ?_
        refine lv_lload_n hx hb dX11_digestOf_126 rfl (lv_at hl 0 rfl) ?_
        refine lv_lmul hx hb dX11_digestOf_127 ?_
        refine lv_aload_n hx hb dX11_digestOf_128 rfl (lv_at hl 1 rfl) ?_
        refine lv_iload hx hb dX11_digestOf_129 (lv_at hl 2 rfl) ?_
        refine go_I E (run_V E ((k_X4_shareOf l g h_m h_m_moves h_m_lights h_m_prices h_m_shares h) _) (cwV 1 hts gX11_digestOf_X4_shareOf rfl rfl rfl (by decide +kernel) ⟨Nat.le_of_ble_eq_true rfl, Nat.le_of_ble_eq_true rfl⟩) hP hD hS [0, 4] rfl rfl 0 3 rfl rfl rfl hl rfl rfl (Nat.le_of_ble_eq_true rfl) dX11_digestOf_131 ⟨Nat.le_of_ble_eq_true rfl, Nat.le_of_ble_eq_true rfl⟩) hP hD hS [0, 4] rfl [(false, 0), (true, 1), (true, 2), (true, 3), (false, 1)] rfl (by decide) (fun _ => (cw_X11_digestOf g h_m h_m_moves h_m_lights h_m_prices h_m_shares c_m_states c_m_letters c_m_moves c_m_lights c_m_prices c_m_shares)) (fun _ => rfl) (fun r8 _ H locs h hP hD hS => ?_)
        try dsimp only at h
        have hP : va_P g.1 vwCl (cw_X11_digestOf g h_m h_m_moves h_m_lights h_m_prices h_m_shares c_m_states c_m_letters c_m_moves c_m_lights c_m_prices c_m_shares) H := hP
        have hD : va_D A (cw_X11_digestOf g h_m h_m_moves h_m_lights h_m_prices h_m_shares c_m_states c_m_letters c_m_moves c_m_lights c_m_prices c_m_shares) := hD
        refine lv_i2l (v := (Int32.toInt64 r8)) hx hb dX11_digestOf_134 rfl ?_
        refine lv_ladd hx hb dX11_digestOf_135 ?_
        refine lv_lstore_n (lv' := [(3, .long (((lN 31) * (((lN 31) * x3) + (Int32.toInt64 r6))) + (Int32.toInt64 r8))), (0, .ref h_m), (5, .int x5)]) hx hb dX11_digestOf_136 rfl hl (by decide) rfl (fun ls hl => ?_)
        refine lv_iinc (v := (x5 + (nI 1))) (lv' := [(5, .int (x5 + (nI 1))), (3, .long (((lN 31) * (((lN 31) * x3) + (Int32.toInt64 r6))) + (Int32.toInt64 r8))), (0, .ref h_m)]) hx hb dX11_digestOf_137 hl (k := 2) rfl rfl (by decide) rfl (fun ls hl => ?_)
        refine lv_goto (tgt := 100) hx hb dX11_digestOf_140 (by decide) ?_
        exact ih_100 (((lN 31) * (((lN 31) * x3) + (Int32.toInt64 r6))) + (Int32.toInt64 r8)) (x5 + (nI 1)) h _ _ hP hD hS _ (lv_sub hl [2, 1, 0] rfl)
  have K_97 : ∀ (x3 : Int64) , J_X11_digestOf_97 c_m_states c_m_letters c_m_prices c_m_shares Q x3 → ∀ (H : Heap) (locs : List Loc), va_P g.1 vwCl (cw_X11_digestOf g h_m h_m_moves h_m_lights h_m_prices h_m_shares c_m_states c_m_letters c_m_moves c_m_lights c_m_prices c_m_shares) H → va_D A (cw_X11_digestOf g h_m h_m_moves h_m_lights h_m_prices h_m_shares c_m_states c_m_letters c_m_moves c_m_lights c_m_prices c_m_shares) → va_S A s.heap H locs → ∀ ls : Array Slot, lv_has ls 7 [(0, .ref h_m), (3, .long x3)] → W p l e rm_X11_digestOf s m args below meth c H locs 0 0 QQ (F0 m 97 ls []) := by
    intro x3 h H locs hP hD hS ls hl
    unfold J_X11_digestOf_97 at h
    refine lv_iconst (v := (nI 0)) hx hb dX11_digestOf_97 (by decide) ?_
    refine lv_istore (lv' := [(5, .int (nI 0)), (0, .ref h_m), (3, .long x3)]) hx hb dX11_digestOf_98 hl (by decide) rfl (fun ls hl => ?_)
    obtain ⟨n, h⟩ := h
    exact K_100 n x3 (nI 0) h _ _ hP hD hS _ (lv_sub hl [1, 2, 0] rfl)
  have K_34 : ∀ (n_34 : Nat) (x3 : Int64) (x5 : Int32) , L_X11_digestOf_34 c_m_states c_m_letters c_m_moves c_m_lights c_m_prices c_m_shares Q n_34 x3 x5 → ∀ (H : Heap) (locs : List Loc), va_P g.1 vwCl (cw_X11_digestOf g h_m h_m_moves h_m_lights h_m_prices h_m_shares c_m_states c_m_letters c_m_moves c_m_lights c_m_prices c_m_shares) H → va_D A (cw_X11_digestOf g h_m h_m_moves h_m_lights h_m_prices h_m_shares c_m_states c_m_letters c_m_moves c_m_lights c_m_prices c_m_shares) → va_S A s.heap H locs → ∀ ls : Array Slot, lv_has ls 7 [(0, .ref h_m), (3, .long x3), (5, .int x5)] → W p l e rm_X11_digestOf s m args below meth c H locs 0 0 QQ (F0 m 34 ls []) := by
    intro n_34
    induction n_34 with
    | zero => intro x3 x5; exact fun h => False.elim h
    | succ n_34 ih_34 =>
      intro x3 x5 h H locs hP hD hS ls hl
      unfold L_X11_digestOf_34 at h
      have K_77 : ∀ (x3 : Int64) (x5 : Int32) , J_X11_digestOf_77 c_m_states c_m_letters c_m_lights (L_X11_digestOf_34 c_m_states c_m_letters c_m_moves c_m_lights c_m_prices c_m_shares Q n_34) x3 x5 → ∀ (H : Heap) (locs : List Loc), va_P g.1 vwCl (cw_X11_digestOf g h_m h_m_moves h_m_lights h_m_prices h_m_shares c_m_states c_m_letters c_m_moves c_m_lights c_m_prices c_m_shares) H → va_D A (cw_X11_digestOf g h_m h_m_moves h_m_lights h_m_prices h_m_shares c_m_states c_m_letters c_m_moves c_m_lights c_m_prices c_m_shares) → va_S A s.heap H locs → ∀ ls : Array Slot, lv_has ls 7 [(0, .ref h_m), (3, .long x3), (5, .int x5)] → W p l e rm_X11_digestOf s m args below meth c H locs 0 0 QQ (F0 m 77 ls []) := by
        intro x3 x5 h H locs hP hD hS ls hl
        unfold J_X11_digestOf_77 at h
        refine lv_ldc2 (v := (lN 31)) hx hb hown f218 dX11_digestOf_77 ?_
        refine lv_lload_n hx hb dX11_digestOf_80 rfl (lv_at hl 1 rfl) ?_
        refine lv_lmul hx hb dX11_digestOf_81 ?_
        refine lv_aload_n hx hb dX11_digestOf_82 rfl (lv_at hl 0 rfl) ?_
        refine lv_iload hx hb dX11_digestOf_83 (lv_at hl 2 rfl) ?_
        refine go_I E (run_V E ((k_X4_lightOf l g h_m h_m_moves h_m_lights h_m_prices h_m_shares h) _) (cwV 1 hts gX11_digestOf_X4_lightOf rfl rfl rfl (by decide +kernel) ⟨Nat.le_of_ble_eq_true rfl, Nat.le_of_ble_eq_true rfl⟩) hP hD hS [0, 2] rfl rfl 0 3 rfl rfl rfl hl rfl rfl (Nat.le_of_ble_eq_true rfl) dX11_digestOf_85 ⟨Nat.le_of_ble_eq_true rfl, Nat.le_of_ble_eq_true rfl⟩) hP hD hS [0, 2] rfl [(false, 0), (true, 1), (false, 1), (true, 3), (true, 4)] rfl (by decide) (fun _ => (cw_X11_digestOf g h_m h_m_moves h_m_lights h_m_prices h_m_shares c_m_states c_m_letters c_m_moves c_m_lights c_m_prices c_m_shares)) (fun _ => rfl) (fun r12 _ H locs h hP hD hS => ?_)
        try dsimp only at h
        have hP : va_P g.1 vwCl (cw_X11_digestOf g h_m h_m_moves h_m_lights h_m_prices h_m_shares c_m_states c_m_letters c_m_moves c_m_lights c_m_prices c_m_shares) H := hP
        have hD : va_D A (cw_X11_digestOf g h_m h_m_moves h_m_lights h_m_prices h_m_shares c_m_states c_m_letters c_m_moves c_m_lights c_m_prices c_m_shares) := hD
        refine lv_i2l (v := (Int32.toInt64 r12)) hx hb dX11_digestOf_88 rfl ?_
        refine lv_ladd hx hb dX11_digestOf_89 ?_
        refine lv_lstore_n (lv' := [(3, .long (((lN 31) * x3) + (Int32.toInt64 r12))), (0, .ref h_m), (5, .int x5)]) hx hb dX11_digestOf_90 rfl hl (by decide) rfl (fun ls hl => ?_)
        refine lv_iinc (v := (x5 + (nI 1))) (lv' := [(5, .int (x5 + (nI 1))), (3, .long (((lN 31) * x3) + (Int32.toInt64 r12))), (0, .ref h_m)]) hx hb dX11_digestOf_91 hl (k := 2) rfl rfl (by decide) rfl (fun ls hl => ?_)
        refine lv_goto (tgt := 34) hx hb dX11_digestOf_94 (by decide) ?_
        exact ih_34 (((lN 31) * x3) + (Int32.toInt64 r12)) (x5 + (nI 1)) h _ _ hP hD hS _ (lv_sub hl [2, 1, 0] rfl)
      have K_46 : ∀ (x5 : Int32) (n_46 : Nat) (x3 : Int64) (x6 : Int32) , L_X11_digestOf_46 c_m_states c_m_letters c_m_moves c_m_lights x5 (L_X11_digestOf_34 c_m_states c_m_letters c_m_moves c_m_lights c_m_prices c_m_shares Q n_34) n_46 x3 x6 → ∀ (H : Heap) (locs : List Loc), va_P g.1 vwCl (cw_X11_digestOf g h_m h_m_moves h_m_lights h_m_prices h_m_shares c_m_states c_m_letters c_m_moves c_m_lights c_m_prices c_m_shares) H → va_D A (cw_X11_digestOf g h_m h_m_moves h_m_lights h_m_prices h_m_shares c_m_states c_m_letters c_m_moves c_m_lights c_m_prices c_m_shares) → va_S A s.heap H locs → ∀ ls : Array Slot, lv_has ls 7 [(0, .ref h_m), (3, .long x3), (5, .int x5), (6, .int x6)] → W p l e rm_X11_digestOf s m args below meth c H locs 0 0 QQ (F0 m 46 ls []) := by
        intro x5 n_46
        induction n_46 with
        | zero => intro x3 x6; exact fun h => False.elim h
        | succ n_46 ih_46 =>
          intro x3 x6 h H locs hP hD hS ls hl
          unfold L_X11_digestOf_46 at h
          refine lv_iload hx hb dX11_digestOf_46 (lv_at hl 3 rfl) ?_
          refine lv_aload_n hx hb dX11_digestOf_48 rfl (lv_at hl 0 rfl) ?_
          refine go_I E (run_V E ((k_X4_letters l g h_m h_m_moves h_m_lights h_m_prices h_m_shares (Q := fun r => r = c_m_letters) rfl) _) (cwV 0 hts gX11_digestOf_X4_letters rfl rfl rfl (by decide +kernel) ⟨Nat.le_of_ble_eq_true rfl, Nat.le_of_ble_eq_true rfl⟩) hP hD hS [0] rfl rfl 0 3 rfl rfl rfl hl rfl rfl (Nat.le_of_ble_eq_true rfl) dX11_digestOf_49 ⟨Nat.le_of_ble_eq_true rfl, Nat.le_of_ble_eq_true rfl⟩) hP hD hS [0] rfl [(false, 0), (true, 1), (true, 2), (true, 3), (true, 4)] rfl (by decide) (fun _ => (cw_X11_digestOf g h_m h_m_moves h_m_lights h_m_prices h_m_shares c_m_states c_m_letters c_m_moves c_m_lights c_m_prices c_m_shares)) (fun _ => rfl) (fun r10 _ H locs hr_ hP hD hS => ?_)
          have hr_ : c_m_letters = r10 := Eq.symm hr_
          subst hr_
          have hP : va_P g.1 vwCl (cw_X11_digestOf g h_m h_m_moves h_m_lights h_m_prices h_m_shares c_m_states c_m_letters c_m_moves c_m_lights c_m_prices c_m_shares) H := hP
          have hD : va_D A (cw_X11_digestOf g h_m h_m_moves h_m_lights h_m_prices h_m_shares c_m_states c_m_letters c_m_moves c_m_lights c_m_prices c_m_shares) := hD
          refine lv_icmp_ge (tgt := 77) hx hb dX11_digestOf_52 (by decide) (fun cq => ?_) (fun cq => ?_)
          · replace h := h.1 cq
            exact K_77 x3 x5 h _ _ hP hD hS _ (lv_sub hl [0, 1, 2] rfl)
          · replace h := h.2 cq
            refine lv_ldc2 (v := (lN 31)) hx hb hown f218 dX11_digestOf_55 ?_
            refine lv_lload_n hx hb dX11_digestOf_58 rfl (lv_at hl 1 rfl) ?_
            refine lv_lmul hx hb dX11_digestOf_59 ?_
            refine lv_aload_n hx hb dX11_digestOf_60 rfl (lv_at hl 0 rfl) ?_
            refine lv_iload hx hb dX11_digestOf_61 (lv_at hl 2 rfl) ?_
            refine lv_iload hx hb dX11_digestOf_63 (lv_at hl 3 rfl) ?_
            refine go_I E (run_V E ((k_X4_target l g h_m h_m_moves h_m_lights h_m_prices h_m_shares h) _) (cwV 2 hts gX11_digestOf_X4_target rfl rfl rfl (by decide +kernel) ⟨Nat.le_of_ble_eq_true rfl, Nat.le_of_ble_eq_true rfl⟩) hP hD hS [0, 1] rfl rfl 0 3 rfl rfl rfl hl rfl rfl (Nat.le_of_ble_eq_true rfl) dX11_digestOf_65 ⟨Nat.le_of_ble_eq_true rfl, Nat.le_of_ble_eq_true rfl⟩) hP hD hS [0, 1] rfl [(false, 0), (false, 1), (true, 2), (true, 3), (true, 4)] rfl (by decide) (fun _ => (cw_X11_digestOf g h_m h_m_moves h_m_lights h_m_prices h_m_shares c_m_states c_m_letters c_m_moves c_m_lights c_m_prices c_m_shares)) (fun _ => rfl) (fun r14 _ H locs h hP hD hS => ?_)
            try dsimp only at h
            have hP : va_P g.1 vwCl (cw_X11_digestOf g h_m h_m_moves h_m_lights h_m_prices h_m_shares c_m_states c_m_letters c_m_moves c_m_lights c_m_prices c_m_shares) H := hP
            have hD : va_D A (cw_X11_digestOf g h_m h_m_moves h_m_lights h_m_prices h_m_shares c_m_states c_m_letters c_m_moves c_m_lights c_m_prices c_m_shares) := hD
            refine lv_i2l (v := (Int32.toInt64 r14)) hx hb dX11_digestOf_68 rfl ?_
            refine lv_ladd hx hb dX11_digestOf_69 ?_
            refine lv_lstore_n (lv' := [(3, .long (((lN 31) * x3) + (Int32.toInt64 r14))), (0, .ref h_m), (5, .int x5), (6, .int x6)]) hx hb dX11_digestOf_70 rfl hl (by decide) rfl (fun ls hl => ?_)
            refine lv_iinc (v := (x6 + (nI 1))) (lv' := [(6, .int (x6 + (nI 1))), (3, .long (((lN 31) * x3) + (Int32.toInt64 r14))), (0, .ref h_m), (5, .int x5)]) hx hb dX11_digestOf_71 hl (k := 3) rfl rfl (by decide) rfl (fun ls hl => ?_)
            refine lv_goto (tgt := 46) hx hb dX11_digestOf_74 (by decide) ?_
            exact ih_46 (((lN 31) * x3) + (Int32.toInt64 r14)) (x6 + (nI 1)) h _ _ hP hD hS _ (lv_sub hl [2, 1, 3, 0] rfl)
      refine lv_iload hx hb dX11_digestOf_34 (lv_at hl 2 rfl) ?_
      refine lv_aload_n hx hb dX11_digestOf_36 rfl (lv_at hl 0 rfl) ?_
      refine go_I E (run_V E ((k_X4_states l g h_m h_m_moves h_m_lights h_m_prices h_m_shares (Q := fun r => r = c_m_states) rfl) _) (cwV 0 hts gX11_digestOf_X4_states rfl rfl rfl (by decide +kernel) ⟨Nat.le_of_ble_eq_true rfl, Nat.le_of_ble_eq_true rfl⟩) hP hD hS [0] rfl rfl 0 3 rfl rfl rfl hl rfl rfl (Nat.le_of_ble_eq_true rfl) dX11_digestOf_37 ⟨Nat.le_of_ble_eq_true rfl, Nat.le_of_ble_eq_true rfl⟩) hP hD hS [0] rfl [(false, 0), (true, 1), (true, 2), (true, 3), (true, 4)] rfl (by decide) (fun _ => (cw_X11_digestOf g h_m h_m_moves h_m_lights h_m_prices h_m_shares c_m_states c_m_letters c_m_moves c_m_lights c_m_prices c_m_shares)) (fun _ => rfl) (fun r2 _ H locs hr_ hP hD hS => ?_)
      have hr_ : c_m_states = r2 := Eq.symm hr_
      subst hr_
      have hP : va_P g.1 vwCl (cw_X11_digestOf g h_m h_m_moves h_m_lights h_m_prices h_m_shares c_m_states c_m_letters c_m_moves c_m_lights c_m_prices c_m_shares) H := hP
      have hD : va_D A (cw_X11_digestOf g h_m h_m_moves h_m_lights h_m_prices h_m_shares c_m_states c_m_letters c_m_moves c_m_lights c_m_prices c_m_shares) := hD
      refine lv_icmp_ge (tgt := 97) hx hb dX11_digestOf_40 (by decide) (fun cq => ?_) (fun cq => ?_)
      · replace h := h.1 cq
        exact K_97 x3 h _ _ hP hD hS _ (lv_sub hl [0, 1] rfl)
      · replace h := h.2 cq
        refine lv_iconst (v := (nI 0)) hx hb dX11_digestOf_43 (by decide) ?_
        refine lv_istore (lv' := [(6, .int (nI 0)), (0, .ref h_m), (3, .long x3), (5, .int x5)]) hx hb dX11_digestOf_44 hl (by decide) rfl (fun ls hl => ?_)
        obtain ⟨n, h⟩ := h
        exact K_46 x5 n x3 (nI 0) h _ _ hP hD hS _ (lv_sub hl [1, 2, 3, 0] rfl)
  have K_31 : ∀ (x3 : Int64) , J_X11_digestOf_31 c_m_states c_m_letters c_m_moves c_m_lights c_m_prices c_m_shares Q x3 → ∀ (H : Heap) (locs : List Loc), va_P g.1 vwCl (cw_X11_digestOf g h_m h_m_moves h_m_lights h_m_prices h_m_shares c_m_states c_m_letters c_m_moves c_m_lights c_m_prices c_m_shares) H → va_D A (cw_X11_digestOf g h_m h_m_moves h_m_lights h_m_prices h_m_shares c_m_states c_m_letters c_m_moves c_m_lights c_m_prices c_m_shares) → va_S A s.heap H locs → ∀ ls : Array Slot, lv_has ls 7 [(0, .ref h_m), (3, .long x3)] → W p l e rm_X11_digestOf s m args below meth c H locs 0 0 QQ (F0 m 31 ls []) := by
    intro x3 h H locs hP hD hS ls hl
    unfold J_X11_digestOf_31 at h
    refine lv_iconst (v := (nI 0)) hx hb dX11_digestOf_31 (by decide) ?_
    refine lv_istore (lv' := [(5, .int (nI 0)), (0, .ref h_m), (3, .long x3)]) hx hb dX11_digestOf_32 hl (by decide) rfl (fun ls hl => ?_)
    obtain ⟨n, h⟩ := h
    exact K_34 n x3 (nI 0) h _ _ hP hD hS _ (lv_sub hl [1, 2, 0] rfl)
  have K_5 : ∀ (n_5 : Nat) (x3 : Int64) (x5 : Int32) , L_X11_digestOf_5 c_m_states c_m_letters c_m_moves c_m_lights c_m_prices c_m_shares Q n_5 x3 x5 → ∀ (H : Heap) (locs : List Loc), va_P g.1 vwCl (cw_X11_digestOf g h_m h_m_moves h_m_lights h_m_prices h_m_shares c_m_states c_m_letters c_m_moves c_m_lights c_m_prices c_m_shares) H → va_D A (cw_X11_digestOf g h_m h_m_moves h_m_lights h_m_prices h_m_shares c_m_states c_m_letters c_m_moves c_m_lights c_m_prices c_m_shares) → va_S A s.heap H locs → ∀ ls : Array Slot, lv_has ls 7 [(0, .ref h_m), (3, .long x3), (5, .int x5)] → W p l e rm_X11_digestOf s m args below meth c H locs 0 0 QQ (F0 m 5 ls []) := by
    intro n_5
    induction n_5 with
    | zero => intro x3 x5; exact fun h => False.elim h
    | succ n_5 ih_5 =>
      intro x3 x5 h H locs hP hD hS ls hl
      unfold L_X11_digestOf_5 at h
      refine lv_iload hx hb dX11_digestOf_5 (lv_at hl 2 rfl) ?_
      refine lv_iconst (v := (nI 2)) hx hb dX11_digestOf_7 (by decide) ?_
      refine lv_icmp_gt (tgt := 31) hx hb dX11_digestOf_8 (by decide) (fun cq => ?_) (fun cq => ?_)
      · replace h := h.1 cq
        exact K_31 x3 h _ _ hP hD hS _ (lv_sub hl [0, 1] rfl)
      · replace h := h.2 cq
        refine lv_ldc2 (v := (lN 31)) hx hb hown f218 dX11_digestOf_11 ?_
        refine lv_lload_n hx hb dX11_digestOf_14 rfl (lv_at hl 1 rfl) ?_
        refine lv_lmul hx hb dX11_digestOf_15 ?_
        refine lv_aload_n hx hb dX11_digestOf_16 rfl (lv_at hl 0 rfl) ?_
        refine lv_iload hx hb dX11_digestOf_17 (lv_at hl 2 rfl) ?_
        refine go_I E (run_S E ((k_X11_fact l g h_m h_m_moves h_m_lights h_m_prices h_m_shares h) _) (va_cwS 2 hts gX11_digestOf_X11_fact rfl rfl rfl (by decide +kernel) ⟨Nat.le_of_ble_eq_true rfl, Nat.le_of_ble_eq_true rfl⟩) hP hD hS [0, 1] rfl rfl hl rfl rfl (Nat.le_of_ble_eq_true rfl) dX11_digestOf_19 ⟨Nat.le_of_ble_eq_true rfl, Nat.le_of_ble_eq_true rfl⟩) hP hD hS [0, 1] rfl [(false, 0), (false, 1), (true, 2), (true, 3), (true, 4)] rfl (by decide) (fun _ => (cw_X11_digestOf g h_m h_m_moves h_m_lights h_m_prices h_m_shares c_m_states c_m_letters c_m_moves c_m_lights c_m_prices c_m_shares)) (fun _ => rfl) (fun r16 _ H locs h hP hD hS => ?_)
        try dsimp only at h
        have hP : va_P g.1 vwCl (cw_X11_digestOf g h_m h_m_moves h_m_lights h_m_prices h_m_shares c_m_states c_m_letters c_m_moves c_m_lights c_m_prices c_m_shares) H := hP
        have hD : va_D A (cw_X11_digestOf g h_m h_m_moves h_m_lights h_m_prices h_m_shares c_m_states c_m_letters c_m_moves c_m_lights c_m_prices c_m_shares) := hD
        refine lv_i2l (v := (Int32.toInt64 r16)) hx hb dX11_digestOf_22 rfl ?_
        refine lv_ladd hx hb dX11_digestOf_23 ?_
        refine lv_lstore_n (lv' := [(3, .long (((lN 31) * x3) + (Int32.toInt64 r16))), (0, .ref h_m), (5, .int x5)]) hx hb dX11_digestOf_24 rfl hl (by decide) rfl (fun ls hl => ?_)
        refine lv_iinc (v := (x5 + (nI 1))) (lv' := [(5, .int (x5 + (nI 1))), (3, .long (((lN 31) * x3) + (Int32.toInt64 r16))), (0, .ref h_m)]) hx hb dX11_digestOf_25 hl (k := 2) rfl rfl (by decide) rfl (fun ls hl => ?_)
        refine lv_goto (tgt := 5) hx hb dX11_digestOf_28 (by decide) ?_
        exact ih_5 (((lN 31) * x3) + (Int32.toInt64 r16)) (x5 + (nI 1)) h _ _ hP hD hS _ (lv_sub hl [2, 1, 0] rfl)
  refine lv_lload_n hx hb dX11_digestOf_0 rfl (lv_at hl 1 rfl) ?_
  refine lv_lstore_n (lv' := [(3, .long x1), (0, .ref h_m), (1, .long x1)]) hx hb dX11_digestOf_1 rfl hl (by decide) rfl (fun ls hl => ?_)
  refine lv_iconst (v := (nI 0)) hx hb dX11_digestOf_2 (by decide) ?_
  refine lv_istore (lv' := [(5, .int (nI 0)), (3, .long x1), (0, .ref h_m), (1, .long x1)]) hx hb dX11_digestOf_3 hl (by decide) rfl (fun ls hl => ?_)
  obtain ⟨n, h⟩ := h
  exact K_5 n x1 (nI 0) h _ _ hP hD hS _ (lv_sub hl [2, 1, 0] rfl)
