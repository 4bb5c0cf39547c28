abbrev cw_X11_price_s (g : GG) (h_this : Nat) (h_this_machines : Nat) (h_this_word : Nat) (h_this_steps : Nat) (h_this_trail : Nat) (h_this_search : Nat) (h_this_prices : Nat) (h_this_odds : Nat) (h_this_pairs : Nat) (h_this_greed : Nat) (h_this_colouring : Nat) (h_m_moves : Nat) (h_m_lights : Nat) (h_m_prices : Nat) (h_m_shares : Nat) (h_m : Nat) (c_made : Int32) (c_machines : Nat → Option Nat) (c_m_states : Int32) (c_m_letters : Int32) (c_m_prices : Nat → Int32) : va_W := [(h_this, .inr (10, [.ref h_this_machines, .int c_made, .ref h_this_word, .ref h_this_steps, .ref h_this_trail, .ref h_this_search, .ref h_this_prices, .ref h_this_odds, .ref h_this_pairs, .ref h_this_greed, .ref h_this_colouring])), (h_this_machines, .inl (g.2.2.2.2, 6, .inr (.inr (.inr (.inr c_machines))))), (h_m, .inr (3, [.int c_m_states, .int c_m_letters, .ref h_m_moves, .ref h_m_lights, .ref h_m_prices, .ref h_m_shares])), (h_m_prices, .inl (g.2.1, 4, .inl c_m_prices))]
def wp_X11_price_s (c_made : Int32) (c_machines : Nat → Option Nat) (c_m_states : Int32) (c_m_letters : Int32) (c_m_prices : Nat → Int32) (x1 : Int32) (x2 : Int32) (x3 : Int32) (Q : Int32 → (Nat → Int32) → Prop) : Prop :=
    wp_X4_hasLetter c_m_states c_m_letters x2 (fun r4 => ((r4 = (nI 0) → Q (-2) c_m_prices) ∧ (¬ r4 = (nI 0) → ((x3 < (nI 1) → Q (-2) c_m_prices) ∧ (¬ x3 < (nI 1) → ((x3 ≤ (nI 20) → wp_X4_putPrice c_m_states c_m_letters c_m_prices x2 x3 (fun r6 c_m_prices => Q r6 c_m_prices)) ∧ (¬ x3 ≤ (nI 20) → Q (-2) c_m_prices)))))))
abbrev rm_X11_price_s : Room := { frames := 3, cells := 0, slots := 0, locals := 65 }
set_option maxHeartbeats 4000000 in
set_option maxRecDepth 100000 in
theorem k_X11_price_s (l : Launch) (g : GG) (h_this : Nat) (h_this_machines : Nat) (h_this_word : Nat) (h_this_steps : Nat) (h_this_trail : Nat) (h_this_search : Nat) (h_this_prices : Nat) (h_this_odds : Nat) (h_this_pairs : Nat) (h_this_greed : Nat) (h_this_colouring : Nat) (h_m_moves : Nat) (h_m_lights : Nat) (h_m_prices : Nat) (h_m_shares : Nat) (h_m : Nat) {c_made : Int32} {c_machines : Nat → Option Nat} {c_m_states : Int32} {c_m_letters : Int32} {c_m_prices : Nat → Int32} {x1 : Int32} {x2 : Int32} {x3 : Int32} {Q : Int32 → (Nat → Int32) → Prop} (hm : wp_X11_machineAt c_made c_machines x1 (fun r => r = some h_m)) (h : wp_X11_price_s c_made c_machines c_m_states c_m_letters c_m_prices x1 x2 x3 Q) : CI l g yX11_price wsX11_price rm_X11_price_s [.ref h_this, .int x1, .int x2, .int x3] (cw_X11_price_s g h_this h_this_machines h_this_word h_this_steps h_this_trail h_this_search h_this_prices h_this_odds h_this_pairs h_this_greed h_this_colouring h_m_moves h_m_lights h_m_prices h_m_shares h_m c_made c_machines c_m_states c_m_letters c_m_prices) (S := (Nat → Int32)) (fun u => (cw_X11_price_s g h_this h_this_machines h_this_word h_this_steps h_this_trail h_this_search h_this_prices h_this_odds h_this_pairs h_this_greed h_this_colouring h_m_moves h_m_lights h_m_prices h_m_shares h_m c_made c_machines c_m_states c_m_letters u)) (fun r u => Q r u) 0 0 := by
  refine mk_I (cc := cX11_price) (maxL := 5) (own := RX11) (by decide) rfl rfl (Nat.le_of_ble_eq_true rfl) ?_
  intro p e s m args below meth c A QQ E hret hP hD hS ls hl
  have E2 := E
  obtain ⟨hx, hb, hr, hml, hown, hts, hlocks, hA, hZ, hK, hnm⟩ := E2
  have hP : va_P g.1 vwCl (cw_X11_price_s g h_this h_this_machines h_this_word h_this_steps h_this_trail h_this_search h_this_prices h_this_odds h_this_pairs h_this_greed h_this_colouring h_m_moves h_m_lights h_m_prices h_m_shares h_m c_made c_machines c_m_states c_m_letters c_m_prices) s.heap := hP
  have hD : va_D A (cw_X11_price_s g h_this h_this_machines h_this_word h_this_steps h_this_trail h_this_search h_this_prices h_this_odds h_this_pairs h_this_greed h_this_colouring h_m_moves h_m_lights h_m_prices h_m_shares h_m c_made c_machines c_m_states c_m_letters c_m_prices) := hD
  have hl : lv_has ls 5 [(0, .ref h_this), (1, .int x1), (2, .int x2), (3, .int x3)] := hl
  unfold wp_X11_price_s at h
  refine lv_aload_n hx hb dX11_price_0 rfl (lv_at hl 0 rfl) ?_
  refine lv_iload_n hx hb dX11_price_1 rfl (lv_at hl 1 rfl) ?_
  refine go_Q E (run_V E ((k_X11_machineAt l g h_this h_this_machines h_this_word h_this_steps h_this_trail h_this_search h_this_prices h_this_odds h_this_pairs h_this_greed h_this_colouring hm) _) (cwV 1 hts gX11_price_X11_machineAt rfl rfl rfl (by decide +kernel) ⟨Nat.le_of_ble_eq_true rfl, Nat.le_of_ble_eq_true rfl⟩) hP hD hS [0, 1] rfl rfl 0 10 rfl rfl rfl hl rfl rfl (Nat.le_of_ble_eq_true rfl) dX11_price_2 ⟨Nat.le_of_ble_eq_true rfl, Nat.le_of_ble_eq_true rfl⟩) hP hD hS [0, 1] rfl [(false, 0), (false, 1), (true, 2), (true, 3)] rfl (by decide) (fun _ => (cw_X11_price_s g h_this h_this_machines h_this_word h_this_steps h_this_trail h_this_search h_this_prices h_this_odds h_this_pairs h_this_greed h_this_colouring h_m_moves h_m_lights h_m_prices h_m_shares h_m c_made c_machines c_m_states c_m_letters c_m_prices)) (fun _ => rfl) (fun r2 _ H locs hr_ hP hD hS => ?_)
  have hr_ : some h_m = r2 := Eq.symm hr_
  subst hr_
  refine W.eq (g2 := F0 m 5 ls [.ref h_m]) rfl ?_
  have hP : va_P g.1 vwCl (cw_X11_price_s g h_this h_this_machines h_this_word h_this_steps h_this_trail h_this_search h_this_prices h_this_odds h_this_pairs h_this_greed h_this_colouring h_m_moves h_m_lights h_m_prices h_m_shares h_m c_made c_machines c_m_states c_m_letters c_m_prices) H := hP
  have hD : va_D A (cw_X11_price_s g h_this h_this_machines h_this_word h_this_steps h_this_trail h_this_search h_this_prices h_this_odds h_this_pairs h_this_greed h_this_colouring h_m_moves h_m_lights h_m_prices h_m_shares h_m c_made c_machines c_m_states c_m_letters c_m_prices) := hD
  refine lv_astore (lv' := [(4, .ref h_m), (0, .ref h_this), (1, .int x1), (2, .int x2), (3, .int x3)]) hx hb dX11_price_5 hl (by decide) rfl (fun ls hl => ?_)
  refine lv_aload hx hb dX11_price_7 (lv_at hl 0 rfl) ?_
  refine lv_ifnull hx hb dX11_price_9 ?_
  refine lv_aload hx hb dX11_price_12 (lv_at hl 0 rfl) ?_
  refine lv_iload_n hx hb dX11_price_14 rfl (lv_at hl 3 rfl) ?_
  refine go_I E (run_V E ((k_X4_hasLetter l g h_m h_m_moves h_m_lights h_m_prices h_m_shares h) _) (cwV 1 hts gX11_price_X4_hasLetter rfl rfl rfl (by decide +kernel) ⟨Nat.le_of_ble_eq_true rfl, Nat.le_of_ble_eq_true rfl⟩) hP hD hS [2] rfl rfl 0 3 rfl rfl rfl hl rfl rfl (Nat.le_of_ble_eq_true rfl) dX11_price_15 ⟨Nat.le_of_ble_eq_true rfl, Nat.le_of_ble_eq_true rfl⟩) hP hD hS [2] rfl [(true, 0), (true, 1), (false, 0), (true, 3)] rfl (by decide) (fun _ => (cw_X11_price_s g h_this h_this_machines h_this_word h_this_steps h_this_trail h_this_search h_this_prices h_this_odds h_this_pairs h_this_greed h_this_colouring h_m_moves h_m_lights h_m_prices h_m_shares h_m c_made c_machines c_m_states c_m_letters c_m_prices)) (fun _ => rfl) (fun r4 _ H locs h hP hD hS => ?_)
  try dsimp only at h
  have hP : va_P g.1 vwCl (cw_X11_price_s g h_this h_this_machines h_this_word h_this_steps h_this_trail h_this_search h_this_prices h_this_odds h_this_pairs h_this_greed h_this_colouring h_m_moves h_m_lights h_m_prices h_m_shares h_m c_made c_machines c_m_states c_m_letters c_m_prices) H := hP
  have hD : va_D A (cw_X11_price_s g h_this h_this_machines h_this_word h_this_steps h_this_trail h_this_search h_this_prices h_this_odds h_this_pairs h_this_greed h_this_colouring h_m_moves h_m_lights h_m_prices h_m_shares h_m c_made c_machines c_m_states c_m_letters c_m_prices) := hD
  refine lv_if_eq (tgt := 32) hx hb dX11_price_18 (by decide) (fun cq => ?_) (fun cq => ?_)
  · replace h := h.1 cq
    refine lv_bipush (v := (-2)) hx hb dX11_price_32 (by decide) ?_
    exact hret (-2) c_m_prices _ _ _ _ rfl h hP hD hS dX11_price_34
  · replace h := h.2 cq
    refine lv_iload_n hx hb dX11_price_21 rfl (lv_at hl 4 rfl) ?_
    refine lv_iconst (v := (nI 1)) hx hb dX11_price_22 (by decide) ?_
    refine lv_icmp_lt (tgt := 32) hx hb dX11_price_23 (by decide) (fun cq => ?_) (fun cq => ?_)
    · replace h := h.1 cq
      refine lv_bipush (v := (-2)) hx hb dX11_price_32 (by decide) ?_
      exact hret (-2) c_m_prices _ _ _ _ rfl h hP hD hS dX11_price_34
    · replace h := h.2 cq
      refine lv_iload_n hx hb dX11_price_26 rfl (lv_at hl 4 rfl) ?_
      refine lv_bipush (v := (nI 20)) hx hb dX11_price_27 (by decide) ?_
      refine lv_icmp_le (tgt := 35) hx hb dX11_price_29 (by decide) (fun cq => ?_) (fun cq => ?_)
      · replace h := h.1 cq
        refine lv_aload hx hb dX11_price_35 (lv_at hl 0 rfl) ?_
        refine lv_iload_n hx hb dX11_price_37 rfl (lv_at hl 3 rfl) ?_
        refine lv_iload_n hx hb dX11_price_38 rfl (lv_at hl 4 rfl) ?_
        refine go_I E (run_V E ((k_X4_putPrice l g h_m h_m_moves h_m_lights h_m_prices h_m_shares h) _) (cwV 2 hts gX11_price_X4_putPrice rfl rfl rfl (by decide +kernel) ⟨Nat.le_of_ble_eq_true rfl, Nat.le_of_ble_eq_true rfl⟩) hP hD hS [2, 3] rfl rfl 0 3 rfl rfl rfl hl rfl rfl (Nat.le_of_ble_eq_true rfl) dX11_price_39 ⟨Nat.le_of_ble_eq_true rfl, Nat.le_of_ble_eq_true rfl⟩) hP hD hS [2, 3] rfl [(true, 0), (true, 1), (false, 0), (false, 1)] rfl (by decide) (fun u => (cw_X11_price_s g h_this h_this_machines h_this_word h_this_steps h_this_trail h_this_search h_this_prices h_this_odds h_this_pairs h_this_greed h_this_colouring h_m_moves h_m_lights h_m_prices h_m_shares h_m c_made c_machines c_m_states c_m_letters u)) (fun _ => rfl) (fun r6 c_m_prices H locs h hP hD hS => ?_)
        try dsimp only at h
        have hP : va_P g.1 vwCl (cw_X11_price_s g h_this h_this_machines h_this_word h_this_steps h_this_trail h_this_search h_this_prices h_this_odds h_this_pairs h_this_greed h_this_colouring h_m_moves h_m_lights h_m_prices h_m_shares h_m c_made c_machines c_m_states c_m_letters c_m_prices) H := hP
        have hD : va_D A (cw_X11_price_s g h_this h_this_machines h_this_word h_this_steps h_this_trail h_this_search h_this_prices h_this_odds h_this_pairs h_this_greed h_this_colouring h_m_moves h_m_lights h_m_prices h_m_shares h_m c_made c_machines c_m_states c_m_letters c_m_prices) := hD
        exact hret r6 c_m_prices _ _ _ _ rfl h hP hD hS dX11_price_42
      · replace h := h.2 cq
        refine lv_bipush (v := (-2)) hx hb dX11_price_32 (by decide) ?_
        exact hret (-2) c_m_prices _ _ _ _ rfl h hP hD hS dX11_price_34
abbrev cw_X11_price_n (g : GG) (h_this : Nat) (h_this_machines : Nat) (h_this_word : Nat) (h_this_steps : Nat) (h_this_trail : Nat) (h_this_search : Nat) (h_this_prices : Nat) (h_this_odds : Nat) (h_this_pairs : Nat) (h_this_greed : Nat) (h_this_colouring : Nat) (c_made : Int32) (c_machines : Nat → Option Nat) : va_W := [(h_this, .inr (10, [.ref h_this_machines, .int c_made, .ref h_this_word, .ref h_this_steps, .ref h_this_trail, .ref h_this_search, .ref h_this_prices, .ref h_this_odds, .ref h_this_pairs, .ref h_this_greed, .ref h_this_colouring])), (h_this_machines, .inl (g.2.2.2.2, 6, .inr (.inr (.inr (.inr c_machines)))))]
def wp_X11_price_n (c_made : Int32) (c_machines : Nat → Option Nat) (x1 : Int32) (x2 : Int32) (x3 : Int32) (Q : Int32 → Prop) : Prop :=
    Q (-2)
abbrev rm_X11_price_n : Room := { frames := 1, cells := 0, slots := 0, locals := 21 }
set_option maxHeartbeats 4000000 in
set_option maxRecDepth 100000 in
theorem k_X11_price_n (l : Launch) (g : GG) (h_this : Nat) (h_this_machines : Nat) (h_this_word : Nat) (h_this_steps : Nat) (h_this_trail : Nat) (h_this_search : Nat) (h_this_prices : Nat) (h_this_odds : Nat) (h_this_pairs : Nat) (h_this_greed : Nat) (h_this_colouring : Nat) {c_made : Int32} {c_machines : Nat → Option Nat} {x1 : Int32} {x2 : Int32} {x3 : Int32} {Q : Int32 → Prop} (hm : wp_X11_machineAt c_made c_machines x1 (fun r => r = none)) (h : wp_X11_price_n c_made c_machines x1 x2 x3 Q) : CI l g yX11_price wsX11_price rm_X11_price_n [.ref h_this, .int x1, .int x2, .int x3] (cw_X11_price_n g h_this h_this_machines h_this_word h_this_steps h_this_trail h_this_search h_this_prices h_this_odds h_this_pairs h_this_greed h_this_colouring c_made c_machines) (S := Unit) (fun _ => (cw_X11_price_n g h_this h_this_machines h_this_word h_this_steps h_this_trail h_this_search h_this_prices h_this_odds h_this_pairs h_this_greed h_this_colouring c_made c_machines)) (fun r _ => Q r) 0 0 := by
  refine mk_I (cc := cX11_price) (maxL := 5) (own := RX11) (by decide) rfl rfl (Nat.le_of_ble_eq_true rfl) ?_
  intro p e s m args below meth c A QQ E hret hP hD hS ls hl
  have E2 := E
  obtain ⟨hx, hb, hr, hml, hown, hts, hlocks, hA, hZ, hK, hnm⟩ := E2
  have hP : va_P g.1 vwCl (cw_X11_price_n g h_this h_this_machines h_this_word h_this_steps h_this_trail h_this_search h_this_prices h_this_odds h_this_pairs h_this_greed h_this_colouring c_made c_machines) s.heap := hP
  have hD : va_D A (cw_X11_price_n g h_this h_this_machines h_this_word h_this_steps h_this_trail h_this_search h_this_prices h_this_odds h_this_pairs h_this_greed h_this_colouring c_made c_machines) := hD
  have hl : lv_has ls 5 [(0, .ref h_this), (1, .int x1), (2, .int x2), (3, .int x3)] := hl
  unfold wp_X11_price_n at h
  refine lv_aload_n hx hb dX11_price_0 rfl (lv_at hl 0 rfl) ?_
  refine lv_iload_n hx hb dX11_price_1 rfl (lv_at hl 1 rfl) ?_
  refine go_Q E (run_V E ((k_X11_machineAt l g h_this h_this_machines h_this_word h_this_steps h_this_trail h_this_search h_this_prices h_this_odds h_this_pairs h_this_greed h_this_colouring hm) _) (cwV 1 hts gX11_price_X11_machineAt rfl rfl rfl (by decide +kernel) ⟨Nat.le_of_ble_eq_true rfl, Nat.le_of_ble_eq_true rfl⟩) hP hD hS [0, 1] rfl rfl 0 10 rfl rfl rfl hl rfl rfl (Nat.le_of_ble_eq_true rfl) dX11_price_2 ⟨Nat.le_of_ble_eq_true rfl, Nat.le_of_ble_eq_true rfl⟩) hP hD hS [0, 1] rfl [(false, 0), (false, 1)] rfl (by decide) (fun _ => (cw_X11_price_n g h_this h_this_machines h_this_word h_this_steps h_this_trail h_this_search h_this_prices h_this_odds h_this_pairs h_this_greed h_this_colouring c_made c_machines)) (fun _ => rfl) (fun r2 _ H locs hr_ hP hD hS => ?_)
  have hr_ : none = r2 := Eq.symm hr_
  subst hr_
  refine W.eq (g2 := F0 m 5 ls [.null]) rfl ?_
  have hP : va_P g.1 vwCl (cw_X11_price_n g h_this h_this_machines h_this_word h_this_steps h_this_trail h_this_search h_this_prices h_this_odds h_this_pairs h_this_greed h_this_colouring c_made c_machines) H := hP
  have hD : va_D A (cw_X11_price_n g h_this h_this_machines h_this_word h_this_steps h_this_trail h_this_search h_this_prices h_this_odds h_this_pairs h_this_greed h_this_colouring c_made c_machines) := hD
  refine lv_astoreN (lv' := [(4, .null), (0, .ref h_this), (1, .int x1), (2, .int x2), (3, .int x3)]) hx hb dX11_price_5 hl (by decide) rfl (fun ls hl => ?_)
  refine lv_aloadN hx hb dX11_price_7 (lv_at hl 0 rfl) ?_
  refine lv_ifnullN (tgt := 32) hx hb dX11_price_9 (by decide) ?_
  refine lv_bipush (v := (-2)) hx hb dX11_price_32 (by decide) ?_
  exact hret (-2) () _ _ _ _ rfl h hP hD hS dX11_price_34
abbrev cw_X11_share_s (g : GG) (h_this : Nat) (h_this_machines : Nat) (h_this_word : Nat) (h_this_steps : Nat) (h_this_trail : Nat) (h_this_search : Nat) (h_this_prices : Nat) (h_this_odds : Nat) (h_this_pairs : Nat) (h_this_greed : Nat) (h_this_colouring : Nat) (h_m_moves : Nat) (h_m_lights : Nat) (h_m_prices : Nat) (h_m_shares : Nat) (h_m : Nat) (c_made : Int32) (c_machines : Nat → Option Nat) (c_m_states : Int32) (c_m_letters : Int32) (c_m_shares : Nat → Int32) : va_W := [(h_this, .inr (10, [.ref h_this_machines, .int c_made, .ref h_this_word, .ref h_this_steps, .ref h_this_trail, .ref h_this_search, .ref h_this_prices, .ref h_this_odds, .ref h_this_pairs, .ref h_this_greed, .ref h_this_colouring])), (h_this_machines, .inl (g.2.2.2.2, 6, .inr (.inr (.inr (.inr c_machines))))), (h_m, .inr (3, [.int c_m_states, .int c_m_letters, .ref h_m_moves, .ref h_m_lights, .ref h_m_prices, .ref h_m_shares])), (h_m_shares, .inl (g.2.1, 4, .inl c_m_shares))]
def wp_X11_share_s (c_made : Int32) (c_machines : Nat → Option Nat) (c_m_states : Int32) (c_m_letters : Int32) (c_m_shares : Nat → Int32) (x1 : Int32) (x2 : Int32) (x3 : Int32) (Q : Int32 → (Nat → Int32) → Prop) : Prop :=
    wp_X4_hasLetter c_m_states c_m_letters x2 (fun r4 => ((r4 = (nI 0) → Q (-2) c_m_shares) ∧ (¬ r4 = (nI 0) → ((x3 < (nI 0) → Q (-2) c_m_shares) ∧ (¬ x3 < (nI 0) → ((x3 ≤ (nI 5) → wp_X4_putShare c_m_states c_m_letters c_m_shares x2 x3 (fun r6 c_m_shares => Q r6 c_m_shares)) ∧ (¬ x3 ≤ (nI 5) → Q (-2) c_m_shares)))))))
abbrev rm_X11_share_s : Room := { frames := 3, cells := 0, slots := 0, locals := 65 }
set_option maxHeartbeats 4000000 in
set_option maxRecDepth 100000 in
theorem k_X11_share_s (l : Launch) (g : GG) (h_this : Nat) (h_this_machines : Nat) (h_this_word : Nat) (h_this_steps : Nat) (h_this_trail : Nat) (h_this_search : Nat) (h_this_prices : Nat) (h_this_odds : Nat) (h_this_pairs : Nat) (h_this_greed : Nat) (h_this_colouring : Nat) (h_m_moves : Nat) (h_m_lights : Nat) (h_m_prices : Nat) (h_m_shares : Nat) (h_m : Nat) {c_made : Int32} {c_machines : Nat → Option Nat} {c_m_states : Int32} {c_m_letters : Int32} {c_m_shares : Nat → Int32} {x1 : Int32} {x2 : Int32} {x3 : Int32} {Q : Int32 → (Nat → Int32) → Prop} (hm : wp_X11_machineAt c_made c_machines x1 (fun r => r = some h_m)) (h : wp_X11_share_s c_made c_machines c_m_states c_m_letters c_m_shares x1 x2 x3 Q) : CI l g yX11_share wsX11_share rm_X11_share_s [.ref h_this, .int x1, .int x2, .int x3] (cw_X11_share_s g h_this h_this_machines h_this_word h_this_steps h_this_trail h_this_search h_this_prices h_this_odds h_this_pairs h_this_greed h_this_colouring h_m_moves h_m_lights h_m_prices h_m_shares h_m c_made c_machines c_m_states c_m_letters c_m_shares) (S := (Nat → Int32)) (fun u => (cw_X11_share_s g h_this h_this_machines h_this_word h_this_steps h_this_trail h_this_search h_this_prices h_this_odds h_this_pairs h_this_greed h_this_colouring h_m_moves h_m_lights h_m_prices h_m_shares h_m c_made c_machines c_m_states c_m_letters u)) (fun r u => Q r u) 0 0 := by
  refine mk_I (cc := cX11_share) (maxL := 5) (own := RX11) (by decide) rfl rfl (Nat.le_of_ble_eq_true rfl) ?_
  intro p e s m args below meth c A QQ E hret hP hD hS ls hl
  have E2 := E
  obtain ⟨hx, hb, hr, hml, hown, hts, hlocks, hA, hZ, hK, hnm⟩ := E2
  have hP : va_P g.1 vwCl (cw_X11_share_s g h_this h_this_machines h_this_word h_this_steps h_this_trail h_this_search h_this_prices h_this_odds h_this_pairs h_this_greed h_this_colouring h_m_moves h_m_lights h_m_prices h_m_shares h_m c_made c_machines c_m_states c_m_letters c_m_shares) s.heap := hP
  have hD : va_D A (cw_X11_share_s g h_this h_this_machines h_this_word h_this_steps h_this_trail h_this_search h_this_prices h_this_odds h_this_pairs h_this_greed h_this_colouring h_m_moves h_m_lights h_m_prices h_m_shares h_m c_made c_machines c_m_states c_m_letters c_m_shares) := hD
  have hl : lv_has ls 5 [(0, .ref h_this), (1, .int x1), (2, .int x2), (3, .int x3)] := hl
  unfold wp_X11_share_s at h
  refine lv_aload_n hx hb dX11_share_0 rfl (lv_at hl 0 rfl) ?_
  refine lv_iload_n hx hb dX11_share_1 rfl (lv_at hl 1 rfl) ?_
  refine go_Q E (run_V E ((k_X11_machineAt l g h_this h_this_machines h_this_word h_this_steps h_this_trail h_this_search h_this_prices h_this_odds h_this_pairs h_this_greed h_this_colouring hm) _) (cwV 1 hts gX11_share_X11_machineAt rfl rfl rfl (by decide +kernel) ⟨Nat.le_of_ble_eq_true rfl, Nat.le_of_ble_eq_true rfl⟩) hP hD hS [0, 1] rfl rfl 0 10 rfl rfl rfl hl rfl rfl (Nat.le_of_ble_eq_true rfl) dX11_share_2 ⟨Nat.le_of_ble_eq_true rfl, Nat.le_of_ble_eq_true rfl⟩) hP hD hS [0, 1] rfl [(false, 0), (false, 1), (true, 2), (true, 3)] rfl (by decide) (fun _ => (cw_X11_share_s g h_this h_this_machines h_this_word h_this_steps h_this_trail h_this_search h_this_prices h_this_odds h_this_pairs h_this_greed h_this_colouring h_m_moves h_m_lights h_m_prices h_m_shares h_m c_made c_machines c_m_states c_m_letters c_m_shares)) (fun _ => rfl) (fun r2 _ H locs hr_ hP hD hS => ?_)
  have hr_ : some h_m = r2 := Eq.symm hr_
  subst hr_
  refine W.eq (g2 := F0 m 5 ls [.ref h_m]) rfl ?_
  have hP : va_P g.1 vwCl (cw_X11_share_s g h_this h_this_machines h_this_word h_this_steps h_this_trail h_this_search h_this_prices h_this_odds h_this_pairs h_this_greed h_this_colouring h_m_moves h_m_lights h_m_prices h_m_shares h_m c_made c_machines c_m_states c_m_letters c_m_shares) H := hP
  have hD : va_D A (cw_X11_share_s g h_this h_this_machines h_this_word h_this_steps h_this_trail h_this_search h_this_prices h_this_odds h_this_pairs h_this_greed h_this_colouring h_m_moves h_m_lights h_m_prices h_m_shares h_m c_made c_machines c_m_states c_m_letters c_m_shares) := hD
  refine lv_astore (lv' := [(4, .ref h_m), (0, .ref h_this), (1, .int x1), (2, .int x2), (3, .int x3)]) hx hb dX11_share_5 hl (by decide) rfl (fun ls hl => ?_)
  refine lv_aload hx hb dX11_share_7 (lv_at hl 0 rfl) ?_
  refine lv_ifnull hx hb dX11_share_9 ?_
  refine lv_aload hx hb dX11_share_12 (lv_at hl 0 rfl) ?_
  refine lv_iload_n hx hb dX11_share_14 rfl (lv_at hl 3 rfl) ?_
  refine go_I E (run_V E ((k_X4_hasLetter l g h_m h_m_moves h_m_lights h_m_prices h_m_shares h) _) (cwV 1 hts gX11_share_X4_hasLetter rfl rfl rfl (by decide +kernel) ⟨Nat.le_of_ble_eq_true rfl, Nat.le_of_ble_eq_true rfl⟩) hP hD hS [2] rfl rfl 0 3 rfl rfl rfl hl rfl rfl (Nat.le_of_ble_eq_true rfl) dX11_share_15 ⟨Nat.le_of_ble_eq_true rfl, Nat.le_of_ble_eq_true rfl⟩) hP hD hS [2] rfl [(true, 0), (true, 1), (false, 0), (true, 3)] rfl (by decide) (fun _ => (cw_X11_share_s g h_this h_this_machines h_this_word h_this_steps h_this_trail h_this_search h_this_prices h_this_odds h_this_pairs h_this_greed h_this_colouring h_m_moves h_m_lights h_m_prices h_m_shares h_m c_made c_machines c_m_states c_m_letters c_m_shares)) (fun _ => rfl) (fun r4 _ H locs h hP hD hS => ?_)
  try dsimp only at h
  have hP : va_P g.1 vwCl (cw_X11_share_s g h_this h_this_machines h_this_word h_this_steps h_this_trail h_this_search h_this_prices h_this_odds h_this_pairs h_this_greed h_this_colouring h_m_moves h_m_lights h_m_prices h_m_shares h_m c_made c_machines c_m_states c_m_letters c_m_shares) H := hP
  have hD : va_D A (cw_X11_share_s g h_this h_this_machines h_this_word h_this_steps h_this_trail h_this_search h_this_prices h_this_odds h_this_pairs h_this_greed h_this_colouring h_m_moves h_m_lights h_m_prices h_m_shares h_m c_made c_machines c_m_states c_m_letters c_m_shares) := hD
  refine lv_if_eq (tgt := 30) hx hb dX11_share_18 (by decide) (fun cq => ?_) (fun cq => ?_)
  · replace h := h.1 cq
    refine lv_bipush (v := (-2)) hx hb dX11_share_30 (by decide) ?_
    exact hret (-2) c_m_shares _ _ _ _ rfl h hP hD hS dX11_share_32
  · replace h := h.2 cq
    refine lv_iload_n hx hb dX11_share_21 rfl (lv_at hl 4 rfl) ?_
    refine lv_if_lt (tgt := 30) hx hb dX11_share_22 (by decide) (fun cq => ?_) (fun cq => ?_)
    · replace h := h.1 cq
      refine lv_bipush (v := (-2)) hx hb dX11_share_30 (by decide) ?_
      exact hret (-2) c_m_shares _ _ _ _ rfl h hP hD hS dX11_share_32
    · replace h := h.2 cq
      refine lv_iload_n hx hb dX11_share_25 rfl (lv_at hl 4 rfl) ?_
      refine lv_iconst (v := (nI 5)) hx hb dX11_share_26 (by decide) ?_
      refine lv_icmp_le (tgt := 33) hx hb dX11_share_27 (by decide) (fun cq => ?_) (fun cq => ?_)
      · replace h := h.1 cq
        refine lv_aload hx hb dX11_share_33 (lv_at hl 0 rfl) ?_
        refine lv_iload_n hx hb dX11_share_35 rfl (lv_at hl 3 rfl) ?_
        refine lv_iload_n hx hb dX11_share_36 rfl (lv_at hl 4 rfl) ?_
        refine go_I E (run_V E ((k_X4_putShare l g h_m h_m_moves h_m_lights h_m_prices h_m_shares h) _) (cwV 2 hts gX11_share_X4_putShare rfl rfl rfl (by decide +kernel) ⟨Nat.le_of_ble_eq_true rfl, Nat.le_of_ble_eq_true rfl⟩) hP hD hS [2, 3] rfl rfl 0 3 rfl rfl rfl hl rfl rfl (Nat.le_of_ble_eq_true rfl) dX11_share_37 ⟨Nat.le_of_ble_eq_true rfl, Nat.le_of_ble_eq_true rfl⟩) hP hD hS [2, 3] rfl [(true, 0), (true, 1), (false, 0), (false, 1)] rfl (by decide) (fun u => (cw_X11_share_s g h_this h_this_machines h_this_word h_this_steps h_this_trail h_this_search h_this_prices h_this_odds h_this_pairs h_this_greed h_this_colouring h_m_moves h_m_lights h_m_prices h_m_shares h_m c_made c_machines c_m_states c_m_letters u)) (fun _ => rfl) (fun r6 c_m_shares H locs h hP hD hS => ?_)
        try dsimp only at h
        have hP : va_P g.1 vwCl (cw_X11_share_s g h_this h_this_machines h_this_word h_this_steps h_this_trail h_this_search h_this_prices h_this_odds h_this_pairs h_this_greed h_this_colouring h_m_moves h_m_lights h_m_prices h_m_shares h_m c_made c_machines c_m_states c_m_letters c_m_shares) H := hP
        have hD : va_D A (cw_X11_share_s g h_this h_this_machines h_this_word h_this_steps h_this_trail h_this_search h_this_prices h_this_odds h_this_pairs h_this_greed h_this_colouring h_m_moves h_m_lights h_m_prices h_m_shares h_m c_made c_machines c_m_states c_m_letters c_m_shares) := hD
        exact hret r6 c_m_shares _ _ _ _ rfl h hP hD hS dX11_share_40
      · replace h := h.2 cq
        refine lv_bipush (v := (-2)) hx hb dX11_share_30 (by decide) ?_
        exact hret (-2) c_m_shares _ _ _ _ rfl h hP hD hS dX11_share_32
abbrev cw_X11_share_n (g : GG) (h_this : Nat) (h_this_machines : Nat) (h_this_word : Nat) (h_this_steps : Nat) (h_this_trail : Nat) (h_this_search : Nat) (h_this_prices : Nat) (h_this_odds : Nat) (h_this_pairs : Nat) (h_this_greed : Nat) (h_this_colouring : Nat) (c_made : Int32) (c_machines : Nat → Option Nat) : va_W := [(h_this, .inr (10, [.ref h_this_machines, .int c_made, .ref h_this_word, .ref h_this_steps, .ref h_this_trail, .ref h_this_search, .ref h_this_prices, .ref h_this_odds, .ref h_this_pairs, .ref h_this_greed, .ref h_this_colouring])), (h_this_machines, .inl (g.2.2.2.2, 6, .inr (.inr (.inr (.inr c_machines)))))]
def wp_X11_share_n (c_made : Int32) (c_machines : Nat → Option Nat) (x1 : Int32) (x2 : Int32) (x3 : Int32) (Q : Int32 → Prop) : Prop :=
    Q (-2)
abbrev rm_X11_share_n : Room := { frames := 1, cells := 0, slots := 0, locals := 21 }
set_option maxHeartbeats 4000000 in
set_option maxRecDepth 100000 in
theorem k_X11_share_n (l : Launch) (g : GG) (h_this : Nat) (h_this_machines : Nat) (h_this_word : Nat) (h_this_steps : Nat) (h_this_trail : Nat) (h_this_search : Nat) (h_this_prices : Nat) (h_this_odds : Nat) (h_this_pairs : Nat) (h_this_greed : Nat) (h_this_colouring : Nat) {c_made : Int32} {c_machines : Nat → Option Nat} {x1 : Int32} {x2 : Int32} {x3 : Int32} {Q : Int32 → Prop} (hm : wp_X11_machineAt c_made c_machines x1 (fun r => r = none)) (h : wp_X11_share_n c_made c_machines x1 x2 x3 Q) : CI l g yX11_share wsX11_share rm_X11_share_n [.ref h_this, .int x1, .int x2, .int x3] (cw_X11_share_n g h_this h_this_machines h_this_word h_this_steps h_this_trail h_this_search h_this_prices h_this_odds h_this_pairs h_this_greed h_this_colouring c_made c_machines) (S := Unit) (fun _ => (cw_X11_share_n g h_this h_this_machines h_this_word h_this_steps h_this_trail h_this_search h_this_prices h_this_odds h_this_pairs h_this_greed h_this_colouring c_made c_machines)) (fun r _ => Q r) 0 0 := by
  refine mk_I (cc := cX11_share) (maxL := 5) (own := RX11) (by decide) rfl rfl (Nat.le_of_ble_eq_true rfl) ?_
  intro p e s m args below meth c A QQ E hret hP hD hS ls hl
  have E2 := E
  obtain ⟨hx, hb, hr, hml, hown, hts, hlocks, hA, hZ, hK, hnm⟩ := E2
  have hP : va_P g.1 vwCl (cw_X11_share_n g h_this h_this_machines h_this_word h_this_steps h_this_trail h_this_search h_this_prices h_this_odds h_this_pairs h_this_greed h_this_colouring c_made c_machines) s.heap := hP
  have hD : va_D A (cw_X11_share_n g h_this h_this_machines h_this_word h_this_steps h_this_trail h_this_search h_this_prices h_this_odds h_this_pairs h_this_greed h_this_colouring c_made c_machines) := hD
  have hl : lv_has ls 5 [(0, .ref h_this), (1, .int x1), (2, .int x2), (3, .int x3)] := hl
  unfold wp_X11_share_n at h
  refine lv_aload_n hx hb dX11_share_0 rfl (lv_at hl 0 rfl) ?_
  refine lv_iload_n hx hb dX11_share_1 rfl (lv_at hl 1 rfl) ?_
  refine go_Q E (run_V E ((k_X11_machineAt l g h_this h_this_machines h_this_word h_this_steps h_this_trail h_this_search h_this_prices h_this_odds h_this_pairs h_this_greed h_this_colouring hm) _) (cwV 1 hts gX11_share_X11_machineAt rfl rfl rfl (by decide +kernel) ⟨Nat.le_of_ble_eq_true rfl, Nat.le_of_ble_eq_true rfl⟩) hP hD hS [0, 1] rfl rfl 0 10 rfl rfl rfl hl rfl rfl (Nat.le_of_ble_eq_true rfl) dX11_share_2 ⟨Nat.le_of_ble_eq_true rfl, Nat.le_of_ble_eq_true rfl⟩) hP hD hS [0, 1] rfl [(false, 0), (false, 1)] rfl (by decide) (fun _ => (cw_X11_share_n g h_this h_this_machines h_this_word h_this_steps h_this_trail h_this_search h_this_prices h_this_odds h_this_pairs h_this_greed h_this_colouring c_made c_machines)) (fun _ => rfl) (fun r2 _ H locs hr_ hP hD hS => ?_)
  have hr_ : none = r2 := Eq.symm hr_
  subst hr_
  refine W.eq (g2 := F0 m 5 ls [.null]) rfl ?_
  have hP : va_P g.1 vwCl (cw_X11_share_n g h_this h_this_machines h_this_word h_this_steps h_this_trail h_this_search h_this_prices h_this_odds h_this_pairs h_this_greed h_this_colouring c_made c_machines) H := hP
  have hD : va_D A (cw_X11_share_n g h_this h_this_machines h_this_word h_this_steps h_this_trail h_this_search h_this_prices h_this_odds h_this_pairs h_this_greed h_this_colouring c_made c_machines) := hD
  refine lv_astoreN (lv' := [(4, .null), (0, .ref h_this), (1, .int x1), (2, .int x2), (3, .int x3)]) hx hb dX11_share_5 hl (by decide) rfl (fun ls hl => ?_)
  refine lv_aloadN hx hb dX11_share_7 (lv_at hl 0 rfl) ?_
  refine lv_ifnullN (tgt := 30) hx hb dX11_share_9 (by decide) ?_
  refine lv_bipush (v := (-2)) hx hb dX11_share_30 (by decide) ?_
  exact hret (-2) () _ _ _ _ rfl h hP hD hS dX11_share_32
abbrev cw_X11_fact (g : GG) (h_m : Nat) (h_m_moves : Nat) (h_m_lights : Nat) (h_m_prices : Nat) (h_m_shares : Nat) (c_m_states : Int32) (c_m_letters : Int32) (c_m_moves : Nat → Int32) : va_W := [(h_m, .inr (3, [.int c_m_states, .int c_m_letters, .ref h_m_moves, .ref h_m_lights, .ref h_m_prices, .ref h_m_shares])), (h_m_moves, .inl (g.2.1, 48, .inl c_m_moves))]
def wp_X11_fact (c_m_states : Int32) (c_m_letters : Int32) (c_m_moves : Nat → Int32) (x1 : Int32) (Q : Int32 → Prop) : Prop :=
    ((¬ x1 = (nI 0) → ((¬ x1 = (nI 1) → wp_X4_isWhole c_m_states c_m_letters c_m_moves (fun r2 => ((r2 = (nI 0) → Q (nI 0)) ∧ (¬ r2 = (nI 0) → Q (nI 1))))) ∧ (x1 = (nI 1) → Q c_m_letters))) ∧ (x1 = (nI 0) → Q c_m_states))
abbrev rm_X11_fact : Room := { frames := 2, cells := 0, slots := 0, locals := 45 }
set_option maxHeartbeats 4000000 in
set_option maxRecDepth 100000 in
theorem k_X11_fact (l : Launch) (g : GG) (h_m : Nat) (h_m_moves : Nat) (h_m_lights : Nat) (h_m_prices : Nat) (h_m_shares : Nat) {c_m_states : Int32} {c_m_letters : Int32} {c_m_moves : Nat → Int32} {x1 : Int32} {Q : Int32 → Prop} (h : wp_X11_fact c_m_states c_m_letters c_m_moves x1 Q) : CI l g yX11_fact wsX11_fact rm_X11_fact [.ref h_m, .int x1] (cw_X11_fact g h_m h_m_moves h_m_lights h_m_prices h_m_shares c_m_states c_m_letters c_m_moves) (S := Unit) (fun _ => (cw_X11_fact g h_m h_m_moves h_m_lights h_m_prices h_m_shares c_m_states c_m_letters c_m_moves)) (fun r _ => Q r) 0 0 := by
  refine mk_I (cc := cX11_fact) (maxL := 2) (own := RX11) (by decide) rfl rfl (Nat.le_of_ble_eq_true rfl) ?_
  intro p e s m args below meth c A QQ E hret hP hD hS ls hl
  have E2 := E
  obtain ⟨hx, hb, hr, hml, hown, hts, hlocks, hA, hZ, hK, hnm⟩ := E2
  have hP : va_P g.1 vwCl (cw_X11_fact g h_m h_m_moves h_m_lights h_m_prices h_m_shares c_m_states c_m_letters c_m_moves) s.heap := hP
  have hD : va_D A (cw_X11_fact g h_m h_m_moves h_m_lights h_m_prices h_m_shares c_m_states c_m_letters c_m_moves) := hD
  have hl : lv_has ls 2 [(0, .ref h_m), (1, .int x1)] := hl
  unfold wp_X11_fact at h
  refine lv_iload_n hx hb dX11_fact_0 rfl (lv_at hl 1 rfl) ?_
  refine lv_if_ne (tgt := 9) hx hb dX11_fact_1 (by decide) (fun cq => ?_) (fun cq => ?_)
  · replace h := h.1 cq
    refine lv_iload_n hx hb dX11_fact_9 rfl (lv_at hl 1 rfl) ?_
    refine lv_iconst (v := (nI 1)) hx hb dX11_fact_10 (by decide) ?_
    refine lv_icmp_ne (tgt := 21) hx hb dX11_fact_11 (by decide) (fun cq => ?_) (fun cq => ?_)
    · replace h := h.1 cq
      refine lv_aload_n hx hb dX11_fact_21 rfl (lv_at hl 0 rfl) ?_
      refine go_I E (run_V E ((k_X4_isWhole l g h_m h_m_moves h_m_lights h_m_prices h_m_shares h) _) (cwV 0 hts gX11_fact_X4_isWhole rfl rfl rfl (by decide +kernel) ⟨Nat.le_of_ble_eq_true rfl, Nat.le_of_ble_eq_true rfl⟩) hP hD hS [0, 1] rfl rfl 0 3 rfl rfl rfl hl rfl rfl (Nat.le_of_ble_eq_true rfl) dX11_fact_22 ⟨Nat.le_of_ble_eq_true rfl, Nat.le_of_ble_eq_true rfl⟩) hP hD hS [0, 1] rfl [(false, 0), (false, 1)] rfl (by decide) (fun _ => (cw_X11_fact g h_m h_m_moves h_m_lights h_m_prices h_m_shares c_m_states c_m_letters c_m_moves)) (fun _ => rfl) (fun r2 _ H locs h hP hD hS => ?_)
      try dsimp only at h
      have hP : va_P g.1 vwCl (cw_X11_fact g h_m h_m_moves h_m_lights h_m_prices h_m_shares c_m_states c_m_letters c_m_moves) H := hP
      have hD : va_D A (cw_X11_fact g h_m h_m_moves h_m_lights h_m_prices h_m_shares c_m_states c_m_letters c_m_moves) := hD
      refine lv_if_eq (tgt := 32) hx hb dX11_fact_25 (by decide) (fun cq => ?_) (fun cq => ?_)
      · replace h := h.1 cq
        refine lv_iconst (v := (nI 0)) hx hb dX11_fact_32 (by decide) ?_
        exact hret (nI 0) () _ _ _ _ rfl h hP hD hS dX11_fact_33
      · replace h := h.2 cq
        refine lv_iconst (v := (nI 1)) hx hb dX11_fact_28 (by decide) ?_
        refine lv_goto (tgt := 33) hx hb dX11_fact_29 (by decide) ?_
        exact hret (nI 1) () _ _ _ _ rfl h hP hD hS dX11_fact_33
    · replace h := h.2 cq
      refine lv_aload_n hx hb dX11_fact_14 rfl (lv_at hl 0 rfl) ?_
      refine go_I E (run_V E ((k_X4_letters l g h_m h_m_moves h_m_lights h_m_prices h_m_shares (Q := fun r => r = c_m_letters) rfl) _) (cwV 0 hts gX11_fact_X4_letters rfl rfl rfl (by decide +kernel) ⟨Nat.le_of_ble_eq_true rfl, Nat.le_of_ble_eq_true rfl⟩) hP hD hS [0] rfl rfl 0 3 rfl rfl rfl hl rfl rfl (Nat.le_of_ble_eq_true rfl) dX11_fact_15 ⟨Nat.le_of_ble_eq_true rfl, Nat.le_of_ble_eq_true rfl⟩) hP hD hS [0] rfl [(false, 0), (true, 1)] rfl (by decide) (fun _ => (cw_X11_fact g h_m h_m_moves h_m_lights h_m_prices h_m_shares c_m_states c_m_letters c_m_moves)) (fun _ => rfl) (fun r4 _ H locs hr_ hP hD hS => ?_)
      have hr_ : c_m_letters = r4 := Eq.symm hr_
      subst hr_
      have hP : va_P g.1 vwCl (cw_X11_fact g h_m h_m_moves h_m_lights h_m_prices h_m_shares c_m_states c_m_letters c_m_moves) H := hP
      have hD : va_D A (cw_X11_fact g h_m h_m_moves h_m_lights h_m_prices h_m_shares c_m_states c_m_letters c_m_moves) := hD
      refine lv_goto (tgt := 33) hx hb dX11_fact_18 (by decide) ?_
      exact hret c_m_letters () _ _ _ _ rfl h hP hD hS dX11_fact_33
  · replace h := h.2 cq
    refine lv_aload_n hx hb dX11_fact_4 rfl (lv_at hl 0 rfl) ?_
    refine go_I E (run_V E ((k_X4_states l g h_m h_m_moves h_m_lights h_m_prices h_m_shares (Q := fun r => r = c_m_states) rfl) _) (cwV 0 hts gX11_fact_X4_states rfl rfl rfl (by decide +kernel) ⟨Nat.le_of_ble_eq_true rfl, Nat.le_of_ble_eq_true rfl⟩) hP hD hS [0] rfl rfl 0 3 rfl rfl rfl hl rfl rfl (Nat.le_of_ble_eq_true rfl) dX11_fact_5 ⟨Nat.le_of_ble_eq_true rfl, Nat.le_of_ble_eq_true rfl⟩) hP hD hS [0] rfl [(false, 0), (true, 1)] rfl (by decide) (fun _ => (cw_X11_fact g h_m h_m_moves h_m_lights h_m_prices h_m_shares c_m_states c_m_letters c_m_moves)) (fun _ => rfl) (fun r6 _ H locs hr_ hP hD hS => ?_)
    have hr_ : c_m_states = r6 := Eq.symm hr_
    subst hr_
    have hP : va_P g.1 vwCl (cw_X11_fact g h_m h_m_moves h_m_lights h_m_prices h_m_shares c_m_states c_m_letters c_m_moves) H := hP
    have hD : va_D A (cw_X11_fact g h_m h_m_moves h_m_lights h_m_prices h_m_shares c_m_states c_m_letters c_m_moves) := hD
    exact hret c_m_states () _ _ _ _ rfl h hP hD hS dX11_fact_8
abbrev cw_X11_about_s (g : GG) (h_this : Nat) (h_this_machines : Nat) (h_this_word : Nat) (h_this_steps : Nat) (h_this_trail : Nat) (h_this_search : Nat) (h_this_prices : Nat) (h_this_odds : Nat) (h_this_pairs : Nat) (h_this_greed : Nat) (h_this_colouring : Nat) (h_m_moves : Nat) (h_m_lights : Nat) (h_m_prices : Nat) (h_m_shares : Nat) (h_m : Nat) (c_made : Int32) (c_machines : Nat → Option Nat) (c_m_states : Int32) (c_m_letters : Int32) (c_m_moves : Nat → Int32) : va_W := [(h_this, .inr (10, [.ref h_this_machines, .int c_made, .ref h_this_word, .ref h_this_steps, .ref h_this_trail, .ref h_this_search, .ref h_this_prices, .ref h_this_odds, .ref h_this_pairs, .ref h_this_greed, .ref h_this_colouring])), (h_this_machines, .inl (g.2.2.2.2, 6, .inr (.inr (.inr (.inr c_machines))))), (h_m, .inr (3, [.int c_m_states, .int c_m_letters, .ref h_m_moves, .ref h_m_lights, .ref h_m_prices, .ref h_m_shares])), (h_m_moves, .inl (g.2.1, 48, .inl c_m_moves))]
def wp_X11_about_s (c_made : Int32) (c_machines : Nat → Option Nat) (c_m_states : Int32) (c_m_letters : Int32) (c_m_moves : Nat → Int32) (x1 : Int32) (x2 : Int32) (Q : Int32 → Prop) : Prop :=
    ((x2 < (nI 0) → Q (-2)) ∧ (¬ x2 < (nI 0) → ((x2 ≤ (nI 2) → wp_X11_fact c_m_states c_m_letters c_m_moves x2 (fun r4 => Q r4)) ∧ (¬ x2 ≤ (nI 2) → Q (-2)))))
abbrev rm_X11_about_s : Room := { frames := 3, cells := 0, slots := 0, locals := 66 }
set_option maxHeartbeats 4000000 in
set_option maxRecDepth 100000 in
theorem k_X11_about_s (l : Launch) (g : GG) (h_this : Nat) (h_this_machines : Nat) (h_this_word : Nat) (h_this_steps : Nat) (h_this_trail : Nat) (h_this_search : Nat) (h_this_prices : Nat) (h_this_odds : Nat) (h_this_pairs : Nat) (h_this_greed : Nat) (h_this_colouring : Nat) (h_m_moves : Nat) (h_m_lights : Nat) (h_m_prices : Nat) (h_m_shares : Nat) (h_m : Nat) {c_made : Int32} {c_machines : Nat → Option Nat} {c_m_states : Int32} {c_m_letters : Int32} {c_m_moves : Nat → Int32} {x1 : Int32} {x2 : Int32} {Q : Int32 → Prop} (hm : wp_X11_machineAt c_made c_machines x1 (fun r => r = some h_m)) (h : wp_X11_about_s c_made c_machines c_m_states c_m_letters c_m_moves x1 x2 Q) : CI l g yX11_about wsX11_about rm_X11_about_s [.ref h_this, .int x1, .int x2] (cw_X11_about_s g h_this h_this_machines h_this_word h_this_steps h_this_trail h_this_search h_this_prices h_this_odds h_this_pairs h_this_greed h_this_colouring h_m_moves h_m_lights h_m_prices h_m_shares h_m c_made c_machines c_m_states c_m_letters c_m_moves) (S := Unit) (fun _ => (cw_X11_about_s g h_this h_this_machines h_this_word h_this_steps h_this_trail h_this_search h_this_prices h_this_odds h_this_pairs h_this_greed h_this_colouring h_m_moves h_m_lights h_m_prices h_m_shares h_m c_made c_machines c_m_states c_m_letters c_m_moves)) (fun r _ => Q r) 0 0 := by
  refine mk_I (cc := cX11_about) (maxL := 4) (own := RX11) (by decide) rfl rfl (Nat.le_of_ble_eq_true rfl) ?_
  intro p e s m args below meth c A QQ E hret hP hD hS ls hl
  have E2 := E
  obtain ⟨hx, hb, hr, hml, hown, hts, hlocks, hA, hZ, hK, hnm⟩ := E2
  have hP : va_P g.1 vwCl (cw_X11_about_s g h_this h_this_machines h_this_word h_this_steps h_this_trail h_this_search h_this_prices h_this_odds h_this_pairs h_this_greed h_this_colouring h_m_moves h_m_lights h_m_prices h_m_shares h_m c_made c_machines c_m_states c_m_letters c_m_moves) s.heap := hP
  have hD : va_D A (cw_X11_about_s g h_this h_this_machines h_this_word h_this_steps h_this_trail h_this_search h_this_prices h_this_odds h_this_pairs h_this_greed h_this_colouring h_m_moves h_m_lights h_m_prices h_m_shares h_m c_made c_machines c_m_states c_m_letters c_m_moves) := hD
  have hl : lv_has ls 4 [(0, .ref h_this), (1, .int x1), (2, .int x2)] := hl
  unfold wp_X11_about_s at h
  refine lv_aload_n hx hb dX11_about_0 rfl (lv_at hl 0 rfl) ?_
  refine lv_iload_n hx hb dX11_about_1 rfl (lv_at hl 1 rfl) ?_
  refine go_Q E (run_V E ((k_X11_machineAt l g h_this h_this_machines h_this_word h_this_steps h_this_trail h_this_search h_this_prices h_this_odds h_this_pairs h_this_greed h_this_colouring hm) _) (cwV 1 hts gX11_about_X11_machineAt rfl rfl rfl (by decide +kernel) ⟨Nat.le_of_ble_eq_true rfl, Nat.le_of_ble_eq_true rfl⟩) hP hD hS [0, 1] rfl rfl 0 10 rfl rfl rfl hl rfl rfl (Nat.le_of_ble_eq_true rfl) dX11_about_2 ⟨Nat.le_of_ble_eq_true rfl, Nat.le_of_ble_eq_true rfl⟩) hP hD hS [0, 1] rfl [(false, 0), (false, 1), (true, 2), (true, 3)] rfl (by decide) (fun _ => (cw_X11_about_s g h_this h_this_machines h_this_word h_this_steps h_this_trail h_this_search h_this_prices h_this_odds h_this_pairs h_this_greed h_this_colouring h_m_moves h_m_lights h_m_prices h_m_shares h_m c_made c_machines c_m_states c_m_letters c_m_moves)) (fun _ => rfl) (fun r2 _ H locs hr_ hP hD hS => ?_)
  have hr_ : some h_m = r2 := Eq.symm hr_
  subst hr_
  refine W.eq (g2 := F0 m 5 ls [.ref h_m]) rfl ?_
  have hP : va_P g.1 vwCl (cw_X11_about_s g h_this h_this_machines h_this_word h_this_steps h_this_trail h_this_search h_this_prices h_this_odds h_this_pairs h_this_greed h_this_colouring h_m_moves h_m_lights h_m_prices h_m_shares h_m c_made c_machines c_m_states c_m_letters c_m_moves) H := hP
  have hD : va_D A (cw_X11_about_s g h_this h_this_machines h_this_word h_this_steps h_this_trail h_this_search h_this_prices h_this_odds h_this_pairs h_this_greed h_this_colouring h_m_moves h_m_lights h_m_prices h_m_shares h_m c_made c_machines c_m_states c_m_letters c_m_moves) := hD
  refine lv_astore_n (lv' := [(3, .ref h_m), (0, .ref h_this), (1, .int x1), (2, .int x2)]) hx hb dX11_about_5 rfl hl (by decide) rfl (fun ls hl => ?_)
  refine lv_aload_n hx hb dX11_about_6 rfl (lv_at hl 0 rfl) ?_
  refine lv_ifnull hx hb dX11_about_7 ?_
  refine lv_iload_n hx hb dX11_about_10 rfl (lv_at hl 3 rfl) ?_
  refine lv_if_lt (tgt := 19) hx hb dX11_about_11 (by decide) (fun cq => ?_) (fun cq => ?_)
  · replace h := h.1 cq
    refine lv_bipush (v := (-2)) hx hb dX11_about_19 (by decide) ?_
    exact hret (-2) () _ _ _ _ rfl h hP hD hS dX11_about_21
  · replace h := h.2 cq
    refine lv_iload_n hx hb dX11_about_14 rfl (lv_at hl 3 rfl) ?_
    refine lv_iconst (v := (nI 2)) hx hb dX11_about_15 (by decide) ?_
    refine lv_icmp_le (tgt := 22) hx hb dX11_about_16 (by decide) (fun cq => ?_) (fun cq => ?_)
    · replace h := h.1 cq
      refine lv_aload_n hx hb dX11_about_22 rfl (lv_at hl 0 rfl) ?_
      refine lv_iload_n hx hb dX11_about_23 rfl (lv_at hl 3 rfl) ?_
      refine go_I E (run_S E ((k_X11_fact l g h_m h_m_moves h_m_lights h_m_prices h_m_shares h) _) (va_cwS 2 hts gX11_about_X11_fact rfl rfl rfl (by decide +kernel) ⟨Nat.le_of_ble_eq_true rfl, Nat.le_of_ble_eq_true rfl⟩) hP hD hS [2, 3] rfl rfl hl rfl rfl (Nat.le_of_ble_eq_true rfl) dX11_about_24 ⟨Nat.le_of_ble_eq_true rfl, Nat.le_of_ble_eq_true rfl⟩) hP hD hS [2, 3] rfl [(true, 0), (true, 1), (false, 0), (false, 1)] rfl (by decide) (fun _ => (cw_X11_about_s g h_this h_this_machines h_this_word h_this_steps h_this_trail h_this_search h_this_prices h_this_odds h_this_pairs h_this_greed h_this_colouring h_m_moves h_m_lights h_m_prices h_m_shares h_m c_made c_machines c_m_states c_m_letters c_m_moves)) (fun _ => rfl) (fun r4 _ H locs h hP hD hS => ?_)
      try dsimp only at h
      have hP : va_P g.1 vwCl (cw_X11_about_s g h_this h_this_machines h_this_word h_this_steps h_this_trail h_this_search h_this_prices h_this_odds h_this_pairs h_this_greed h_this_colouring h_m_moves h_m_lights h_m_prices h_m_shares h_m c_made c_machines c_m_states c_m_letters c_m_moves) H := hP
      have hD : va_D A (cw_X11_about_s g h_this h_this_machines h_this_word h_this_steps h_this_trail h_this_search h_this_prices h_this_odds h_this_pairs h_this_greed h_this_colouring h_m_moves h_m_lights h_m_prices h_m_shares h_m c_made c_machines c_m_states c_m_letters c_m_moves) := hD
      exact hret r4 () _ _ _ _ rfl h hP hD hS dX11_about_27
    · replace h := h.2 cq
      refine lv_bipush (v := (-2)) hx hb dX11_about_19 (by decide) ?_
      exact hret (-2) () _ _ _ _ rfl h hP hD hS dX11_about_21
abbrev cw_X11_about_n (g : GG) (h_this : Nat) (h_this_machines : Nat) (h_this_word : Nat) (h_this_steps : Nat) (h_this_trail : Nat) (h_this_search : Nat) (h_this_prices : Nat) (h_this_odds : Nat) (h_this_pairs : Nat) (h_this_greed : Nat) (h_this_colouring : Nat) (c_made : Int32) (c_machines : Nat → Option Nat) : va_W := [(h_this, .inr (10, [.ref h_this_machines, .int c_made, .ref h_this_word, .ref h_this_steps, .ref h_this_trail, .ref h_this_search, .ref h_this_prices, .ref h_this_odds, .ref h_this_pairs, .ref h_this_greed, .ref h_this_colouring])), (h_this_machines, .inl (g.2.2.2.2, 6, .inr (.inr (.inr (.inr c_machines)))))]
def wp_X11_about_n (c_made : Int32) (c_machines : Nat → Option Nat) (x1 : Int32) (x2 : Int32) (Q : Int32 → Prop) : Prop :=
    Q (-2)
abbrev rm_X11_about_n : Room := { frames := 1, cells := 0, slots := 0, locals := 21 }
set_option maxHeartbeats 4000000 in
set_option maxRecDepth 100000 in
theorem k_X11_about_n (l : Launch) (g : GG) (h_this : Nat) (h_this_machines : Nat) (h_this_word : Nat) (h_this_steps : Nat) (h_this_trail : Nat) (h_this_search : Nat) (h_this_prices : Nat) (h_this_odds : Nat) (h_this_pairs : Nat) (h_this_greed : Nat) (h_this_colouring : Nat) {c_made : Int32} {c_machines : Nat → Option Nat} {x1 : Int32} {x2 : Int32} {Q : Int32 → Prop} (hm : wp_X11_machineAt c_made c_machines x1 (fun r => r = none)) (h : wp_X11_about_n c_made c_machines x1 x2 Q) : CI l g yX11_about wsX11_about rm_X11_about_n [.ref h_this, .int x1, .int x2] (cw_X11_about_n g h_this h_this_machines h_this_word h_this_steps h_this_trail h_this_search h_this_prices h_this_odds h_this_pairs h_this_greed h_this_colouring c_made c_machines) (S := Unit) (fun _ => (cw_X11_about_n g h_this h_this_machines h_this_word h_this_steps h_this_trail h_this_search h_this_prices h_this_odds h_this_pairs h_this_greed h_this_colouring c_made c_machines)) (fun r _ => Q r) 0 0 := by
  refine mk_I (cc := cX11_about) (maxL := 4) (own := RX11) (by decide) rfl rfl (Nat.le_of_ble_eq_true rfl) ?_
  intro p e s m args below meth c A QQ E hret hP hD hS ls hl
  have E2 := E
  obtain ⟨hx, hb, hr, hml, hown, hts, hlocks, hA, hZ, hK, hnm⟩ := E2
  have hP : va_P g.1 vwCl (cw_X11_about_n g h_this h_this_machines h_this_word h_this_steps h_this_trail h_this_search h_this_prices h_this_odds h_this_pairs h_this_greed h_this_colouring c_made c_machines) s.heap := hP
  have hD : va_D A (cw_X11_about_n g h_this h_this_machines h_this_word h_this_steps h_this_trail h_this_search h_this_prices h_this_odds h_this_pairs h_this_greed h_this_colouring c_made c_machines) := hD
  have hl : lv_has ls 4 [(0, .ref h_this), (1, .int x1), (2, .int x2)] := hl
  unfold wp_X11_about_n at h
  refine lv_aload_n hx hb dX11_about_0 rfl (lv_at hl 0 rfl) ?_
  refine lv_iload_n hx hb dX11_about_1 rfl (lv_at hl 1 rfl) ?_
  refine go_Q E (run_V E ((k_X11_machineAt l g h_this h_this_machines h_this_word h_this_steps h_this_trail h_this_search h_this_prices h_this_odds h_this_pairs h_this_greed h_this_colouring hm) _) (cwV 1 hts gX11_about_X11_machineAt rfl rfl rfl (by decide +kernel) ⟨Nat.le_of_ble_eq_true rfl, Nat.le_of_ble_eq_true rfl⟩) hP hD hS [0, 1] rfl rfl 0 10 rfl rfl rfl hl rfl rfl (Nat.le_of_ble_eq_true rfl) dX11_about_2 ⟨Nat.le_of_ble_eq_true rfl, Nat.le_of_ble_eq_true rfl⟩) hP hD hS [0, 1] rfl [(false, 0), (false, 1)] rfl (by decide) (fun _ => (cw_X11_about_n g h_this h_this_machines h_this_word h_this_steps h_this_trail h_this_search h_this_prices h_this_odds h_this_pairs h_this_greed h_this_colouring c_made c_machines)) (fun _ => rfl) (fun r2 _ H locs hr_ hP hD hS => ?_)
  have hr_ : none = r2 := Eq.symm hr_
  subst hr_
  refine W.eq (g2 := F0 m 5 ls [.null]) rfl ?_
  have hP : va_P g.1 vwCl (cw_X11_about_n g h_this h_this_machines h_this_word h_this_steps h_this_trail h_this_search h_this_prices h_this_odds h_this_pairs h_this_greed h_this_colouring c_made c_machines) H := hP
  have hD : va_D A (cw_X11_about_n g h_this h_this_machines h_this_word h_this_steps h_this_trail h_this_search h_this_prices h_this_odds h_this_pairs h_this_greed h_this_colouring c_made c_machines) := hD
  refine lv_astore_nN (lv' := [(3, .null), (0, .ref h_this), (1, .int x1), (2, .int x2)]) hx hb dX11_about_5 rfl hl (by decide) rfl (fun ls hl => ?_)
  refine lv_aload_nN hx hb dX11_about_6 rfl (lv_at hl 0 rfl) ?_
  refine lv_ifnullN (tgt := 19) hx hb dX11_about_7 (by decide) ?_
  refine lv_bipush (v := (-2)) hx hb dX11_about_19 (by decide) ?_
  exact hret (-2) () _ _ _ _ rfl h hP hD hS dX11_about_21
abbrev cw_X11_moveOf_s (g : GG) (h_this : Nat) (h_this_machines : Nat) (h_this_word : Nat) (h_this_steps : Nat) (h_this_trail : Nat) (h_this_search : Nat) (h_this_prices : Nat) (h_this_odds : Nat) (h_this_pairs : Nat) (h_this_greed : Nat) (h_this_colouring : Nat) (h_m_moves : Nat) (h_m_lights : Nat) (h_m_prices : Nat) (h_m_shares : Nat) (h_m : Nat) (c_made : Int32) (c_machines : Nat → Option Nat) (c_m_states : Int32) (c_m_letters : Int32) (c_m_moves : Nat → Int32) : va_W := [(h_this, .inr (10, [.ref h_this_machines, .int c_made, .ref h_this_word, .ref h_this_steps, .ref h_this_trail, .ref h_this_search, .ref h_this_prices, .ref h_this_odds, .ref h_this_pairs, .ref h_this_greed, .ref h_this_colouring])), (h_this_machines, .inl (g.2.2.2.2, 6, .inr (.inr (.inr (.inr c_machines))))), (h_m, .inr (3, [.int c_m_states, .int c_m_letters, .ref h_m_moves, .ref h_m_lights, .ref h_m_prices, .ref h_m_shares])), (h_m_moves, .inl (g.2.1, 48, .inl c_m_moves))]
def wp_X11_moveOf_s (c_made : Int32) (c_machines : Nat → Option Nat) (c_m_states : Int32) (c_m_letters : Int32) (c_m_moves : Nat → Int32) (x1 : Int32) (x2 : Int32) (x3 : Int32) (Q : Int32 → Prop) : Prop :=
    wp_X4_hasState c_m_states c_m_letters x2 (fun r4 => ((r4 = (nI 0) → Q (-2)) ∧ (¬ r4 = (nI 0) → wp_X4_hasLetter c_m_states c_m_letters x3 (fun r6 => ((¬ r6 = (nI 0) → wp_X4_target c_m_states c_m_letters c_m_moves x2 x3 (fun r8 => Q r8)) ∧ (r6 = (nI 0) → Q (-2)))))))
abbrev rm_X11_moveOf_s : Room := { frames := 1, cells := 0, slots := 0, locals := 23 }
set_option maxHeartbeats 4000000 in
set_option maxRecDepth 100000 in
theorem k_X11_moveOf_s (l : Launch) (g : GG) (h_this : Nat) (h_this_machines : Nat) (h_this_word : Nat) (h_this_steps : Nat) (h_this_trail : Nat) (h_this_search : Nat) (h_this_prices : Nat) (h_this_odds : Nat) (h_this_pairs : Nat) (h_this_greed : Nat) (h_this_colouring : Nat) (h_m_moves : Nat) (h_m_lights : Nat) (h_m_prices : Nat) (h_m_shares : Nat) (h_m : Nat) {c_made : Int32} {c_machines : Nat → Option Nat} {c_m_states : Int32} {c_m_letters : Int32} {c_m_moves : Nat → Int32} {x1 : Int32} {x2 : Int32} {x3 : Int32} {Q : Int32 → Prop} (hm : wp_X11_machineAt c_made c_machines x1 (fun r => r = some h_m)) (h : wp_X11_moveOf_s c_made c_machines c_m_states c_m_letters c_m_moves x1 x2 x3 Q) : CI l g yX11_moveOf wsX11_moveOf rm_X11_moveOf_s [.ref h_this, .int x1, .int x2, .int x3] (cw_X11_moveOf_s g h_this h_this_machines h_this_word h_this_steps h_this_trail h_this_search h_this_prices h_this_odds h_this_pairs h_this_greed h_this_colouring h_m_moves h_m_lights h_m_prices h_m_shares h_m c_made c_machines c_m_states c_m_letters c_m_moves) (S := Unit) (fun _ => (cw_X11_moveOf_s g h_this h_this_machines h_this_word h_this_steps h_this_trail h_this_search h_this_prices h_this_odds h_this_pairs h_this_greed h_this_colouring h_m_moves h_m_lights h_m_prices h_m_shares h_m c_made c_machines c_m_states c_m_letters c_m_moves)) (fun r _ => Q r) 0 0 := by
  refine mk_I (cc := cX11_moveOf) (maxL := 5) (own := RX11) (by decide) rfl rfl (Nat.le_of_ble_eq_true rfl) ?_
  intro p e s m args below meth c A QQ E hret hP hD hS ls hl
  have E2 := E
  obtain ⟨hx, hb, hr, hml, hown, hts, hlocks, hA, hZ, hK, hnm⟩ := E2
  have hP : va_P g.1 vwCl (cw_X11_moveOf_s g h_this h_this_machines h_this_word h_this_steps h_this_trail h_this_search h_this_prices h_this_odds h_this_pairs h_this_greed h_this_colouring h_m_moves h_m_lights h_m_prices h_m_shares h_m c_made c_machines c_m_states c_m_letters c_m_moves) s.heap := hP
  have hD : va_D A (cw_X11_moveOf_s g h_this h_this_machines h_this_word h_this_steps h_this_trail h_this_search h_this_prices h_this_odds h_this_pairs h_this_greed h_this_colouring h_m_moves h_m_lights h_m_prices h_m_shares h_m c_made c_machines c_m_states c_m_letters c_m_moves) := hD
  have hl : lv_has ls 5 [(0, .ref h_this), (1, .int x1), (2, .int x2), (3, .int x3)] := hl
  unfold wp_X11_moveOf_s at h
  refine lv_aload_n hx hb dX11_moveOf_0 rfl (lv_at hl 0 rfl) ?_
  refine lv_iload_n hx hb dX11_moveOf_1 rfl (lv_at hl 1 rfl) ?_
  refine go_Q E (run_V E ((k_X11_machineAt l g h_this h_this_machines h_this_word h_this_steps h_this_trail h_this_search h_this_prices h_this_odds h_this_pairs h_this_greed h_this_colouring hm) _) (cwV 1 hts gX11_moveOf_X11_machineAt rfl rfl rfl (by decide +kernel) ⟨Nat.le_of_ble_eq_true rfl, Nat.le_of_ble_eq_true rfl⟩) hP hD hS [0, 1] rfl rfl 0 10 rfl rfl rfl hl rfl rfl (Nat.le_of_ble_eq_true rfl) dX11_moveOf_2 ⟨Nat.le_of_ble_eq_true rfl, Nat.le_of_ble_eq_true rfl⟩) hP hD hS [0, 1] rfl [(false, 0), (false, 1), (true, 2), (true, 3)] rfl (by decide) (fun _ => (cw_X11_moveOf_s g h_this h_this_machines h_this_word h_this_steps h_this_trail h_this_search h_this_prices h_this_odds h_this_pairs h_this_greed h_this_colouring h_m_moves h_m_lights h_m_prices h_m_shares h_m c_made c_machines c_m_states c_m_letters c_m_moves)) (fun _ => rfl) (fun r2 _ H locs hr_ hP hD hS => ?_)
  have hr_ : some h_m = r2 := Eq.symm hr_
  subst hr_
  refine W.eq (g2 := F0 m 5 ls [.ref h_m]) rfl ?_
  have hP : va_P g.1 vwCl (cw_X11_moveOf_s g h_this h_this_machines h_this_word h_this_steps h_this_trail h_this_search h_this_prices h_this_odds h_this_pairs h_this_greed h_this_colouring h_m_moves h_m_lights h_m_prices h_m_shares h_m c_made c_machines c_m_states c_m_letters c_m_moves) H := hP
  have hD : va_D A (cw_X11_moveOf_s g h_this h_this_machines h_this_word h_this_steps h_this_trail h_this_search h_this_prices h_this_odds h_this_pairs h_this_greed h_this_colouring h_m_moves h_m_lights h_m_prices h_m_shares h_m c_made c_machines c_m_states c_m_letters c_m_moves) := hD
  refine lv_astore (lv' := [(4, .ref h_m), (0, .ref h_this), (1, .int x1), (2, .int x2), (3, .int x3)]) hx hb dX11_moveOf_5 hl (by decide) rfl (fun ls hl => ?_)
  refine lv_aload hx hb dX11_moveOf_7 (lv_at hl 0 rfl) ?_
  refine lv_ifnull hx hb dX11_moveOf_9 ?_
  refine lv_aload hx hb dX11_moveOf_12 (lv_at hl 0 rfl) ?_
  refine lv_iload_n hx hb dX11_moveOf_14 rfl (lv_at hl 3 rfl) ?_
  refine go_I E (run_V E ((k_X4_hasState l g h_m h_m_moves h_m_lights h_m_prices h_m_shares h) _) (cwV 1 hts gX11_moveOf_X4_hasState rfl rfl rfl (by decide +kernel) ⟨Nat.le_of_ble_eq_true rfl, Nat.le_of_ble_eq_true rfl⟩) hP hD hS [2] rfl rfl 0 3 rfl rfl rfl hl rfl rfl (Nat.le_of_ble_eq_true rfl) dX11_moveOf_15 ⟨Nat.le_of_ble_eq_true rfl, Nat.le_of_ble_eq_true rfl⟩) hP hD hS [2] rfl [(true, 0), (true, 1), (false, 0), (true, 3)] rfl (by decide) (fun _ => (cw_X11_moveOf_s g h_this h_this_machines h_this_word h_this_steps h_this_trail h_this_search h_this_prices h_this_odds h_this_pairs h_this_greed h_this_colouring h_m_moves h_m_lights h_m_prices h_m_shares h_m c_made c_machines c_m_states c_m_letters c_m_moves)) (fun _ => rfl) (fun r4 _ H locs h hP hD hS => ?_)
  try dsimp only at h
  have hP : va_P g.1 vwCl (cw_X11_moveOf_s g h_this h_this_machines h_this_word h_this_steps h_this_trail h_this_search h_this_prices h_this_odds h_this_pairs h_this_greed h_this_colouring h_m_moves h_m_lights h_m_prices h_m_shares h_m c_made c_machines c_m_states c_m_letters c_m_moves) H := hP
  have hD : va_D A (cw_X11_moveOf_s g h_this h_this_machines h_this_word h_this_steps h_this_trail h_this_search h_this_prices h_this_odds h_this_pairs h_this_greed h_this_colouring h_m_moves h_m_lights h_m_prices h_m_shares h_m c_made c_machines c_m_states c_m_letters c_m_moves) := hD
  refine lv_if_eq (tgt := 30) hx hb dX11_moveOf_18 (by decide) (fun cq => ?_) (fun cq => ?_)
  · replace h := h.1 cq
    refine lv_bipush (v := (-2)) hx hb dX11_moveOf_30 (by decide) ?_
    exact hret (-2) () _ _ _ _ rfl h hP hD hS dX11_moveOf_32
  · replace h := h.2 cq
    refine lv_aload hx hb dX11_moveOf_21 (lv_at hl 0 rfl) ?_
    refine lv_iload_n hx hb dX11_moveOf_23 rfl (lv_at hl 4 rfl) ?_
    refine go_I E (run_V E ((k_X4_hasLetter l g h_m h_m_moves h_m_lights h_m_prices h_m_shares h) _) (cwV 1 hts gX11_moveOf_X4_hasLetter rfl rfl rfl (by decide +kernel) ⟨Nat.le_of_ble_eq_true rfl, Nat.le_of_ble_eq_true rfl⟩) hP hD hS [2] rfl rfl 0 3 rfl rfl rfl hl rfl rfl (Nat.le_of_ble_eq_true rfl) dX11_moveOf_24 ⟨Nat.le_of_ble_eq_true rfl, Nat.le_of_ble_eq_true rfl⟩) hP hD hS [2] rfl [(true, 0), (true, 1), (false, 0), (true, 3)] rfl (by decide) (fun _ => (cw_X11_moveOf_s g h_this h_this_machines h_this_word h_this_steps h_this_trail h_this_search h_this_prices h_this_odds h_this_pairs h_this_greed h_this_colouring h_m_moves h_m_lights h_m_prices h_m_shares h_m c_made c_machines c_m_states c_m_letters c_m_moves)) (fun _ => rfl) (fun r6 _ H locs h hP hD hS => ?_)
    try dsimp only at h
    have hP : va_P g.1 vwCl (cw_X11_moveOf_s g h_this h_this_machines h_this_word h_this_steps h_this_trail h_this_search h_this_prices h_this_odds h_this_pairs h_this_greed h_this_colouring h_m_moves h_m_lights h_m_prices h_m_shares h_m c_made c_machines c_m_states c_m_letters c_m_moves) H := hP
    have hD : va_D A (cw_X11_moveOf_s g h_this h_this_machines h_this_word h_this_steps h_this_trail h_this_search h_this_prices h_this_odds h_this_pairs h_this_greed h_this_colouring h_m_moves h_m_lights h_m_prices h_m_shares h_m c_made c_machines c_m_states c_m_letters c_m_moves) := hD
    refine lv_if_ne (tgt := 33) hx hb dX11_moveOf_27 (by decide) (fun cq => ?_) (fun cq => ?_)
    · replace h := h.1 cq
      refine lv_aload hx hb dX11_moveOf_33 (lv_at hl 0 rfl) ?_
      refine lv_iload_n hx hb dX11_moveOf_35 rfl (lv_at hl 3 rfl) ?_
      refine lv_iload_n hx hb dX11_moveOf_36 rfl (lv_at hl 4 rfl) ?_
      refine go_I E (run_V E ((k_X4_target l g h_m h_m_moves h_m_lights h_m_prices h_m_shares h) _) (cwV 2 hts gX11_moveOf_X4_target rfl rfl rfl (by decide +kernel) ⟨Nat.le_of_ble_eq_true rfl, Nat.le_of_ble_eq_true rfl⟩) hP hD hS [2, 3] rfl rfl 0 3 rfl rfl rfl hl rfl rfl (Nat.le_of_ble_eq_true rfl) dX11_moveOf_37 ⟨Nat.le_of_ble_eq_true rfl, Nat.le_of_ble_eq_true rfl⟩) hP hD hS [2, 3] rfl [(true, 0), (true, 1), (false, 0), (false, 1)] rfl (by decide) (fun _ => (cw_X11_moveOf_s g h_this h_this_machines h_this_word h_this_steps h_this_trail h_this_search h_this_prices h_this_odds h_this_pairs h_this_greed h_this_colouring h_m_moves h_m_lights h_m_prices h_m_shares h_m c_made c_machines c_m_states c_m_letters c_m_moves)) (fun _ => rfl) (fun r8 _ H locs h hP hD hS => ?_)
      try dsimp only at h
      have hP : va_P g.1 vwCl (cw_X11_moveOf_s g h_this h_this_machines h_this_word h_this_steps h_this_trail h_this_search h_this_prices h_this_odds h_this_pairs h_this_greed h_this_colouring h_m_moves h_m_lights h_m_prices h_m_shares h_m c_made c_machines c_m_states c_m_letters c_m_moves) H := hP
      have hD : va_D A (cw_X11_moveOf_s g h_this h_this_machines h_this_word h_this_steps h_this_trail h_this_search h_this_prices h_this_odds h_this_pairs h_this_greed h_this_colouring h_m_moves h_m_lights h_m_prices h_m_shares h_m c_made c_machines c_m_states c_m_letters c_m_moves) := hD
      exact hret r8 () _ _ _ _ rfl h hP hD hS dX11_moveOf_40
    · replace h := h.2 cq
      refine lv_bipush (v := (-2)) hx hb dX11_moveOf_30 (by decide) ?_
      exact hret (-2) () _ _ _ _ rfl h hP hD hS dX11_moveOf_32
abbrev cw_X11_moveOf_n (g : GG) (h_this : Nat) (h_this_machines : Nat) (h_this_word : Nat) (h_this_steps : Nat) (h_this_trail : Nat) (h_this_search : Nat) (h_this_prices : Nat) (h_this_odds : Nat) (h_this_pairs : Nat) (h_this_greed : Nat) (h_this_colouring : Nat) (c_made : Int32) (c_machines : Nat → Option Nat) : va_W := [(h_this, .inr (10, [.ref h_this_machines, .int c_made, .ref h_this_word, .ref h_this_steps, .ref h_this_trail, .ref h_this_search, .ref h_this_prices, .ref h_this_odds, .ref h_this_pairs, .ref h_this_greed, .ref h_this_colouring])), (h_this_machines, .inl (g.2.2.2.2, 6, .inr (.inr (.inr (.inr c_machines)))))]
def wp_X11_moveOf_n (c_made : Int32) (c_machines : Nat → Option Nat) (x1 : Int32) (x2 : Int32) (x3 : Int32) (Q : Int32 → Prop) : Prop :=
    Q (-2)
abbrev rm_X11_moveOf_n : Room := { frames := 1, cells := 0, slots := 0, locals := 21 }
set_option maxHeartbeats 4000000 in
set_option maxRecDepth 100000 in
theorem k_X11_moveOf_n (l : Launch) (g : GG) (h_this : Nat) (h_this_machines : Nat) (h_this_word : Nat) (h_this_steps : Nat) (h_this_trail : Nat) (h_this_search : Nat) (h_this_prices : Nat) (h_this_odds : Nat) (h_this_pairs : Nat) (h_this_greed : Nat) (h_this_colouring : Nat) {c_made : Int32} {c_machines : Nat → Option Nat} {x1 : Int32} {x2 : Int32} {x3 : Int32} {Q : Int32 → Prop} (hm : wp_X11_machineAt c_made c_machines x1 (fun r => r = none)) (h : wp_X11_moveOf_n c_made c_machines x1 x2 x3 Q) : CI l g yX11_moveOf wsX11_moveOf rm_X11_moveOf_n [.ref h_this, .int x1, .int x2, .int x3] (cw_X11_moveOf_n g h_this h_this_machines h_this_word h_this_steps h_this_trail h_this_search h_this_prices h_this_odds h_this_pairs h_this_greed h_this_colouring c_made c_machines) (S := Unit) (fun _ => (cw_X11_moveOf_n g h_this h_this_machines h_this_word h_this_steps h_this_trail h_this_search h_this_prices h_this_odds h_this_pairs h_this_greed h_this_colouring c_made c_machines)) (fun r _ => Q r) 0 0 := by
  refine mk_I (cc := cX11_moveOf) (maxL := 5) (own := RX11) (by decide) rfl rfl (Nat.le_of_ble_eq_true rfl) ?_
  intro p e s m args below meth c A QQ E hret hP hD hS ls hl
  have E2 := E
  obtain ⟨hx, hb, hr, hml, hown, hts, hlocks, hA, hZ, hK, hnm⟩ := E2
  have hP : va_P g.1 vwCl (cw_X11_moveOf_n g h_this h_this_machines h_this_word h_this_steps h_this_trail h_this_search h_this_prices h_this_odds h_this_pairs h_this_greed h_this_colouring c_made c_machines) s.heap := hP
  have hD : va_D A (cw_X11_moveOf_n g h_this h_this_machines h_this_word h_this_steps h_this_trail h_this_search h_this_prices h_this_odds h_this_pairs h_this_greed h_this_colouring c_made c_machines) := hD
  have hl : lv_has ls 5 [(0, .ref h_this), (1, .int x1), (2, .int x2), (3, .int x3)] := hl
  unfold wp_X11_moveOf_n at h
  refine lv_aload_n hx hb dX11_moveOf_0 rfl (lv_at hl 0 rfl) ?_
  refine lv_iload_n hx hb dX11_moveOf_1 rfl (lv_at hl 1 rfl) ?_
  refine go_Q E (run_V E ((k_X11_machineAt l g h_this h_this_machines h_this_word h_this_steps h_this_trail h_this_search h_this_prices h_this_odds h_this_pairs h_this_greed h_this_colouring hm) _) (cwV 1 hts gX11_moveOf_X11_machineAt rfl rfl rfl (by decide +kernel) ⟨Nat.le_of_ble_eq_true rfl, Nat.le_of_ble_eq_true rfl⟩) hP hD hS [0, 1] rfl rfl 0 10 rfl rfl rfl hl rfl rfl (Nat.le_of_ble_eq_true rfl) dX11_moveOf_2 ⟨Nat.le_of_ble_eq_true rfl, Nat.le_of_ble_eq_true rfl⟩) hP hD hS [0, 1] rfl [(false, 0), (false, 1)] rfl (by decide) (fun _ => (cw_X11_moveOf_n g h_this h_this_machines h_this_word h_this_steps h_this_trail h_this_search h_this_prices h_this_odds h_this_pairs h_this_greed h_this_colouring c_made c_machines)) (fun _ => rfl) (fun r2 _ H locs hr_ hP hD hS => ?_)
  have hr_ : none = r2 := Eq.symm hr_
  subst hr_
  refine W.eq (g2 := F0 m 5 ls [.null]) rfl ?_
  have hP : va_P g.1 vwCl (cw_X11_moveOf_n g h_this h_this_machines h_this_word h_this_steps h_this_trail h_this_search h_this_prices h_this_odds h_this_pairs h_this_greed h_this_colouring c_made c_machines) H := hP
  have hD : va_D A (cw_X11_moveOf_n g h_this h_this_machines h_this_word h_this_steps h_this_trail h_this_search h_this_prices h_this_odds h_this_pairs h_this_greed h_this_colouring c_made c_machines) := hD
  refine lv_astoreN (lv' := [(4, .null), (0, .ref h_this), (1, .int x1), (2, .int x2), (3, .int x3)]) hx hb dX11_moveOf_5 hl (by decide) rfl (fun ls hl => ?_)
  refine lv_aloadN hx hb dX11_moveOf_7 (lv_at hl 0 rfl) ?_
  refine lv_ifnullN (tgt := 30) hx hb dX11_moveOf_9 (by decide) ?_
  refine lv_bipush (v := (-2)) hx hb dX11_moveOf_30 (by decide) ?_
  exact hret (-2) () _ _ _ _ rfl h hP hD hS dX11_moveOf_32
abbrev cw_X11_empty (g : GG) (h_this : Nat) (h_this_machines : Nat) (h_this_word : Nat) (h_this_steps : Nat) (h_this_trail : Nat) (h_this_search : Nat) (h_this_prices : Nat) (h_this_odds : Nat) (h_this_pairs : Nat) (h_this_greed : Nat) (h_this_colouring : Nat) (h_this_word_row : Nat) (c_made : Int32) (c_word_length : Int32) : va_W := [(h_this, .inr (10, [.ref h_this_machines, .int c_made, .ref h_this_word, .ref h_this_steps, .ref h_this_trail, .ref h_this_search, .ref h_this_prices, .ref h_this_odds, .ref h_this_pairs, .ref h_this_greed, .ref h_this_colouring])), (h_this_word, .inr (9, [.ref h_this_word_row, .int c_word_length]))]
def wp_X11_empty (c_made : Int32) (c_word_length : Int32) (Q : Int32 → Int32 → Prop) : Prop :=
    wp_X10_clear c_word_length (fun c_word_length_3 => Q c_word_length c_word_length_3)
abbrev rm_X11_empty : Room := { frames := 1, cells := 0, slots := 0, locals := 20 }
set_option maxHeartbeats 4000000 in
set_option maxRecDepth 100000 in
theorem k_X11_empty (l : Launch) (g : GG) (h_this : Nat) (h_this_machines : Nat) (h_this_word : Nat) (h_this_steps : Nat) (h_this_trail : Nat) (h_this_search : Nat) (h_this_prices : Nat) (h_this_odds : Nat) (h_this_pairs : Nat) (h_this_greed : Nat) (h_this_colouring : Nat) (h_this_word_row : Nat) {c_made : Int32} {c_word_length : Int32} {Q : Int32 → Int32 → Prop} (h : wp_X11_empty c_made c_word_length Q) : CI l g yX11_empty wsX11_empty rm_X11_empty [.ref h_this] (cw_X11_empty g h_this h_this_machines h_this_word h_this_steps h_this_trail h_this_search h_this_prices h_this_odds h_this_pairs h_this_greed h_this_colouring h_this_word_row c_made c_word_length) (S := Int32) (fun u => (cw_X11_empty g h_this h_this_machines h_this_word h_this_steps h_this_trail h_this_search h_this_prices h_this_odds h_this_pairs h_this_greed h_this_colouring h_this_word_row c_made u)) (fun r u => Q r u) 0 0 := by
  refine mk_I (cc := cX11_empty) (maxL := 2) (own := RX11) (by decide) rfl rfl (Nat.le_of_ble_eq_true rfl) ?_
  intro p e s m args below meth c A QQ E hret hP hD hS ls hl
  have E2 := E
  obtain ⟨hx, hb, hr, hml, hown, hts, hlocks, hA, hZ, hK, hnm⟩ := E2
  have f18 := hts (.fieldLink RX11 18 "WordBench" "word" "LWordBench$Word;") (by decide +kernel)
  have iX11 : ∀ w ∈ wsX110, w ∈ wsX11_empty := fun _ h => List.mem_cons_of_mem _ (List.mem_append_left _ (List.mem_append_right _ h))
  have hP : va_P g.1 vwCl (cw_X11_empty g h_this h_this_machines h_this_word h_this_steps h_this_trail h_this_search h_this_prices h_this_odds h_this_pairs h_this_greed h_this_colouring h_this_word_row c_made c_word_length) s.heap := hP
  have hD : va_D A (cw_X11_empty g h_this h_this_machines h_this_word h_this_steps h_this_trail h_this_search h_this_prices h_this_odds h_this_pairs h_this_greed h_this_colouring h_this_word_row c_made c_word_length) := hD
  have hl : lv_has ls 2 [(0, .ref h_this)] := hl
  unfold wp_X11_empty at h
  refine lv_aload_n hx hb dX11_empty_0 rfl (lv_at hl 0 rfl) ?_
  refine va_get (D := g.1) (ci := 10) (v := .ref h_this_word) (C := RX11) (T := TX11) (N := 11) hx hb hts iX11 hown hK hP 0 rfl rfl 2 (by decide) f18 (fun _ h9 => h9) rfl dX11_empty_1 ?_
  refine go_I E (run_V E ((k_X10_length l g h_this_word h_this_word_row (Q := fun r => r = c_word_length) rfl) _) (cwV 0 hts gX11_empty_X10_length rfl rfl rfl (by decide +kernel) ⟨Nat.le_of_ble_eq_true rfl, Nat.le_of_ble_eq_true rfl⟩) hP hD hS [1] rfl rfl 0 9 rfl rfl rfl hl rfl rfl (Nat.le_of_ble_eq_true rfl) dX11_empty_4 ⟨Nat.le_of_ble_eq_true rfl, Nat.le_of_ble_eq_true rfl⟩) hP hD hS [1] rfl [(true, 0), (false, 0)] rfl (by decide) (fun _ => (cw_X11_empty g h_this h_this_machines h_this_word h_this_steps h_this_trail h_this_search h_this_prices h_this_odds h_this_pairs h_this_greed h_this_colouring h_this_word_row c_made c_word_length)) (fun _ => rfl) (fun r2 _ H locs hr_ hP hD hS => ?_)
  have hr_ : c_word_length = r2 := Eq.symm hr_
  subst hr_
  have hP : va_P g.1 vwCl (cw_X11_empty g h_this h_this_machines h_this_word h_this_steps h_this_trail h_this_search h_this_prices h_this_odds h_this_pairs h_this_greed h_this_colouring h_this_word_row c_made c_word_length) H := hP
  have hD : va_D A (cw_X11_empty g h_this h_this_machines h_this_word h_this_steps h_this_trail h_this_search h_this_prices h_this_odds h_this_pairs h_this_greed h_this_colouring h_this_word_row c_made c_word_length) := hD
  refine lv_istore_n (lv' := [(1, .int c_word_length), (0, .ref h_this)]) hx hb dX11_empty_7 rfl hl (by decide) rfl (fun ls hl => ?_)
  refine lv_aload_n hx hb dX11_empty_8 rfl (lv_at hl 1 rfl) ?_
  refine va_get (D := g.1) (ci := 10) (v := .ref h_this_word) (C := RX11) (T := TX11) (N := 11) hx hb hts iX11 hown hK hP 0 rfl rfl 2 (by decide) f18 (fun _ h9 => h9) rfl dX11_empty_9 ?_
  refine go_V E (run_V E ((k_X10_clear l g h_this_word h_this_word_row h) _) (cwV 0 hts gX11_empty_X10_clear rfl rfl rfl (by decide +kernel) ⟨Nat.le_of_ble_eq_true rfl, Nat.le_of_ble_eq_true rfl⟩) hP hD hS [1] rfl rfl 0 9 rfl rfl rfl hl rfl rfl (Nat.le_of_ble_eq_true rfl) dX11_empty_12 ⟨Nat.le_of_ble_eq_true rfl, Nat.le_of_ble_eq_true rfl⟩) hP hD hS [1] rfl [(true, 0), (false, 0)] rfl (by decide) (fun u => (cw_X11_empty g h_this h_this_machines h_this_word h_this_steps h_this_trail h_this_search h_this_prices h_this_odds h_this_pairs h_this_greed h_this_colouring h_this_word_row c_made u)) (fun _ => rfl) (fun c_word_length_3 H locs h hP hD hS => ?_)
  try dsimp only at h
  have hP : va_P g.1 vwCl (cw_X11_empty g h_this h_this_machines h_this_word h_this_steps h_this_trail h_this_search h_this_prices h_this_odds h_this_pairs h_this_greed h_this_colouring h_this_word_row c_made c_word_length_3) H := hP
  have hD : va_D A (cw_X11_empty g h_this h_this_machines h_this_word h_this_steps h_this_trail h_this_search h_this_prices h_this_odds h_this_pairs h_this_greed h_this_colouring h_this_word_row c_made c_word_length_3) := hD
  refine lv_iload_n hx hb dX11_empty_15 rfl (lv_at hl 0 rfl) ?_
  exact hret c_word_length c_word_length_3 _ _ _ _ rfl h hP hD hS dX11_empty_16
abbrev cw_X11_letter (g : GG) (h_this : Nat) (h_this_machines : Nat) (h_this_word : Nat) (h_this_steps : Nat) (h_this_trail : Nat) (h_this_search : Nat) (h_this_prices : Nat) (h_this_odds : Nat) (h_this_pairs : Nat) (h_this_greed : Nat) (h_this_colouring : Nat) (h_this_word_row : Nat) (c_made : Int32) (c_word_length : Int32) (c_word_row : Nat → Int32) : va_W := [(h_this, .inr (10, [.ref h_this_machines, .int c_made, .ref h_this_word, .ref h_this_steps, .ref h_this_trail, .ref h_this_search, .ref h_this_prices, .ref h_this_odds, .ref h_this_pairs, .ref h_this_greed, .ref h_this_colouring])), (h_this_word, .inr (9, [.ref h_this_word_row, .int c_word_length])), (h_this_word_row, .inl (g.2.1, 600, .inl c_word_row))]
def wp_X11_letter (c_made : Int32) (c_word_length : Int32) (c_word_row : Nat → Int32) (x1 : Int32) (Q : Int32 → Int32 → (Nat → Int32) → Prop) : Prop :=
    ((x1 < (nI 0) → Q (-2) c_word_length c_word_row) ∧ (¬ x1 < (nI 0) → ((x1 < (nI 4) → wp_X10_append c_word_length c_word_row x1 (fun r2 c_word_length c_word_row => ((r2 = (nI 0) → Q (-4) c_word_length c_word_row) ∧ (¬ r2 = (nI 0) → Q c_word_length c_word_length c_word_row)))) ∧ (¬ x1 < (nI 4) → Q (-2) c_word_length c_word_row))))
abbrev rm_X11_letter : Room := { frames := 1, cells := 0, slots := 0, locals := 21 }
set_option maxHeartbeats 4000000 in
set_option maxRecDepth 100000 in
theorem k_X11_letter (l : Launch) (g : GG) (h_this : Nat) (h_this_machines : Nat) (h_this_word : Nat) (h_this_steps : Nat) (h_this_trail : Nat) (h_this_search : Nat) (h_this_prices : Nat) (h_this_odds : Nat) (h_this_pairs : Nat) (h_this_greed : Nat) (h_this_colouring : Nat) (h_this_word_row : Nat) {c_made : Int32} {c_word_length : Int32} {c_word_row : Nat → Int32} {x1 : Int32} {Q : Int32 → Int32 → (Nat → Int32) → Prop} (h : wp_X11_letter c_made c_word_length c_word_row x1 Q) : CI l g yX11_letter wsX11_letter rm_X11_letter [.ref h_this, .int x1] (cw_X11_letter g h_this h_this_machines h_this_word h_this_steps h_this_trail h_this_search h_this_prices h_this_odds h_this_pairs h_this_greed h_this_colouring h_this_word_row c_made c_word_length c_word_row) (S := Int32 × (Nat → Int32)) (fun u => (cw_X11_letter g h_this h_this_machines h_this_word h_this_steps h_this_trail h_this_search h_this_prices h_this_odds h_this_pairs h_this_greed h_this_colouring h_this_word_row c_made u.1 u.2)) (fun r u => Q r u.1 u.2) 0 0 := by
  refine mk_I (cc := cX11_letter) (maxL := 2) (own := RX11) (by decide) rfl rfl (Nat.le_of_ble_eq_true rfl) ?_
  intro p e s m args below meth c A QQ E hret hP hD hS ls hl
  have E2 := E
  obtain ⟨hx, hb, hr, hml, hown, hts, hlocks, hA, hZ, hK, hnm⟩ := E2
  have f18 := hts (.fieldLink RX11 18 "WordBench" "word" "LWordBench$Word;") (by decide +kernel)
  have iX11 : ∀ w ∈ wsX110, w ∈ wsX11_letter := fun _ h => List.mem_cons_of_mem _ (List.mem_append_left _ (List.mem_append_right _ h))
  have hP : va_P g.1 vwCl (cw_X11_letter g h_this h_this_machines h_this_word h_this_steps h_this_trail h_this_search h_this_prices h_this_odds h_this_pairs h_this_greed h_this_colouring h_this_word_row c_made c_word_length c_word_row) s.heap := hP
  have hD : va_D A (cw_X11_letter g h_this h_this_machines h_this_word h_this_steps h_this_trail h_this_search h_this_prices h_this_odds h_this_pairs h_this_greed h_this_colouring h_this_word_row c_made c_word_length c_word_row) := hD
  have hl : lv_has ls 2 [(0, .ref h_this), (1, .int x1)] := hl
  unfold wp_X11_letter at h
  refine lv_iload_n hx hb dX11_letter_0 rfl (lv_at hl 1 rfl) ?_
  refine lv_if_lt (tgt := 9) hx hb dX11_letter_1 (by decide) (fun cq => ?_) (fun cq => ?_)
  · replace h := h.1 cq
    refine lv_bipush (v := (-2)) hx hb dX11_letter_9 (by decide) ?_
    exact hret (-2) (c_word_length, c_word_row) _ _ _ _ rfl h hP hD hS dX11_letter_11
  · replace h := h.2 cq
    refine lv_iload_n hx hb dX11_letter_4 rfl (lv_at hl 1 rfl) ?_
    refine lv_iconst (v := (nI 4)) hx hb dX11_letter_5 (by decide) ?_
    refine lv_icmp_lt (tgt := 12) hx hb dX11_letter_6 (by decide) (fun cq => ?_) (fun cq => ?_)
    · replace h := h.1 cq
      refine lv_aload_n hx hb dX11_letter_12 rfl (lv_at hl 0 rfl) ?_
      refine va_get (D := g.1) (ci := 10) (v := .ref h_this_word) (C := RX11) (T := TX11) (N := 11) hx hb hts iX11 hown hK hP 0 rfl rfl 2 (by decide) f18 (fun _ h9 => h9) rfl dX11_letter_13 ?_
      refine lv_iload_n hx hb dX11_letter_16 rfl (lv_at hl 1 rfl) ?_
      refine go_I E (run_V E ((k_X10_append l g h_this_word h_this_word_row h) _) (cwV 1 hts gX11_letter_X10_append rfl rfl rfl (by decide +kernel) ⟨Nat.le_of_ble_eq_true rfl, Nat.le_of_ble_eq_true rfl⟩) hP hD hS [1, 2] rfl rfl 0 9 rfl rfl rfl hl rfl rfl (Nat.le_of_ble_eq_true rfl) dX11_letter_17 ⟨Nat.le_of_ble_eq_true rfl, Nat.le_of_ble_eq_true rfl⟩) hP hD hS [1, 2] rfl [(true, 0), (false, 0), (false, 1)] rfl (by decide) (fun u => (cw_X11_letter g h_this h_this_machines h_this_word h_this_steps h_this_trail h_this_search h_this_prices h_this_odds h_this_pairs h_this_greed h_this_colouring h_this_word_row c_made u.1 u.2)) (fun _ => rfl) (fun r2 u H locs h hP hD hS => ?_)
      obtain ⟨c_word_length, c_word_row⟩ := u
      try dsimp only at h
      have hP : va_P g.1 vwCl (cw_X11_letter g h_this h_this_machines h_this_word h_this_steps h_this_trail h_this_search h_this_prices h_this_odds h_this_pairs h_this_greed h_this_colouring h_this_word_row c_made c_word_length c_word_row) H := hP
      have hD : va_D A (cw_X11_letter g h_this h_this_machines h_this_word h_this_steps h_this_trail h_this_search h_this_prices h_this_odds h_this_pairs h_this_greed h_this_colouring h_this_word_row c_made c_word_length c_word_row) := hD
      refine lv_if_eq (tgt := 33) hx hb dX11_letter_20 (by decide) (fun cq => ?_) (fun cq => ?_)
      · replace h := h.1 cq
        refine lv_bipush (v := (-4)) hx hb dX11_letter_33 (by decide) ?_
        exact hret (-4) (c_word_length, c_word_row) _ _ _ _ rfl h hP hD hS dX11_letter_35
      · replace h := h.2 cq
        refine lv_aload_n hx hb dX11_letter_23 rfl (lv_at hl 0 rfl) ?_
        refine va_get (D := g.1) (ci := 10) (v := .ref h_this_word) (C := RX11) (T := TX11) (N := 11) hx hb hts iX11 hown hK hP 0 rfl rfl 2 (by decide) f18 (fun _ h9 => h9) rfl dX11_letter_24 ?_
        refine go_I E (run_V E ((k_X10_length l g h_this_word h_this_word_row (Q := fun r => r = c_word_length) rfl) _) (cwV 0 hts gX11_letter_X10_length rfl rfl rfl (by decide +kernel) ⟨Nat.le_of_ble_eq_true rfl, Nat.le_of_ble_eq_true rfl⟩) hP hD hS [1] rfl rfl 0 9 rfl rfl rfl hl rfl rfl (Nat.le_of_ble_eq_true rfl) dX11_letter_27 ⟨Nat.le_of_ble_eq_true rfl, Nat.le_of_ble_eq_true rfl⟩) hP hD hS [1] rfl [(true, 0), (false, 0), (true, 2)] rfl (by decide) (fun _ => (cw_X11_letter g h_this h_this_machines h_this_word h_this_steps h_this_trail h_this_search h_this_prices h_this_odds h_this_pairs h_this_greed h_this_colouring h_this_word_row c_made c_word_length c_word_row)) (fun _ => rfl) (fun r4 _ H locs hr_ hP hD hS => ?_)
        have hr_ : c_word_length = r4 := Eq.symm hr_
        subst hr_
        have hP : va_P g.1 vwCl (cw_X11_letter g h_this h_this_machines h_this_word h_this_steps h_this_trail h_this_search h_this_prices h_this_odds h_this_pairs h_this_greed h_this_colouring h_this_word_row c_made c_word_length c_word_row) H := hP
        have hD : va_D A (cw_X11_letter g h_this h_this_machines h_this_word h_this_steps h_this_trail h_this_search h_this_prices h_this_odds h_this_pairs h_this_greed h_this_colouring h_this_word_row c_made c_word_length c_word_row) := hD
        refine lv_goto (tgt := 35) hx hb dX11_letter_30 (by decide) ?_
        exact hret c_word_length (c_word_length, c_word_row) _ _ _ _ rfl h hP hD hS dX11_letter_35
    · replace h := h.2 cq
      refine lv_bipush (v := (-2)) hx hb dX11_letter_9 (by decide) ?_
      exact hret (-2) (c_word_length, c_word_row) _ _ _ _ rfl h hP hD hS dX11_letter_11
abbrev cw_X11_letterAt (g : GG) (h_this : Nat) (h_this_machines : Nat) (h_this_word : Nat) (h_this_steps : Nat) (h_this_trail : Nat) (h_this_search : Nat) (h_this_prices : Nat) (h_this_odds : Nat) (h_this_pairs : Nat) (h_this_greed : Nat) (h_this_colouring : Nat) (h_this_word_row : Nat) (c_made : Int32) (c_word_length : Int32) (c_word_row : Nat → Int32) : va_W := [(h_this, .inr (10, [.ref h_this_machines, .int c_made, .ref h_this_word, .ref h_this_steps, .ref h_this_trail, .ref h_this_search, .ref h_this_prices, .ref h_this_odds, .ref h_this_pairs, .ref h_this_greed, .ref h_this_colouring])), (h_this_word, .inr (9, [.ref h_this_word_row, .int c_word_length])), (h_this_word_row, .inl (g.2.1, 600, .inl c_word_row))]
def wp_X11_letterAt (c_made : Int32) (c_word_length : Int32) (c_word_row : Nat → Int32) (x1 : Int32) (Q : Int32 → Prop) : Prop :=
    wp_X10_at c_word_length c_word_row x1 (fun r2 => Q r2)
abbrev rm_X11_letterAt : Room := { frames := 1, cells := 0, slots := 0, locals := 21 }
set_option maxHeartbeats 4000000 in
set_option maxRecDepth 100000 in
theorem k_X11_letterAt (l : Launch) (g : GG) (h_this : Nat) (h_this_machines : Nat) (h_this_word : Nat) (h_this_steps : Nat) (h_this_trail : Nat) (h_this_search : Nat) (h_this_prices : Nat) (h_this_odds : Nat) (h_this_pairs : Nat) (h_this_greed : Nat) (h_this_colouring : Nat) (h_this_word_row : Nat) {c_made : Int32} {c_word_length : Int32} {c_word_row : Nat → Int32} {x1 : Int32} {Q : Int32 → Prop} (h : wp_X11_letterAt c_made c_word_length c_word_row x1 Q) : CI l g yX11_letterAt wsX11_letterAt rm_X11_letterAt [.ref h_this, .int x1] (cw_X11_letterAt g h_this h_this_machines h_this_word h_this_steps h_this_trail h_this_search h_this_prices h_this_odds h_this_pairs h_this_greed h_this_colouring h_this_word_row c_made c_word_length c_word_row) (S := Unit) (fun _ => (cw_X11_letterAt g h_this h_this_machines h_this_word h_this_steps h_this_trail h_this_search h_this_prices h_this_odds h_this_pairs h_this_greed h_this_colouring h_this_word_row c_made c_word_length c_word_row)) (fun r _ => Q r) 0 0 := by
  refine mk_I (cc := cX11_letterAt) (maxL := 2) (own := RX11) (by decide) rfl rfl (Nat.le_of_ble_eq_true rfl) ?_
  intro p e s m args below meth c A QQ E hret hP hD hS ls hl
  have E2 := E
  obtain ⟨hx, hb, hr, hml, hown, hts, hlocks, hA, hZ, hK, hnm⟩ := E2
  have f18 := hts (.fieldLink RX11 18 "WordBench" "word" "LWordBench$Word;") (by decide +kernel)
  have iX11 : ∀ w ∈ wsX110, w ∈ wsX11_letterAt := fun _ h => List.mem_cons_of_mem _ (List.mem_append_left _ (List.mem_append_right _ h))
  have hP : va_P g.1 vwCl (cw_X11_letterAt g h_this h_this_machines h_this_word h_this_steps h_this_trail h_this_search h_this_prices h_this_odds h_this_pairs h_this_greed h_this_colouring h_this_word_row c_made c_word_length c_word_row) s.heap := hP
  have hD : va_D A (cw_X11_letterAt g h_this h_this_machines h_this_word h_this_steps h_this_trail h_this_search h_this_prices h_this_odds h_this_pairs h_this_greed h_this_colouring h_this_word_row c_made c_word_length c_word_row) := hD
  have hl : lv_has ls 2 [(0, .ref h_this), (1, .int x1)] := hl
  unfold wp_X11_letterAt at h
  refine lv_aload_n hx hb dX11_letterAt_0 rfl (lv_at hl 0 rfl) ?_
  refine va_get (D := g.1) (ci := 10) (v := .ref h_this_word) (C := RX11) (T := TX11) (N := 11) hx hb hts iX11 hown hK hP 0 rfl rfl 2 (by decide) f18 (fun _ h9 => h9) rfl dX11_letterAt_1 ?_
  refine lv_iload_n hx hb dX11_letterAt_4 rfl (lv_at hl 1 rfl) ?_
  refine go_I E (run_V E ((k_X10_at l g h_this_word h_this_word_row h) _) (cwV 1 hts gX11_letterAt_X10_at rfl rfl rfl (by decide +kernel) ⟨Nat.le_of_ble_eq_true rfl, Nat.le_of_ble_eq_true rfl⟩) hP hD hS [1, 2] rfl rfl 0 9 rfl rfl rfl hl rfl rfl (Nat.le_of_ble_eq_true rfl) dX11_letterAt_5 ⟨Nat.le_of_ble_eq_true rfl, Nat.le_of_ble_eq_true rfl⟩) hP hD hS [1, 2] rfl [(true, 0), (false, 0), (false, 1)] rfl (by decide) (fun _ => (cw_X11_letterAt g h_this h_this_machines h_this_word h_this_steps h_this_trail h_this_search h_this_prices h_this_odds h_this_pairs h_this_greed h_this_colouring h_this_word_row c_made c_word_length c_word_row)) (fun _ => rfl) (fun r2 _ H locs h hP hD hS => ?_)
  try dsimp only at h
  have hP : va_P g.1 vwCl (cw_X11_letterAt g h_this h_this_machines h_this_word h_this_steps h_this_trail h_this_search h_this_prices h_this_odds h_this_pairs h_this_greed h_this_colouring h_this_word_row c_made c_word_length c_word_row) H := hP
  have hD : va_D A (cw_X11_letterAt g h_this h_this_machines h_this_word h_this_steps h_this_trail h_this_search h_this_prices h_this_odds h_this_pairs h_this_greed h_this_colouring h_this_word_row c_made c_word_length c_word_row) := hD
  exact hret r2 () _ _ _ _ rfl h hP hD hS dX11_letterAt_8
abbrev cw_X11_goes_s (g : GG) (h_this : Nat) (h_this_machines : Nat) (h_this_word : Nat) (h_this_steps : Nat) (h_this_trail : Nat) (h_this_search : Nat) (h_this_prices : Nat) (h_this_odds : Nat) (h_this_pairs : Nat) (h_this_greed : Nat) (h_this_colouring : Nat) (h_this_word_row : Nat) (h_this_steps_low : Nat) (h_this_steps_high : Nat) (h_m_moves : Nat) (h_m_lights : Nat) (h_m_prices : Nat) (h_m_shares : Nat) (h_m : Nat) (c_made : Int32) (c_machines : Nat → Option Nat) (c_word_length : Int32) (c_word_row : Nat → Int32) (c_steps_letters : Int32) (c_steps_low : Nat → Int32) (c_steps_high : Nat → Int32) (c_m_states : Int32) (c_m_letters : Int32) (c_m_moves : Nat → Int32) : va_W := [(h_this, .inr (10, [.ref h_this_machines, .int c_made, .ref h_this_word, .ref h_this_steps, .ref h_this_trail, .ref h_this_search, .ref h_this_prices, .ref h_this_odds, .ref h_this_pairs, .ref h_this_greed, .ref h_this_colouring])), (h_this_machines, .inl (g.2.2.2.2, 6, .inr (.inr (.inr (.inr c_machines))))), (h_this_word, .inr (9, [.ref h_this_word_row, .int c_word_length])), (h_this_word_row, .inl (g.2.1, 600, .inl c_word_row)), (h_this_steps, .inr (7, [.ref h_this_steps_low, .ref h_this_steps_high, .int c_steps_letters])), (h_this_steps_low, .inl (g.2.1, 256, .inl c_steps_low)), (h_this_steps_high, .inl (g.2.1, 256, .inl c_steps_high)), (h_m, .inr (3, [.int c_m_states, .int c_m_letters, .ref h_m_moves, .ref h_m_lights, .ref h_m_prices, .ref h_m_shares])), (h_m_moves, .inl (g.2.1, 48, .inl c_m_moves))]
def wp_X11_goes_s (c_made : Int32) (c_machines : Nat → Option Nat) (c_word_length : Int32) (c_word_row : Nat → Int32) (c_steps_letters : Int32) (c_steps_low : Nat → Int32) (c_steps_high : Nat → Int32) (c_m_states : Int32) (c_m_letters : Int32) (c_m_moves : Nat → Int32) (x1 : Int32) (x2 : Int32) (Q : Int32 → Int32 → (Nat → Int32) → (Nat → Int32) → Prop) : Prop :=
    wp_X4_hasSet c_m_states c_m_letters x2 (fun r4 => ((r4 = (nI 0) → Q (-2) c_steps_letters c_steps_low c_steps_high) ∧ (¬ r4 = (nI 0) → wp_X10_isOf c_word_length c_word_row c_m_states c_m_letters (fun r6 => ((¬ r6 = (nI 0) → wp_X8_load c_steps_letters c_steps_low c_steps_high c_m_states c_m_letters c_m_moves (fun c_steps_letters c_steps_low c_steps_high => wp_X8_afterWord c_steps_letters c_steps_low c_steps_high c_word_length c_word_row x2 (fun r10 => ((¬ r10 = (nI 0) → Q r10 c_steps_letters c_steps_low c_steps_high) ∧ (r10 = (nI 0) → Q (-1) c_steps_letters c_steps_low c_steps_high))))) ∧ (r6 = (nI 0) → Q (-2) c_steps_letters c_steps_low c_steps_high))))))
abbrev rm_X11_goes_s : Room := { frames := 3, cells := 0, slots := 0, locals := 75 }
set_option maxHeartbeats 4000000 in
set_option maxRecDepth 100000 in
theorem k_X11_goes_s (l : Launch) (g : GG) (h_this : Nat) (h_this_machines : Nat) (h_this_word : Nat) (h_this_steps : Nat) (h_this_trail : Nat) (h_this_search : Nat) (h_this_prices : Nat) (h_this_odds : Nat) (h_this_pairs : Nat) (h_this_greed : Nat) (h_this_colouring : Nat) (h_this_word_row : Nat) (h_this_steps_low : Nat) (h_this_steps_high : Nat) (h_m_moves : Nat) (h_m_lights : Nat) (h_m_prices : Nat) (h_m_shares : Nat) (h_m : Nat) {c_made : Int32} {c_machines : Nat → Option Nat} {c_word_length : Int32} {c_word_row : Nat → Int32} {c_steps_letters : Int32} {c_steps_low : Nat → Int32} {c_steps_high : Nat → Int32} {c_m_states : Int32} {c_m_letters : Int32} {c_m_moves : Nat → Int32} {x1 : Int32} {x2 : Int32} {Q : Int32 → Int32 → (Nat → Int32) → (Nat → Int32) → Prop} (hm : wp_X11_machineAt c_made c_machines x1 (fun r => r = some h_m)) (h : wp_X11_goes_s c_made c_machines c_word_length c_word_row c_steps_letters c_steps_low c_steps_high c_m_states c_m_letters c_m_moves x1 x2 Q) : CI l g yX11_goes wsX11_goes rm_X11_goes_s [.ref h_this, .int x1, .int x2] (cw_X11_goes_s g h_this h_this_machines h_this_word h_this_steps h_this_trail h_this_search h_this_prices h_this_odds h_this_pairs h_this_greed h_this_colouring h_this_word_row h_this_steps_low h_this_steps_high h_m_moves h_m_lights h_m_prices h_m_shares h_m c_made c_machines c_word_length c_word_row c_steps_letters c_steps_low c_steps_high c_m_states c_m_letters c_m_moves) (S := Int32 × (Nat → Int32) × (Nat → Int32)) (fun u => (cw_X11_goes_s g h_this h_this_machines h_this_word h_this_steps h_this_trail h_this_search h_this_prices h_this_odds h_this_pairs h_this_greed h_this_colouring h_this_word_row h_this_steps_low h_this_steps_high h_m_moves h_m_lights h_m_prices h_m_shares h_m c_made c_machines c_word_length c_word_row u.1 u.2.1 u.2.2 c_m_states c_m_letters c_m_moves)) (fun r u => Q r u.1 u.2.1 u.2.2) 0 0 := by
  refine mk_I (cc := cX11_goes) (maxL := 5) (own := RX11) (by decide) rfl rfl (Nat.le_of_ble_eq_true rfl) ?_
  intro p e s m args below meth c A QQ E hret hP hD hS ls hl
  have E2 := E
  obtain ⟨hx, hb, hr, hml, hown, hts, hlocks, hA, hZ, hK, hnm⟩ := E2
  have f18 := hts (.fieldLink RX11 18 "WordBench" "word" "LWordBench$Word;") (by decide +kernel)
  have f25 := hts (.fieldLink RX11 25 "WordBench" "steps" "LWordBench$Steps;") (by decide +kernel)
  have iX11 : ∀ w ∈ wsX110, w ∈ wsX11_goes := fun _ h => List.mem_cons_of_mem _ (List.mem_append_left _ (List.mem_append_left _ (List.mem_append_left _ (List.mem_append_right _ h))))
  have hP : va_P g.1 vwCl (cw_X11_goes_s g h_this h_this_machines h_this_word h_this_steps h_this_trail h_this_search h_this_prices h_this_odds h_this_pairs h_this_greed h_this_colouring h_this_word_row h_this_steps_low h_this_steps_high h_m_moves h_m_lights h_m_prices h_m_shares h_m c_made c_machines c_word_length c_word_row c_steps_letters c_steps_low c_steps_high c_m_states c_m_letters c_m_moves) s.heap := hP
  have hD : va_D A (cw_X11_goes_s g h_this h_this_machines h_this_word h_this_steps h_this_trail h_this_search h_this_prices h_this_odds h_this_pairs h_this_greed h_this_colouring h_this_word_row h_this_steps_low h_this_steps_high h_m_moves h_m_lights h_m_prices h_m_shares h_m c_made c_machines c_word_length c_word_row c_steps_letters c_steps_low c_steps_high c_m_states c_m_letters c_m_moves) := hD
  have hl : lv_has ls 5 [(0, .ref h_this), (1, .int x1), (2, .int x2)] := hl
  unfold wp_X11_goes_s at h
  refine lv_aload_n hx hb dX11_goes_0 rfl (lv_at hl 0 rfl) ?_
  refine lv_iload_n hx hb dX11_goes_1 rfl (lv_at hl 1 rfl) ?_
  refine go_Q E (run_V E ((k_X11_machineAt l g h_this h_this_machines h_this_word h_this_steps h_this_trail h_this_search h_this_prices h_this_odds h_this_pairs h_this_greed h_this_colouring hm) _) (cwV 1 hts gX11_goes_X11_machineAt rfl rfl rfl (by decide +kernel) ⟨Nat.le_of_ble_eq_true rfl, Nat.le_of_ble_eq_true rfl⟩) hP hD hS [0, 1] rfl rfl 0 10 rfl rfl rfl hl rfl rfl (Nat.le_of_ble_eq_true rfl) dX11_goes_2 ⟨Nat.le_of_ble_eq_true rfl, Nat.le_of_ble_eq_true rfl⟩) hP hD hS [0, 1] rfl [(false, 0), (false, 1), (true, 2), (true, 3), (true, 4), (true, 5), (true, 6), (true, 7), (true, 8)] rfl (by decide) (fun _ => (cw_X11_goes_s g h_this h_this_machines h_this_word h_this_steps h_this_trail h_this_search h_this_prices h_this_odds h_this_pairs h_this_greed h_this_colouring h_this_word_row h_this_steps_low h_this_steps_high h_m_moves h_m_lights h_m_prices h_m_shares h_m c_made c_machines c_word_length c_word_row c_steps_letters c_steps_low c_steps_high c_m_states c_m_letters c_m_moves)) (fun _ => rfl) (fun r2 _ H locs hr_ hP hD hS => ?_)
  have hr_ : some h_m = r2 := Eq.symm hr_
  subst hr_
  refine W.eq (g2 := F0 m 5 ls [.ref h_m]) rfl ?_
  have hP : va_P g.1 vwCl (cw_X11_goes_s g h_this h_this_machines h_this_word h_this_steps h_this_trail h_this_search h_this_prices h_this_odds h_this_pairs h_this_greed h_this_colouring h_this_word_row h_this_steps_low h_this_steps_high h_m_moves h_m_lights h_m_prices h_m_shares h_m c_made c_machines c_word_length c_word_row c_steps_letters c_steps_low c_steps_high c_m_states c_m_letters c_m_moves) H := hP
  have hD : va_D A (cw_X11_goes_s g h_this h_this_machines h_this_word h_this_steps h_this_trail h_this_search h_this_prices h_this_odds h_this_pairs h_this_greed h_this_colouring h_this_word_row h_this_steps_low h_this_steps_high h_m_moves h_m_lights h_m_prices h_m_shares h_m c_made c_machines c_word_length c_word_row c_steps_letters c_steps_low c_steps_high c_m_states c_m_letters c_m_moves) := hD
  refine lv_astore_n (lv' := [(3, .ref h_m), (0, .ref h_this), (1, .int x1), (2, .int x2)]) hx hb dX11_goes_5 rfl hl (by decide) rfl (fun ls hl => ?_)
  refine lv_aload_n hx hb dX11_goes_6 rfl (lv_at hl 0 rfl) ?_
  refine lv_ifnull hx hb dX11_goes_7 ?_
  refine lv_aload_n hx hb dX11_goes_10 rfl (lv_at hl 0 rfl) ?_
  refine lv_iload_n hx hb dX11_goes_11 rfl (lv_at hl 3 rfl) ?_
  refine go_I E (run_V E ((k_X4_hasSet l g h_m h_m_moves h_m_lights h_m_prices h_m_shares h) _) (cwV 1 hts gX11_goes_X4_hasSet rfl rfl rfl (by decide +kernel) ⟨Nat.le_of_ble_eq_true rfl, Nat.le_of_ble_eq_true rfl⟩) hP hD hS [7] rfl rfl 0 3 rfl rfl rfl hl rfl rfl (Nat.le_of_ble_eq_true rfl) dX11_goes_12 ⟨Nat.le_of_ble_eq_true rfl, Nat.le_of_ble_eq_true rfl⟩) hP hD hS [7] rfl [(true, 0), (true, 1), (true, 2), (true, 3), (true, 4), (true, 5), (true, 6), (false, 0), (true, 8)] rfl (by decide) (fun _ => (cw_X11_goes_s g h_this h_this_machines h_this_word h_this_steps h_this_trail h_this_search h_this_prices h_this_odds h_this_pairs h_this_greed h_this_colouring h_this_word_row h_this_steps_low h_this_steps_high h_m_moves h_m_lights h_m_prices h_m_shares h_m c_made c_machines c_word_length c_word_row c_steps_letters c_steps_low c_steps_high c_m_states c_m_letters c_m_moves)) (fun _ => rfl) (fun r4 _ H locs h hP hD hS => ?_)
  try dsimp only at h
  have hP : va_P g.1 vwCl (cw_X11_goes_s g h_this h_this_machines h_this_word h_this_steps h_this_trail h_this_search h_this_prices h_this_odds h_this_pairs h_this_greed h_this_colouring h_this_word_row h_this_steps_low h_this_steps_high h_m_moves h_m_lights h_m_prices h_m_shares h_m c_made c_machines c_word_length c_word_row c_steps_letters c_steps_low c_steps_high c_m_states c_m_letters c_m_moves) H := hP
  have hD : va_D A (cw_X11_goes_s g h_this h_this_machines h_this_word h_this_steps h_this_trail h_this_search h_this_prices h_this_odds h_this_pairs h_this_greed h_this_colouring h_this_word_row h_this_steps_low h_this_steps_high h_m_moves h_m_lights h_m_prices h_m_shares h_m c_made c_machines c_word_length c_word_row c_steps_letters c_steps_low c_steps_high c_m_states c_m_letters c_m_moves) := hD
  refine lv_if_eq (tgt := 29) hx hb dX11_goes_15 (by decide) (fun cq => ?_) (fun cq => ?_)
  · replace h := h.1 cq
    refine lv_bipush (v := (-2)) hx hb dX11_goes_29 (by decide) ?_
    exact hret (-2) (c_steps_letters, c_steps_low, c_steps_high) _ _ _ _ rfl h hP hD hS dX11_goes_31
  · replace h := h.2 cq
    refine lv_aload_n hx hb dX11_goes_18 rfl (lv_at hl 1 rfl) ?_
    refine va_get (D := g.1) (ci := 10) (v := .ref h_this_word) (C := RX11) (T := TX11) (N := 11) hx hb hts iX11 hown hK hP 0 rfl rfl 2 (by decide) f18 (fun _ h9 => h9) rfl dX11_goes_19 ?_
    refine lv_aload_n hx hb dX11_goes_22 rfl (lv_at hl 0 rfl) ?_
    refine go_I E (run_V E ((k_X10_isOf l g h_this_word h_m h_this_word_row h_m_moves h_m_lights h_m_prices h_m_shares h) _) (cwV 1 hts gX11_goes_X10_isOf rfl rfl rfl (by decide +kernel) ⟨Nat.le_of_ble_eq_true rfl, Nat.le_of_ble_eq_true rfl⟩) hP hD hS [2, 3, 7] rfl rfl 0 9 rfl rfl rfl hl rfl rfl (Nat.le_of_ble_eq_true rfl) dX11_goes_23 ⟨Nat.le_of_ble_eq_true rfl, Nat.le_of_ble_eq_true rfl⟩) hP hD hS [2, 3, 7] rfl [(true, 0), (true, 1), (false, 0), (false, 1), (true, 4), (true, 5), (true, 6), (false, 2), (true, 8)] rfl (by decide) (fun _ => (cw_X11_goes_s g h_this h_this_machines h_this_word h_this_steps h_this_trail h_this_search h_this_prices h_this_odds h_this_pairs h_this_greed h_this_colouring h_this_word_row h_this_steps_low h_this_steps_high h_m_moves h_m_lights h_m_prices h_m_shares h_m c_made c_machines c_word_length c_word_row c_steps_letters c_steps_low c_steps_high c_m_states c_m_letters c_m_moves)) (fun _ => rfl) (fun r6 _ H locs h hP hD hS => ?_)
    try dsimp only at h
    have hP : va_P g.1 vwCl (cw_X11_goes_s g h_this h_this_machines h_this_word h_this_steps h_this_trail h_this_search h_this_prices h_this_odds h_this_pairs h_this_greed h_this_colouring h_this_word_row h_this_steps_low h_this_steps_high h_m_moves h_m_lights h_m_prices h_m_shares h_m c_made c_machines c_word_length c_word_row c_steps_letters c_steps_low c_steps_high c_m_states c_m_letters c_m_moves) H := hP
    have hD : va_D A (cw_X11_goes_s g h_this h_this_machines h_this_word h_this_steps h_this_trail h_this_search h_this_prices h_this_odds h_this_pairs h_this_greed h_this_colouring h_this_word_row h_this_steps_low h_this_steps_high h_m_moves h_m_lights h_m_prices h_m_shares h_m c_made c_machines c_word_length c_word_row c_steps_letters c_steps_low c_steps_high c_m_states c_m_letters c_m_moves) := hD
    refine lv_if_ne (tgt := 32) hx hb dX11_goes_26 (by decide) (fun cq => ?_) (fun cq => ?_)
    · replace h := h.1 cq
      refine lv_aload_n hx hb dX11_goes_32 rfl (lv_at hl 1 rfl) ?_
      refine va_get (D := g.1) (ci := 10) (v := .ref h_this_steps) (C := RX11) (T := TX11) (N := 11) hx hb hts iX11 hown hK hP 0 rfl rfl 3 (by decide) f25 (fun _ h9 => h9) rfl dX11_goes_33 ?_
      refine lv_aload_n hx hb dX11_goes_36 rfl (lv_at hl 0 rfl) ?_
      refine go_V E (run_V E ((k_X8_load l g h_this_steps h_m h_this_steps_low h_this_steps_high h_m_moves h_m_lights h_m_prices h_m_shares h) _) (cwV 1 hts gX11_goes_X8_load rfl rfl rfl (by decide +kernel) ⟨Nat.le_of_ble_eq_true rfl, Nat.le_of_ble_eq_true rfl⟩) hP hD hS [4, 5, 6, 7, 8] rfl rfl 0 7 rfl rfl rfl hl rfl rfl (Nat.le_of_ble_eq_true rfl) dX11_goes_37 ⟨Nat.le_of_ble_eq_true rfl, Nat.le_of_ble_eq_true rfl⟩) hP hD hS [4, 5, 6, 7, 8] rfl [(true, 0), (true, 1), (true, 2), (true, 3), (false, 0), (false, 1), (false, 2), (false, 3), (false, 4)] rfl (by decide) (fun u => (cw_X11_goes_s g h_this h_this_machines h_this_word h_this_steps h_this_trail h_this_search h_this_prices h_this_odds h_this_pairs h_this_greed h_this_colouring h_this_word_row h_this_steps_low h_this_steps_high h_m_moves h_m_lights h_m_prices h_m_shares h_m c_made c_machines c_word_length c_word_row u.1 u.2.1 u.2.2 c_m_states c_m_letters c_m_moves)) (fun _ => rfl) (fun u H locs h hP hD hS => ?_)
      obtain ⟨c_steps_letters, c_steps_low, c_steps_high⟩ := u
      try dsimp only at h
      have hP : va_P g.1 vwCl (cw_X11_goes_s g h_this h_this_machines h_this_word h_this_steps h_this_trail h_this_search h_this_prices h_this_odds h_this_pairs h_this_greed h_this_colouring h_this_word_row h_this_steps_low h_this_steps_high h_m_moves h_m_lights h_m_prices h_m_shares h_m c_made c_machines c_word_length c_word_row c_steps_letters c_steps_low c_steps_high c_m_states c_m_letters c_m_moves) H := hP
      have hD : va_D A (cw_X11_goes_s g h_this h_this_machines h_this_word h_this_steps h_this_trail h_this_search h_this_prices h_this_odds h_this_pairs h_this_greed h_this_colouring h_this_word_row h_this_steps_low h_this_steps_high h_m_moves h_m_lights h_m_prices h_m_shares h_m c_made c_machines c_word_length c_word_row c_steps_letters c_steps_low c_steps_high c_m_states c_m_letters c_m_moves) := hD
      refine lv_aload_n hx hb dX11_goes_40 rfl (lv_at hl 1 rfl) ?_
      refine va_get (D := g.1) (ci := 10) (v := .ref h_this_steps) (C := RX11) (T := TX11) (N := 11) hx hb hts iX11 hown hK hP 0 rfl rfl 3 (by decide) f25 (fun _ h9 => h9) rfl dX11_goes_41 ?_
      refine lv_iload_n hx hb dX11_goes_44 rfl (lv_at hl 3 rfl) ?_
      refine lv_aload_n hx hb dX11_goes_45 rfl (lv_at hl 1 rfl) ?_
      refine va_get (D := g.1) (ci := 10) (v := .ref h_this_word) (C := RX11) (T := TX11) (N := 11) hx hb hts iX11 hown hK hP 0 rfl rfl 2 (by decide) f18 (fun _ h9 => h9) rfl dX11_goes_46 ?_
      refine go_I E (run_V E ((k_X8_afterWord l g h_this_steps h_this_word h_this_steps_low h_this_steps_high h_this_word_row h) _) (cwV 2 hts gX11_goes_X8_afterWord rfl rfl rfl (by decide +kernel) ⟨Nat.le_of_ble_eq_true rfl, Nat.le_of_ble_eq_true rfl⟩) hP hD hS [4, 5, 6, 2, 3] rfl rfl 0 7 rfl rfl rfl hl rfl rfl (Nat.le_of_ble_eq_true rfl) dX11_goes_49 ⟨Nat.le_of_ble_eq_true rfl, Nat.le_of_ble_eq_true rfl⟩) hP hD hS [4, 5, 6, 2, 3] rfl [(true, 0), (true, 1), (false, 3), (false, 4), (false, 0), (false, 1), (false, 2), (true, 7), (true, 8)] rfl (by decide) (fun _ => (cw_X11_goes_s g h_this h_this_machines h_this_word h_this_steps h_this_trail h_this_search h_this_prices h_this_odds h_this_pairs h_this_greed h_this_colouring h_this_word_row h_this_steps_low h_this_steps_high h_m_moves h_m_lights h_m_prices h_m_shares h_m c_made c_machines c_word_length c_word_row c_steps_letters c_steps_low c_steps_high c_m_states c_m_letters c_m_moves)) (fun _ => rfl) (fun r10 _ H locs h hP hD hS => ?_)
      try dsimp only at h
      have hP : va_P g.1 vwCl (cw_X11_goes_s g h_this h_this_machines h_this_word h_this_steps h_this_trail h_this_search h_this_prices h_this_odds h_this_pairs h_this_greed h_this_colouring h_this_word_row h_this_steps_low h_this_steps_high h_m_moves h_m_lights h_m_prices h_m_shares h_m c_made c_machines c_word_length c_word_row c_steps_letters c_steps_low c_steps_high c_m_states c_m_letters c_m_moves) H := hP
      have hD : va_D A (cw_X11_goes_s g h_this h_this_machines h_this_word h_this_steps h_this_trail h_this_search h_this_prices h_this_odds h_this_pairs h_this_greed h_this_colouring h_this_word_row h_this_steps_low h_this_steps_high h_m_moves h_m_lights h_m_prices h_m_shares h_m c_made c_machines c_word_length c_word_row c_steps_letters c_steps_low c_steps_high c_m_states c_m_letters c_m_moves) := hD
      refine lv_istore (lv' := [(4, .int r10), (3, .ref h_m), (0, .ref h_this), (1, .int x1), (2, .int x2)]) hx hb dX11_goes_52 hl (by decide) rfl (fun ls hl => ?_)
      refine lv_iload hx hb dX11_goes_54 (lv_at hl 0 rfl) ?_
      refine lv_if_ne (tgt := 63) hx hb dX11_goes_56 (by decide) (fun cq => ?_) (fun cq => ?_)
      · replace h := h.1 cq
        refine lv_iload hx hb dX11_goes_63 (lv_at hl 0 rfl) ?_
        exact hret r10 (c_steps_letters, c_steps_low, c_steps_high) _ _ _ _ rfl h hP hD hS dX11_goes_65
      · replace h := h.2 cq
        refine lv_iconst (v := (-1)) hx hb dX11_goes_59 (by decide) ?_
        refine lv_goto (tgt := 65) hx hb dX11_goes_60 (by decide) ?_
        exact hret (-1) (c_steps_letters, c_steps_low, c_steps_high) _ _ _ _ rfl h hP hD hS dX11_goes_65
    · replace h := h.2 cq
      refine lv_bipush (v := (-2)) hx hb dX11_goes_29 (by decide) ?_
      exact hret (-2) (c_steps_letters, c_steps_low, c_steps_high) _ _ _ _ rfl h hP hD hS dX11_goes_31
abbrev cw_X11_goes_n (g : GG) (h_this : Nat) (h_this_machines : Nat) (h_this_word : Nat) (h_this_steps : Nat) (h_this_trail : Nat) (h_this_search : Nat) (h_this_prices : Nat) (h_this_odds : Nat) (h_this_pairs : Nat) (h_this_greed : Nat) (h_this_colouring : Nat) (c_made : Int32) (c_machines : Nat → Option Nat) : va_W := [(h_this, .inr (10, [.ref h_this_machines, .int c_made, .ref h_this_word, .ref h_this_steps, .ref h_this_trail, .ref h_this_search, .ref h_this_prices, .ref h_this_odds, .ref h_this_pairs, .ref h_this_greed, .ref h_this_colouring])), (h_this_machines, .inl (g.2.2.2.2, 6, .inr (.inr (.inr (.inr c_machines)))))]
def wp_X11_goes_n (c_made : Int32) (c_machines : Nat → Option Nat) (x1 : Int32) (x2 : Int32) (Q : Int32 → Prop) : Prop :=
    Q (-2)
abbrev rm_X11_goes_n : Room := { frames := 1, cells := 0, slots := 0, locals := 21 }
set_option maxHeartbeats 4000000 in
set_option maxRecDepth 100000 in
theorem k_X11_goes_n (l : Launch) (g : GG) (h_this : Nat) (h_this_machines : Nat) (h_this_word : Nat) (h_this_steps : Nat) (h_this_trail : Nat) (h_this_search : Nat) (h_this_prices : Nat) (h_this_odds : Nat) (h_this_pairs : Nat) (h_this_greed : Nat) (h_this_colouring : Nat) {c_made : Int32} {c_machines : Nat → Option Nat} {x1 : Int32} {x2 : Int32} {Q : Int32 → Prop} (hm : wp_X11_machineAt c_made c_machines x1 (fun r => r = none)) (h : wp_X11_goes_n c_made c_machines x1 x2 Q) : CI l g yX11_goes wsX11_goes rm_X11_goes_n [.ref h_this, .int x1, .int x2] (cw_X11_goes_n g h_this h_this_machines h_this_word h_this_steps h_this_trail h_this_search h_this_prices h_this_odds h_this_pairs h_this_greed h_this_colouring c_made c_machines) (S := Unit) (fun _ => (cw_X11_goes_n g h_this h_this_machines h_this_word h_this_steps h_this_trail h_this_search h_this_prices h_this_odds h_this_pairs h_this_greed h_this_colouring c_made c_machines)) (fun r _ => Q r) 0 0 := by
  refine mk_I (cc := cX11_goes) (maxL := 5) (own := RX11) (by decide) rfl rfl (Nat.le_of_ble_eq_true rfl) ?_
  intro p e s m args below meth c A QQ E hret hP hD hS ls hl
  have E2 := E
  obtain ⟨hx, hb, hr, hml, hown, hts, hlocks, hA, hZ, hK, hnm⟩ := E2
  have hP : va_P g.1 vwCl (cw_X11_goes_n g h_this h_this_machines h_this_word h_this_steps h_this_trail h_this_search h_this_prices h_this_odds h_this_pairs h_this_greed h_this_colouring c_made c_machines) s.heap := hP
  have hD : va_D A (cw_X11_goes_n g h_this h_this_machines h_this_word h_this_steps h_this_trail h_this_search h_this_prices h_this_odds h_this_pairs h_this_greed h_this_colouring c_made c_machines) := hD
  have hl : lv_has ls 5 [(0, .ref h_this), (1, .int x1), (2, .int x2)] := hl
  unfold wp_X11_goes_n at h
  refine lv_aload_n hx hb dX11_goes_0 rfl (lv_at hl 0 rfl) ?_
  refine lv_iload_n hx hb dX11_goes_1 rfl (lv_at hl 1 rfl) ?_
  refine go_Q E (run_V E ((k_X11_machineAt l g h_this h_this_machines h_this_word h_this_steps h_this_trail h_this_search h_this_prices h_this_odds h_this_pairs h_this_greed h_this_colouring hm) _) (cwV 1 hts gX11_goes_X11_machineAt rfl rfl rfl (by decide +kernel) ⟨Nat.le_of_ble_eq_true rfl, Nat.le_of_ble_eq_true rfl⟩) hP hD hS [0, 1] rfl rfl 0 10 rfl rfl rfl hl rfl rfl (Nat.le_of_ble_eq_true rfl) dX11_goes_2 ⟨Nat.le_of_ble_eq_true rfl, Nat.le_of_ble_eq_true rfl⟩) hP hD hS [0, 1] rfl [(false, 0), (false, 1)] rfl (by decide) (fun _ => (cw_X11_goes_n g h_this h_this_machines h_this_word h_this_steps h_this_trail h_this_search h_this_prices h_this_odds h_this_pairs h_this_greed h_this_colouring c_made c_machines)) (fun _ => rfl) (fun r2 _ H locs hr_ hP hD hS => ?_)
  have hr_ : none = r2 := Eq.symm hr_
  subst hr_
  refine W.eq (g2 := F0 m 5 ls [.null]) rfl ?_
  have hP : va_P g.1 vwCl (cw_X11_goes_n g h_this h_this_machines h_this_word h_this_steps h_this_trail h_this_search h_this_prices h_this_odds h_this_pairs h_this_greed h_this_colouring c_made c_machines) H := hP
  have hD : va_D A (cw_X11_goes_n g h_this h_this_machines h_this_word h_this_steps h_this_trail h_this_search h_this_prices h_this_odds h_this_pairs h_this_greed h_this_colouring c_made c_machines) := hD
  refine lv_astore_nN (lv' := [(3, .null), (0, .ref h_this), (1, .int x1), (2, .int x2)]) hx hb dX11_goes_5 rfl hl (by decide) rfl (fun ls hl => ?_)
  refine lv_aload_nN hx hb dX11_goes_6 rfl (lv_at hl 0 rfl) ?_
  refine lv_ifnullN (tgt := 29) hx hb dX11_goes_7 (by decide) ?_
  refine lv_bipush (v := (-2)) hx hb dX11_goes_29 (by decide) ?_
  exact hret (-2) () _ _ _ _ rfl h hP hD hS dX11_goes_31
abbrev cw_X11_tellWordTo (g : GG) (h_this : Nat) (h_this_machines : Nat) (h_this_word : Nat) (h_this_steps : Nat) (h_this_trail : Nat) (h_this_search : Nat) (h_this_prices : Nat) (h_this_odds : Nat) (h_this_pairs : Nat) (h_this_greed : Nat) (h_this_colouring : Nat) (h_this_word_row : Nat) (h_this_trail_from : Nat) (c_made : Int32) (c_word_length : Int32) (c_word_row : Nat → Int32) (c_trail_from : Nat → Int32) : va_W := [(h_this, .inr (10, [.ref h_this_machines, .int c_made, .ref h_this_word, .ref h_this_steps, .ref h_this_trail, .ref h_this_search, .ref h_this_prices, .ref h_this_odds, .ref h_this_pairs, .ref h_this_greed, .ref h_this_colouring])), (h_this_word, .inr (9, [.ref h_this_word_row, .int c_word_length])), (h_this_word_row, .inl (g.2.1, 600, .inl c_word_row)), (h_this_trail, .inr (8, [.ref h_this_trail_from])), (h_this_trail_from, .inl (g.2.1, 4096, .inl c_trail_from))]
def wp_X11_tellWordTo (c_made : Int32) (c_word_length : Int32) (c_word_row : Nat → Int32) (c_trail_from : Nat → Int32) (x1 : Int32) (Q : Int32 → Int32 → (Nat → Int32) → Prop) : Prop :=
    ((¬ x1 = (nI 0) → wp_X9_lengthTo c_trail_from x1 (fun r2 => (((nI 600) < r2 → Q r2 c_word_length c_word_row) ∧ (¬ (nI 600) < r2 → wp_X9_giveWord c_trail_from c_word_length c_word_row x1 r2 (fun c_word_length c_word_row => Q r2 c_word_length c_word_row))))) ∧ (x1 = (nI 0) → Q (-1) c_word_length c_word_row))
abbrev rm_X11_tellWordTo : Room := { frames := 3, cells := 0, slots := 0, locals := 67 }
set_option maxHeartbeats 4000000 in
set_option maxRecDepth 100000 in
theorem k_X11_tellWordTo (l : Launch) (g : GG) (h_this : Nat) (h_this_machines : Nat) (h_this_word : Nat) (h_this_steps : Nat) (h_this_trail : Nat) (h_this_search : Nat) (h_this_prices : Nat) (h_this_odds : Nat) (h_this_pairs : Nat) (h_this_greed : Nat) (h_this_colouring : Nat) (h_this_word_row : Nat) (h_this_trail_from : Nat) {c_made : Int32} {c_word_length : Int32} {c_word_row : Nat → Int32} {c_trail_from : Nat → Int32} {x1 : Int32} {Q : Int32 → Int32 → (Nat → Int32) → Prop} (h : wp_X11_tellWordTo c_made c_word_length c_word_row c_trail_from x1 Q) : CI l g yX11_tellWordTo wsX11_tellWordTo rm_X11_tellWordTo [.ref h_this, .int x1] (cw_X11_tellWordTo g h_this h_this_machines h_this_word h_this_steps h_this_trail h_this_search h_this_prices h_this_odds h_this_pairs h_this_greed h_this_colouring h_this_word_row h_this_trail_from c_made c_word_length c_word_row c_trail_from) (S := Int32 × (Nat → Int32)) (fun u => (cw_X11_tellWordTo g h_this h_this_machines h_this_word h_this_steps h_this_trail h_this_search h_this_prices h_this_odds h_this_pairs h_this_greed h_this_colouring h_this_word_row h_this_trail_from c_made u.1 u.2 c_trail_from)) (fun r u => Q r u.1 u.2) 0 0 := by
  refine mk_I (cc := cX11_tellWordTo) (maxL := 3) (own := RX11) (by decide) rfl rfl (Nat.le_of_ble_eq_true rfl) ?_
  intro p e s m args below meth c A QQ E hret hP hD hS ls hl
  have E2 := E
  obtain ⟨hx, hb, hr, hml, hown, hts, hlocks, hA, hZ, hK, hnm⟩ := E2
  have f32 := hts (.fieldLink RX11 32 "WordBench" "trail" "LWordBench$Trail;") (by decide +kernel)
  have f18 := hts (.fieldLink RX11 18 "WordBench" "word" "LWordBench$Word;") (by decide +kernel)
  have iX11 : ∀ w ∈ wsX110, w ∈ wsX11_tellWordTo := fun _ h => List.mem_cons_of_mem _ (List.mem_append_left _ (List.mem_append_left _ (List.mem_append_right _ h)))
  have hP : va_P g.1 vwCl (cw_X11_tellWordTo g h_this h_this_machines h_this_word h_this_steps h_this_trail h_this_search h_this_prices h_this_odds h_this_pairs h_this_greed h_this_colouring h_this_word_row h_this_trail_from c_made c_word_length c_word_row c_trail_from) s.heap := hP
  have hD : va_D A (cw_X11_tellWordTo g h_this h_this_machines h_this_word h_this_steps h_this_trail h_this_search h_this_prices h_this_odds h_this_pairs h_this_greed h_this_colouring h_this_word_row h_this_trail_from c_made c_word_length c_word_row c_trail_from) := hD
  have hl : lv_has ls 3 [(0, .ref h_this), (1, .int x1)] := hl
  unfold wp_X11_tellWordTo at h
  refine lv_iload_n hx hb dX11_tellWordTo_0 rfl (lv_at hl 1 rfl) ?_
  refine lv_if_ne (tgt := 6) hx hb dX11_tellWordTo_1 (by decide) (fun cq => ?_) (fun cq => ?_)
  · replace h := h.1 cq
    refine lv_aload_n hx hb dX11_tellWordTo_6 rfl (lv_at hl 0 rfl) ?_
    refine va_get (D := g.1) (ci := 10) (v := .ref h_this_trail) (C := RX11) (T := TX11) (N := 11) hx hb hts iX11 hown hK hP 0 rfl rfl 4 (by decide) f32 (fun _ h9 => h9) rfl dX11_tellWordTo_7 ?_
    refine lv_iload_n hx hb dX11_tellWordTo_10 rfl (lv_at hl 1 rfl) ?_
    refine go_I E (run_V E ((k_X9_lengthTo l g h_this_trail h_this_trail_from h) _) (cwV 1 hts gX11_tellWordTo_X9_lengthTo rfl rfl rfl (by decide +kernel) ⟨Nat.le_of_ble_eq_true rfl, Nat.le_of_ble_eq_true rfl⟩) hP hD hS [3, 4] rfl rfl 0 8 rfl rfl rfl hl rfl rfl (Nat.le_of_ble_eq_true rfl) dX11_tellWordTo_11 ⟨Nat.le_of_ble_eq_true rfl, Nat.le_of_ble_eq_true rfl⟩) hP hD hS [3, 4] rfl [(true, 0), (true, 1), (true, 2), (false, 0), (false, 1)] rfl (by decide) (fun _ => (cw_X11_tellWordTo g h_this h_this_machines h_this_word h_this_steps h_this_trail h_this_search h_this_prices h_this_odds h_this_pairs h_this_greed h_this_colouring h_this_word_row h_this_trail_from c_made c_word_length c_word_row c_trail_from)) (fun _ => rfl) (fun r2 _ H locs h hP hD hS => ?_)
    try dsimp only at h
    have hP : va_P g.1 vwCl (cw_X11_tellWordTo g h_this h_this_machines h_this_word h_this_steps h_this_trail h_this_search h_this_prices h_this_odds h_this_pairs h_this_greed h_this_colouring h_this_word_row h_this_trail_from c_made c_word_length c_word_row c_trail_from) H := hP
    have hD : va_D A (cw_X11_tellWordTo g h_this h_this_machines h_this_word h_this_steps h_this_trail h_this_search h_this_prices h_this_odds h_this_pairs h_this_greed h_this_colouring h_this_word_row h_this_trail_from c_made c_word_length c_word_row c_trail_from) := hD
    refine lv_istore_n (lv' := [(2, .int r2), (0, .ref h_this), (1, .int x1)]) hx hb dX11_tellWordTo_14 rfl hl (by decide) rfl (fun ls hl => ?_)
    refine lv_iload_n hx hb dX11_tellWordTo_15 rfl (lv_at hl 0 rfl) ?_
    refine lv_sipush (v := (nI 600)) hx hb dX11_tellWordTo_16 (by decide) ?_
    refine lv_icmp_gt (tgt := 35) hx hb dX11_tellWordTo_19 (by decide) (fun cq => ?_) (fun cq => ?_)
    · replace h := h.1 cq
      refine lv_iload_n hx hb dX11_tellWordTo_35 rfl (lv_at hl 0 rfl) ?_
      exact hret r2 (c_word_length, c_word_row) _ _ _ _ rfl h hP hD hS dX11_tellWordTo_36
    · replace h := h.2 cq
      refine lv_aload_n hx hb dX11_tellWordTo_22 rfl (lv_at hl 1 rfl) ?_
      refine va_get (D := g.1) (ci := 10) (v := .ref h_this_trail) (C := RX11) (T := TX11) (N := 11) hx hb hts iX11 hown hK hP 0 rfl rfl 4 (by decide) f32 (fun _ h9 => h9) rfl dX11_tellWordTo_23 ?_
      refine lv_iload_n hx hb dX11_tellWordTo_26 rfl (lv_at hl 2 rfl) ?_
      refine lv_iload_n hx hb dX11_tellWordTo_27 rfl (lv_at hl 0 rfl) ?_
      refine lv_aload_n hx hb dX11_tellWordTo_28 rfl (lv_at hl 1 rfl) ?_
      refine va_get (D := g.1) (ci := 10) (v := .ref h_this_word) (C := RX11) (T := TX11) (N := 11) hx hb hts iX11 hown hK hP 0 rfl rfl 2 (by decide) f18 (fun _ h9 => h9) rfl dX11_tellWordTo_29 ?_
      refine go_V E (run_V E ((k_X9_giveWord l g h_this_trail h_this_word h_this_trail_from h_this_word_row h) _) (cwV 3 hts gX11_tellWordTo_X9_giveWord rfl rfl rfl (by decide +kernel) ⟨Nat.le_of_ble_eq_true rfl, Nat.le_of_ble_eq_true rfl⟩) hP hD hS [3, 4, 1, 2] rfl rfl 0 8 rfl rfl rfl hl rfl rfl (Nat.le_of_ble_eq_true rfl) dX11_tellWordTo_32 ⟨Nat.le_of_ble_eq_true rfl, Nat.le_of_ble_eq_true rfl⟩) hP hD hS [3, 4, 1, 2] rfl [(true, 0), (false, 2), (false, 3), (false, 0), (false, 1)] rfl (by decide) (fun u => (cw_X11_tellWordTo g h_this h_this_machines h_this_word h_this_steps h_this_trail h_this_search h_this_prices h_this_odds h_this_pairs h_this_greed h_this_colouring h_this_word_row h_this_trail_from c_made u.1 u.2 c_trail_from)) (fun _ => rfl) (fun u H locs h hP hD hS => ?_)
      obtain ⟨c_word_length, c_word_row⟩ := u
      try dsimp only at h
      have hP : va_P g.1 vwCl (cw_X11_tellWordTo g h_this h_this_machines h_this_word h_this_steps h_this_trail h_this_search h_this_prices h_this_odds h_this_pairs h_this_greed h_this_colouring h_this_word_row h_this_trail_from c_made c_word_length c_word_row c_trail_from) H := hP
      have hD : va_D A (cw_X11_tellWordTo g h_this h_this_machines h_this_word h_this_steps h_this_trail h_this_search h_this_prices h_this_odds h_this_pairs h_this_greed h_this_colouring h_this_word_row h_this_trail_from c_made c_word_length c_word_row c_trail_from) := hD
      refine lv_iload_n hx hb dX11_tellWordTo_35 rfl (lv_at hl 0 rfl) ?_
      exact hret r2 (c_word_length, c_word_row) _ _ _ _ rfl h hP hD hS dX11_tellWordTo_36
  · replace h := h.2 cq
    refine lv_iconst (v := (-1)) hx hb dX11_tellWordTo_4 (by decide) ?_
    exact hret (-1) (c_word_length, c_word_row) _ _ _ _ rfl h hP hD hS dX11_tellWordTo_5
