abbrev cw_X11_add (g : GG) (h_this : Nat) (h_m : Nat) (h_this_machines : Nat) (h_this_word : Nat) (h_this_steps : Nat) (h_this_trail : Nat) (h_this_search : Nat) (h_this_prices : Nat) (h_this_odds : Nat) (h_this_pairs : Nat) (h_this_greed : Nat) (h_this_colouring : Nat) (h_m_moves : Nat) (h_m_lights : Nat) (h_m_prices : Nat) (h_m_shares : Nat) (c_made : Int32) (c_machines : Nat → Option Nat) (c_m_states : Int32) (c_m_letters : Int32) : va_W := [(h_this, .inr (10, [.ref h_this_machines, .int c_made, .ref h_this_word, .ref h_this_steps, .ref h_this_trail, .ref h_this_search, .ref h_this_prices, .ref h_this_odds, .ref h_this_pairs, .ref h_this_greed, .ref h_this_colouring])), (h_this_machines, .inl (g.2.2.2.2, 6, .inr (.inr (.inr (.inr c_machines))))), (h_m, .inr (3, [.int c_m_states, .int c_m_letters, .ref h_m_moves, .ref h_m_lights, .ref h_m_prices, .ref h_m_shares]))]
def wp_X11_add (h_m : Nat) (c_made : Int32) (c_machines : Nat → Option Nat) (c_m_states : Int32) (c_m_letters : Int32) (Q : Int32 → Int32 → (Nat → Option Nat) → Prop) : Prop :=
    ((c_made < (nI 6) → vp_in c_made 6 ∧ Q ((c_made + (nI 1)) - (nI 1)) (c_made + (nI 1)) (va_up c_machines (Int32.toNatClampNeg c_made) (some h_m))) ∧ (¬ c_made < (nI 6) → Q (-4) c_made c_machines))
abbrev rm_X11_add : Room := { frames := 0, cells := 0, slots := 0, locals := 0 }
set_option maxHeartbeats 4000000 in
set_option maxRecDepth 100000 in
theorem k_X11_add (l : Launch) (g : GG) (h_this : Nat) (h_m : Nat) (h_this_machines : Nat) (h_this_word : Nat) (h_this_steps : Nat) (h_this_trail : Nat) (h_this_search : Nat) (h_this_prices : Nat) (h_this_odds : Nat) (h_this_pairs : Nat) (h_this_greed : Nat) (h_this_colouring : Nat) (h_m_moves : Nat) (h_m_lights : Nat) (h_m_prices : Nat) (h_m_shares : Nat) {c_made : Int32} {c_machines : Nat → Option Nat} {c_m_states : Int32} {c_m_letters : Int32} {Q : Int32 → Int32 → (Nat → Option Nat) → Prop} (h : wp_X11_add h_m c_made c_machines c_m_states c_m_letters Q) : CI l g yX11_add wsX11_add rm_X11_add [.ref h_this, .ref h_m] (cw_X11_add g h_this h_m h_this_machines h_this_word h_this_steps h_this_trail h_this_search h_this_prices h_this_odds h_this_pairs h_this_greed h_this_colouring h_m_moves h_m_lights h_m_prices h_m_shares c_made c_machines c_m_states c_m_letters) (S := Int32 × (Nat → Option Nat)) (fun u => (cw_X11_add g h_this h_m h_this_machines h_this_word h_this_steps h_this_trail h_this_search h_this_prices h_this_odds h_this_pairs h_this_greed h_this_colouring h_m_moves h_m_lights h_m_prices h_m_shares u.1 u.2 c_m_states c_m_letters)) (fun r u => Q r u.1 u.2) 0 0 := by
  refine mk_I (cc := cX11_add) (maxL := 2) (own := RX11) (by decide) rfl rfl (Nat.le_of_ble_eq_true rfl) ?_
  intro p e s m args below meth c A QQ E hret hP hD hS ls hl
  have E2 := E
  obtain ⟨hx, hb, hr, hml, hown, hts, hlocks, hA, hZ, hK, hnm⟩ := E2
  have f84 := hts (.fieldLink RX11 84 "WordBench" "made" "I") (by decide +kernel)
  have f11 := hts (.fieldLink RX11 11 "WordBench" "machines" "[LWordBench$Machine;") (by decide +kernel)
  have iX11 : ∀ w ∈ wsX110, w ∈ wsX11_add := fun _ h => List.mem_cons_of_mem _ (List.mem_append_right _ h)
  have hP : va_P g.1 vwCl (cw_X11_add g h_this h_m h_this_machines h_this_word h_this_steps h_this_trail h_this_search h_this_prices h_this_odds h_this_pairs h_this_greed h_this_colouring h_m_moves h_m_lights h_m_prices h_m_shares c_made c_machines c_m_states c_m_letters) s.heap := hP
  have hD : va_D A (cw_X11_add g h_this h_m h_this_machines h_this_word h_this_steps h_this_trail h_this_search h_this_prices h_this_odds h_this_pairs h_this_greed h_this_colouring h_m_moves h_m_lights h_m_prices h_m_shares c_made c_machines c_m_states c_m_letters) := hD
  have hl : lv_has ls 2 [(0, .ref h_this), (1, .ref h_m)] := hl
  unfold wp_X11_add at h
  refine lv_aload_n hx hb dX11_add_0 rfl (lv_at hl 0 rfl) ?_
  refine va_get (D := g.1) (ci := 10) (v := .int c_made) (C := RX11) (T := TX11) (N := 11) hx hb hts iX11 hown hK hP 0 rfl rfl 1 (by decide) f84 (fun _ h9 => h9) rfl dX11_add_1 ?_
  refine lv_bipush (v := (nI 6)) hx hb dX11_add_4 (by decide) ?_
  refine lv_icmp_lt (tgt := 12) hx hb dX11_add_6 (by decide) (fun cq => ?_) (fun cq => ?_)
  · replace h := h.1 cq
    refine lv_aload_n hx hb dX11_add_12 rfl (lv_at hl 0 rfl) ?_
    refine va_get (D := g.1) (ci := 10) (v := .ref h_this_machines) (C := RX11) (T := TX11) (N := 11) hx hb hts iX11 hown hK hP 0 rfl rfl 0 (by decide) f11 (fun _ h9 => h9) rfl dX11_add_13 ?_
    refine lv_aload_n hx hb dX11_add_16 rfl (lv_at hl 0 rfl) ?_
    refine va_get (D := g.1) (ci := 10) (v := .int c_made) (C := RX11) (T := TX11) (N := 11) hx hb hts iX11 hown hK hP 0 rfl rfl 1 (by decide) f84 (fun _ h9 => h9) rfl dX11_add_17 ?_
    refine lv_aload_n hx hb dX11_add_20 rfl (lv_at hl 1 rfl) ?_
    obtain ⟨hi, h⟩ := h
    refine va_astq (D := g.1) (n := 6) (f := c_machines) (r := (RX4, TX4, 6)) hx hb hK hP hD hS 1 3 2 3 rfl rfl rfl rfl hi dX11_add_21 (fun H locs hP hD hS => ?_)
    have hP : va_P g.1 vwCl (cw_X11_add g h_this h_m h_this_machines h_this_word h_this_steps h_this_trail h_this_search h_this_prices h_this_odds h_this_pairs h_this_greed h_this_colouring h_m_moves h_m_lights h_m_prices h_m_shares c_made (va_up c_machines (Int32.toNatClampNeg c_made) (some h_m)) c_m_states c_m_letters) H := hP
    have hD : va_D A (cw_X11_add g h_this h_m h_this_machines h_this_word h_this_steps h_this_trail h_this_search h_this_prices h_this_odds h_this_pairs h_this_greed h_this_colouring h_m_moves h_m_lights h_m_prices h_m_shares c_made (va_up c_machines (Int32.toNatClampNeg c_made) (some h_m)) c_m_states c_m_letters) := hD
    refine lv_aload_n hx hb dX11_add_22 rfl (lv_at hl 0 rfl) ?_
    refine lv_dup hx hb dX11_add_23 rfl ?_
    refine va_get (D := g.1) (ci := 10) (v := .int c_made) (C := RX11) (T := TX11) (N := 11) hx hb hts iX11 hown hK hP 0 rfl rfl 1 (by decide) f84 (fun _ h9 => h9) rfl dX11_add_24 ?_
    refine lv_iconst (v := (nI 1)) hx hb dX11_add_27 (by decide) ?_
    refine lv_iadd hx hb dX11_add_28 ?_
    refine va_put (D := g.1) (ci := 10) (v := .int (c_made + (nI 1))) (ty := .int) (C := RX11) (T := TX11) (N := 11) hx hb hts iX11 tyX11 tyX11_ok nmX11 hown hK hP hD hS 0 rfl rfl 1 (by decide) f84 (fun _ h9 => h9) rfl (by decide +kernel) rfl rfl (Nat.le_of_ble_eq_true rfl) dX11_add_29 (fun H locs hP hD hS => ?_)
    have hP : va_P g.1 vwCl (cw_X11_add g h_this h_m h_this_machines h_this_word h_this_steps h_this_trail h_this_search h_this_prices h_this_odds h_this_pairs h_this_greed h_this_colouring h_m_moves h_m_lights h_m_prices h_m_shares (c_made + (nI 1)) (va_up c_machines (Int32.toNatClampNeg c_made) (some h_m)) c_m_states c_m_letters) H := hP
    have hD : va_D A (cw_X11_add g h_this h_m h_this_machines h_this_word h_this_steps h_this_trail h_this_search h_this_prices h_this_odds h_this_pairs h_this_greed h_this_colouring h_m_moves h_m_lights h_m_prices h_m_shares (c_made + (nI 1)) (va_up c_machines (Int32.toNatClampNeg c_made) (some h_m)) c_m_states c_m_letters) := hD
    refine lv_aload_n hx hb dX11_add_32 rfl (lv_at hl 0 rfl) ?_
    refine va_get (D := g.1) (ci := 10) (v := .int (c_made + (nI 1))) (C := RX11) (T := TX11) (N := 11) hx hb hts iX11 hown hK hP 0 rfl rfl 1 (by decide) f84 (fun _ h9 => h9) rfl dX11_add_33 ?_
    refine lv_iconst (v := (nI 1)) hx hb dX11_add_36 (by decide) ?_
    refine lv_isub hx hb dX11_add_37 ?_
    exact hret ((c_made + (nI 1)) - (nI 1)) ((c_made + (nI 1)), (va_up c_machines (Int32.toNatClampNeg c_made) (some h_m))) _ _ _ _ rfl h hP hD hS dX11_add_38
  · replace h := h.2 cq
    refine lv_bipush (v := (-4)) hx hb dX11_add_9 (by decide) ?_
    exact hret (-4) (c_made, c_machines) _ _ _ _ rfl h hP hD hS dX11_add_11
def wp_X11_machine_a (c_made : Int32) (c_machines : Nat → Option Nat) (x1 : Int32) (x2 : Int32) (Q : Int32 → Nat → Int32 → (Nat → Option Nat) → Int32 → Int32 → (Nat → Int32) → (Nat → Int32) → (Nat → Int32) → (Nat → Int32) → Prop) : Prop :=
    ((x1 < (nI 1) → False) ∧ (¬ x1 < (nI 1) → (((nI 12) < x1 → False) ∧ (¬ (nI 12) < x1 → ((x2 < (nI 1) → False) ∧ (¬ x2 < (nI 1) → ((x2 ≤ (nI 4) → ((c_made < (nI 6) → ∀ h_nw : Nat, wp_X4_init x1 x2 (fun c_nw_states c_nw_letters c_nw_moves c_nw_lights c_nw_prices c_nw_shares => wp_X11_add h_nw c_made c_machines c_nw_states c_nw_letters (fun r4 c_made c_machines => Q r4 h_nw c_made c_machines c_nw_states c_nw_letters c_nw_moves c_nw_lights c_nw_prices c_nw_shares))) ∧ (¬ c_made < (nI 6) → False))) ∧ (¬ x2 ≤ (nI 4) → False))))))))
abbrev rm_X11_machine_a : Room := { frames := 2, cells := 5, slots := 74, locals := 45 }
set_option maxHeartbeats 4000000 in
set_option maxRecDepth 100000 in
theorem k_X11_machine_a (l : Launch) (g : GG) (h_this : Nat) (h_this_machines : Nat) (h_this_word : Nat) (h_this_steps : Nat) (h_this_trail : Nat) (h_this_search : Nat) (h_this_prices : Nat) (h_this_odds : Nat) (h_this_pairs : Nat) (h_this_greed : Nat) (h_this_colouring : Nat) {c_made : Int32} {c_machines : Nat → Option Nat} {x1 : Int32} {x2 : Int32} {Q : Int32 → Nat → Int32 → (Nat → Option Nat) → Int32 → Int32 → (Nat → Int32) → (Nat → Int32) → (Nat → Int32) → (Nat → Int32) → Prop} (h : wp_X11_machine_a c_made c_machines x1 x2 Q) : CI l g yX11_machine wsX11_machine rm_X11_machine_a [.ref h_this, .int x1, .int x2] [(h_this, .inr (10, [.ref h_this_machines, .int c_made, .ref h_this_word, .ref h_this_steps, .ref h_this_trail, .ref h_this_search, .ref h_this_prices, .ref h_this_odds, .ref h_this_pairs, .ref h_this_greed, .ref h_this_colouring])), (h_this_machines, .inl (g.2.2.2.2, 6, .inr (.inr (.inr (.inr c_machines)))))] (S := Nat × Nat × Nat × Nat × Nat × Int32 × (Nat → Option Nat) × Int32 × Int32 × (Nat → Int32) × (Nat → Int32) × (Nat → Int32) × (Nat → Int32)) (fun u => [(h_this, .inr (10, [.ref h_this_machines, .int u.2.2.2.2.2.1, .ref h_this_word, .ref h_this_steps, .ref h_this_trail, .ref h_this_search, .ref h_this_prices, .ref h_this_odds, .ref h_this_pairs, .ref h_this_greed, .ref h_this_colouring])), (h_this_machines, .inl (g.2.2.2.2, 6, .inr (.inr (.inr (.inr u.2.2.2.2.2.2.1))))), (u.1, .inr (3, [.int u.2.2.2.2.2.2.2.1, .int u.2.2.2.2.2.2.2.2.1, .ref u.2.1, .ref u.2.2.1, .ref u.2.2.2.1, .ref u.2.2.2.2.1])), (u.2.1, .inl (g.2.1, 48, .inl u.2.2.2.2.2.2.2.2.2.1)), (u.2.2.1, .inl (g.2.1, 12, .inl u.2.2.2.2.2.2.2.2.2.2.1)), (u.2.2.2.1, .inl (g.2.1, 4, .inl u.2.2.2.2.2.2.2.2.2.2.2.1)), (u.2.2.2.2.1, .inl (g.2.1, 4, .inl u.2.2.2.2.2.2.2.2.2.2.2.2))]) (fun r u => Q r u.1 u.2.2.2.2.2.1 u.2.2.2.2.2.2.1 u.2.2.2.2.2.2.2.1 u.2.2.2.2.2.2.2.2.1 u.2.2.2.2.2.2.2.2.2.1 u.2.2.2.2.2.2.2.2.2.2.1 u.2.2.2.2.2.2.2.2.2.2.2.1 u.2.2.2.2.2.2.2.2.2.2.2.2) 5 74 := by
  refine mk_I (cc := cX11_machine) (maxL := 3) (own := RX11) (by decide) rfl rfl (Nat.le_of_ble_eq_true rfl) ?_
  intro p e s m args below meth c A QQ E hret hP hD hS ls hl
  have E2 := E
  obtain ⟨hx, hb, hr, hml, hown, hts, hlocks, hA, hZ, hK, hnm⟩ := E2
  have f84 := hts (.fieldLink RX11 84 "WordBench" "made" "I") (by decide +kernel)
  have cl9 := hts (.classLink RX11 9 RX4) (by decide +kernel)
  have inX4 := hts (.instantiable RX4 6) (by decide +kernel)
  have iiX4 := hts (.initialized RX4) (by decide +kernel)
  have ml88 := hts (.methodLink RX11 88 yX4_init) (by decide +kernel)
  have im_X4_init := hts (.instanceMethod yX4_init) (by decide +kernel)
  have iX11 : ∀ w ∈ wsX110, w ∈ wsX11_machine := fun _ h => List.mem_cons_of_mem _ (List.mem_append_left _ (List.mem_append_right _ h))
  have iX4 : ∀ w ∈ wsX40, w ∈ wsX11_machine := fun _ h => List.mem_cons_of_mem _ (List.mem_append_right _ h)
  have hP : va_P g.1 vwCl [(h_this, .inr (10, [.ref h_this_machines, .int c_made, .ref h_this_word, .ref h_this_steps, .ref h_this_trail, .ref h_this_search, .ref h_this_prices, .ref h_this_odds, .ref h_this_pairs, .ref h_this_greed, .ref h_this_colouring])), (h_this_machines, .inl (g.2.2.2.2, 6, .inr (.inr (.inr (.inr c_machines)))))] s.heap := hP
  have hD : va_D A [(h_this, .inr (10, [.ref h_this_machines, .int c_made, .ref h_this_word, .ref h_this_steps, .ref h_this_trail, .ref h_this_search, .ref h_this_prices, .ref h_this_odds, .ref h_this_pairs, .ref h_this_greed, .ref h_this_colouring])), (h_this_machines, .inl (g.2.2.2.2, 6, .inr (.inr (.inr (.inr c_machines)))))] := hD
  have hl : lv_has ls 3 [(0, .ref h_this), (1, .int x1), (2, .int x2)] := hl
  unfold wp_X11_machine_a at h
  refine lv_iload_n hx hb dX11_machine_0 rfl (lv_at hl 1 rfl) ?_
  refine lv_iconst (v := (nI 1)) hx hb dX11_machine_1 (by decide) ?_
  refine lv_icmp_lt (tgt := 21) hx hb dX11_machine_2 (by decide) (fun cq => ?_) (fun cq => ?_)
  · replace h := h.1 cq
    refine lv_bipush (v := (-2)) hx hb dX11_machine_21 (by decide) ?_
    exact False.elim h
  · replace h := h.2 cq
    refine lv_iload_n hx hb dX11_machine_5 rfl (lv_at hl 1 rfl) ?_
    refine lv_bipush (v := (nI 12)) hx hb dX11_machine_6 (by decide) ?_
    refine lv_icmp_gt (tgt := 21) hx hb dX11_machine_8 (by decide) (fun cq => ?_) (fun cq => ?_)
    · replace h := h.1 cq
      refine lv_bipush (v := (-2)) hx hb dX11_machine_21 (by decide) ?_
      exact False.elim h
    · replace h := h.2 cq
      refine lv_iload_n hx hb dX11_machine_11 rfl (lv_at hl 2 rfl) ?_
      refine lv_iconst (v := (nI 1)) hx hb dX11_machine_12 (by decide) ?_
      refine lv_icmp_lt (tgt := 21) hx hb dX11_machine_13 (by decide) (fun cq => ?_) (fun cq => ?_)
      · replace h := h.1 cq
        refine lv_bipush (v := (-2)) hx hb dX11_machine_21 (by decide) ?_
        exact False.elim h
      · replace h := h.2 cq
        refine lv_iload_n hx hb dX11_machine_16 rfl (lv_at hl 2 rfl) ?_
        refine lv_iconst (v := (nI 4)) hx hb dX11_machine_17 (by decide) ?_
        refine lv_icmp_le (tgt := 24) hx hb dX11_machine_18 (by decide) (fun cq => ?_) (fun cq => ?_)
        · replace h := h.1 cq
          refine lv_aload_n hx hb dX11_machine_24 rfl (lv_at hl 0 rfl) ?_
          refine va_get (D := g.1) (ci := 10) (v := .int c_made) (C := RX11) (T := TX11) (N := 11) hx hb hts iX11 hown hK hP 0 rfl rfl 1 (by decide) f84 (fun _ h9 => h9) rfl dX11_machine_25 ?_
          refine lv_bipush (v := (nI 6)) hx hb dX11_machine_28 (by decide) ?_
          refine lv_icmp_lt (tgt := 38) hx hb dX11_machine_30 (by decide) (fun cq => ?_) (fun cq => ?_)
          · replace h := h.1 cq
            refine lv_aload_n hx hb dX11_machine_38 rfl (lv_at hl 0 rfl) ?_
            refine va_new (ci := 3) (fs := [.int 0, .int 0, .null, .null, .null, .null]) (C := RX4) (T := TX4) (N := 6) hx hb hts iX4 tyX4 tyX4_ok hown cl9 inX4 iiX4 hK hP hD hS hA rfl (fun j hj => by match j, hj with | 0, _ => rfl | 1, _ => rfl | 2, _ => rfl | 3, _ => rfl | 4, _ => rfl | 5, _ => rfl) (Nat.le_of_ble_eq_true rfl) (Nat.le_of_ble_eq_true rfl) dX11_machine_39 (fun h_nw H hP hD hS => ?_)
            replace h := h h_nw
            have hP : va_P g.1 vwCl [(h_this, .inr (10, [.ref h_this_machines, .int c_made, .ref h_this_word, .ref h_this_steps, .ref h_this_trail, .ref h_this_search, .ref h_this_prices, .ref h_this_odds, .ref h_this_pairs, .ref h_this_greed, .ref h_this_colouring])), (h_this_machines, .inl (g.2.2.2.2, 6, .inr (.inr (.inr (.inr c_machines))))), (h_nw, .inr (3, [.int 0, .int 0, .null, .null, .null, .null]))] H := hP
            have hD : va_D A [(h_this, .inr (10, [.ref h_this_machines, .int c_made, .ref h_this_word, .ref h_this_steps, .ref h_this_trail, .ref h_this_search, .ref h_this_prices, .ref h_this_odds, .ref h_this_pairs, .ref h_this_greed, .ref h_this_colouring])), (h_this_machines, .inl (g.2.2.2.2, 6, .inr (.inr (.inr (.inr c_machines))))), (h_nw, .inr (3, [.int 0, .int 0, .null, .null, .null, .null]))] := hD
            refine lv_dup hx hb dX11_machine_42 rfl ?_
            refine lv_iload_n hx hb dX11_machine_43 rfl (lv_at hl 1 rfl) ?_
            refine lv_iload_n hx hb dX11_machine_44 rfl (lv_at hl 2 rfl) ?_
            refine go_V E (run_C E ((k_X4_init l g h_nw h) _) (cwI 2 hts gX11_machine_X4_init rfl rfl rfl iiX4 ml88 im_X4_init rfl (by decide +kernel) ⟨Nat.le_of_ble_eq_true rfl, Nat.le_of_ble_eq_true rfl⟩) hP hD hS [2] rfl rfl hl rfl rfl (Nat.le_of_ble_eq_true rfl) dX11_machine_45 ⟨Nat.le_of_ble_eq_true rfl, Nat.le_of_ble_eq_true rfl⟩) hP hD hS [2] rfl [(true, 0), (true, 1), (false, 0), (false, 1), (false, 2), (false, 3), (false, 4)] rfl (by decide) (fun u => [(h_this, .inr (10, [.ref h_this_machines, .int c_made, .ref h_this_word, .ref h_this_steps, .ref h_this_trail, .ref h_this_search, .ref h_this_prices, .ref h_this_odds, .ref h_this_pairs, .ref h_this_greed, .ref h_this_colouring])), (h_this_machines, .inl (g.2.2.2.2, 6, .inr (.inr (.inr (.inr c_machines))))), (h_nw, .inr (3, [.int u.2.2.2.2.1, .int u.2.2.2.2.2.1, .ref u.1, .ref u.2.1, .ref u.2.2.1, .ref u.2.2.2.1])), (u.1, .inl (g.2.1, 48, .inl u.2.2.2.2.2.2.1)), (u.2.1, .inl (g.2.1, 12, .inl u.2.2.2.2.2.2.2.1)), (u.2.2.1, .inl (g.2.1, 4, .inl u.2.2.2.2.2.2.2.2.1)), (u.2.2.2.1, .inl (g.2.1, 4, .inl u.2.2.2.2.2.2.2.2.2))]) (fun _ => rfl) (fun u H locs h hP hD hS => ?_)
            obtain ⟨h_nw_moves, h_nw_lights, h_nw_prices, h_nw_shares, c_nw_states, c_nw_letters, c_nw_moves, c_nw_lights, c_nw_prices, c_nw_shares⟩ := u
            try dsimp only at h
            have hP : va_P g.1 vwCl [(h_this, .inr (10, [.ref h_this_machines, .int c_made, .ref h_this_word, .ref h_this_steps, .ref h_this_trail, .ref h_this_search, .ref h_this_prices, .ref h_this_odds, .ref h_this_pairs, .ref h_this_greed, .ref h_this_colouring])), (h_this_machines, .inl (g.2.2.2.2, 6, .inr (.inr (.inr (.inr c_machines))))), (h_nw, .inr (3, [.int c_nw_states, .int c_nw_letters, .ref h_nw_moves, .ref h_nw_lights, .ref h_nw_prices, .ref h_nw_shares])), (h_nw_moves, .inl (g.2.1, 48, .inl c_nw_moves)), (h_nw_lights, .inl (g.2.1, 12, .inl c_nw_lights)), (h_nw_prices, .inl (g.2.1, 4, .inl c_nw_prices)), (h_nw_shares, .inl (g.2.1, 4, .inl c_nw_shares))] H := hP
            have hD : va_D A [(h_this, .inr (10, [.ref h_this_machines, .int c_made, .ref h_this_word, .ref h_this_steps, .ref h_this_trail, .ref h_this_search, .ref h_this_prices, .ref h_this_odds, .ref h_this_pairs, .ref h_this_greed, .ref h_this_colouring])), (h_this_machines, .inl (g.2.2.2.2, 6, .inr (.inr (.inr (.inr c_machines))))), (h_nw, .inr (3, [.int c_nw_states, .int c_nw_letters, .ref h_nw_moves, .ref h_nw_lights, .ref h_nw_prices, .ref h_nw_shares])), (h_nw_moves, .inl (g.2.1, 48, .inl c_nw_moves)), (h_nw_lights, .inl (g.2.1, 12, .inl c_nw_lights)), (h_nw_prices, .inl (g.2.1, 4, .inl c_nw_prices)), (h_nw_shares, .inl (g.2.1, 4, .inl c_nw_shares))] := hD
            refine go_I E (run_V E ((k_X11_add l g h_this h_nw h_this_machines h_this_word h_this_steps h_this_trail h_this_search h_this_prices h_this_odds h_this_pairs h_this_greed h_this_colouring h_nw_moves h_nw_lights h_nw_prices h_nw_shares h) _) (cwV 1 hts gX11_machine_X11_add rfl rfl rfl (by decide +kernel) ⟨Nat.le_of_ble_eq_true rfl, Nat.le_of_ble_eq_true rfl⟩) hP hD hS [0, 1, 2] rfl rfl 0 10 rfl rfl rfl hl rfl rfl (Nat.le_of_ble_eq_true rfl) dX11_machine_48 ⟨Nat.le_of_ble_eq_true rfl, Nat.le_of_ble_eq_true rfl⟩) hP hD hS [0, 1, 2] rfl [(false, 0), (false, 1), (false, 2), (true, 3), (true, 4), (true, 5), (true, 6)] rfl (by decide) (fun u => [(h_this, .inr (10, [.ref h_this_machines, .int u.1, .ref h_this_word, .ref h_this_steps, .ref h_this_trail, .ref h_this_search, .ref h_this_prices, .ref h_this_odds, .ref h_this_pairs, .ref h_this_greed, .ref h_this_colouring])), (h_this_machines, .inl (g.2.2.2.2, 6, .inr (.inr (.inr (.inr u.2))))), (h_nw, .inr (3, [.int c_nw_states, .int c_nw_letters, .ref h_nw_moves, .ref h_nw_lights, .ref h_nw_prices, .ref h_nw_shares])), (h_nw_moves, .inl (g.2.1, 48, .inl c_nw_moves)), (h_nw_lights, .inl (g.2.1, 12, .inl c_nw_lights)), (h_nw_prices, .inl (g.2.1, 4, .inl c_nw_prices)), (h_nw_shares, .inl (g.2.1, 4, .inl c_nw_shares))]) (fun _ => rfl) (fun r4 u H locs h hP hD hS => ?_)
            obtain ⟨c_made, c_machines⟩ := u
            try dsimp only at h
            have hP : va_P g.1 vwCl [(h_this, .inr (10, [.ref h_this_machines, .int c_made, .ref h_this_word, .ref h_this_steps, .ref h_this_trail, .ref h_this_search, .ref h_this_prices, .ref h_this_odds, .ref h_this_pairs, .ref h_this_greed, .ref h_this_colouring])), (h_this_machines, .inl (g.2.2.2.2, 6, .inr (.inr (.inr (.inr c_machines))))), (h_nw, .inr (3, [.int c_nw_states, .int c_nw_letters, .ref h_nw_moves, .ref h_nw_lights, .ref h_nw_prices, .ref h_nw_shares])), (h_nw_moves, .inl (g.2.1, 48, .inl c_nw_moves)), (h_nw_lights, .inl (g.2.1, 12, .inl c_nw_lights)), (h_nw_prices, .inl (g.2.1, 4, .inl c_nw_prices)), (h_nw_shares, .inl (g.2.1, 4, .inl c_nw_shares))] H := hP
            have hD : va_D A [(h_this, .inr (10, [.ref h_this_machines, .int c_made, .ref h_this_word, .ref h_this_steps, .ref h_this_trail, .ref h_this_search, .ref h_this_prices, .ref h_this_odds, .ref h_this_pairs, .ref h_this_greed, .ref h_this_colouring])), (h_this_machines, .inl (g.2.2.2.2, 6, .inr (.inr (.inr (.inr c_machines))))), (h_nw, .inr (3, [.int c_nw_states, .int c_nw_letters, .ref h_nw_moves, .ref h_nw_lights, .ref h_nw_prices, .ref h_nw_shares])), (h_nw_moves, .inl (g.2.1, 48, .inl c_nw_moves)), (h_nw_lights, .inl (g.2.1, 12, .inl c_nw_lights)), (h_nw_prices, .inl (g.2.1, 4, .inl c_nw_prices)), (h_nw_shares, .inl (g.2.1, 4, .inl c_nw_shares))] := hD
            exact hret r4 (h_nw, h_nw_moves, h_nw_lights, h_nw_prices, h_nw_shares, c_made, c_machines, c_nw_states, c_nw_letters, c_nw_moves, c_nw_lights, c_nw_prices, c_nw_shares) _ _ _ _ rfl h (hP.sub [0, 1, 2, 3, 4, 5, 6] rfl) (hD.sub [0, 1, 2, 3, 4, 5, 6] rfl rfl) hS dX11_machine_51
          · replace h := h.2 cq
            refine lv_bipush (v := (-4)) hx hb dX11_machine_33 (by decide) ?_
            refine lv_goto (tgt := 51) hx hb dX11_machine_35 (by decide) ?_
            exact False.elim h
        · replace h := h.2 cq
          refine lv_bipush (v := (-2)) hx hb dX11_machine_21 (by decide) ?_
          exact False.elim h
abbrev cw_X11_machine_f (g : GG) (h_this : Nat) (h_this_machines : Nat) (h_this_word : Nat) (h_this_steps : Nat) (h_this_trail : Nat) (h_this_search : Nat) (h_this_prices : Nat) (h_this_odds : Nat) (h_this_pairs : Nat) (h_this_greed : Nat) (h_this_colouring : Nat) (c_made : Int32) (c_machines : Nat → Option Nat) : va_W := [(h_this, .inr (10, [.ref h_this_machines, .int c_made, .ref h_this_word, .ref h_this_steps, .ref h_this_trail, .ref h_this_search, .ref h_this_prices, .ref h_this_odds, .ref h_this_pairs, .ref h_this_greed, .ref h_this_colouring])), (h_this_machines, .inl (g.2.2.2.2, 6, .inr (.inr (.inr (.inr c_machines)))))]
def wp_X11_machine_f (c_made : Int32) (c_machines : Nat → Option Nat) (x1 : Int32) (x2 : Int32) (Q : Int32 → Int32 → (Nat → Option Nat) → Prop) : Prop :=
    ((x1 < (nI 1) → Q (-2) c_made c_machines) ∧ (¬ x1 < (nI 1) → (((nI 12) < x1 → Q (-2) c_made c_machines) ∧ (¬ (nI 12) < x1 → ((x2 < (nI 1) → Q (-2) c_made c_machines) ∧ (¬ x2 < (nI 1) → ((x2 ≤ (nI 4) → ((c_made < (nI 6) → False) ∧ (¬ c_made < (nI 6) → Q (-4) c_made c_machines))) ∧ (¬ x2 ≤ (nI 4) → Q (-2) c_made c_machines))))))))
abbrev rm_X11_machine_f : Room := { frames := 0, cells := 0, slots := 0, locals := 0 }
set_option maxHeartbeats 4000000 in
set_option maxRecDepth 100000 in
theorem k_X11_machine_f (l : Launch) (g : GG) (h_this : Nat) (h_this_machines : Nat) (h_this_word : Nat) (h_this_steps : Nat) (h_this_trail : Nat) (h_this_search : Nat) (h_this_prices : Nat) (h_this_odds : Nat) (h_this_pairs : Nat) (h_this_greed : Nat) (h_this_colouring : Nat) {c_made : Int32} {c_machines : Nat → Option Nat} {x1 : Int32} {x2 : Int32} {Q : Int32 → Int32 → (Nat → Option Nat) → Prop} (h : wp_X11_machine_f c_made c_machines x1 x2 Q) : CI l g yX11_machine wsX11_machine rm_X11_machine_f [.ref h_this, .int x1, .int x2] (cw_X11_machine_f g h_this h_this_machines h_this_word h_this_steps h_this_trail h_this_search h_this_prices h_this_odds h_this_pairs h_this_greed h_this_colouring c_made c_machines) (S := Int32 × (Nat → Option Nat)) (fun u => (cw_X11_machine_f g h_this h_this_machines h_this_word h_this_steps h_this_trail h_this_search h_this_prices h_this_odds h_this_pairs h_this_greed h_this_colouring u.1 u.2)) (fun r u => Q r u.1 u.2) 0 0 := by
  refine mk_I (cc := cX11_machine) (maxL := 3) (own := RX11) (by decide) rfl rfl (Nat.le_of_ble_eq_true rfl) ?_
  intro p e s m args below meth c A QQ E hret hP hD hS ls hl
  have E2 := E
  obtain ⟨hx, hb, hr, hml, hown, hts, hlocks, hA, hZ, hK, hnm⟩ := E2
  have f84 := hts (.fieldLink RX11 84 "WordBench" "made" "I") (by decide +kernel)
  have iX11 : ∀ w ∈ wsX110, w ∈ wsX11_machine := fun _ h => List.mem_cons_of_mem _ (List.mem_append_left _ (List.mem_append_right _ h))
  have hP : va_P g.1 vwCl (cw_X11_machine_f g h_this h_this_machines h_this_word h_this_steps h_this_trail h_this_search h_this_prices h_this_odds h_this_pairs h_this_greed h_this_colouring c_made c_machines) s.heap := hP
  have hD : va_D A (cw_X11_machine_f g h_this h_this_machines h_this_word h_this_steps h_this_trail h_this_search h_this_prices h_this_odds h_this_pairs h_this_greed h_this_colouring c_made c_machines) := hD
  have hl : lv_has ls 3 [(0, .ref h_this), (1, .int x1), (2, .int x2)] := hl
  unfold wp_X11_machine_f at h
  refine lv_iload_n hx hb dX11_machine_0 rfl (lv_at hl 1 rfl) ?_
  refine lv_iconst (v := (nI 1)) hx hb dX11_machine_1 (by decide) ?_
  refine lv_icmp_lt (tgt := 21) hx hb dX11_machine_2 (by decide) (fun cq => ?_) (fun cq => ?_)
  · replace h := h.1 cq
    refine lv_bipush (v := (-2)) hx hb dX11_machine_21 (by decide) ?_
    exact hret (-2) (c_made, c_machines) _ _ _ _ rfl h hP hD hS dX11_machine_23
  · replace h := h.2 cq
    refine lv_iload_n hx hb dX11_machine_5 rfl (lv_at hl 1 rfl) ?_
    refine lv_bipush (v := (nI 12)) hx hb dX11_machine_6 (by decide) ?_
    refine lv_icmp_gt (tgt := 21) hx hb dX11_machine_8 (by decide) (fun cq => ?_) (fun cq => ?_)
    · replace h := h.1 cq
      refine lv_bipush (v := (-2)) hx hb dX11_machine_21 (by decide) ?_
      exact hret (-2) (c_made, c_machines) _ _ _ _ rfl h hP hD hS dX11_machine_23
    · replace h := h.2 cq
      refine lv_iload_n hx hb dX11_machine_11 rfl (lv_at hl 2 rfl) ?_
      refine lv_iconst (v := (nI 1)) hx hb dX11_machine_12 (by decide) ?_
      refine lv_icmp_lt (tgt := 21) hx hb dX11_machine_13 (by decide) (fun cq => ?_) (fun cq => ?_)
      · replace h := h.1 cq
        refine lv_bipush (v := (-2)) hx hb dX11_machine_21 (by decide) ?_
        exact hret (-2) (c_made, c_machines) _ _ _ _ rfl h hP hD hS dX11_machine_23
      · replace h := h.2 cq
        refine lv_iload_n hx hb dX11_machine_16 rfl (lv_at hl 2 rfl) ?_
        refine lv_iconst (v := (nI 4)) hx hb dX11_machine_17 (by decide) ?_
        refine lv_icmp_le (tgt := 24) hx hb dX11_machine_18 (by decide) (fun cq => ?_) (fun cq => ?_)
        · replace h := h.1 cq
          refine lv_aload_n hx hb dX11_machine_24 rfl (lv_at hl 0 rfl) ?_
          refine va_get (D := g.1) (ci := 10) (v := .int c_made) (C := RX11) (T := TX11) (N := 11) hx hb hts iX11 hown hK hP 0 rfl rfl 1 (by decide) f84 (fun _ h9 => h9) rfl dX11_machine_25 ?_
          refine lv_bipush (v := (nI 6)) hx hb dX11_machine_28 (by decide) ?_
          refine lv_icmp_lt (tgt := 38) hx hb dX11_machine_30 (by decide) (fun cq => ?_) (fun cq => ?_)
          · replace h := h.1 cq
            refine lv_aload_n hx hb dX11_machine_38 rfl (lv_at hl 0 rfl) ?_
            exact False.elim h
          · replace h := h.2 cq
            refine lv_bipush (v := (-4)) hx hb dX11_machine_33 (by decide) ?_
            refine lv_goto (tgt := 51) hx hb dX11_machine_35 (by decide) ?_
            exact hret (-4) (c_made, c_machines) _ _ _ _ rfl h hP hD hS dX11_machine_51
        · replace h := h.2 cq
          refine lv_bipush (v := (-2)) hx hb dX11_machine_21 (by decide) ?_
          exact hret (-2) (c_made, c_machines) _ _ _ _ rfl h hP hD hS dX11_machine_23
def J_X11_ring_a_97 (h_nw : Nat) (Q : Int32 → Nat → Int32 → (Nat → Option Nat) → Int32 → Int32 → (Nat → Int32) → (Nat → Int32) → (Nat → Int32) → (Nat → Int32) → Prop) (c_made : Int32) (c_machines : Nat → Option Nat) (c_nw_states : Int32) (c_nw_letters : Int32) (c_nw_moves : Nat → Int32) (c_nw_lights : Nat → Int32) (c_nw_prices : Nat → Int32) (c_nw_shares : Nat → Int32) : Prop :=
    wp_X11_add h_nw c_made c_machines c_nw_states c_nw_letters (fun r4 c_made c_machines => Q r4 h_nw c_made c_machines c_nw_states c_nw_letters c_nw_moves c_nw_lights c_nw_prices c_nw_shares)
def J_X11_ring_a_88 (c_nw_states : Int32) (c_nw_letters : Int32) (R_38 : Int32 → (Nat → Int32) → Prop) (x3 : Int32) (c_nw_moves : Nat → Int32) (t0 : Int32) (t1 : Int32) (t2 : Int32) : Prop :=
    wp_X4_lead c_nw_states c_nw_letters c_nw_moves t2 t1 t0 (fun c_nw_moves => R_38 (x3 + (nI 1)) c_nw_moves)
def J_X11_ring_a_72 (c_nw_states : Int32) (c_nw_letters : Int32) (R_38 : Int32 → (Nat → Int32) → Prop) (x3 : Int32) (x4 : Int32) (c_nw_moves : Nat → Int32) (t0 : Int32) (t1 : Int32) (t2 : Int32) : Prop :=
    wp_X4_lead c_nw_states c_nw_letters c_nw_moves t2 t1 t0 (fun c_nw_moves => ((x4 = (nI 0) → J_X11_ring_a_88 c_nw_states c_nw_letters R_38 x3 c_nw_moves x3 (nI 1) x3) ∧ (¬ x4 = (nI 0) → J_X11_ring_a_88 c_nw_states c_nw_letters R_38 x3 c_nw_moves (nI 0) (nI 1) x3)))
def J_X11_ring_a_55 (c_nw_states : Int32) (c_nw_letters : Int32) (R_38 : Int32 → (Nat → Int32) → Prop) (x3 : Int32) (c_nw_moves : Nat → Int32) (t0 : Int32) : Prop :=
    ((t0 = (nI 0) → J_X11_ring_a_72 c_nw_states c_nw_letters R_38 x3 t0 c_nw_moves (x3 + (nI 1)) (nI 0) x3) ∧ (¬ t0 = (nI 0) → J_X11_ring_a_72 c_nw_states c_nw_letters R_38 x3 t0 c_nw_moves (nI 0) (nI 0) x3))
def L_X11_ring_a_38 (h_nw : Nat) (c_made : Int32) (c_machines : Nat → Option Nat) (c_nw_states : Int32) (c_nw_letters : Int32) (c_nw_lights : Nat → Int32) (c_nw_prices : Nat → Int32) (c_nw_shares : Nat → Int32) (x1 : Int32) (Q : Int32 → Nat → Int32 → (Nat → Option Nat) → Int32 → Int32 → (Nat → Int32) → (Nat → Int32) → (Nat → Int32) → (Nat → Int32) → Prop) : Nat → Int32 → (Nat → Int32) → Prop
  | 0, _, _ => False
  | n_38 + 1, x3, c_nw_moves =>
    ((x1 ≤ x3 → J_X11_ring_a_97 h_nw Q c_made c_machines c_nw_states c_nw_letters c_nw_moves c_nw_lights c_nw_prices c_nw_shares) ∧ (¬ x1 ≤ x3 → ((¬ x3 = (x1 - (nI 1)) → J_X11_ring_a_55 c_nw_states c_nw_letters (L_X11_ring_a_38 h_nw c_made c_machines c_nw_states c_nw_letters c_nw_lights c_nw_prices c_nw_shares x1 Q n_38) x3 c_nw_moves (nI 0)) ∧ (x3 = (x1 - (nI 1)) → J_X11_ring_a_55 c_nw_states c_nw_letters (L_X11_ring_a_38 h_nw c_made c_machines c_nw_states c_nw_letters c_nw_lights c_nw_prices c_nw_shares x1 Q n_38) x3 c_nw_moves (nI 1)))))
def wp_X11_ring_a (c_made : Int32) (c_machines : Nat → Option Nat) (x1 : Int32) (Q : Int32 → Nat → Int32 → (Nat → Option Nat) → Int32 → Int32 → (Nat → Int32) → (Nat → Int32) → (Nat → Int32) → (Nat → Int32) → Prop) : Prop :=
    ((x1 < (nI 2) → False) ∧ (¬ x1 < (nI 2) → ((x1 ≤ (nI 12) → ((c_made < (nI 6) → ∀ h_nw : Nat, wp_X4_init x1 (nI 2) (fun c_nw_states c_nw_letters c_nw_moves c_nw_lights c_nw_prices c_nw_shares => ∃ n, L_X11_ring_a_38 h_nw c_made c_machines c_nw_states c_nw_letters c_nw_lights c_nw_prices c_nw_shares x1 Q n (nI 0) c_nw_moves)) ∧ (¬ c_made < (nI 6) → False))) ∧ (¬ x1 ≤ (nI 12) → False))))
abbrev rm_X11_ring_a : Room := { frames := 2, cells := 5, slots := 74, locals := 45 }
set_option maxHeartbeats 4000000 in
set_option maxRecDepth 100000 in
theorem k_X11_ring_a (l : Launch) (g : GG) (h_this : Nat) (h_this_machines : Nat) (h_this_word : Nat) (h_this_steps : Nat) (h_this_trail : Nat) (h_this_search : Nat) (h_this_prices : Nat) (h_this_odds : Nat) (h_this_pairs : Nat) (h_this_greed : Nat) (h_this_colouring : Nat) {c_made : Int32} {c_machines : Nat → Option Nat} {x1 : Int32} {Q : Int32 → Nat → Int32 → (Nat → Option Nat) → Int32 → Int32 → (Nat → Int32) → (Nat → Int32) → (Nat → Int32) → (Nat → Int32) → Prop} (h : wp_X11_ring_a c_made c_machines x1 Q) : CI l g yX11_ring wsX11_ring rm_X11_ring_a [.ref h_this, .int x1] [(h_this, .inr (10, [.ref h_this_machines, .int c_made, .ref h_this_word, .ref h_this_steps, .ref h_this_trail, .ref h_this_search, .ref h_this_prices, .ref h_this_odds, .ref h_this_pairs, .ref h_this_greed, .ref h_this_colouring])), (h_this_machines, .inl (g.2.2.2.2, 6, .inr (.inr (.inr (.inr c_machines)))))] (S := Nat × Nat × Nat × Nat × Nat × Int32 × (Nat → Option Nat) × Int32 × Int32 × (Nat → Int32) × (Nat → Int32) × (Nat → Int32) × (Nat → Int32)) (fun u => [(h_this, .inr (10, [.ref h_this_machines, .int u.2.2.2.2.2.1, .ref h_this_word, .ref h_this_steps, .ref h_this_trail, .ref h_this_search, .ref h_this_prices, .ref h_this_odds, .ref h_this_pairs, .ref h_this_greed, .ref h_this_colouring])), (h_this_machines, .inl (g.2.2.2.2, 6, .inr (.inr (.inr (.inr u.2.2.2.2.2.2.1))))), (u.1, .inr (3, [.int u.2.2.2.2.2.2.2.1, .int u.2.2.2.2.2.2.2.2.1, .ref u.2.1, .ref u.2.2.1, .ref u.2.2.2.1, .ref u.2.2.2.2.1])), (u.2.1, .inl (g.2.1, 48, .inl u.2.2.2.2.2.2.2.2.2.1)), (u.2.2.1, .inl (g.2.1, 12, .inl u.2.2.2.2.2.2.2.2.2.2.1)), (u.2.2.2.1, .inl (g.2.1, 4, .inl u.2.2.2.2.2.2.2.2.2.2.2.1)), (u.2.2.2.2.1, .inl (g.2.1, 4, .inl u.2.2.2.2.2.2.2.2.2.2.2.2))]) (fun r u => Q r u.1 u.2.2.2.2.2.1 u.2.2.2.2.2.2.1 u.2.2.2.2.2.2.2.1 u.2.2.2.2.2.2.2.2.1 u.2.2.2.2.2.2.2.2.2.1 u.2.2.2.2.2.2.2.2.2.2.1 u.2.2.2.2.2.2.2.2.2.2.2.1 u.2.2.2.2.2.2.2.2.2.2.2.2) 5 74 := by
  refine mk_I (cc := cX11_ring) (maxL := 5) (own := RX11) (by decide) rfl rfl (Nat.le_of_ble_eq_true rfl) ?_
  intro p e s m args below meth c A QQ E hret hP hD hS ls hl
  have E2 := E
  obtain ⟨hx, hb, hr, hml, hown, hts, hlocks, hA, hZ, hK, hnm⟩ := E2
  have f84 := hts (.fieldLink RX11 84 "WordBench" "made" "I") (by decide +kernel)
  have cl9 := hts (.classLink RX11 9 RX4) (by decide +kernel)
  have inX4 := hts (.instantiable RX4 6) (by decide +kernel)
  have iiX4 := hts (.initialized RX4) (by decide +kernel)
  have ml88 := hts (.methodLink RX11 88 yX4_init) (by decide +kernel)
  have im_X4_init := hts (.instanceMethod yX4_init) (by decide +kernel)
  have iX11 : ∀ w ∈ wsX110, w ∈ wsX11_ring := fun _ h => List.mem_cons_of_mem _ (List.mem_append_left _ (List.mem_append_right _ h))
  have iX4 : ∀ w ∈ wsX40, w ∈ wsX11_ring := fun _ h => List.mem_cons_of_mem _ (List.mem_append_right _ h)
  have hP : va_P g.1 vwCl [(h_this, .inr (10, [.ref h_this_machines, .int c_made, .ref h_this_word, .ref h_this_steps, .ref h_this_trail, .ref h_this_search, .ref h_this_prices, .ref h_this_odds, .ref h_this_pairs, .ref h_this_greed, .ref h_this_colouring])), (h_this_machines, .inl (g.2.2.2.2, 6, .inr (.inr (.inr (.inr c_machines)))))] s.heap := hP
  have hD : va_D A [(h_this, .inr (10, [.ref h_this_machines, .int c_made, .ref h_this_word, .ref h_this_steps, .ref h_this_trail, .ref h_this_search, .ref h_this_prices, .ref h_this_odds, .ref h_this_pairs, .ref h_this_greed, .ref h_this_colouring])), (h_this_machines, .inl (g.2.2.2.2, 6, .inr (.inr (.inr (.inr c_machines)))))] := hD
  have hl : lv_has ls 5 [(0, .ref h_this), (1, .int x1)] := hl
  unfold wp_X11_ring_a at h
  have K_97 : ∀ (h_nw : Nat) (h_nw_moves : Nat) (h_nw_lights : Nat) (h_nw_prices : Nat) (h_nw_shares : Nat) (c_made : Int32) (c_machines : Nat → Option Nat) (c_nw_states : Int32) (c_nw_letters : Int32) (c_nw_moves : Nat → Int32) (c_nw_lights : Nat → Int32) (c_nw_prices : Nat → Int32) (c_nw_shares : Nat → Int32) , J_X11_ring_a_97 h_nw Q c_made c_machines c_nw_states c_nw_letters c_nw_moves c_nw_lights c_nw_prices c_nw_shares → ∀ (H : Heap) (locs : List Loc), va_P g.1 vwCl [(h_this, .inr (10, [.ref h_this_machines, .int c_made, .ref h_this_word, .ref h_this_steps, .ref h_this_trail, .ref h_this_search, .ref h_this_prices, .ref h_this_odds, .ref h_this_pairs, .ref h_this_greed, .ref h_this_colouring])), (h_this_machines, .inl (g.2.2.2.2, 6, .inr (.inr (.inr (.inr c_machines))))), (h_nw, .inr (3, [.int c_nw_states, .int c_nw_letters, .ref h_nw_moves, .ref h_nw_lights, .ref h_nw_prices, .ref h_nw_shares])), (h_nw_moves, .inl (g.2.1, 48, .inl c_nw_moves)), (h_nw_lights, .inl (g.2.1, 12, .inl c_nw_lights)), (h_nw_prices, .inl (g.2.1, 4, .inl c_nw_prices)), (h_nw_shares, .inl (g.2.1, 4, .inl c_nw_shares))] H → va_D A [(h_this, .inr (10, [.ref h_this_machines, .int c_made, .ref h_this_word, .ref h_this_steps, .ref h_this_trail, .ref h_this_search, .ref h_this_prices, .ref h_this_odds, .ref h_this_pairs, .ref h_this_greed, .ref h_this_colouring])), (h_this_machines, .inl (g.2.2.2.2, 6, .inr (.inr (.inr (.inr c_machines))))), (h_nw, .inr (3, [.int c_nw_states, .int c_nw_letters, .ref h_nw_moves, .ref h_nw_lights, .ref h_nw_prices, .ref h_nw_shares])), (h_nw_moves, .inl (g.2.1, 48, .inl c_nw_moves)), (h_nw_lights, .inl (g.2.1, 12, .inl c_nw_lights)), (h_nw_prices, .inl (g.2.1, 4, .inl c_nw_prices)), (h_nw_shares, .inl (g.2.1, 4, .inl c_nw_shares))] → va_S A s.heap H locs → ∀ ls : Array Slot, lv_has ls 5 [(0, .ref h_this), (2, .ref h_nw)] → W p l e rm_X11_ring_a s m args below meth c H locs 5 74 QQ (F0 m 97 ls []) := by
    intro h_nw h_nw_moves h_nw_lights h_nw_prices h_nw_shares c_made c_machines c_nw_states c_nw_letters c_nw_moves c_nw_lights c_nw_prices c_nw_shares h H locs hP hD hS ls hl
    unfold J_X11_ring_a_97 at h
    refine lv_aload_n hx hb dX11_ring_97 rfl (lv_at hl 0 rfl) ?_
    refine lv_aload_n hx hb dX11_ring_98 rfl (lv_at hl 1 rfl) ?_
    refine go_I E (run_V E ((k_X11_add l g h_this h_nw h_this_machines h_this_word h_this_steps h_this_trail h_this_search h_this_prices h_this_odds h_this_pairs h_this_greed h_this_colouring h_nw_moves h_nw_lights h_nw_prices h_nw_shares h) _) (cwV 1 hts gX11_ring_X11_add rfl rfl rfl (by decide +kernel) ⟨Nat.le_of_ble_eq_true rfl, Nat.le_of_ble_eq_true rfl⟩) hP hD hS [0, 1, 2] rfl rfl 0 10 rfl rfl rfl hl rfl rfl (Nat.le_of_ble_eq_true rfl) dX11_ring_99 ⟨Nat.le_of_ble_eq_true rfl, Nat.le_of_ble_eq_true rfl⟩) hP hD hS [0, 1, 2] rfl [(false, 0), (false, 1), (false, 2), (true, 3), (true, 4), (true, 5), (true, 6)] rfl (by decide) (fun u => [(h_this, .inr (10, [.ref h_this_machines, .int u.1, .ref h_this_word, .ref h_this_steps, .ref h_this_trail, .ref h_this_search, .ref h_this_prices, .ref h_this_odds, .ref h_this_pairs, .ref h_this_greed, .ref h_this_colouring])), (h_this_machines, .inl (g.2.2.2.2, 6, .inr (.inr (.inr (.inr u.2))))), (h_nw, .inr (3, [.int c_nw_states, .int c_nw_letters, .ref h_nw_moves, .ref h_nw_lights, .ref h_nw_prices, .ref h_nw_shares])), (h_nw_moves, .inl (g.2.1, 48, .inl c_nw_moves)), (h_nw_lights, .inl (g.2.1, 12, .inl c_nw_lights)), (h_nw_prices, .inl (g.2.1, 4, .inl c_nw_prices)), (h_nw_shares, .inl (g.2.1, 4, .inl c_nw_shares))]) (fun _ => rfl) (fun r4 u H locs h hP hD hS => ?_)
    obtain ⟨c_made, c_machines⟩ := u
    try dsimp only at h
    have hP : va_P g.1 vwCl [(h_this, .inr (10, [.ref h_this_machines, .int c_made, .ref h_this_word, .ref h_this_steps, .ref h_this_trail, .ref h_this_search, .ref h_this_prices, .ref h_this_odds, .ref h_this_pairs, .ref h_this_greed, .ref h_this_colouring])), (h_this_machines, .inl (g.2.2.2.2, 6, .inr (.inr (.inr (.inr c_machines))))), (h_nw, .inr (3, [.int c_nw_states, .int c_nw_letters, .ref h_nw_moves, .ref h_nw_lights, .ref h_nw_prices, .ref h_nw_shares])), (h_nw_moves, .inl (g.2.1, 48, .inl c_nw_moves)), (h_nw_lights, .inl (g.2.1, 12, .inl c_nw_lights)), (h_nw_prices, .inl (g.2.1, 4, .inl c_nw_prices)), (h_nw_shares, .inl (g.2.1, 4, .inl c_nw_shares))] H := hP
    have hD : va_D A [(h_this, .inr (10, [.ref h_this_machines, .int c_made, .ref h_this_word, .ref h_this_steps, .ref h_this_trail, .ref h_this_search, .ref h_this_prices, .ref h_this_odds, .ref h_this_pairs, .ref h_this_greed, .ref h_this_colouring])), (h_this_machines, .inl (g.2.2.2.2, 6, .inr (.inr (.inr (.inr c_machines))))), (h_nw, .inr (3, [.int c_nw_states, .int c_nw_letters, .ref h_nw_moves, .ref h_nw_lights, .ref h_nw_prices, .ref h_nw_shares])), (h_nw_moves, .inl (g.2.1, 48, .inl c_nw_moves)), (h_nw_lights, .inl (g.2.1, 12, .inl c_nw_lights)), (h_nw_prices, .inl (g.2.1, 4, .inl c_nw_prices)), (h_nw_shares, .inl (g.2.1, 4, .inl c_nw_shares))] := hD
    exact hret r4 (h_nw, h_nw_moves, h_nw_lights, h_nw_prices, h_nw_shares, c_made, c_machines, c_nw_states, c_nw_letters, c_nw_moves, c_nw_lights, c_nw_prices, c_nw_shares) _ _ _ _ rfl h (hP.sub [0, 1, 2, 3, 4, 5, 6] rfl) (hD.sub [0, 1, 2, 3, 4, 5, 6] rfl rfl) hS dX11_ring_102
  have K_38 : ∀ (h_nw : Nat) (h_nw_moves : Nat) (h_nw_lights : Nat) (h_nw_prices : Nat) (h_nw_shares : Nat) (c_made : Int32) (c_machines : Nat → Option Nat) (c_nw_states : Int32) (c_nw_letters : Int32) (c_nw_lights : Nat → Int32) (c_nw_prices : Nat → Int32) (c_nw_shares : Nat → Int32) (n_38 : Nat) (x3 : Int32) (c_nw_moves : Nat → Int32) , L_X11_ring_a_38 h_nw c_made c_machines c_nw_states c_nw_letters c_nw_lights c_nw_prices c_nw_shares x1 Q n_38 x3 c_nw_moves → ∀ (H : Heap) (locs : List Loc), va_P g.1 vwCl [(h_this, .inr (10, [.ref h_this_machines, .int c_made, .ref h_this_word, .ref h_this_steps, .ref h_this_trail, .ref h_this_search, .ref h_this_prices, .ref h_this_odds, .ref h_this_pairs, .ref h_this_greed, .ref h_this_colouring])), (h_this_machines, .inl (g.2.2.2.2, 6, .inr (.inr (.inr (.inr c_machines))))), (h_nw, .inr (3, [.int c_nw_states, .int c_nw_letters, .ref h_nw_moves, .ref h_nw_lights, .ref h_nw_prices, .ref h_nw_shares])), (h_nw_moves, .inl (g.2.1, 48, .inl c_nw_moves)), (h_nw_lights, .inl (g.2.1, 12, .inl c_nw_lights)), (h_nw_prices, .inl (g.2.1, 4, .inl c_nw_prices)), (h_nw_shares, .inl (g.2.1, 4, .inl c_nw_shares))] H → va_D A [(h_this, .inr (10, [.ref h_this_machines, .int c_made, .ref h_this_word, .ref h_this_steps, .ref h_this_trail, .ref h_this_search, .ref h_this_prices, .ref h_this_odds, .ref h_this_pairs, .ref h_this_greed, .ref h_this_colouring])), (h_this_machines, .inl (g.2.2.2.2, 6, .inr (.inr (.inr (.inr c_machines))))), (h_nw, .inr (3, [.int c_nw_states, .int c_nw_letters, .ref h_nw_moves, .ref h_nw_lights, .ref h_nw_prices, .ref h_nw_shares])), (h_nw_moves, .inl (g.2.1, 48, .inl c_nw_moves)), (h_nw_lights, .inl (g.2.1, 12, .inl c_nw_lights)), (h_nw_prices, .inl (g.2.1, 4, .inl c_nw_prices)), (h_nw_shares, .inl (g.2.1, 4, .inl c_nw_shares))] → va_S A s.heap H locs → ∀ ls : Array Slot, lv_has ls 5 [(0, .ref h_this), (1, .int x1), (2, .ref h_nw), (3, .int x3)] → W p l e rm_X11_ring_a s m args below meth c H locs 5 74 QQ (F0 m 38 ls []) := by
    intro h_nw h_nw_moves h_nw_lights h_nw_prices h_nw_shares c_made c_machines c_nw_states c_nw_letters c_nw_lights c_nw_prices c_nw_shares n_38
    induction n_38 with
    | zero => intro x3 c_nw_moves; exact fun h => False.elim h
    | succ n_38 ih_38 =>
      intro x3 c_nw_moves h H locs hP hD hS ls hl
      unfold L_X11_ring_a_38 at h
      have K_88 : ∀ (x3 : Int32) (c_nw_moves : Nat → Int32) (t0 : Int32) (t1 : Int32) (t2 : Int32) , J_X11_ring_a_88 c_nw_states c_nw_letters (L_X11_ring_a_38 h_nw c_made c_machines c_nw_states c_nw_letters c_nw_lights c_nw_prices c_nw_shares x1 Q n_38) x3 c_nw_moves t0 t1 t2 → ∀ (H : Heap) (locs : List Loc), va_P g.1 vwCl [(h_this, .inr (10, [.ref h_this_machines, .int c_made, .ref h_this_word, .ref h_this_steps, .ref h_this_trail, .ref h_this_search, .ref h_this_prices, .ref h_this_odds, .ref h_this_pairs, .ref h_this_greed, .ref h_this_colouring])), (h_this_machines, .inl (g.2.2.2.2, 6, .inr (.inr (.inr (.inr c_machines))))), (h_nw, .inr (3, [.int c_nw_states, .int c_nw_letters, .ref h_nw_moves, .ref h_nw_lights, .ref h_nw_prices, .ref h_nw_shares])), (h_nw_moves, .inl (g.2.1, 48, .inl c_nw_moves)), (h_nw_lights, .inl (g.2.1, 12, .inl c_nw_lights)), (h_nw_prices, .inl (g.2.1, 4, .inl c_nw_prices)), (h_nw_shares, .inl (g.2.1, 4, .inl c_nw_shares))] H → va_D A [(h_this, .inr (10, [.ref h_this_machines, .int c_made, .ref h_this_word, .ref h_this_steps, .ref h_this_trail, .ref h_this_search, .ref h_this_prices, .ref h_this_odds, .ref h_this_pairs, .ref h_this_greed, .ref h_this_colouring])), (h_this_machines, .inl (g.2.2.2.2, 6, .inr (.inr (.inr (.inr c_machines))))), (h_nw, .inr (3, [.int c_nw_states, .int c_nw_letters, .ref h_nw_moves, .ref h_nw_lights, .ref h_nw_prices, .ref h_nw_shares])), (h_nw_moves, .inl (g.2.1, 48, .inl c_nw_moves)), (h_nw_lights, .inl (g.2.1, 12, .inl c_nw_lights)), (h_nw_prices, .inl (g.2.1, 4, .inl c_nw_prices)), (h_nw_shares, .inl (g.2.1, 4, .inl c_nw_shares))] → va_S A s.heap H locs → ∀ ls : Array Slot, lv_has ls 5 [(0, .ref h_this), (1, .int x1), (2, .ref h_nw), (3, .int x3)] → W p l e rm_X11_ring_a s m args below meth c H locs 5 74 QQ (F0 m 88 ls [.int t0, .int t1, .int t2, .ref h_nw]) := by
        intro x3 c_nw_moves t0 t1 t2 h H locs hP hD hS ls hl
        unfold J_X11_ring_a_88 at h
        refine go_V E (run_V E ((k_X4_lead l g h_nw h_nw_moves h_nw_lights h_nw_prices h_nw_shares h) _) (cwV 3 hts gX11_ring_X4_lead rfl rfl rfl (by decide +kernel) ⟨Nat.le_of_ble_eq_true rfl, Nat.le_of_ble_eq_true rfl⟩) hP hD hS [2, 3] rfl rfl 0 3 rfl rfl rfl hl rfl rfl (Nat.le_of_ble_eq_true rfl) dX11_ring_88 ⟨Nat.le_of_ble_eq_true rfl, Nat.le_of_ble_eq_true rfl⟩) hP hD hS [2, 3] rfl [(true, 0), (true, 1), (false, 0), (false, 1), (true, 4), (true, 5), (true, 6)] rfl (by decide) (fun u => [(h_this, .inr (10, [.ref h_this_machines, .int c_made, .ref h_this_word, .ref h_this_steps, .ref h_this_trail, .ref h_this_search, .ref h_this_prices, .ref h_this_odds, .ref h_this_pairs, .ref h_this_greed, .ref h_this_colouring])), (h_this_machines, .inl (g.2.2.2.2, 6, .inr (.inr (.inr (.inr c_machines))))), (h_nw, .inr (3, [.int c_nw_states, .int c_nw_letters, .ref h_nw_moves, .ref h_nw_lights, .ref h_nw_prices, .ref h_nw_shares])), (h_nw_moves, .inl (g.2.1, 48, .inl u)), (h_nw_lights, .inl (g.2.1, 12, .inl c_nw_lights)), (h_nw_prices, .inl (g.2.1, 4, .inl c_nw_prices)), (h_nw_shares, .inl (g.2.1, 4, .inl c_nw_shares))]) (fun _ => rfl) (fun c_nw_moves H locs h hP hD hS => ?_)
        try dsimp only at h
        have hP : va_P g.1 vwCl [(h_this, .inr (10, [.ref h_this_machines, .int c_made, .ref h_this_word, .ref h_this_steps, .ref h_this_trail, .ref h_this_search, .ref h_this_prices, .ref h_this_odds, .ref h_this_pairs, .ref h_this_greed, .ref h_this_colouring])), (h_this_machines, .inl (g.2.2.2.2, 6, .inr (.inr (.inr (.inr c_machines))))), (h_nw, .inr (3, [.int c_nw_states, .int c_nw_letters, .ref h_nw_moves, .ref h_nw_lights, .ref h_nw_prices, .ref h_nw_shares])), (h_nw_moves, .inl (g.2.1, 48, .inl c_nw_moves)), (h_nw_lights, .inl (g.2.1, 12, .inl c_nw_lights)), (h_nw_prices, .inl (g.2.1, 4, .inl c_nw_prices)), (h_nw_shares, .inl (g.2.1, 4, .inl c_nw_shares))] H := hP
        have hD : va_D A [(h_this, .inr (10, [.ref h_this_machines, .int c_made, .ref h_this_word, .ref h_this_steps, .ref h_this_trail, .ref h_this_search, .ref h_this_prices, .ref h_this_odds, .ref h_this_pairs, .ref h_this_greed, .ref h_this_colouring])), (h_this_machines, .inl (g.2.2.2.2, 6, .inr (.inr (.inr (.inr c_machines))))), (h_nw, .inr (3, [.int c_nw_states, .int c_nw_letters, .ref h_nw_moves, .ref h_nw_lights, .ref h_nw_prices, .ref h_nw_shares])), (h_nw_moves, .inl (g.2.1, 48, .inl c_nw_moves)), (h_nw_lights, .inl (g.2.1, 12, .inl c_nw_lights)), (h_nw_prices, .inl (g.2.1, 4, .inl c_nw_prices)), (h_nw_shares, .inl (g.2.1, 4, .inl c_nw_shares))] := hD
        refine lv_iinc (v := (x3 + (nI 1))) (lv' := [(3, .int (x3 + (nI 1))), (0, .ref h_this), (1, .int x1), (2, .ref h_nw)]) hx hb dX11_ring_91 hl (k := 3) rfl rfl (by decide) rfl (fun ls hl => ?_)
        refine lv_goto (tgt := 38) hx hb dX11_ring_94 (by decide) ?_
        exact ih_38 (x3 + (nI 1)) c_nw_moves h _ _ hP hD hS _ (lv_sub hl [1, 2, 3, 0] rfl)
      have K_72 : ∀ (x3 : Int32) (x4 : Int32) (c_nw_moves : Nat → Int32) (t0 : Int32) (t1 : Int32) (t2 : Int32) , J_X11_ring_a_72 c_nw_states c_nw_letters (L_X11_ring_a_38 h_nw c_made c_machines c_nw_states c_nw_letters c_nw_lights c_nw_prices c_nw_shares x1 Q n_38) x3 x4 c_nw_moves t0 t1 t2 → ∀ (H : Heap) (locs : List Loc), va_P g.1 vwCl [(h_this, .inr (10, [.ref h_this_machines, .int c_made, .ref h_this_word, .ref h_this_steps, .ref h_this_trail, .ref h_this_search, .ref h_this_prices, .ref h_this_odds, .ref h_this_pairs, .ref h_this_greed, .ref h_this_colouring])), (h_this_machines, .inl (g.2.2.2.2, 6, .inr (.inr (.inr (.inr c_machines))))), (h_nw, .inr (3, [.int c_nw_states, .int c_nw_letters, .ref h_nw_moves, .ref h_nw_lights, .ref h_nw_prices, .ref h_nw_shares])), (h_nw_moves, .inl (g.2.1, 48, .inl c_nw_moves)), (h_nw_lights, .inl (g.2.1, 12, .inl c_nw_lights)), (h_nw_prices, .inl (g.2.1, 4, .inl c_nw_prices)), (h_nw_shares, .inl (g.2.1, 4, .inl c_nw_shares))] H → va_D A [(h_this, .inr (10, [.ref h_this_machines, .int c_made, .ref h_this_word, .ref h_this_steps, .ref h_this_trail, .ref h_this_search, .ref h_this_prices, .ref h_this_odds, .ref h_this_pairs, .ref h_this_greed, .ref h_this_colouring])), (h_this_machines, .inl (g.2.2.2.2, 6, .inr (.inr (.inr (.inr c_machines))))), (h_nw, .inr (3, [.int c_nw_states, .int c_nw_letters, .ref h_nw_moves, .ref h_nw_lights, .ref h_nw_prices, .ref h_nw_shares])), (h_nw_moves, .inl (g.2.1, 48, .inl c_nw_moves)), (h_nw_lights, .inl (g.2.1, 12, .inl c_nw_lights)), (h_nw_prices, .inl (g.2.1, 4, .inl c_nw_prices)), (h_nw_shares, .inl (g.2.1, 4, .inl c_nw_shares))] → va_S A s.heap H locs → ∀ ls : Array Slot, lv_has ls 5 [(0, .ref h_this), (1, .int x1), (2, .ref h_nw), (3, .int x3), (4, .int x4)] → W p l e rm_X11_ring_a s m args below meth c H locs 5 74 QQ (F0 m 72 ls [.int t0, .int t1, .int t2, .ref h_nw]) := by
        intro x3 x4 c_nw_moves t0 t1 t2 h H locs hP hD hS ls hl
        unfold J_X11_ring_a_72 at h
        refine go_V E (run_V E ((k_X4_lead l g h_nw h_nw_moves h_nw_lights h_nw_prices h_nw_shares h) _) (cwV 3 hts gX11_ring_X4_lead rfl rfl rfl (by decide +kernel) ⟨Nat.le_of_ble_eq_true rfl, Nat.le_of_ble_eq_true rfl⟩) hP hD hS [2, 3] rfl rfl 0 3 rfl rfl rfl hl rfl rfl (Nat.le_of_ble_eq_true rfl) dX11_ring_72 ⟨Nat.le_of_ble_eq_true rfl, Nat.le_of_ble_eq_true rfl⟩) hP hD hS [2, 3] rfl [(true, 0), (true, 1), (false, 0), (false, 1), (true, 4), (true, 5), (true, 6)] rfl (by decide) (fun u => [(h_this, .inr (10, [.ref h_this_machines, .int c_made, .ref h_this_word, .ref h_this_steps, .ref h_this_trail, .ref h_this_search, .ref h_this_prices, .ref h_this_odds, .ref h_this_pairs, .ref h_this_greed, .ref h_this_colouring])), (h_this_machines, .inl (g.2.2.2.2, 6, .inr (.inr (.inr (.inr c_machines))))), (h_nw, .inr (3, [.int c_nw_states, .int c_nw_letters, .ref h_nw_moves, .ref h_nw_lights, .ref h_nw_prices, .ref h_nw_shares])), (h_nw_moves, .inl (g.2.1, 48, .inl u)), (h_nw_lights, .inl (g.2.1, 12, .inl c_nw_lights)), (h_nw_prices, .inl (g.2.1, 4, .inl c_nw_prices)), (h_nw_shares, .inl (g.2.1, 4, .inl c_nw_shares))]) (fun _ => rfl) (fun c_nw_moves H locs h hP hD hS => ?_)
        try dsimp only at h
        have hP : va_P g.1 vwCl [(h_this, .inr (10, [.ref h_this_machines, .int c_made, .ref h_this_word, .ref h_this_steps, .ref h_this_trail, .ref h_this_search, .ref h_this_prices, .ref h_this_odds, .ref h_this_pairs, .ref h_this_greed, .ref h_this_colouring])), (h_this_machines, .inl (g.2.2.2.2, 6, .inr (.inr (.inr (.inr c_machines))))), (h_nw, .inr (3, [.int c_nw_states, .int c_nw_letters, .ref h_nw_moves, .ref h_nw_lights, .ref h_nw_prices, .ref h_nw_shares])), (h_nw_moves, .inl (g.2.1, 48, .inl c_nw_moves)), (h_nw_lights, .inl (g.2.1, 12, .inl c_nw_lights)), (h_nw_prices, .inl (g.2.1, 4, .inl c_nw_prices)), (h_nw_shares, .inl (g.2.1, 4, .inl c_nw_shares))] H := hP
        have hD : va_D A [(h_this, .inr (10, [.ref h_this_machines, .int c_made, .ref h_this_word, .ref h_this_steps, .ref h_this_trail, .ref h_this_search, .ref h_this_prices, .ref h_this_odds, .ref h_this_pairs, .ref h_this_greed, .ref h_this_colouring])), (h_this_machines, .inl (g.2.2.2.2, 6, .inr (.inr (.inr (.inr c_machines))))), (h_nw, .inr (3, [.int c_nw_states, .int c_nw_letters, .ref h_nw_moves, .ref h_nw_lights, .ref h_nw_prices, .ref h_nw_shares])), (h_nw_moves, .inl (g.2.1, 48, .inl c_nw_moves)), (h_nw_lights, .inl (g.2.1, 12, .inl c_nw_lights)), (h_nw_prices, .inl (g.2.1, 4, .inl c_nw_prices)), (h_nw_shares, .inl (g.2.1, 4, .inl c_nw_shares))] := hD
        refine lv_aload_n hx hb dX11_ring_75 rfl (lv_at hl 2 rfl) ?_
        refine lv_iload_n hx hb dX11_ring_76 rfl (lv_at hl 3 rfl) ?_
        refine lv_iconst (v := (nI 1)) hx hb dX11_ring_77 (by decide) ?_
        refine lv_iload hx hb dX11_ring_78 (lv_at hl 4 rfl) ?_
        refine lv_if_eq (tgt := 87) hx hb dX11_ring_80 (by decide) (fun cq => ?_) (fun cq => ?_)
        · replace h := h.1 cq
          refine lv_iload_n hx hb dX11_ring_87 rfl (lv_at hl 3 rfl) ?_
          exact K_88 x3 c_nw_moves x3 (nI 1) x3 h _ _ hP hD hS _ (lv_sub hl [0, 1, 2, 3] rfl)
        · replace h := h.2 cq
          refine lv_iconst (v := (nI 0)) hx hb dX11_ring_83 (by decide) ?_
          refine lv_goto (tgt := 88) hx hb dX11_ring_84 (by decide) ?_
          exact K_88 x3 c_nw_moves (nI 0) (nI 1) x3 h _ _ hP hD hS _ (lv_sub hl [0, 1, 2, 3] rfl)
      have K_55 : ∀ (x3 : Int32) (c_nw_moves : Nat → Int32) (t0 : Int32) , J_X11_ring_a_55 c_nw_states c_nw_letters (L_X11_ring_a_38 h_nw c_made c_machines c_nw_states c_nw_letters c_nw_lights c_nw_prices c_nw_shares x1 Q n_38) x3 c_nw_moves t0 → ∀ (H : Heap) (locs : List Loc), va_P g.1 vwCl [(h_this, .inr (10, [.ref h_this_machines, .int c_made, .ref h_this_word, .ref h_this_steps, .ref h_this_trail, .ref h_this_search, .ref h_this_prices, .ref h_this_odds, .ref h_this_pairs, .ref h_this_greed, .ref h_this_colouring])), (h_this_machines, .inl (g.2.2.2.2, 6, .inr (.inr (.inr (.inr c_machines))))), (h_nw, .inr (3, [.int c_nw_states, .int c_nw_letters, .ref h_nw_moves, .ref h_nw_lights, .ref h_nw_prices, .ref h_nw_shares])), (h_nw_moves, .inl (g.2.1, 48, .inl c_nw_moves)), (h_nw_lights, .inl (g.2.1, 12, .inl c_nw_lights)), (h_nw_prices, .inl (g.2.1, 4, .inl c_nw_prices)), (h_nw_shares, .inl (g.2.1, 4, .inl c_nw_shares))] H → va_D A [(h_this, .inr (10, [.ref h_this_machines, .int c_made, .ref h_this_word, .ref h_this_steps, .ref h_this_trail, .ref h_this_search, .ref h_this_prices, .ref h_this_odds, .ref h_this_pairs, .ref h_this_greed, .ref h_this_colouring])), (h_this_machines, .inl (g.2.2.2.2, 6, .inr (.inr (.inr (.inr c_machines))))), (h_nw, .inr (3, [.int c_nw_states, .int c_nw_letters, .ref h_nw_moves, .ref h_nw_lights, .ref h_nw_prices, .ref h_nw_shares])), (h_nw_moves, .inl (g.2.1, 48, .inl c_nw_moves)), (h_nw_lights, .inl (g.2.1, 12, .inl c_nw_lights)), (h_nw_prices, .inl (g.2.1, 4, .inl c_nw_prices)), (h_nw_shares, .inl (g.2.1, 4, .inl c_nw_shares))] → va_S A s.heap H locs → ∀ ls : Array Slot, lv_has ls 5 [(0, .ref h_this), (1, .int x1), (2, .ref h_nw), (3, .int x3)] → W p l e rm_X11_ring_a s m args below meth c H locs 5 74 QQ (F0 m 55 ls [.int t0]) := by
        intro x3 c_nw_moves t0 h H locs hP hD hS ls hl
        unfold J_X11_ring_a_55 at h
        refine lv_istore (lv' := [(4, .int t0), (0, .ref h_this), (1, .int x1), (2, .ref h_nw), (3, .int x3)]) hx hb dX11_ring_55 hl (by decide) rfl (fun ls hl => ?_)
        refine lv_aload_n hx hb dX11_ring_57 rfl (lv_at hl 3 rfl) ?_
        refine lv_iload_n hx hb dX11_ring_58 rfl (lv_at hl 4 rfl) ?_
        refine lv_iconst (v := (nI 0)) hx hb dX11_ring_59 (by decide) ?_
        refine lv_iload hx hb dX11_ring_60 (lv_at hl 0 rfl) ?_
        refine lv_if_eq (tgt := 69) hx hb dX11_ring_62 (by decide) (fun cq => ?_) (fun cq => ?_)
        · replace h := h.1 cq
          refine lv_iload_n hx hb dX11_ring_69 rfl (lv_at hl 4 rfl) ?_
          refine lv_iconst (v := (nI 1)) hx hb dX11_ring_70 (by decide) ?_
          refine lv_iadd hx hb dX11_ring_71 ?_
          exact K_72 x3 t0 c_nw_moves (x3 + (nI 1)) (nI 0) x3 h _ _ hP hD hS _ (lv_sub hl [1, 2, 3, 4, 0] rfl)
        · replace h := h.2 cq
          refine lv_iconst (v := (nI 0)) hx hb dX11_ring_65 (by decide) ?_
          refine lv_goto (tgt := 72) hx hb dX11_ring_66 (by decide) ?_
          exact K_72 x3 t0 c_nw_moves (nI 0) (nI 0) x3 h _ _ hP hD hS _ (lv_sub hl [1, 2, 3, 4, 0] rfl)
      refine lv_iload_n hx hb dX11_ring_38 rfl (lv_at hl 3 rfl) ?_
      refine lv_iload_n hx hb dX11_ring_39 rfl (lv_at hl 1 rfl) ?_
      refine lv_icmp_ge (tgt := 97) hx hb dX11_ring_40 (by decide) (fun cq => ?_) (fun cq => ?_)
      · replace h := h.1 cq
        exact K_97 h_nw h_nw_moves h_nw_lights h_nw_prices h_nw_shares c_made c_machines c_nw_states c_nw_letters c_nw_moves c_nw_lights c_nw_prices c_nw_shares h _ _ hP hD hS _ (lv_sub hl [0, 2] rfl)
      · replace h := h.2 cq
        refine lv_iload_n hx hb dX11_ring_43 rfl (lv_at hl 3 rfl) ?_
        refine lv_iload_n hx hb dX11_ring_44 rfl (lv_at hl 1 rfl) ?_
        refine lv_iconst (v := (nI 1)) hx hb dX11_ring_45 (by decide) ?_
        refine lv_isub hx hb dX11_ring_46 ?_
        refine lv_icmp_ne (tgt := 54) hx hb dX11_ring_47 (by decide) (fun cq => ?_) (fun cq => ?_)
        · replace h := h.1 cq
          refine lv_iconst (v := (nI 0)) hx hb dX11_ring_54 (by decide) ?_
          exact K_55 x3 c_nw_moves (nI 0) h _ _ hP hD hS _ (lv_sub hl [0, 1, 2, 3] rfl)
        · replace h := h.2 cq
          refine lv_iconst (v := (nI 1)) hx hb dX11_ring_50 (by decide) ?_
          refine lv_goto (tgt := 55) hx hb dX11_ring_51 (by decide) ?_
          exact K_55 x3 c_nw_moves (nI 1) h _ _ hP hD hS _ (lv_sub hl [0, 1, 2, 3] rfl)
  refine lv_iload_n hx hb dX11_ring_0 rfl (lv_at hl 1 rfl) ?_
  refine lv_iconst (v := (nI 2)) hx hb dX11_ring_1 (by decide) ?_
  refine lv_icmp_lt (tgt := 11) hx hb dX11_ring_2 (by decide) (fun cq => ?_) (fun cq => ?_)
  · replace h := h.1 cq
    refine lv_bipush (v := (-2)) hx hb dX11_ring_11 (by decide) ?_
    exact False.elim h
  · replace h := h.2 cq
    refine lv_iload_n hx hb dX11_ring_5 rfl (lv_at hl 1 rfl) ?_
    refine lv_bipush (v := (nI 12)) hx hb dX11_ring_6 (by decide) ?_
    refine lv_icmp_le (tgt := 14) hx hb dX11_ring_8 (by decide) (fun cq => ?_) (fun cq => ?_)
    · replace h := h.1 cq
      refine lv_aload_n hx hb dX11_ring_14 rfl (lv_at hl 0 rfl) ?_
      refine va_get (D := g.1) (ci := 10) (v := .int c_made) (C := RX11) (T := TX11) (N := 11) hx hb hts iX11 hown hK hP 0 rfl rfl 1 (by decide) f84 (fun _ h9 => h9) rfl dX11_ring_15 ?_
      refine lv_bipush (v := (nI 6)) hx hb dX11_ring_18 (by decide) ?_
      refine lv_icmp_lt (tgt := 26) hx hb dX11_ring_20 (by decide) (fun cq => ?_) (fun cq => ?_)
      · replace h := h.1 cq
        refine va_new (ci := 3) (fs := [.int 0, .int 0, .null, .null, .null, .null]) (C := RX4) (T := TX4) (N := 6) hx hb hts iX4 tyX4 tyX4_ok hown cl9 inX4 iiX4 hK hP hD hS hA rfl (fun j hj => by match j, hj with | 0, _ => rfl | 1, _ => rfl | 2, _ => rfl | 3, _ => rfl | 4, _ => rfl | 5, _ => rfl) (Nat.le_of_ble_eq_true rfl) (Nat.le_of_ble_eq_true rfl) dX11_ring_26 (fun h_nw H hP hD hS => ?_)
        replace h := h h_nw
        have hP : va_P g.1 vwCl [(h_this, .inr (10, [.ref h_this_machines, .int c_made, .ref h_this_word, .ref h_this_steps, .ref h_this_trail, .ref h_this_search, .ref h_this_prices, .ref h_this_odds, .ref h_this_pairs, .ref h_this_greed, .ref h_this_colouring])), (h_this_machines, .inl (g.2.2.2.2, 6, .inr (.inr (.inr (.inr c_machines))))), (h_nw, .inr (3, [.int 0, .int 0, .null, .null, .null, .null]))] H := hP
        have hD : va_D A [(h_this, .inr (10, [.ref h_this_machines, .int c_made, .ref h_this_word, .ref h_this_steps, .ref h_this_trail, .ref h_this_search, .ref h_this_prices, .ref h_this_odds, .ref h_this_pairs, .ref h_this_greed, .ref h_this_colouring])), (h_this_machines, .inl (g.2.2.2.2, 6, .inr (.inr (.inr (.inr c_machines))))), (h_nw, .inr (3, [.int 0, .int 0, .null, .null, .null, .null]))] := hD
        refine lv_dup hx hb dX11_ring_29 rfl ?_
        refine lv_iload_n hx hb dX11_ring_30 rfl (lv_at hl 1 rfl) ?_
        refine lv_iconst (v := (nI 2)) hx hb dX11_ring_31 (by decide) ?_
        refine go_V E (run_C E ((k_X4_init l g h_nw h) _) (cwI 2 hts gX11_ring_X4_init rfl rfl rfl iiX4 ml88 im_X4_init rfl (by decide +kernel) ⟨Nat.le_of_ble_eq_true rfl, Nat.le_of_ble_eq_true rfl⟩) hP hD hS [2] rfl rfl hl rfl rfl (Nat.le_of_ble_eq_true rfl) dX11_ring_32 ⟨Nat.le_of_ble_eq_true rfl, Nat.le_of_ble_eq_true rfl⟩) hP hD hS [2] rfl [(true, 0), (true, 1), (false, 0), (false, 1), (false, 2), (false, 3), (false, 4)] rfl (by decide) (fun u => [(h_this, .inr (10, [.ref h_this_machines, .int c_made, .ref h_this_word, .ref h_this_steps, .ref h_this_trail, .ref h_this_search, .ref h_this_prices, .ref h_this_odds, .ref h_this_pairs, .ref h_this_greed, .ref h_this_colouring])), (h_this_machines, .inl (g.2.2.2.2, 6, .inr (.inr (.inr (.inr c_machines))))), (h_nw, .inr (3, [.int u.2.2.2.2.1, .int u.2.2.2.2.2.1, .ref u.1, .ref u.2.1, .ref u.2.2.1, .ref u.2.2.2.1])), (u.1, .inl (g.2.1, 48, .inl u.2.2.2.2.2.2.1)), (u.2.1, .inl (g.2.1, 12, .inl u.2.2.2.2.2.2.2.1)), (u.2.2.1, .inl (g.2.1, 4, .inl u.2.2.2.2.2.2.2.2.1)), (u.2.2.2.1, .inl (g.2.1, 4, .inl u.2.2.2.2.2.2.2.2.2))]) (fun _ => rfl) (fun u H locs h hP hD hS => ?_)
        obtain ⟨h_nw_moves, h_nw_lights, h_nw_prices, h_nw_shares, c_nw_states, c_nw_letters, c_nw_moves, c_nw_lights, c_nw_prices, c_nw_shares⟩ := u
        try dsimp only at h
        have hP : va_P g.1 vwCl [(h_this, .inr (10, [.ref h_this_machines, .int c_made, .ref h_this_word, .ref h_this_steps, .ref h_this_trail, .ref h_this_search, .ref h_this_prices, .ref h_this_odds, .ref h_this_pairs, .ref h_this_greed, .ref h_this_colouring])), (h_this_machines, .inl (g.2.2.2.2, 6, .inr (.inr (.inr (.inr c_machines))))), (h_nw, .inr (3, [.int c_nw_states, .int c_nw_letters, .ref h_nw_moves, .ref h_nw_lights, .ref h_nw_prices, .ref h_nw_shares])), (h_nw_moves, .inl (g.2.1, 48, .inl c_nw_moves)), (h_nw_lights, .inl (g.2.1, 12, .inl c_nw_lights)), (h_nw_prices, .inl (g.2.1, 4, .inl c_nw_prices)), (h_nw_shares, .inl (g.2.1, 4, .inl c_nw_shares))] H := hP
        have hD : va_D A [(h_this, .inr (10, [.ref h_this_machines, .int c_made, .ref h_this_word, .ref h_this_steps, .ref h_this_trail, .ref h_this_search, .ref h_this_prices, .ref h_this_odds, .ref h_this_pairs, .ref h_this_greed, .ref h_this_colouring])), (h_this_machines, .inl (g.2.2.2.2, 6, .inr (.inr (.inr (.inr c_machines))))), (h_nw, .inr (3, [.int c_nw_states, .int c_nw_letters, .ref h_nw_moves, .ref h_nw_lights, .ref h_nw_prices, .ref h_nw_shares])), (h_nw_moves, .inl (g.2.1, 48, .inl c_nw_moves)), (h_nw_lights, .inl (g.2.1, 12, .inl c_nw_lights)), (h_nw_prices, .inl (g.2.1, 4, .inl c_nw_prices)), (h_nw_shares, .inl (g.2.1, 4, .inl c_nw_shares))] := hD
        refine lv_astore_n (lv' := [(2, .ref h_nw), (0, .ref h_this), (1, .int x1)]) hx hb dX11_ring_35 rfl hl (by decide) rfl (fun ls hl => ?_)
        refine lv_iconst (v := (nI 0)) hx hb dX11_ring_36 (by decide) ?_
        refine lv_istore_n (lv' := [(3, .int (nI 0)), (2, .ref h_nw), (0, .ref h_this), (1, .int x1)]) hx hb dX11_ring_37 rfl hl (by decide) rfl (fun ls hl => ?_)
        obtain ⟨n, h⟩ := h
        exact K_38 h_nw h_nw_moves h_nw_lights h_nw_prices h_nw_shares c_made c_machines c_nw_states c_nw_letters c_nw_lights c_nw_prices c_nw_shares n (nI 0) c_nw_moves h _ _ hP hD hS _ (lv_sub hl [2, 3, 1, 0] rfl)
      · replace h := h.2 cq
        refine lv_bipush (v := (-4)) hx hb dX11_ring_23 (by decide) ?_
        exact False.elim h
    · replace h := h.2 cq
      refine lv_bipush (v := (-2)) hx hb dX11_ring_11 (by decide) ?_
      exact False.elim h
abbrev cw_X11_ring_f (g : GG) (h_this : Nat) (h_this_machines : Nat) (h_this_word : Nat) (h_this_steps : Nat) (h_this_trail : Nat) (h_this_search : Nat) (h_this_prices : Nat) (h_this_odds : Nat) (h_this_pairs : Nat) (h_this_greed : Nat) (h_this_colouring : Nat) (c_made : Int32) (c_machines : Nat → Option Nat) : va_W := [(h_this, .inr (10, [.ref h_this_machines, .int c_made, .ref h_this_word, .ref h_this_steps, .ref h_this_trail, .ref h_this_search, .ref h_this_prices, .ref h_this_odds, .ref h_this_pairs, .ref h_this_greed, .ref h_this_colouring])), (h_this_machines, .inl (g.2.2.2.2, 6, .inr (.inr (.inr (.inr c_machines)))))]
def wp_X11_ring_f (c_made : Int32) (c_machines : Nat → Option Nat) (x1 : Int32) (Q : Int32 → Int32 → (Nat → Option Nat) → Prop) : Prop :=
    ((x1 < (nI 2) → Q (-2) c_made c_machines) ∧ (¬ x1 < (nI 2) → ((x1 ≤ (nI 12) → ((c_made < (nI 6) → False) ∧ (¬ c_made < (nI 6) → Q (-4) c_made c_machines))) ∧ (¬ x1 ≤ (nI 12) → Q (-2) c_made c_machines))))
abbrev rm_X11_ring_f : Room := { frames := 0, cells := 0, slots := 0, locals := 0 }
set_option maxHeartbeats 4000000 in
set_option maxRecDepth 100000 in
theorem k_X11_ring_f (l : Launch) (g : GG) (h_this : Nat) (h_this_machines : Nat) (h_this_word : Nat) (h_this_steps : Nat) (h_this_trail : Nat) (h_this_search : Nat) (h_this_prices : Nat) (h_this_odds : Nat) (h_this_pairs : Nat) (h_this_greed : Nat) (h_this_colouring : Nat) {c_made : Int32} {c_machines : Nat → Option Nat} {x1 : Int32} {Q : Int32 → Int32 → (Nat → Option Nat) → Prop} (h : wp_X11_ring_f c_made c_machines x1 Q) : CI l g yX11_ring wsX11_ring rm_X11_ring_f [.ref h_this, .int x1] (cw_X11_ring_f g h_this h_this_machines h_this_word h_this_steps h_this_trail h_this_search h_this_prices h_this_odds h_this_pairs h_this_greed h_this_colouring c_made c_machines) (S := Int32 × (Nat → Option Nat)) (fun u => (cw_X11_ring_f g h_this h_this_machines h_this_word h_this_steps h_this_trail h_this_search h_this_prices h_this_odds h_this_pairs h_this_greed h_this_colouring u.1 u.2)) (fun r u => Q r u.1 u.2) 0 0 := by
  refine mk_I (cc := cX11_ring) (maxL := 5) (own := RX11) (by decide) rfl rfl (Nat.le_of_ble_eq_true rfl) ?_
  intro p e s m args below meth c A QQ E hret hP hD hS ls hl
  have E2 := E
  obtain ⟨hx, hb, hr, hml, hown, hts, hlocks, hA, hZ, hK, hnm⟩ := E2
  have f84 := hts (.fieldLink RX11 84 "WordBench" "made" "I") (by decide +kernel)
  have iX11 : ∀ w ∈ wsX110, w ∈ wsX11_ring := fun _ h => List.mem_cons_of_mem _ (List.mem_append_left _ (List.mem_append_right _ h))
  have hP : va_P g.1 vwCl (cw_X11_ring_f g h_this h_this_machines h_this_word h_this_steps h_this_trail h_this_search h_this_prices h_this_odds h_this_pairs h_this_greed h_this_colouring c_made c_machines) s.heap := hP
  have hD : va_D A (cw_X11_ring_f g h_this h_this_machines h_this_word h_this_steps h_this_trail h_this_search h_this_prices h_this_odds h_this_pairs h_this_greed h_this_colouring c_made c_machines) := hD
  have hl : lv_has ls 5 [(0, .ref h_this), (1, .int x1)] := hl
  unfold wp_X11_ring_f at h
  refine lv_iload_n hx hb dX11_ring_0 rfl (lv_at hl 1 rfl) ?_
  refine lv_iconst (v := (nI 2)) hx hb dX11_ring_1 (by decide) ?_
  refine lv_icmp_lt (tgt := 11) hx hb dX11_ring_2 (by decide) (fun cq => ?_) (fun cq => ?_)
  · replace h := h.1 cq
    refine lv_bipush (v := (-2)) hx hb dX11_ring_11 (by decide) ?_
    exact hret (-2) (c_made, c_machines) _ _ _ _ rfl h hP hD hS dX11_ring_13
  · replace h := h.2 cq
    refine lv_iload_n hx hb dX11_ring_5 rfl (lv_at hl 1 rfl) ?_
    refine lv_bipush (v := (nI 12)) hx hb dX11_ring_6 (by decide) ?_
    refine lv_icmp_le (tgt := 14) hx hb dX11_ring_8 (by decide) (fun cq => ?_) (fun cq => ?_)
    · replace h := h.1 cq
      refine lv_aload_n hx hb dX11_ring_14 rfl (lv_at hl 0 rfl) ?_
      refine va_get (D := g.1) (ci := 10) (v := .int c_made) (C := RX11) (T := TX11) (N := 11) hx hb hts iX11 hown hK hP 0 rfl rfl 1 (by decide) f84 (fun _ h9 => h9) rfl dX11_ring_15 ?_
      refine lv_bipush (v := (nI 6)) hx hb dX11_ring_18 (by decide) ?_
      refine lv_icmp_lt (tgt := 26) hx hb dX11_ring_20 (by decide) (fun cq => ?_) (fun cq => ?_)
      · replace h := h.1 cq
        exact False.elim h
      · replace h := h.2 cq
        refine lv_bipush (v := (-4)) hx hb dX11_ring_23 (by decide) ?_
        exact hret (-4) (c_made, c_machines) _ _ _ _ rfl h hP hD hS dX11_ring_25
    · replace h := h.2 cq
      refine lv_bipush (v := (-2)) hx hb dX11_ring_11 (by decide) ?_
      exact hret (-2) (c_made, c_machines) _ _ _ _ rfl h hP hD hS dX11_ring_13
abbrev cw_X11_machineAt (g : GG) (h_this : Nat) (h_this_machines : Nat) (h_this_word : Nat) (h_this_steps : Nat) (h_this_trail : Nat) (h_this_search : Nat) (h_this_prices : Nat) (h_this_odds : Nat) (h_this_pairs : Nat) (h_this_greed : Nat) (h_this_colouring : Nat) (c_made : Int32) (c_machines : Nat → Option Nat) : va_W := [(h_this, .inr (10, [.ref h_this_machines, .int c_made, .ref h_this_word, .ref h_this_steps, .ref h_this_trail, .ref h_this_search, .ref h_this_prices, .ref h_this_odds, .ref h_this_pairs, .ref h_this_greed, .ref h_this_colouring])), (h_this_machines, .inl (g.2.2.2.2, 6, .inr (.inr (.inr (.inr c_machines)))))]
def J_X11_machineAt_27 (Q : Option Nat → Prop) : Prop :=
    Q none
def wp_X11_machineAt (c_made : Int32) (c_machines : Nat → Option Nat) (x1 : Int32) (Q : Option Nat → Prop) : Prop :=
    ((x1 < (nI 0) → J_X11_machineAt_27 Q) ∧ (¬ x1 < (nI 0) → ((c_made ≤ x1 → J_X11_machineAt_27 Q) ∧ (¬ c_made ≤ x1 → (((nI 6) ≤ x1 → J_X11_machineAt_27 Q) ∧ (¬ (nI 6) ≤ x1 → vp_in x1 6 ∧ Q (c_machines (Int32.toNatClampNeg x1))))))))
abbrev rm_X11_machineAt : Room := { frames := 0, cells := 0, slots := 0, locals := 0 }
set_option maxHeartbeats 4000000 in
set_option maxRecDepth 100000 in
theorem k_X11_machineAt (l : Launch) (g : GG) (h_this : Nat) (h_this_machines : Nat) (h_this_word : Nat) (h_this_steps : Nat) (h_this_trail : Nat) (h_this_search : Nat) (h_this_prices : Nat) (h_this_odds : Nat) (h_this_pairs : Nat) (h_this_greed : Nat) (h_this_colouring : Nat) {c_made : Int32} {c_machines : Nat → Option Nat} {x1 : Int32} {Q : Option Nat → Prop} (h : wp_X11_machineAt c_made c_machines x1 Q) : CQ l g yX11_machineAt wsX11_machineAt rm_X11_machineAt [.ref h_this, .int x1] (cw_X11_machineAt g h_this h_this_machines h_this_word h_this_steps h_this_trail h_this_search h_this_prices h_this_odds h_this_pairs h_this_greed h_this_colouring c_made c_machines) (S := Unit) (fun _ => (cw_X11_machineAt g h_this h_this_machines h_this_word h_this_steps h_this_trail h_this_search h_this_prices h_this_odds h_this_pairs h_this_greed h_this_colouring c_made c_machines)) (fun r _ => Q r) 0 0 := by
  refine mk_Q (cc := cX11_machineAt) (maxL := 2) (own := RX11) (by decide) rfl rfl (Nat.le_of_ble_eq_true rfl) ?_
  intro p e s m args below meth c A QQ E hret hP hD hS ls hl
  have E2 := E
  obtain ⟨hx, hb, hr, hml, hown, hts, hlocks, hA, hZ, hK, hnm⟩ := E2
  have f84 := hts (.fieldLink RX11 84 "WordBench" "made" "I") (by decide +kernel)
  have f11 := hts (.fieldLink RX11 11 "WordBench" "machines" "[LWordBench$Machine;") (by decide +kernel)
  have iX11 : ∀ w ∈ wsX110, w ∈ wsX11_machineAt := fun _ h => List.mem_cons_of_mem _ (List.mem_append_right _ h)
  have hP : va_P g.1 vwCl (cw_X11_machineAt g h_this h_this_machines h_this_word h_this_steps h_this_trail h_this_search h_this_prices h_this_odds h_this_pairs h_this_greed h_this_colouring c_made c_machines) s.heap := hP
  have hD : va_D A (cw_X11_machineAt g h_this h_this_machines h_this_word h_this_steps h_this_trail h_this_search h_this_prices h_this_odds h_this_pairs h_this_greed h_this_colouring c_made c_machines) := hD
  have hl : lv_has ls 2 [(0, .ref h_this), (1, .int x1)] := hl
  unfold wp_X11_machineAt at h
  have K_27 : J_X11_machineAt_27 Q → ∀ (H : Heap) (locs : List Loc), va_P g.1 vwCl (cw_X11_machineAt g h_this h_this_machines h_this_word h_this_steps h_this_trail h_this_search h_this_prices h_this_odds h_this_pairs h_this_greed h_this_colouring c_made c_machines) H → va_D A (cw_X11_machineAt g h_this h_this_machines h_this_word h_this_steps h_this_trail h_this_search h_this_prices h_this_odds h_this_pairs h_this_greed h_this_colouring c_made c_machines) → va_S A s.heap H locs → ∀ ls : Array Slot, lv_has ls 2 [] → W p l e rm_X11_machineAt s m args below meth c H locs 0 0 QQ (F0 m 27 ls []) := by
    intro h H locs hP hD hS ls hl
    unfold J_X11_machineAt_27 at h
    refine lv_null hx hb dX11_machineAt_27 ?_
    exact hret none () _ _ _ _ h hP hD hS dX11_machineAt_28
  refine lv_iload_n hx hb dX11_machineAt_0 rfl (lv_at hl 1 rfl) ?_
  refine lv_if_lt (tgt := 27) hx hb dX11_machineAt_1 (by decide) (fun cq => ?_) (fun cq => ?_)
  · replace h := h.1 cq
    exact K_27 h _ _ hP hD hS _ (lv_sub hl [] rfl)
  · replace h := h.2 cq
    refine lv_iload_n hx hb dX11_machineAt_4 rfl (lv_at hl 1 rfl) ?_
    refine lv_aload_n hx hb dX11_machineAt_5 rfl (lv_at hl 0 rfl) ?_
    refine va_get (D := g.1) (ci := 10) (v := .int c_made) (C := RX11) (T := TX11) (N := 11) hx hb hts iX11 hown hK hP 0 rfl rfl 1 (by decide) f84 (fun _ h9 => h9) rfl dX11_machineAt_6 ?_
    refine lv_icmp_ge (tgt := 27) hx hb dX11_machineAt_9 (by decide) (fun cq => ?_) (fun cq => ?_)
    · replace h := h.1 cq
      exact K_27 h _ _ hP hD hS _ (lv_sub hl [] rfl)
    · replace h := h.2 cq
      refine lv_iload_n hx hb dX11_machineAt_12 rfl (lv_at hl 1 rfl) ?_
      refine lv_bipush (v := (nI 6)) hx hb dX11_machineAt_13 (by decide) ?_
      refine lv_icmp_ge (tgt := 27) hx hb dX11_machineAt_15 (by decide) (fun cq => ?_) (fun cq => ?_)
      · replace h := h.1 cq
        exact K_27 h _ _ hP hD hS _ (lv_sub hl [] rfl)
      · replace h := h.2 cq
        refine lv_aload_n hx hb dX11_machineAt_18 rfl (lv_at hl 0 rfl) ?_
        refine va_get (D := g.1) (ci := 10) (v := .ref h_this_machines) (C := RX11) (T := TX11) (N := 11) hx hb hts iX11 hown hK hP 0 rfl rfl 0 (by decide) f11 (fun _ h9 => h9) rfl dX11_machineAt_19 ?_
        refine lv_iload_n hx hb dX11_machineAt_22 rfl (lv_at hl 1 rfl) ?_
        obtain ⟨hi, h⟩ := h
        refine va_aldq (D := g.1) (n := 6) (f := c_machines) hx hb hK hP 1 3 rfl rfl hi dX11_machineAt_23 ?_
        refine lv_goto (tgt := 28) hx hb dX11_machineAt_24 (by decide) ?_
        exact hret (c_machines (Int32.toNatClampNeg x1)) () _ _ _ _ h hP hD hS dX11_machineAt_28
abbrev cw_X11_move_s (g : GG) (h_this : Nat) (h_this_machines : Nat) (h_this_word : Nat) (h_this_steps : Nat) (h_this_trail : Nat) (h_this_search : Nat) (h_this_prices : Nat) (h_this_odds : Nat) (h_this_pairs : Nat) (h_this_greed : Nat) (h_this_colouring : Nat) (h_m_moves : Nat) (h_m_lights : Nat) (h_m_prices : Nat) (h_m_shares : Nat) (h_m : Nat) (c_made : Int32) (c_machines : Nat → Option Nat) (c_m_states : Int32) (c_m_letters : Int32) (c_m_moves : Nat → Int32) : va_W := [(h_this, .inr (10, [.ref h_this_machines, .int c_made, .ref h_this_word, .ref h_this_steps, .ref h_this_trail, .ref h_this_search, .ref h_this_prices, .ref h_this_odds, .ref h_this_pairs, .ref h_this_greed, .ref h_this_colouring])), (h_this_machines, .inl (g.2.2.2.2, 6, .inr (.inr (.inr (.inr c_machines))))), (h_m, .inr (3, [.int c_m_states, .int c_m_letters, .ref h_m_moves, .ref h_m_lights, .ref h_m_prices, .ref h_m_shares])), (h_m_moves, .inl (g.2.1, 48, .inl c_m_moves))]
def J_X11_move_s_49 (c_m_states : Int32) (c_m_letters : Int32) (x2 : Int32) (x3 : Int32) (x4 : Int32) (Q : Int32 → (Nat → Int32) → Prop) (c_m_moves : Nat → Int32) : Prop :=
    wp_X4_target c_m_states c_m_letters c_m_moves x2 x3 (fun r8 => wp_X4_lead c_m_states c_m_letters c_m_moves x2 x3 x4 (fun c_m_moves => Q r8 c_m_moves))
def wp_X11_move_s (c_made : Int32) (c_machines : Nat → Option Nat) (c_m_states : Int32) (c_m_letters : Int32) (c_m_moves : Nat → Int32) (x1 : Int32) (x2 : Int32) (x3 : Int32) (x4 : Int32) (Q : Int32 → (Nat → Int32) → Prop) : Prop :=
    wp_X4_hasState c_m_states c_m_letters x2 (fun r4 => ((r4 = (nI 0) → Q (-2) c_m_moves) ∧ (¬ r4 = (nI 0) → wp_X4_hasLetter c_m_states c_m_letters x3 (fun r6 => ((r6 = (nI 0) → Q (-2) c_m_moves) ∧ (¬ r6 = (nI 0) → ((x4 = (-1) → J_X11_move_s_49 c_m_states c_m_letters x2 x3 x4 Q c_m_moves) ∧ (¬ x4 = (-1) → wp_X4_hasState c_m_states c_m_letters x4 (fun r12 => ((¬ r12 = (nI 0) → J_X11_move_s_49 c_m_states c_m_letters x2 x3 x4 Q c_m_moves) ∧ (r12 = (nI 0) → Q (-2) c_m_moves)))))))))))
abbrev rm_X11_move_s : Room := { frames := 2, cells := 0, slots := 0, locals := 44 }
set_option maxHeartbeats 4000000 in
set_option maxRecDepth 100000 in
theorem k_X11_move_s (l : Launch) (g : GG) (h_this : Nat) (h_this_machines : Nat) (h_this_word : Nat) (h_this_steps : Nat) (h_this_trail : Nat) (h_this_search : Nat) (h_this_prices : Nat) (h_this_odds : Nat) (h_this_pairs : Nat) (h_this_greed : Nat) (h_this_colouring : Nat) (h_m_moves : Nat) (h_m_lights : Nat) (h_m_prices : Nat) (h_m_shares : Nat) (h_m : Nat) {c_made : Int32} {c_machines : Nat → Option Nat} {c_m_states : Int32} {c_m_letters : Int32} {c_m_moves : Nat → Int32} {x1 : Int32} {x2 : Int32} {x3 : Int32} {x4 : Int32} {Q : Int32 → (Nat → Int32) → Prop} (hm : wp_X11_machineAt c_made c_machines x1 (fun r => r = some h_m)) (h : wp_X11_move_s c_made c_machines c_m_states c_m_letters c_m_moves x1 x2 x3 x4 Q) : CI l g yX11_move wsX11_move rm_X11_move_s [.ref h_this, .int x1, .int x2, .int x3, .int x4] (cw_X11_move_s g h_this h_this_machines h_this_word h_this_steps h_this_trail h_this_search h_this_prices h_this_odds h_this_pairs h_this_greed h_this_colouring h_m_moves h_m_lights h_m_prices h_m_shares h_m c_made c_machines c_m_states c_m_letters c_m_moves) (S := (Nat → Int32)) (fun u => (cw_X11_move_s g h_this h_this_machines h_this_word h_this_steps h_this_trail h_this_search h_this_prices h_this_odds h_this_pairs h_this_greed h_this_colouring h_m_moves h_m_lights h_m_prices h_m_shares h_m c_made c_machines c_m_states c_m_letters u)) (fun r u => Q r u) 0 0 := by
  refine mk_I (cc := cX11_move) (maxL := 7) (own := RX11) (by decide) rfl rfl (Nat.le_of_ble_eq_true rfl) ?_
  intro p e s m args below meth c A QQ E hret hP hD hS ls hl
  have E2 := E
  obtain ⟨hx, hb, hr, hml, hown, hts, hlocks, hA, hZ, hK, hnm⟩ := E2
  have hP : va_P g.1 vwCl (cw_X11_move_s g h_this h_this_machines h_this_word h_this_steps h_this_trail h_this_search h_this_prices h_this_odds h_this_pairs h_this_greed h_this_colouring h_m_moves h_m_lights h_m_prices h_m_shares h_m c_made c_machines c_m_states c_m_letters c_m_moves) s.heap := hP
  have hD : va_D A (cw_X11_move_s g h_this h_this_machines h_this_word h_this_steps h_this_trail h_this_search h_this_prices h_this_odds h_this_pairs h_this_greed h_this_colouring h_m_moves h_m_lights h_m_prices h_m_shares h_m c_made c_machines c_m_states c_m_letters c_m_moves) := hD
  have hl : lv_has ls 7 [(0, .ref h_this), (1, .int x1), (2, .int x2), (3, .int x3), (4, .int x4)] := hl
  unfold wp_X11_move_s at h
  have K_49 : ∀ (c_m_moves : Nat → Int32) , J_X11_move_s_49 c_m_states c_m_letters x2 x3 x4 Q c_m_moves → ∀ (H : Heap) (locs : List Loc), va_P g.1 vwCl (cw_X11_move_s g h_this h_this_machines h_this_word h_this_steps h_this_trail h_this_search h_this_prices h_this_odds h_this_pairs h_this_greed h_this_colouring h_m_moves h_m_lights h_m_prices h_m_shares h_m c_made c_machines c_m_states c_m_letters c_m_moves) H → va_D A (cw_X11_move_s g h_this h_this_machines h_this_word h_this_steps h_this_trail h_this_search h_this_prices h_this_odds h_this_pairs h_this_greed h_this_colouring h_m_moves h_m_lights h_m_prices h_m_shares h_m c_made c_machines c_m_states c_m_letters c_m_moves) → va_S A s.heap H locs → ∀ ls : Array Slot, lv_has ls 7 [(2, .int x2), (3, .int x3), (4, .int x4), (5, .ref h_m)] → W p l e rm_X11_move_s s m args below meth c H locs 0 0 QQ (F0 m 49 ls []) := by
    intro c_m_moves h H locs hP hD hS ls hl
    unfold J_X11_move_s_49 at h
    refine lv_aload hx hb dX11_move_49 (lv_at hl 3 rfl) ?_
    refine lv_iload_n hx hb dX11_move_51 rfl (lv_at hl 0 rfl) ?_
    refine lv_iload_n hx hb dX11_move_52 rfl (lv_at hl 1 rfl) ?_
    refine go_I E (run_V E ((k_X4_target l g h_m h_m_moves h_m_lights h_m_prices h_m_shares h) _) (cwV 2 hts gX11_move_X4_target rfl rfl rfl (by decide +kernel) ⟨Nat.le_of_ble_eq_true rfl, Nat.le_of_ble_eq_true rfl⟩) hP hD hS [2, 3] rfl rfl 0 3 rfl rfl rfl hl rfl rfl (Nat.le_of_ble_eq_true rfl) dX11_move_53 ⟨Nat.le_of_ble_eq_true rfl, Nat.le_of_ble_eq_true rfl⟩) hP hD hS [2, 3] rfl [(true, 0), (true, 1), (false, 0), (false, 1)] rfl (by decide) (fun _ => (cw_X11_move_s g h_this h_this_machines h_this_word h_this_steps h_this_trail h_this_search h_this_prices h_this_odds h_this_pairs h_this_greed h_this_colouring h_m_moves h_m_lights h_m_prices h_m_shares h_m c_made c_machines c_m_states c_m_letters c_m_moves)) (fun _ => rfl) (fun r8 _ H locs h hP hD hS => ?_)
    try dsimp only at h
    have hP : va_P g.1 vwCl (cw_X11_move_s g h_this h_this_machines h_this_word h_this_steps h_this_trail h_this_search h_this_prices h_this_odds h_this_pairs h_this_greed h_this_colouring h_m_moves h_m_lights h_m_prices h_m_shares h_m c_made c_machines c_m_states c_m_letters c_m_moves) H := hP
    have hD : va_D A (cw_X11_move_s g h_this h_this_machines h_this_word h_this_steps h_this_trail h_this_search h_this_prices h_this_odds h_this_pairs h_this_greed h_this_colouring h_m_moves h_m_lights h_m_prices h_m_shares h_m c_made c_machines c_m_states c_m_letters c_m_moves) := hD
    refine lv_istore (lv' := [(6, .int r8), (2, .int x2), (3, .int x3), (4, .int x4), (5, .ref h_m)]) hx hb dX11_move_56 hl (by decide) rfl (fun ls hl => ?_)
    refine lv_aload hx hb dX11_move_58 (lv_at hl 4 rfl) ?_
    refine lv_iload_n hx hb dX11_move_60 rfl (lv_at hl 1 rfl) ?_
    refine lv_iload_n hx hb dX11_move_61 rfl (lv_at hl 2 rfl) ?_
    refine lv_iload hx hb dX11_move_62 (lv_at hl 3 rfl) ?_
    refine go_V E (run_V E ((k_X4_lead l g h_m h_m_moves h_m_lights h_m_prices h_m_shares h) _) (cwV 3 hts gX11_move_X4_lead rfl rfl rfl (by decide +kernel) ⟨Nat.le_of_ble_eq_true rfl, Nat.le_of_ble_eq_true rfl⟩) hP hD hS [2, 3] rfl rfl 0 3 rfl rfl rfl hl rfl rfl (Nat.le_of_ble_eq_true rfl) dX11_move_64 ⟨Nat.le_of_ble_eq_true rfl, Nat.le_of_ble_eq_true rfl⟩) hP hD hS [2, 3] rfl [(true, 0), (true, 1), (false, 0), (false, 1)] rfl (by decide) (fun u => (cw_X11_move_s g h_this h_this_machines h_this_word h_this_steps h_this_trail h_this_search h_this_prices h_this_odds h_this_pairs h_this_greed h_this_colouring h_m_moves h_m_lights h_m_prices h_m_shares h_m c_made c_machines c_m_states c_m_letters u)) (fun _ => rfl) (fun c_m_moves H locs h hP hD hS => ?_)
    try dsimp only at h
    have hP : va_P g.1 vwCl (cw_X11_move_s g h_this h_this_machines h_this_word h_this_steps h_this_trail h_this_search h_this_prices h_this_odds h_this_pairs h_this_greed h_this_colouring h_m_moves h_m_lights h_m_prices h_m_shares h_m c_made c_machines c_m_states c_m_letters c_m_moves) H := hP
    have hD : va_D A (cw_X11_move_s g h_this h_this_machines h_this_word h_this_steps h_this_trail h_this_search h_this_prices h_this_odds h_this_pairs h_this_greed h_this_colouring h_m_moves h_m_lights h_m_prices h_m_shares h_m c_made c_machines c_m_states c_m_letters c_m_moves) := hD
    refine lv_iload hx hb dX11_move_67 (lv_at hl 0 rfl) ?_
    exact hret r8 c_m_moves _ _ _ _ rfl h hP hD hS dX11_move_69
  refine lv_aload_n hx hb dX11_move_0 rfl (lv_at hl 0 rfl) ?_
  refine lv_iload_n hx hb dX11_move_1 rfl (lv_at hl 1 rfl) ?_
  refine go_Q E (run_V E ((k_X11_machineAt l g h_this h_this_machines h_this_word h_this_steps h_this_trail h_this_search h_this_prices h_this_odds h_this_pairs h_this_greed h_this_colouring hm) _) (cwV 1 hts gX11_move_X11_machineAt rfl rfl rfl (by decide +kernel) ⟨Nat.le_of_ble_eq_true rfl, Nat.le_of_ble_eq_true rfl⟩) hP hD hS [0, 1] rfl rfl 0 10 rfl rfl rfl hl rfl rfl (Nat.le_of_ble_eq_true rfl) dX11_move_2 ⟨Nat.le_of_ble_eq_true rfl, Nat.le_of_ble_eq_true rfl⟩) hP hD hS [0, 1] rfl [(false, 0), (false, 1), (true, 2), (true, 3)] rfl (by decide) (fun _ => (cw_X11_move_s g h_this h_this_machines h_this_word h_this_steps h_this_trail h_this_search h_this_prices h_this_odds h_this_pairs h_this_greed h_this_colouring h_m_moves h_m_lights h_m_prices h_m_shares h_m c_made c_machines c_m_states c_m_letters c_m_moves)) (fun _ => rfl) (fun r2 _ H locs hr_ hP hD hS => ?_)
  have hr_ : some h_m = r2 := Eq.symm hr_
  subst hr_
  refine W.eq (g2 := F0 m 5 ls [.ref h_m]) rfl ?_
  have hP : va_P g.1 vwCl (cw_X11_move_s g h_this h_this_machines h_this_word h_this_steps h_this_trail h_this_search h_this_prices h_this_odds h_this_pairs h_this_greed h_this_colouring h_m_moves h_m_lights h_m_prices h_m_shares h_m c_made c_machines c_m_states c_m_letters c_m_moves) H := hP
  have hD : va_D A (cw_X11_move_s g h_this h_this_machines h_this_word h_this_steps h_this_trail h_this_search h_this_prices h_this_odds h_this_pairs h_this_greed h_this_colouring h_m_moves h_m_lights h_m_prices h_m_shares h_m c_made c_machines c_m_states c_m_letters c_m_moves) := hD
  refine lv_astore (lv' := [(5, .ref h_m), (0, .ref h_this), (1, .int x1), (2, .int x2), (3, .int x3), (4, .int x4)]) hx hb dX11_move_5 hl (by decide) rfl (fun ls hl => ?_)
  refine lv_aload hx hb dX11_move_7 (lv_at hl 0 rfl) ?_
  refine lv_ifnull hx hb dX11_move_9 ?_
  refine lv_aload hx hb dX11_move_12 (lv_at hl 0 rfl) ?_
  refine lv_iload_n hx hb dX11_move_14 rfl (lv_at hl 3 rfl) ?_
  refine go_I E (run_V E ((k_X4_hasState l g h_m h_m_moves h_m_lights h_m_prices h_m_shares h) _) (cwV 1 hts gX11_move_X4_hasState rfl rfl rfl (by decide +kernel) ⟨Nat.le_of_ble_eq_true rfl, Nat.le_of_ble_eq_true rfl⟩) hP hD hS [2] rfl rfl 0 3 rfl rfl rfl hl rfl rfl (Nat.le_of_ble_eq_true rfl) dX11_move_15 ⟨Nat.le_of_ble_eq_true rfl, Nat.le_of_ble_eq_true rfl⟩) hP hD hS [2] rfl [(true, 0), (true, 1), (false, 0), (true, 3)] rfl (by decide) (fun _ => (cw_X11_move_s g h_this h_this_machines h_this_word h_this_steps h_this_trail h_this_search h_this_prices h_this_odds h_this_pairs h_this_greed h_this_colouring h_m_moves h_m_lights h_m_prices h_m_shares h_m c_made c_machines c_m_states c_m_letters c_m_moves)) (fun _ => rfl) (fun r4 _ H locs h hP hD hS => ?_)
  try dsimp only at h
  have hP : va_P g.1 vwCl (cw_X11_move_s g h_this h_this_machines h_this_word h_this_steps h_this_trail h_this_search h_this_prices h_this_odds h_this_pairs h_this_greed h_this_colouring h_m_moves h_m_lights h_m_prices h_m_shares h_m c_made c_machines c_m_states c_m_letters c_m_moves) H := hP
  have hD : va_D A (cw_X11_move_s g h_this h_this_machines h_this_word h_this_steps h_this_trail h_this_search h_this_prices h_this_odds h_this_pairs h_this_greed h_this_colouring h_m_moves h_m_lights h_m_prices h_m_shares h_m c_made c_machines c_m_states c_m_letters c_m_moves) := hD
  refine lv_if_eq (tgt := 46) hx hb dX11_move_18 (by decide) (fun cq => ?_) (fun cq => ?_)
  · replace h := h.1 cq
    refine lv_bipush (v := (-2)) hx hb dX11_move_46 (by decide) ?_
    exact hret (-2) c_m_moves _ _ _ _ rfl h hP hD hS dX11_move_48
  · replace h := h.2 cq
    refine lv_aload hx hb dX11_move_21 (lv_at hl 0 rfl) ?_
    refine lv_iload_n hx hb dX11_move_23 rfl (lv_at hl 4 rfl) ?_
    refine go_I E (run_V E ((k_X4_hasLetter l g h_m h_m_moves h_m_lights h_m_prices h_m_shares h) _) (cwV 1 hts gX11_move_X4_hasLetter rfl rfl rfl (by decide +kernel) ⟨Nat.le_of_ble_eq_true rfl, Nat.le_of_ble_eq_true rfl⟩) hP hD hS [2] rfl rfl 0 3 rfl rfl rfl hl rfl rfl (Nat.le_of_ble_eq_true rfl) dX11_move_24 ⟨Nat.le_of_ble_eq_true rfl, Nat.le_of_ble_eq_true rfl⟩) hP hD hS [2] rfl [(true, 0), (true, 1), (false, 0), (true, 3)] rfl (by decide) (fun _ => (cw_X11_move_s g h_this h_this_machines h_this_word h_this_steps h_this_trail h_this_search h_this_prices h_this_odds h_this_pairs h_this_greed h_this_colouring h_m_moves h_m_lights h_m_prices h_m_shares h_m c_made c_machines c_m_states c_m_letters c_m_moves)) (fun _ => rfl) (fun r6 _ H locs h hP hD hS => ?_)
    try dsimp only at h
    have hP : va_P g.1 vwCl (cw_X11_move_s g h_this h_this_machines h_this_word h_this_steps h_this_trail h_this_search h_this_prices h_this_odds h_this_pairs h_this_greed h_this_colouring h_m_moves h_m_lights h_m_prices h_m_shares h_m c_made c_machines c_m_states c_m_letters c_m_moves) H := hP
    have hD : va_D A (cw_X11_move_s g h_this h_this_machines h_this_word h_this_steps h_this_trail h_this_search h_this_prices h_this_odds h_this_pairs h_this_greed h_this_colouring h_m_moves h_m_lights h_m_prices h_m_shares h_m c_made c_machines c_m_states c_m_letters c_m_moves) := hD
    refine lv_if_eq (tgt := 46) hx hb dX11_move_27 (by decide) (fun cq => ?_) (fun cq => ?_)
    · replace h := h.1 cq
      refine lv_bipush (v := (-2)) hx hb dX11_move_46 (by decide) ?_
      exact hret (-2) c_m_moves _ _ _ _ rfl h hP hD hS dX11_move_48
    · replace h := h.2 cq
      refine lv_iload hx hb dX11_move_30 (lv_at hl 5 rfl) ?_
      refine lv_iconst (v := (-1)) hx hb dX11_move_32 (by decide) ?_
      refine lv_icmp_eq (tgt := 49) hx hb dX11_move_33 (by decide) (fun cq => ?_) (fun cq => ?_)
      · replace h := h.1 cq
        exact K_49 c_m_moves h _ _ hP hD hS _ (lv_sub hl [3, 4, 5, 0] rfl)
      · replace h := h.2 cq
        refine lv_aload hx hb dX11_move_36 (lv_at hl 0 rfl) ?_
        refine lv_iload hx hb dX11_move_38 (lv_at hl 5 rfl) ?_
        refine go_I E (run_V E ((k_X4_hasState l g h_m h_m_moves h_m_lights h_m_prices h_m_shares h) _) (cwV 1 hts gX11_move_X4_hasState rfl rfl rfl (by decide +kernel) ⟨Nat.le_of_ble_eq_true rfl, Nat.le_of_ble_eq_true rfl⟩) hP hD hS [2] rfl rfl 0 3 rfl rfl rfl hl rfl rfl (Nat.le_of_ble_eq_true rfl) dX11_move_40 ⟨Nat.le_of_ble_eq_true rfl, Nat.le_of_ble_eq_true rfl⟩) hP hD hS [2] rfl [(true, 0), (true, 1), (false, 0), (true, 3)] rfl (by decide) (fun _ => (cw_X11_move_s g h_this h_this_machines h_this_word h_this_steps h_this_trail h_this_search h_this_prices h_this_odds h_this_pairs h_this_greed h_this_colouring h_m_moves h_m_lights h_m_prices h_m_shares h_m c_made c_machines c_m_states c_m_letters c_m_moves)) (fun _ => rfl) (fun r12 _ H locs h hP hD hS => ?_)
        try dsimp only at h
        have hP : va_P g.1 vwCl (cw_X11_move_s g h_this h_this_machines h_this_word h_this_steps h_this_trail h_this_search h_this_prices h_this_odds h_this_pairs h_this_greed h_this_colouring h_m_moves h_m_lights h_m_prices h_m_shares h_m c_made c_machines c_m_states c_m_letters c_m_moves) H := hP
        have hD : va_D A (cw_X11_move_s g h_this h_this_machines h_this_word h_this_steps h_this_trail h_this_search h_this_prices h_this_odds h_this_pairs h_this_greed h_this_colouring h_m_moves h_m_lights h_m_prices h_m_shares h_m c_made c_machines c_m_states c_m_letters c_m_moves) := hD
        refine lv_if_ne (tgt := 49) hx hb dX11_move_43 (by decide) (fun cq => ?_) (fun cq => ?_)
        · replace h := h.1 cq
          exact K_49 c_m_moves h _ _ hP hD hS _ (lv_sub hl [3, 4, 5, 0] rfl)
        · replace h := h.2 cq
          refine lv_bipush (v := (-2)) hx hb dX11_move_46 (by decide) ?_
          exact hret (-2) c_m_moves _ _ _ _ rfl h hP hD hS dX11_move_48
abbrev cw_X11_move_n (g : GG) (h_this : Nat) (h_this_machines : Nat) (h_this_word : Nat) (h_this_steps : Nat) (h_this_trail : Nat) (h_this_search : Nat) (h_this_prices : Nat) (h_this_odds : Nat) (h_this_pairs : Nat) (h_this_greed : Nat) (h_this_colouring : Nat) (c_made : Int32) (c_machines : Nat → Option Nat) : va_W := [(h_this, .inr (10, [.ref h_this_machines, .int c_made, .ref h_this_word, .ref h_this_steps, .ref h_this_trail, .ref h_this_search, .ref h_this_prices, .ref h_this_odds, .ref h_this_pairs, .ref h_this_greed, .ref h_this_colouring])), (h_this_machines, .inl (g.2.2.2.2, 6, .inr (.inr (.inr (.inr c_machines)))))]
def wp_X11_move_n (c_made : Int32) (c_machines : Nat → Option Nat) (x1 : Int32) (x2 : Int32) (x3 : Int32) (x4 : Int32) (Q : Int32 → Prop) : Prop :=
    Q (-2)
abbrev rm_X11_move_n : Room := { frames := 1, cells := 0, slots := 0, locals := 21 }
set_option maxHeartbeats 4000000 in
set_option maxRecDepth 100000 in
theorem k_X11_move_n (l : Launch) (g : GG) (h_this : Nat) (h_this_machines : Nat) (h_this_word : Nat) (h_this_steps : Nat) (h_this_trail : Nat) (h_this_search : Nat) (h_this_prices : Nat) (h_this_odds : Nat) (h_this_pairs : Nat) (h_this_greed : Nat) (h_this_colouring : Nat) {c_made : Int32} {c_machines : Nat → Option Nat} {x1 : Int32} {x2 : Int32} {x3 : Int32} {x4 : Int32} {Q : Int32 → Prop} (hm : wp_X11_machineAt c_made c_machines x1 (fun r => r = none)) (h : wp_X11_move_n c_made c_machines x1 x2 x3 x4 Q) : CI l g yX11_move wsX11_move rm_X11_move_n [.ref h_this, .int x1, .int x2, .int x3, .int x4] (cw_X11_move_n g h_this h_this_machines h_this_word h_this_steps h_this_trail h_this_search h_this_prices h_this_odds h_this_pairs h_this_greed h_this_colouring c_made c_machines) (S := Unit) (fun _ => (cw_X11_move_n g h_this h_this_machines h_this_word h_this_steps h_this_trail h_this_search h_this_prices h_this_odds h_this_pairs h_this_greed h_this_colouring c_made c_machines)) (fun r _ => Q r) 0 0 := by
  refine mk_I (cc := cX11_move) (maxL := 7) (own := RX11) (by decide) rfl rfl (Nat.le_of_ble_eq_true rfl) ?_
  intro p e s m args below meth c A QQ E hret hP hD hS ls hl
  have E2 := E
  obtain ⟨hx, hb, hr, hml, hown, hts, hlocks, hA, hZ, hK, hnm⟩ := E2
  have hP : va_P g.1 vwCl (cw_X11_move_n g h_this h_this_machines h_this_word h_this_steps h_this_trail h_this_search h_this_prices h_this_odds h_this_pairs h_this_greed h_this_colouring c_made c_machines) s.heap := hP
  have hD : va_D A (cw_X11_move_n g h_this h_this_machines h_this_word h_this_steps h_this_trail h_this_search h_this_prices h_this_odds h_this_pairs h_this_greed h_this_colouring c_made c_machines) := hD
  have hl : lv_has ls 7 [(0, .ref h_this), (1, .int x1), (2, .int x2), (3, .int x3), (4, .int x4)] := hl
  unfold wp_X11_move_n at h
  refine lv_aload_n hx hb dX11_move_0 rfl (lv_at hl 0 rfl) ?_
  refine lv_iload_n hx hb dX11_move_1 rfl (lv_at hl 1 rfl) ?_
  refine go_Q E (run_V E ((k_X11_machineAt l g h_this h_this_machines h_this_word h_this_steps h_this_trail h_this_search h_this_prices h_this_odds h_this_pairs h_this_greed h_this_colouring hm) _) (cwV 1 hts gX11_move_X11_machineAt rfl rfl rfl (by decide +kernel) ⟨Nat.le_of_ble_eq_true rfl, Nat.le_of_ble_eq_true rfl⟩) hP hD hS [0, 1] rfl rfl 0 10 rfl rfl rfl hl rfl rfl (Nat.le_of_ble_eq_true rfl) dX11_move_2 ⟨Nat.le_of_ble_eq_true rfl, Nat.le_of_ble_eq_true rfl⟩) hP hD hS [0, 1] rfl [(false, 0), (false, 1)] rfl (by decide) (fun _ => (cw_X11_move_n g h_this h_this_machines h_this_word h_this_steps h_this_trail h_this_search h_this_prices h_this_odds h_this_pairs h_this_greed h_this_colouring c_made c_machines)) (fun _ => rfl) (fun r2 _ H locs hr_ hP hD hS => ?_)
  have hr_ : none = r2 := Eq.symm hr_
  subst hr_
  refine W.eq (g2 := F0 m 5 ls [.null]) rfl ?_
  have hP : va_P g.1 vwCl (cw_X11_move_n g h_this h_this_machines h_this_word h_this_steps h_this_trail h_this_search h_this_prices h_this_odds h_this_pairs h_this_greed h_this_colouring c_made c_machines) H := hP
  have hD : va_D A (cw_X11_move_n g h_this h_this_machines h_this_word h_this_steps h_this_trail h_this_search h_this_prices h_this_odds h_this_pairs h_this_greed h_this_colouring c_made c_machines) := hD
  refine lv_astoreN (lv' := [(5, .null), (0, .ref h_this), (1, .int x1), (2, .int x2), (3, .int x3), (4, .int x4)]) hx hb dX11_move_5 hl (by decide) rfl (fun ls hl => ?_)
  refine lv_aloadN hx hb dX11_move_7 (lv_at hl 0 rfl) ?_
  refine lv_ifnullN (tgt := 46) hx hb dX11_move_9 (by decide) ?_
  refine lv_bipush (v := (-2)) hx hb dX11_move_46 (by decide) ?_
  exact hret (-2) () _ _ _ _ rfl h hP hD hS dX11_move_48
abbrev cw_X11_light_s (g : GG) (h_this : Nat) (h_this_machines : Nat) (h_this_word : Nat) (h_this_steps : Nat) (h_this_trail : Nat) (h_this_search : Nat) (h_this_prices : Nat) (h_this_odds : Nat) (h_this_pairs : Nat) (h_this_greed : Nat) (h_this_colouring : Nat) (h_m_moves : Nat) (h_m_lights : Nat) (h_m_prices : Nat) (h_m_shares : Nat) (h_m : Nat) (c_made : Int32) (c_machines : Nat → Option Nat) (c_m_states : Int32) (c_m_letters : Int32) (c_m_lights : Nat → Int32) : va_W := [(h_this, .inr (10, [.ref h_this_machines, .int c_made, .ref h_this_word, .ref h_this_steps, .ref h_this_trail, .ref h_this_search, .ref h_this_prices, .ref h_this_odds, .ref h_this_pairs, .ref h_this_greed, .ref h_this_colouring])), (h_this_machines, .inl (g.2.2.2.2, 6, .inr (.inr (.inr (.inr c_machines))))), (h_m, .inr (3, [.int c_m_states, .int c_m_letters, .ref h_m_moves, .ref h_m_lights, .ref h_m_prices, .ref h_m_shares])), (h_m_lights, .inl (g.2.1, 12, .inl c_m_lights))]
def wp_X11_light_s (c_made : Int32) (c_machines : Nat → Option Nat) (c_m_states : Int32) (c_m_letters : Int32) (c_m_lights : Nat → Int32) (x1 : Int32) (x2 : Int32) (x3 : Int32) (Q : Int32 → (Nat → Int32) → Prop) : Prop :=
    wp_X4_hasState c_m_states c_m_letters x2 (fun r4 => ((r4 = (nI 0) → Q (-2) c_m_lights) ∧ (¬ r4 = (nI 0) → ((x3 < (nI 0) → Q (-2) c_m_lights) ∧ (¬ x3 < (nI 0) → ((x3 ≤ (nI 3) → wp_X4_putLight c_m_states c_m_letters c_m_lights x2 x3 (fun r6 c_m_lights => Q r6 c_m_lights)) ∧ (¬ x3 ≤ (nI 3) → Q (-2) c_m_lights)))))))
abbrev rm_X11_light_s : Room := { frames := 3, cells := 0, slots := 0, locals := 65 }
set_option maxHeartbeats 4000000 in
set_option maxRecDepth 100000 in
theorem k_X11_light_s (l : Launch) (g : GG) (h_this : Nat) (h_this_machines : Nat) (h_this_word : Nat) (h_this_steps : Nat) (h_this_trail : Nat) (h_this_search : Nat) (h_this_prices : Nat) (h_this_odds : Nat) (h_this_pairs : Nat) (h_this_greed : Nat) (h_this_colouring : Nat) (h_m_moves : Nat) (h_m_lights : Nat) (h_m_prices : Nat) (h_m_shares : Nat) (h_m : Nat) {c_made : Int32} {c_machines : Nat → Option Nat} {c_m_states : Int32} {c_m_letters : Int32} {c_m_lights : Nat → Int32} {x1 : Int32} {x2 : Int32} {x3 : Int32} {Q : Int32 → (Nat → Int32) → Prop} (hm : wp_X11_machineAt c_made c_machines x1 (fun r => r = some h_m)) (h : wp_X11_light_s c_made c_machines c_m_states c_m_letters c_m_lights x1 x2 x3 Q) : CI l g yX11_light wsX11_light rm_X11_light_s [.ref h_this, .int x1, .int x2, .int x3] (cw_X11_light_s g h_this h_this_machines h_this_word h_this_steps h_this_trail h_this_search h_this_prices h_this_odds h_this_pairs h_this_greed h_this_colouring h_m_moves h_m_lights h_m_prices h_m_shares h_m c_made c_machines c_m_states c_m_letters c_m_lights) (S := (Nat → Int32)) (fun u => (cw_X11_light_s g h_this h_this_machines h_this_word h_this_steps h_this_trail h_this_search h_this_prices h_this_odds h_this_pairs h_this_greed h_this_colouring h_m_moves h_m_lights h_m_prices h_m_shares h_m c_made c_machines c_m_states c_m_letters u)) (fun r u => Q r u) 0 0 := by
  refine mk_I (cc := cX11_light) (maxL := 5) (own := RX11) (by decide) rfl rfl (Nat.le_of_ble_eq_true rfl) ?_
  intro p e s m args below meth c A QQ E hret hP hD hS ls hl
  have E2 := E
  obtain ⟨hx, hb, hr, hml, hown, hts, hlocks, hA, hZ, hK, hnm⟩ := E2
  have hP : va_P g.1 vwCl (cw_X11_light_s g h_this h_this_machines h_this_word h_this_steps h_this_trail h_this_search h_this_prices h_this_odds h_this_pairs h_this_greed h_this_colouring h_m_moves h_m_lights h_m_prices h_m_shares h_m c_made c_machines c_m_states c_m_letters c_m_lights) s.heap := hP
  have hD : va_D A (cw_X11_light_s g h_this h_this_machines h_this_word h_this_steps h_this_trail h_this_search h_this_prices h_this_odds h_this_pairs h_this_greed h_this_colouring h_m_moves h_m_lights h_m_prices h_m_shares h_m c_made c_machines c_m_states c_m_letters c_m_lights) := hD
  have hl : lv_has ls 5 [(0, .ref h_this), (1, .int x1), (2, .int x2), (3, .int x3)] := hl
  unfold wp_X11_light_s at h
  refine lv_aload_n hx hb dX11_light_0 rfl (lv_at hl 0 rfl) ?_
  refine lv_iload_n hx hb dX11_light_1 rfl (lv_at hl 1 rfl) ?_
  refine go_Q E (run_V E ((k_X11_machineAt l g h_this h_this_machines h_this_word h_this_steps h_this_trail h_this_search h_this_prices h_this_odds h_this_pairs h_this_greed h_this_colouring hm) _) (cwV 1 hts gX11_light_X11_machineAt rfl rfl rfl (by decide +kernel) ⟨Nat.le_of_ble_eq_true rfl, Nat.le_of_ble_eq_true rfl⟩) hP hD hS [0, 1] rfl rfl 0 10 rfl rfl rfl hl rfl rfl (Nat.le_of_ble_eq_true rfl) dX11_light_2 ⟨Nat.le_of_ble_eq_true rfl, Nat.le_of_ble_eq_true rfl⟩) hP hD hS [0, 1] rfl [(false, 0), (false, 1), (true, 2), (true, 3)] rfl (by decide) (fun _ => (cw_X11_light_s g h_this h_this_machines h_this_word h_this_steps h_this_trail h_this_search h_this_prices h_this_odds h_this_pairs h_this_greed h_this_colouring h_m_moves h_m_lights h_m_prices h_m_shares h_m c_made c_machines c_m_states c_m_letters c_m_lights)) (fun _ => rfl) (fun r2 _ H locs hr_ hP hD hS => ?_)
  have hr_ : some h_m = r2 := Eq.symm hr_
  subst hr_
  refine W.eq (g2 := F0 m 5 ls [.ref h_m]) rfl ?_
  have hP : va_P g.1 vwCl (cw_X11_light_s g h_this h_this_machines h_this_word h_this_steps h_this_trail h_this_search h_this_prices h_this_odds h_this_pairs h_this_greed h_this_colouring h_m_moves h_m_lights h_m_prices h_m_shares h_m c_made c_machines c_m_states c_m_letters c_m_lights) H := hP
  have hD : va_D A (cw_X11_light_s g h_this h_this_machines h_this_word h_this_steps h_this_trail h_this_search h_this_prices h_this_odds h_this_pairs h_this_greed h_this_colouring h_m_moves h_m_lights h_m_prices h_m_shares h_m c_made c_machines c_m_states c_m_letters c_m_lights) := hD
  refine lv_astore (lv' := [(4, .ref h_m), (0, .ref h_this), (1, .int x1), (2, .int x2), (3, .int x3)]) hx hb dX11_light_5 hl (by decide) rfl (fun ls hl => ?_)
  refine lv_aload hx hb dX11_light_7 (lv_at hl 0 rfl) ?_
  refine lv_ifnull hx hb dX11_light_9 ?_
  refine lv_aload hx hb dX11_light_12 (lv_at hl 0 rfl) ?_
  refine lv_iload_n hx hb dX11_light_14 rfl (lv_at hl 3 rfl) ?_
  refine go_I E (run_V E ((k_X4_hasState l g h_m h_m_moves h_m_lights h_m_prices h_m_shares h) _) (cwV 1 hts gX11_light_X4_hasState rfl rfl rfl (by decide +kernel) ⟨Nat.le_of_ble_eq_true rfl, Nat.le_of_ble_eq_true rfl⟩) hP hD hS [2] rfl rfl 0 3 rfl rfl rfl hl rfl rfl (Nat.le_of_ble_eq_true rfl) dX11_light_15 ⟨Nat.le_of_ble_eq_true rfl, Nat.le_of_ble_eq_true rfl⟩) hP hD hS [2] rfl [(true, 0), (true, 1), (false, 0), (true, 3)] rfl (by decide) (fun _ => (cw_X11_light_s g h_this h_this_machines h_this_word h_this_steps h_this_trail h_this_search h_this_prices h_this_odds h_this_pairs h_this_greed h_this_colouring h_m_moves h_m_lights h_m_prices h_m_shares h_m c_made c_machines c_m_states c_m_letters c_m_lights)) (fun _ => rfl) (fun r4 _ H locs h hP hD hS => ?_)
  try dsimp only at h
  have hP : va_P g.1 vwCl (cw_X11_light_s g h_this h_this_machines h_this_word h_this_steps h_this_trail h_this_search h_this_prices h_this_odds h_this_pairs h_this_greed h_this_colouring h_m_moves h_m_lights h_m_prices h_m_shares h_m c_made c_machines c_m_states c_m_letters c_m_lights) H := hP
  have hD : va_D A (cw_X11_light_s g h_this h_this_machines h_this_word h_this_steps h_this_trail h_this_search h_this_prices h_this_odds h_this_pairs h_this_greed h_this_colouring h_m_moves h_m_lights h_m_prices h_m_shares h_m c_made c_machines c_m_states c_m_letters c_m_lights) := hD
  refine lv_if_eq (tgt := 30) hx hb dX11_light_18 (by decide) (fun cq => ?_) (fun cq => ?_)
  · replace h := h.1 cq
    refine lv_bipush (v := (-2)) hx hb dX11_light_30 (by decide) ?_
    exact hret (-2) c_m_lights _ _ _ _ rfl h hP hD hS dX11_light_32
  · replace h := h.2 cq
    refine lv_iload_n hx hb dX11_light_21 rfl (lv_at hl 4 rfl) ?_
    refine lv_if_lt (tgt := 30) hx hb dX11_light_22 (by decide) (fun cq => ?_) (fun cq => ?_)
    · replace h := h.1 cq
      refine lv_bipush (v := (-2)) hx hb dX11_light_30 (by decide) ?_
      exact hret (-2) c_m_lights _ _ _ _ rfl h hP hD hS dX11_light_32
    · replace h := h.2 cq
      refine lv_iload_n hx hb dX11_light_25 rfl (lv_at hl 4 rfl) ?_
      refine lv_iconst (v := (nI 3)) hx hb dX11_light_26 (by decide) ?_
      refine lv_icmp_le (tgt := 33) hx hb dX11_light_27 (by decide) (fun cq => ?_) (fun cq => ?_)
      · replace h := h.1 cq
        refine lv_aload hx hb dX11_light_33 (lv_at hl 0 rfl) ?_
        refine lv_iload_n hx hb dX11_light_35 rfl (lv_at hl 3 rfl) ?_
        refine lv_iload_n hx hb dX11_light_36 rfl (lv_at hl 4 rfl) ?_
        refine go_I E (run_V E ((k_X4_putLight l g h_m h_m_moves h_m_lights h_m_prices h_m_shares h) _) (cwV 2 hts gX11_light_X4_putLight rfl rfl rfl (by decide +kernel) ⟨Nat.le_of_ble_eq_true rfl, Nat.le_of_ble_eq_true rfl⟩) hP hD hS [2, 3] rfl rfl 0 3 rfl rfl rfl hl rfl rfl (Nat.le_of_ble_eq_true rfl) dX11_light_37 ⟨Nat.le_of_ble_eq_true rfl, Nat.le_of_ble_eq_true rfl⟩) hP hD hS [2, 3] rfl [(true, 0), (true, 1), (false, 0), (false, 1)] rfl (by decide) (fun u => (cw_X11_light_s g h_this h_this_machines h_this_word h_this_steps h_this_trail h_this_search h_this_prices h_this_odds h_this_pairs h_this_greed h_this_colouring h_m_moves h_m_lights h_m_prices h_m_shares h_m c_made c_machines c_m_states c_m_letters u)) (fun _ => rfl) (fun r6 c_m_lights H locs h hP hD hS => ?_)
        try dsimp only at h
        have hP : va_P g.1 vwCl (cw_X11_light_s g h_this h_this_machines h_this_word h_this_steps h_this_trail h_this_search h_this_prices h_this_odds h_this_pairs h_this_greed h_this_colouring h_m_moves h_m_lights h_m_prices h_m_shares h_m c_made c_machines c_m_states c_m_letters c_m_lights) H := hP
        have hD : va_D A (cw_X11_light_s g h_this h_this_machines h_this_word h_this_steps h_this_trail h_this_search h_this_prices h_this_odds h_this_pairs h_this_greed h_this_colouring h_m_moves h_m_lights h_m_prices h_m_shares h_m c_made c_machines c_m_states c_m_letters c_m_lights) := hD
        exact hret r6 c_m_lights _ _ _ _ rfl h hP hD hS dX11_light_40
      · replace h := h.2 cq
        refine lv_bipush (v := (-2)) hx hb dX11_light_30 (by decide) ?_
        exact hret (-2) c_m_lights _ _ _ _ rfl h hP hD hS dX11_light_32
abbrev cw_X11_light_n (g : GG) (h_this : Nat) (h_this_machines : Nat) (h_this_word : Nat) (h_this_steps : Nat) (h_this_trail : Nat) (h_this_search : Nat) (h_this_prices : Nat) (h_this_odds : Nat) (h_this_pairs : Nat) (h_this_greed : Nat) (h_this_colouring : Nat) (c_made : Int32) (c_machines : Nat → Option Nat) : va_W := [(h_this, .inr (10, [.ref h_this_machines, .int c_made, .ref h_this_word, .ref h_this_steps, .ref h_this_trail, .ref h_this_search, .ref h_this_prices, .ref h_this_odds, .ref h_this_pairs, .ref h_this_greed, .ref h_this_colouring])), (h_this_machines, .inl (g.2.2.2.2, 6, .inr (.inr (.inr (.inr c_machines)))))]
def wp_X11_light_n (c_made : Int32) (c_machines : Nat → Option Nat) (x1 : Int32) (x2 : Int32) (x3 : Int32) (Q : Int32 → Prop) : Prop :=
    Q (-2)
abbrev rm_X11_light_n : Room := { frames := 1, cells := 0, slots := 0, locals := 21 }
set_option maxHeartbeats 4000000 in
set_option maxRecDepth 100000 in
theorem k_X11_light_n (l : Launch) (g : GG) (h_this : Nat) (h_this_machines : Nat) (h_this_word : Nat) (h_this_steps : Nat) (h_this_trail : Nat) (h_this_search : Nat) (h_this_prices : Nat) (h_this_odds : Nat) (h_this_pairs : Nat) (h_this_greed : Nat) (h_this_colouring : Nat) {c_made : Int32} {c_machines : Nat → Option Nat} {x1 : Int32} {x2 : Int32} {x3 : Int32} {Q : Int32 → Prop} (hm : wp_X11_machineAt c_made c_machines x1 (fun r => r = none)) (h : wp_X11_light_n c_made c_machines x1 x2 x3 Q) : CI l g yX11_light wsX11_light rm_X11_light_n [.ref h_this, .int x1, .int x2, .int x3] (cw_X11_light_n g h_this h_this_machines h_this_word h_this_steps h_this_trail h_this_search h_this_prices h_this_odds h_this_pairs h_this_greed h_this_colouring c_made c_machines) (S := Unit) (fun _ => (cw_X11_light_n g h_this h_this_machines h_this_word h_this_steps h_this_trail h_this_search h_this_prices h_this_odds h_this_pairs h_this_greed h_this_colouring c_made c_machines)) (fun r _ => Q r) 0 0 := by
  refine mk_I (cc := cX11_light) (maxL := 5) (own := RX11) (by decide) rfl rfl (Nat.le_of_ble_eq_true rfl) ?_
  intro p e s m args below meth c A QQ E hret hP hD hS ls hl
  have E2 := E
  obtain ⟨hx, hb, hr, hml, hown, hts, hlocks, hA, hZ, hK, hnm⟩ := E2
  have hP : va_P g.1 vwCl (cw_X11_light_n g h_this h_this_machines h_this_word h_this_steps h_this_trail h_this_search h_this_prices h_this_odds h_this_pairs h_this_greed h_this_colouring c_made c_machines) s.heap := hP
  have hD : va_D A (cw_X11_light_n g h_this h_this_machines h_this_word h_this_steps h_this_trail h_this_search h_this_prices h_this_odds h_this_pairs h_this_greed h_this_colouring c_made c_machines) := hD
  have hl : lv_has ls 5 [(0, .ref h_this), (1, .int x1), (2, .int x2), (3, .int x3)] := hl
  unfold wp_X11_light_n at h
  refine lv_aload_n hx hb dX11_light_0 rfl (lv_at hl 0 rfl) ?_
  refine lv_iload_n hx hb dX11_light_1 rfl (lv_at hl 1 rfl) ?_
  refine go_Q E (run_V E ((k_X11_machineAt l g h_this h_this_machines h_this_word h_this_steps h_this_trail h_this_search h_this_prices h_this_odds h_this_pairs h_this_greed h_this_colouring hm) _) (cwV 1 hts gX11_light_X11_machineAt rfl rfl rfl (by decide +kernel) ⟨Nat.le_of_ble_eq_true rfl, Nat.le_of_ble_eq_true rfl⟩) hP hD hS [0, 1] rfl rfl 0 10 rfl rfl rfl hl rfl rfl (Nat.le_of_ble_eq_true rfl) dX11_light_2 ⟨Nat.le_of_ble_eq_true rfl, Nat.le_of_ble_eq_true rfl⟩) hP hD hS [0, 1] rfl [(false, 0), (false, 1)] rfl (by decide) (fun _ => (cw_X11_light_n g h_this h_this_machines h_this_word h_this_steps h_this_trail h_this_search h_this_prices h_this_odds h_this_pairs h_this_greed h_this_colouring c_made c_machines)) (fun _ => rfl) (fun r2 _ H locs hr_ hP hD hS => ?_)
  have hr_ : none = r2 := Eq.symm hr_
  subst hr_
  refine W.eq (g2 := F0 m 5 ls [.null]) rfl ?_
  have hP : va_P g.1 vwCl (cw_X11_light_n g h_this h_this_machines h_this_word h_this_steps h_this_trail h_this_search h_this_prices h_this_odds h_this_pairs h_this_greed h_this_colouring c_made c_machines) H := hP
  have hD : va_D A (cw_X11_light_n g h_this h_this_machines h_this_word h_this_steps h_this_trail h_this_search h_this_prices h_this_odds h_this_pairs h_this_greed h_this_colouring c_made c_machines) := hD
  refine lv_astoreN (lv' := [(4, .null), (0, .ref h_this), (1, .int x1), (2, .int x2), (3, .int x3)]) hx hb dX11_light_5 hl (by decide) rfl (fun ls hl => ?_)
  refine lv_aloadN hx hb dX11_light_7 (lv_at hl 0 rfl) ?_
  refine lv_ifnullN (tgt := 30) hx hb dX11_light_9 (by decide) ?_
  refine lv_bipush (v := (-2)) hx hb dX11_light_30 (by decide) ?_
  exact hret (-2) () _ _ _ _ rfl h hP hD hS dX11_light_32
