def wp_X0_init (Q : (Nat → Int64) → (Nat → Int64) → Prop) : Prop :=
    Q (fun _ => 0) (fun _ => 0)
abbrev rm_X0_init : Room := { frames := 1, cells := 2, slots := 8192, locals := 12 }
set_option maxHeartbeats 4000000 in
set_option maxRecDepth 100000 in
theorem k_X0_init (l : Launch) (g : GG) (h_this : Nat) (h_steps : Nat) (h_search : Nat) {Q : (Nat → Int64) → (Nat → Int64) → Prop} (h : wp_X0_init Q) : CV l g yX0_init wsX0_init rm_X0_init [.ref h_this, .ref h_steps, .ref h_search] [(h_this, .inr (0, [.null, .null, .null, .null]))] (S := Nat × Nat × (Nat → Int64) × (Nat → Int64)) (fun u => [(h_this, .inr (0, [.ref h_steps, .ref h_search, .ref u.1, .ref u.2.1])), (u.1, .inl (g.2.2.1, 4096, .inr (.inl u.2.2.1))), (u.2.1, .inl (g.2.2.1, 4096, .inr (.inl u.2.2.2)))]) (fun u => Q u.2.2.1 u.2.2.2) 2 8192 := by
  refine mk_V (cc := cX0_init) (maxL := 3) (own := RX0) (by decide) rfl rfl (Nat.le_of_ble_eq_true rfl) ?_
  intro p e s m args below meth c A QQ E hret hP hD hS ls hl
  have E2 := E
  obtain ⟨hx, hb, hr, hml, hown, hts, hlocks, hA, hZ, hK, hnm⟩ := E2
  have f3 := hts (.methodLink RX0 3 objectInit) (by decide +kernel)
  have fobi := hts (.instanceMethod objectInit) (by decide +kernel)
  have fobc := hts (.code objectInit ⟨#[0xb1]⟩ 1 none) (by decide +kernel)
  have arJ := hts (.arrayClass .long) (by decide +kernel)
  have f9 := hts (.fieldLink RX0 9 "WordBench$Chances" "now" "[J") (by decide +kernel)
  have f15 := hts (.fieldLink RX0 15 "WordBench$Chances" "next" "[J") (by decide +kernel)
  have f18 := hts (.fieldLink RX0 18 "WordBench$Chances" "steps" "LWordBench$Steps;") (by decide +kernel)
  have f22 := hts (.fieldLink RX0 22 "WordBench$Chances" "search" "LWordBench$SetSearch;") (by decide +kernel)
  have iX0 : ∀ w ∈ wsX00, w ∈ wsX0_init := fun _ h => List.mem_cons_of_mem _ (List.mem_append_right _ h)
  have hP : va_P g.1 vwCl [(h_this, .inr (0, [.null, .null, .null, .null]))] s.heap := hP
  have hD : va_D A [(h_this, .inr (0, [.null, .null, .null, .null]))] := hD
  have hl : lv_has ls 3 [(0, .ref h_this), (1, .ref h_steps), (2, .ref h_search)] := hl
  unfold wp_X0_init at h
  refine lv_aload_n hx hb dX0_init_0 rfl (lv_at hl 0 rfl) ?_
  refine W.objInit hx hb hown f3 fobi fobc rfl (by rw [hml]; exact hl.1) rfl dX0_init_1 (Nat.le_of_ble_eq_true rfl) (Nat.le_of_ble_eq_true rfl) ?_
  refine W.eq (g2 := F0 m 4 ls []) rfl ?_
  refine lv_aload_n hx hb dX0_init_4 rfl (lv_at hl 0 rfl) ?_
  refine lv_sipush (v := (nI 4096)) hx hb dX0_init_5 (by decide) ?_
  refine new_J E arJ hP hD hS (n := nI 4096) (N' := 4096) (by decide) (by decide) (Nat.le_of_ble_eq_true rfl) (Nat.le_of_ble_eq_true rfl) (Nat.le_of_ble_eq_true rfl) dX0_init_8 (fun h_this_now H hP hD hS => ?_)
  have hP : va_P g.1 vwCl [(h_this, .inr (0, [.null, .null, .null, .null])), (h_this_now, .inl (g.2.2.1, 4096, .inr (.inl (fun _ => 0))))] H := hP
  have hD : va_D A [(h_this, .inr (0, [.null, .null, .null, .null])), (h_this_now, .inl (g.2.2.1, 4096, .inr (.inl (fun _ => 0))))] := hD
  refine va_putF (D := g.1) (ci := 0) (v := .ref h_this_now) (ty := (.array .long)) (C := RX0) (T := TX0) (N := 4) hx hb hts iX0 tyX0 tyX0_ok nmX0 hown hK hP hD hS 0 rfl rfl 2 (by decide) f9 (fun _ h9 => h9) rfl hnm rfl (by decide +kernel) rfl rfl (Nat.le_of_ble_eq_true rfl) dX0_init_10 (fun H locs hP hD hS => ?_)
  have hP : va_P g.1 vwCl [(h_this, .inr (0, [.null, .null, .ref h_this_now, .null])), (h_this_now, .inl (g.2.2.1, 4096, .inr (.inl (fun _ => 0))))] H := hP
  have hD : va_D A [(h_this, .inr (0, [.null, .null, .ref h_this_now, .null])), (h_this_now, .inl (g.2.2.1, 4096, .inr (.inl (fun _ => 0))))] := hD
  refine lv_aload_n hx hb dX0_init_13 rfl (lv_at hl 0 rfl) ?_
  refine lv_sipush (v := (nI 4096)) hx hb dX0_init_14 (by decide) ?_
  refine new_J E arJ hP hD hS (n := nI 4096) (N' := 4096) (by decide) (by decide) (Nat.le_of_ble_eq_true rfl) (Nat.le_of_ble_eq_true rfl) (Nat.le_of_ble_eq_true rfl) dX0_init_17 (fun h_this_next H hP hD hS => ?_)
  have hP : va_P g.1 vwCl [(h_this, .inr (0, [.null, .null, .ref h_this_now, .null])), (h_this_now, .inl (g.2.2.1, 4096, .inr (.inl (fun _ => 0)))), (h_this_next, .inl (g.2.2.1, 4096, .inr (.inl (fun _ => 0))))] H := hP
  have hD : va_D A [(h_this, .inr (0, [.null, .null, .ref h_this_now, .null])), (h_this_now, .inl (g.2.2.1, 4096, .inr (.inl (fun _ => 0)))), (h_this_next, .inl (g.2.2.1, 4096, .inr (.inl (fun _ => 0))))] := hD
  refine va_putF (D := g.1) (ci := 0) (v := .ref h_this_next) (ty := (.array .long)) (C := RX0) (T := TX0) (N := 4) hx hb hts iX0 tyX0 tyX0_ok nmX0 hown hK hP hD hS 0 rfl rfl 3 (by decide) f15 (fun _ h9 => h9) rfl hnm rfl (by decide +kernel) rfl rfl (Nat.le_of_ble_eq_true rfl) dX0_init_19 (fun H locs hP hD hS => ?_)
  have hP : va_P g.1 vwCl [(h_this, .inr (0, [.null, .null, .ref h_this_now, .ref h_this_next])), (h_this_now, .inl (g.2.2.1, 4096, .inr (.inl (fun _ => 0)))), (h_this_next, .inl (g.2.2.1, 4096, .inr (.inl (fun _ => 0))))] H := hP
  have hD : va_D A [(h_this, .inr (0, [.null, .null, .ref h_this_now, .ref h_this_next])), (h_this_now, .inl (g.2.2.1, 4096, .inr (.inl (fun _ => 0)))), (h_this_next, .inl (g.2.2.1, 4096, .inr (.inl (fun _ => 0))))] := hD
  refine lv_aload_n hx hb dX0_init_22 rfl (lv_at hl 0 rfl) ?_
  refine lv_aload_n hx hb dX0_init_23 rfl (lv_at hl 1 rfl) ?_
  refine va_putF (D := g.1) (ci := 0) (v := .ref h_steps) (ty := (.object "WordBench$Steps")) (C := RX0) (T := TX0) (N := 4) hx hb hts iX0 tyX0 tyX0_ok nmX0 hown hK hP hD hS 0 rfl rfl 0 (by decide) f18 (fun _ h9 => h9) rfl hnm rfl (by decide +kernel) rfl rfl (Nat.le_of_ble_eq_true rfl) dX0_init_24 (fun H locs hP hD hS => ?_)
  have hP : va_P g.1 vwCl [(h_this, .inr (0, [.ref h_steps, .null, .ref h_this_now, .ref h_this_next])), (h_this_now, .inl (g.2.2.1, 4096, .inr (.inl (fun _ => 0)))), (h_this_next, .inl (g.2.2.1, 4096, .inr (.inl (fun _ => 0))))] H := hP
  have hD : va_D A [(h_this, .inr (0, [.ref h_steps, .null, .ref h_this_now, .ref h_this_next])), (h_this_now, .inl (g.2.2.1, 4096, .inr (.inl (fun _ => 0)))), (h_this_next, .inl (g.2.2.1, 4096, .inr (.inl (fun _ => 0))))] := hD
  refine lv_aload_n hx hb dX0_init_27 rfl (lv_at hl 0 rfl) ?_
  refine lv_aload_n hx hb dX0_init_28 rfl (lv_at hl 2 rfl) ?_
  refine va_putF (D := g.1) (ci := 0) (v := .ref h_search) (ty := (.object "WordBench$SetSearch")) (C := RX0) (T := TX0) (N := 4) hx hb hts iX0 tyX0 tyX0_ok nmX0 hown hK hP hD hS 0 rfl rfl 1 (by decide) f22 (fun _ h9 => h9) rfl hnm rfl (by decide +kernel) rfl rfl (Nat.le_of_ble_eq_true rfl) dX0_init_29 (fun H locs hP hD hS => ?_)
  have hP : va_P g.1 vwCl [(h_this, .inr (0, [.ref h_steps, .ref h_search, .ref h_this_now, .ref h_this_next])), (h_this_now, .inl (g.2.2.1, 4096, .inr (.inl (fun _ => 0)))), (h_this_next, .inl (g.2.2.1, 4096, .inr (.inl (fun _ => 0))))] H := hP
  have hD : va_D A [(h_this, .inr (0, [.ref h_steps, .ref h_search, .ref h_this_now, .ref h_this_next])), (h_this_now, .inl (g.2.2.1, 4096, .inr (.inl (fun _ => 0)))), (h_this_next, .inl (g.2.2.1, 4096, .inr (.inl (fun _ => 0))))] := hD
  exact hret (h_this_now, h_this_next, (fun _ => 0), (fun _ => 0)) _ _ _ _ h (hP.sub [0, 1, 2] rfl) (hD.sub [0, 1, 2] rfl rfl) hS dX0_init_32
def wp_X4_init (x1 : Int32) (x2 : Int32) (Q : Int32 → Int32 → (Nat → Int32) → (Nat → Int32) → (Nat → Int32) → (Nat → Int32) → Prop) : Prop :=
    wp_J7_fill_53178 48 (fun _ => 0) (-1) (fun c_moves => wp_J7_fill_53178 4 (fun _ => 0) (nI 1) (fun c_prices => wp_J7_fill_53178 4 (fun _ => 0) (nI 1) (fun c_shares => Q x1 x2 c_moves (fun _ => 0) c_prices c_shares)))
abbrev rm_X4_init : Room := { frames := 1, cells := 4, slots := 68, locals := 23 }
set_option maxHeartbeats 4000000 in
set_option maxRecDepth 100000 in
theorem k_X4_init (l : Launch) (g : GG) (h_this : Nat) {x1 : Int32} {x2 : Int32} {Q : Int32 → Int32 → (Nat → Int32) → (Nat → Int32) → (Nat → Int32) → (Nat → Int32) → Prop} (h : wp_X4_init x1 x2 Q) : CV l g yX4_init wsX4_init rm_X4_init [.ref h_this, .int x1, .int x2] [(h_this, .inr (3, [.int 0, .int 0, .null, .null, .null, .null]))] (S := Nat × Nat × Nat × Nat × Int32 × Int32 × (Nat → Int32) × (Nat → Int32) × (Nat → Int32) × (Nat → Int32)) (fun u => [(h_this, .inr (3, [.int u.2.2.2.2.1, .int u.2.2.2.2.2.1, .ref u.1, .ref u.2.1, .ref u.2.2.1, .ref u.2.2.2.1])), (u.1, .inl (g.2.1, 48, .inl u.2.2.2.2.2.2.1)), (u.2.1, .inl (g.2.1, 12, .inl u.2.2.2.2.2.2.2.1)), (u.2.2.1, .inl (g.2.1, 4, .inl u.2.2.2.2.2.2.2.2.1)), (u.2.2.2.1, .inl (g.2.1, 4, .inl u.2.2.2.2.2.2.2.2.2))]) (fun u => Q u.2.2.2.2.1 u.2.2.2.2.2.1 u.2.2.2.2.2.2.1 u.2.2.2.2.2.2.2.1 u.2.2.2.2.2.2.2.2.1 u.2.2.2.2.2.2.2.2.2) 4 68 := by
  refine mk_V (cc := cX4_init) (maxL := 3) (own := RX4) (by decide) rfl rfl (Nat.le_of_ble_eq_true rfl) ?_
  intro p e s m args below meth c A QQ E hret hP hD hS ls hl
  have E2 := E
  obtain ⟨hx, hb, hr, hml, hown, hts, hlocks, hA, hZ, hK, hnm⟩ := E2
  have f3 := hts (.methodLink RX4 3 objectInit) (by decide +kernel)
  have fobi := hts (.instanceMethod objectInit) (by decide +kernel)
  have fobc := hts (.code objectInit ⟨#[0xb1]⟩ 1 none) (by decide +kernel)
  have arI := hts (.arrayClass .int) (by decide +kernel)
  have f9 := hts (.fieldLink RX4 9 "WordBench$Machine" "moves" "[I") (by decide +kernel)
  have f15 := hts (.fieldLink RX4 15 "WordBench$Machine" "lights" "[I") (by decide +kernel)
  have f18 := hts (.fieldLink RX4 18 "WordBench$Machine" "prices" "[I") (by decide +kernel)
  have f21 := hts (.fieldLink RX4 21 "WordBench$Machine" "shares" "[I") (by decide +kernel)
  have f24 := hts (.fieldLink RX4 24 "WordBench$Machine" "states" "I") (by decide +kernel)
  have f28 := hts (.fieldLink RX4 28 "WordBench$Machine" "letters" "I") (by decide +kernel)
  have iX4 : ∀ w ∈ wsX40, w ∈ wsX4_init := fun _ h => List.mem_cons_of_mem _ (List.mem_append_right _ h)
  have hP : va_P g.1 vwCl [(h_this, .inr (3, [.int 0, .int 0, .null, .null, .null, .null]))] s.heap := hP
  have hD : va_D A [(h_this, .inr (3, [.int 0, .int 0, .null, .null, .null, .null]))] := hD
  have hl : lv_has ls 3 [(0, .ref h_this), (1, .int x1), (2, .int x2)] := hl
  unfold wp_X4_init at h
  refine lv_aload_n hx hb dX4_init_0 rfl (lv_at hl 0 rfl) ?_
  refine W.objInit hx hb hown f3 fobi fobc rfl (by rw [hml]; exact hl.1) rfl dX4_init_1 (Nat.le_of_ble_eq_true rfl) (Nat.le_of_ble_eq_true rfl) ?_
  refine W.eq (g2 := F0 m 4 ls []) rfl ?_
  refine lv_aload_n hx hb dX4_init_4 rfl (lv_at hl 0 rfl) ?_
  refine lv_bipush (v := (nI 48)) hx hb dX4_init_5 (by decide) ?_
  refine new_I E arI hP hD hS (n := nI 48) (N' := 48) (by decide) (by decide) (Nat.le_of_ble_eq_true rfl) (Nat.le_of_ble_eq_true rfl) (Nat.le_of_ble_eq_true rfl) dX4_init_7 (fun h_this_moves H hP hD hS => ?_)
  have hP : va_P g.1 vwCl [(h_this, .inr (3, [.int 0, .int 0, .null, .null, .null, .null])), (h_this_moves, .inl (g.2.1, 48, .inl (fun _ => 0)))] H := hP
  have hD : va_D A [(h_this, .inr (3, [.int 0, .int 0, .null, .null, .null, .null])), (h_this_moves, .inl (g.2.1, 48, .inl (fun _ => 0)))] := hD
  refine va_putF (D := g.1) (ci := 3) (v := .ref h_this_moves) (ty := (.array .int)) (C := RX4) (T := TX4) (N := 6) hx hb hts iX4 tyX4 tyX4_ok nmX4 hown hK hP hD hS 0 rfl rfl 2 (by decide) f9 (fun _ h9 => h9) rfl hnm rfl (by decide +kernel) rfl rfl (Nat.le_of_ble_eq_true rfl) dX4_init_9 (fun H locs hP hD hS => ?_)
  have hP : va_P g.1 vwCl [(h_this, .inr (3, [.int 0, .int 0, .ref h_this_moves, .null, .null, .null])), (h_this_moves, .inl (g.2.1, 48, .inl (fun _ => 0)))] H := hP
  have hD : va_D A [(h_this, .inr (3, [.int 0, .int 0, .ref h_this_moves, .null, .null, .null])), (h_this_moves, .inl (g.2.1, 48, .inl (fun _ => 0)))] := hD
  refine lv_aload_n hx hb dX4_init_12 rfl (lv_at hl 0 rfl) ?_
  refine lv_bipush (v := (nI 12)) hx hb dX4_init_13 (by decide) ?_
  refine new_I E arI hP hD hS (n := nI 12) (N' := 12) (by decide) (by decide) (Nat.le_of_ble_eq_true rfl) (Nat.le_of_ble_eq_true rfl) (Nat.le_of_ble_eq_true rfl) dX4_init_15 (fun h_this_lights H hP hD hS => ?_)
  have hP : va_P g.1 vwCl [(h_this, .inr (3, [.int 0, .int 0, .ref h_this_moves, .null, .null, .null])), (h_this_moves, .inl (g.2.1, 48, .inl (fun _ => 0))), (h_this_lights, .inl (g.2.1, 12, .inl (fun _ => 0)))] H := hP
  have hD : va_D A [(h_this, .inr (3, [.int 0, .int 0, .ref h_this_moves, .null, .null, .null])), (h_this_moves, .inl (g.2.1, 48, .inl (fun _ => 0))), (h_this_lights, .inl (g.2.1, 12, .inl (fun _ => 0)))] := hD
  refine va_putF (D := g.1) (ci := 3) (v := .ref h_this_lights) (ty := (.array .int)) (C := RX4) (T := TX4) (N := 6) hx hb hts iX4 tyX4 tyX4_ok nmX4 hown hK hP hD hS 0 rfl rfl 3 (by decide) f15 (fun _ h9 => h9) rfl hnm rfl (by decide +kernel) rfl rfl (Nat.le_of_ble_eq_true rfl) dX4_init_17 (fun H locs hP hD hS => ?_)
  have hP : va_P g.1 vwCl [(h_this, .inr (3, [.int 0, .int 0, .ref h_this_moves, .ref h_this_lights, .null, .null])), (h_this_moves, .inl (g.2.1, 48, .inl (fun _ => 0))), (h_this_lights, .inl (g.2.1, 12, .inl (fun _ => 0)))] H := hP
  have hD : va_D A [(h_this, .inr (3, [.int 0, .int 0, .ref h_this_moves, .ref h_this_lights, .null, .null])), (h_this_moves, .inl (g.2.1, 48, .inl (fun _ => 0))), (h_this_lights, .inl (g.2.1, 12, .inl (fun _ => 0)))] := hD
  refine lv_aload_n hx hb dX4_init_20 rfl (lv_at hl 0 rfl) ?_
  refine lv_iconst (v := (nI 4)) hx hb dX4_init_21 (by decide) ?_
  refine new_I E arI hP hD hS (n := nI 4) (N' := 4) (by decide) (by decide) (Nat.le_of_ble_eq_true rfl) (Nat.le_of_ble_eq_true rfl) (Nat.le_of_ble_eq_true rfl) dX4_init_22 (fun h_this_prices H hP hD hS => ?_)
  have hP : va_P g.1 vwCl [(h_this, .inr (3, [.int 0, .int 0, .ref h_this_moves, .ref h_this_lights, .null, .null])), (h_this_moves, .inl (g.2.1, 48, .inl (fun _ => 0))), (h_this_lights, .inl (g.2.1, 12, .inl (fun _ => 0))), (h_this_prices, .inl (g.2.1, 4, .inl (fun _ => 0)))] H := hP
  have hD : va_D A [(h_this, .inr (3, [.int 0, .int 0, .ref h_this_moves, .ref h_this_lights, .null, .null])), (h_this_moves, .inl (g.2.1, 48, .inl (fun _ => 0))), (h_this_lights, .inl (g.2.1, 12, .inl (fun _ => 0))), (h_this_prices, .inl (g.2.1, 4, .inl (fun _ => 0)))] := hD
  refine va_putF (D := g.1) (ci := 3) (v := .ref h_this_prices) (ty := (.array .int)) (C := RX4) (T := TX4) (N := 6) hx hb hts iX4 tyX4 tyX4_ok nmX4 hown hK hP hD hS 0 rfl rfl 4 (by decide) f18 (fun _ h9 => h9) rfl hnm rfl (by decide +kernel) rfl rfl (Nat.le_of_ble_eq_true rfl) dX4_init_24 (fun H locs hP hD hS => ?_)
  have hP : va_P g.1 vwCl [(h_this, .inr (3, [.int 0, .int 0, .ref h_this_moves, .ref h_this_lights, .ref h_this_prices, .null])), (h_this_moves, .inl (g.2.1, 48, .inl (fun _ => 0))), (h_this_lights, .inl (g.2.1, 12, .inl (fun _ => 0))), (h_this_prices, .inl (g.2.1, 4, .inl (fun _ => 0)))] H := hP
  have hD : va_D A [(h_this, .inr (3, [.int 0, .int 0, .ref h_this_moves, .ref h_this_lights, .ref h_this_prices, .null])), (h_this_moves, .inl (g.2.1, 48, .inl (fun _ => 0))), (h_this_lights, .inl (g.2.1, 12, .inl (fun _ => 0))), (h_this_prices, .inl (g.2.1, 4, .inl (fun _ => 0)))] := hD
  refine lv_aload_n hx hb dX4_init_27 rfl (lv_at hl 0 rfl) ?_
  refine lv_iconst (v := (nI 4)) hx hb dX4_init_28 (by decide) ?_
  refine new_I E arI hP hD hS (n := nI 4) (N' := 4) (by decide) (by decide) (Nat.le_of_ble_eq_true rfl) (Nat.le_of_ble_eq_true rfl) (Nat.le_of_ble_eq_true rfl) dX4_init_29 (fun h_this_shares H hP hD hS => ?_)
  have hP : va_P g.1 vwCl [(h_this, .inr (3, [.int 0, .int 0, .ref h_this_moves, .ref h_this_lights, .ref h_this_prices, .null])), (h_this_moves, .inl (g.2.1, 48, .inl (fun _ => 0))), (h_this_lights, .inl (g.2.1, 12, .inl (fun _ => 0))), (h_this_prices, .inl (g.2.1, 4, .inl (fun _ => 0))), (h_this_shares, .inl (g.2.1, 4, .inl (fun _ => 0)))] H := hP
  have hD : va_D A [(h_this, .inr (3, [.int 0, .int 0, .ref h_this_moves, .ref h_this_lights, .ref h_this_prices, .null])), (h_this_moves, .inl (g.2.1, 48, .inl (fun _ => 0))), (h_this_lights, .inl (g.2.1, 12, .inl (fun _ => 0))), (h_this_prices, .inl (g.2.1, 4, .inl (fun _ => 0))), (h_this_shares, .inl (g.2.1, 4, .inl (fun _ => 0)))] := hD
  refine va_putF (D := g.1) (ci := 3) (v := .ref h_this_shares) (ty := (.array .int)) (C := RX4) (T := TX4) (N := 6) hx hb hts iX4 tyX4 tyX4_ok nmX4 hown hK hP hD hS 0 rfl rfl 5 (by decide) f21 (fun _ h9 => h9) rfl hnm rfl (by decide +kernel) rfl rfl (Nat.le_of_ble_eq_true rfl) dX4_init_31 (fun H locs hP hD hS => ?_)
  have hP : va_P g.1 vwCl [(h_this, .inr (3, [.int 0, .int 0, .ref h_this_moves, .ref h_this_lights, .ref h_this_prices, .ref h_this_shares])), (h_this_moves, .inl (g.2.1, 48, .inl (fun _ => 0))), (h_this_lights, .inl (g.2.1, 12, .inl (fun _ => 0))), (h_this_prices, .inl (g.2.1, 4, .inl (fun _ => 0))), (h_this_shares, .inl (g.2.1, 4, .inl (fun _ => 0)))] H := hP
  have hD : va_D A [(h_this, .inr (3, [.int 0, .int 0, .ref h_this_moves, .ref h_this_lights, .ref h_this_prices, .ref h_this_shares])), (h_this_moves, .inl (g.2.1, 48, .inl (fun _ => 0))), (h_this_lights, .inl (g.2.1, 12, .inl (fun _ => 0))), (h_this_prices, .inl (g.2.1, 4, .inl (fun _ => 0))), (h_this_shares, .inl (g.2.1, 4, .inl (fun _ => 0)))] := hD
  refine lv_aload_n hx hb dX4_init_34 rfl (lv_at hl 0 rfl) ?_
  refine lv_iload_n hx hb dX4_init_35 rfl (lv_at hl 1 rfl) ?_
  refine va_putF (D := g.1) (ci := 3) (v := .int x1) (ty := .int) (C := RX4) (T := TX4) (N := 6) hx hb hts iX4 tyX4 tyX4_ok nmX4 hown hK hP hD hS 0 rfl rfl 0 (by decide) f24 (fun _ h9 => h9) rfl hnm rfl (by decide +kernel) rfl rfl (Nat.le_of_ble_eq_true rfl) dX4_init_36 (fun H locs hP hD hS => ?_)
  have hP : va_P g.1 vwCl [(h_this, .inr (3, [.int x1, .int 0, .ref h_this_moves, .ref h_this_lights, .ref h_this_prices, .ref h_this_shares])), (h_this_moves, .inl (g.2.1, 48, .inl (fun _ => 0))), (h_this_lights, .inl (g.2.1, 12, .inl (fun _ => 0))), (h_this_prices, .inl (g.2.1, 4, .inl (fun _ => 0))), (h_this_shares, .inl (g.2.1, 4, .inl (fun _ => 0)))] H := hP
  have hD : va_D A [(h_this, .inr (3, [.int x1, .int 0, .ref h_this_moves, .ref h_this_lights, .ref h_this_prices, .ref h_this_shares])), (h_this_moves, .inl (g.2.1, 48, .inl (fun _ => 0))), (h_this_lights, .inl (g.2.1, 12, .inl (fun _ => 0))), (h_this_prices, .inl (g.2.1, 4, .inl (fun _ => 0))), (h_this_shares, .inl (g.2.1, 4, .inl (fun _ => 0)))] := hD
  refine lv_aload_n hx hb dX4_init_39 rfl (lv_at hl 0 rfl) ?_
  refine lv_iload_n hx hb dX4_init_40 rfl (lv_at hl 2 rfl) ?_
  refine va_putF (D := g.1) (ci := 3) (v := .int x2) (ty := .int) (C := RX4) (T := TX4) (N := 6) hx hb hts iX4 tyX4 tyX4_ok nmX4 hown hK hP hD hS 0 rfl rfl 1 (by decide) f28 (fun _ h9 => h9) rfl hnm rfl (by decide +kernel) rfl rfl (Nat.le_of_ble_eq_true rfl) dX4_init_41 (fun H locs hP hD hS => ?_)
  have hP : va_P g.1 vwCl [(h_this, .inr (3, [.int x1, .int x2, .ref h_this_moves, .ref h_this_lights, .ref h_this_prices, .ref h_this_shares])), (h_this_moves, .inl (g.2.1, 48, .inl (fun _ => 0))), (h_this_lights, .inl (g.2.1, 12, .inl (fun _ => 0))), (h_this_prices, .inl (g.2.1, 4, .inl (fun _ => 0))), (h_this_shares, .inl (g.2.1, 4, .inl (fun _ => 0)))] H := hP
  have hD : va_D A [(h_this, .inr (3, [.int x1, .int x2, .ref h_this_moves, .ref h_this_lights, .ref h_this_prices, .ref h_this_shares])), (h_this_moves, .inl (g.2.1, 48, .inl (fun _ => 0))), (h_this_lights, .inl (g.2.1, 12, .inl (fun _ => 0))), (h_this_prices, .inl (g.2.1, 4, .inl (fun _ => 0))), (h_this_shares, .inl (g.2.1, 4, .inl (fun _ => 0)))] := hD
  refine lv_aload_n hx hb dX4_init_44 rfl (lv_at hl 0 rfl) ?_
  refine va_get (D := g.1) (ci := 3) (v := .ref h_this_moves) (C := RX4) (T := TX4) (N := 6) hx hb hts iX4 hown hK hP 0 rfl rfl 2 (by decide) f9 (fun _ h9 => h9) rfl dX4_init_45 ?_
  refine lv_iconst (v := (-1)) hx hb dX4_init_48 (by decide) ?_
  refine go_V E (run_S E ((k_J7_fill_53178 l g h_this_moves 48 h) _) (va_cwS 2 hts gX4_init_J7_fill_53178 rfl rfl rfl (by decide +kernel) ⟨Nat.le_of_ble_eq_true rfl, Nat.le_of_ble_eq_true rfl⟩) hP hD hS [1] rfl rfl hl rfl rfl (Nat.le_of_ble_eq_true rfl) dX4_init_49 ⟨Nat.le_of_ble_eq_true rfl, Nat.le_of_ble_eq_true rfl⟩) hP hD hS [1] rfl [(true, 0), (false, 0), (true, 2), (true, 3), (true, 4)] rfl (by decide) (fun u => [(h_this, .inr (3, [.int x1, .int x2, .ref h_this_moves, .ref h_this_lights, .ref h_this_prices, .ref h_this_shares])), (h_this_moves, .inl (g.2.1, 48, .inl u)), (h_this_lights, .inl (g.2.1, 12, .inl (fun _ => 0))), (h_this_prices, .inl (g.2.1, 4, .inl (fun _ => 0))), (h_this_shares, .inl (g.2.1, 4, .inl (fun _ => 0)))]) (fun _ => rfl) (fun c_moves H locs h hP hD hS => ?_)
  try dsimp only at h
  have hP : va_P g.1 vwCl [(h_this, .inr (3, [.int x1, .int x2, .ref h_this_moves, .ref h_this_lights, .ref h_this_prices, .ref h_this_shares])), (h_this_moves, .inl (g.2.1, 48, .inl c_moves)), (h_this_lights, .inl (g.2.1, 12, .inl (fun _ => 0))), (h_this_prices, .inl (g.2.1, 4, .inl (fun _ => 0))), (h_this_shares, .inl (g.2.1, 4, .inl (fun _ => 0)))] H := hP
  have hD : va_D A [(h_this, .inr (3, [.int x1, .int x2, .ref h_this_moves, .ref h_this_lights, .ref h_this_prices, .ref h_this_shares])), (h_this_moves, .inl (g.2.1, 48, .inl c_moves)), (h_this_lights, .inl (g.2.1, 12, .inl (fun _ => 0))), (h_this_prices, .inl (g.2.1, 4, .inl (fun _ => 0))), (h_this_shares, .inl (g.2.1, 4, .inl (fun _ => 0)))] := hD
  refine lv_aload_n hx hb dX4_init_52 rfl (lv_at hl 0 rfl) ?_
  refine va_get (D := g.1) (ci := 3) (v := .ref h_this_prices) (C := RX4) (T := TX4) (N := 6) hx hb hts iX4 hown hK hP 0 rfl rfl 4 (by decide) f18 (fun _ h9 => h9) rfl dX4_init_53 ?_
  refine lv_iconst (v := (nI 1)) hx hb dX4_init_56 (by decide) ?_
  refine go_V E (run_S E ((k_J7_fill_53178 l g h_this_prices 4 h) _) (va_cwS 2 hts gX4_init_J7_fill_53178 rfl rfl rfl (by decide +kernel) ⟨Nat.le_of_ble_eq_true rfl, Nat.le_of_ble_eq_true rfl⟩) hP hD hS [3] rfl rfl hl rfl rfl (Nat.le_of_ble_eq_true rfl) dX4_init_57 ⟨Nat.le_of_ble_eq_true rfl, Nat.le_of_ble_eq_true rfl⟩) hP hD hS [3] rfl [(true, 0), (true, 1), (true, 2), (false, 0), (true, 4)] rfl (by decide) (fun u => [(h_this, .inr (3, [.int x1, .int x2, .ref h_this_moves, .ref h_this_lights, .ref h_this_prices, .ref h_this_shares])), (h_this_moves, .inl (g.2.1, 48, .inl c_moves)), (h_this_lights, .inl (g.2.1, 12, .inl (fun _ => 0))), (h_this_prices, .inl (g.2.1, 4, .inl u)), (h_this_shares, .inl (g.2.1, 4, .inl (fun _ => 0)))]) (fun _ => rfl) (fun c_prices H locs h hP hD hS => ?_)
  try dsimp only at h
  have hP : va_P g.1 vwCl [(h_this, .inr (3, [.int x1, .int x2, .ref h_this_moves, .ref h_this_lights, .ref h_this_prices, .ref h_this_shares])), (h_this_moves, .inl (g.2.1, 48, .inl c_moves)), (h_this_lights, .inl (g.2.1, 12, .inl (fun _ => 0))), (h_this_prices, .inl (g.2.1, 4, .inl c_prices)), (h_this_shares, .inl (g.2.1, 4, .inl (fun _ => 0)))] H := hP
  have hD : va_D A [(h_this, .inr (3, [.int x1, .int x2, .ref h_this_moves, .ref h_this_lights, .ref h_this_prices, .ref h_this_shares])), (h_this_moves, .inl (g.2.1, 48, .inl c_moves)), (h_this_lights, .inl (g.2.1, 12, .inl (fun _ => 0))), (h_this_prices, .inl (g.2.1, 4, .inl c_prices)), (h_this_shares, .inl (g.2.1, 4, .inl (fun _ => 0)))] := hD
  refine lv_aload_n hx hb dX4_init_60 rfl (lv_at hl 0 rfl) ?_
  refine va_get (D := g.1) (ci := 3) (v := .ref h_this_shares) (C := RX4) (T := TX4) (N := 6) hx hb hts iX4 hown hK hP 0 rfl rfl 5 (by decide) f21 (fun _ h9 => h9) rfl dX4_init_61 ?_
  refine lv_iconst (v := (nI 1)) hx hb dX4_init_64 (by decide) ?_
  refine go_V E (run_S E ((k_J7_fill_53178 l g h_this_shares 4 h) _) (va_cwS 2 hts gX4_init_J7_fill_53178 rfl rfl rfl (by decide +kernel) ⟨Nat.le_of_ble_eq_true rfl, Nat.le_of_ble_eq_true rfl⟩) hP hD hS [4] rfl rfl hl rfl rfl (Nat.le_of_ble_eq_true rfl) dX4_init_65 ⟨Nat.le_of_ble_eq_true rfl, Nat.le_of_ble_eq_true rfl⟩) hP hD hS [4] rfl [(true, 0), (true, 1), (true, 2), (true, 3), (false, 0)] rfl (by decide) (fun u => [(h_this, .inr (3, [.int x1, .int x2, .ref h_this_moves, .ref h_this_lights, .ref h_this_prices, .ref h_this_shares])), (h_this_moves, .inl (g.2.1, 48, .inl c_moves)), (h_this_lights, .inl (g.2.1, 12, .inl (fun _ => 0))), (h_this_prices, .inl (g.2.1, 4, .inl c_prices)), (h_this_shares, .inl (g.2.1, 4, .inl u))]) (fun _ => rfl) (fun c_shares H locs h hP hD hS => ?_)
  try dsimp only at h
  have hP : va_P g.1 vwCl [(h_this, .inr (3, [.int x1, .int x2, .ref h_this_moves, .ref h_this_lights, .ref h_this_prices, .ref h_this_shares])), (h_this_moves, .inl (g.2.1, 48, .inl c_moves)), (h_this_lights, .inl (g.2.1, 12, .inl (fun _ => 0))), (h_this_prices, .inl (g.2.1, 4, .inl c_prices)), (h_this_shares, .inl (g.2.1, 4, .inl c_shares))] H := hP
  have hD : va_D A [(h_this, .inr (3, [.int x1, .int x2, .ref h_this_moves, .ref h_this_lights, .ref h_this_prices, .ref h_this_shares])), (h_this_moves, .inl (g.2.1, 48, .inl c_moves)), (h_this_lights, .inl (g.2.1, 12, .inl (fun _ => 0))), (h_this_prices, .inl (g.2.1, 4, .inl c_prices)), (h_this_shares, .inl (g.2.1, 4, .inl c_shares))] := hD
  exact hret (h_this_moves, h_this_lights, h_this_prices, h_this_shares, x1, x2, c_moves, (fun _ => 0), c_prices, c_shares) _ _ _ _ h (hP.sub [0, 1, 2, 3, 4] rfl) (hD.sub [0, 1, 2, 3, 4] rfl rfl) hS dX4_init_68
def wp_X1_init (Q : (Nat → Int32) → (Nat → Int32) → Int32 → Int32 → (Nat → Int32) → (Nat → Int32) → (Nat → Int32) → (Nat → Int32) → Prop) : Prop :=
    wp_X4_init (nI 12) (nI 4) (fun c_painted_states c_painted_letters c_painted_moves c_painted_lights c_painted_prices c_painted_shares => Q (fun _ => 0) (fun _ => 0) c_painted_states c_painted_letters c_painted_moves c_painted_lights c_painted_prices c_painted_shares)
abbrev rm_X1_init : Room := { frames := 2, cells := 7, slots := 98, locals := 45 }
set_option maxHeartbeats 4000000 in
set_option maxRecDepth 100000 in
theorem k_X1_init (l : Launch) (g : GG) (h_this : Nat) {Q : (Nat → Int32) → (Nat → Int32) → Int32 → Int32 → (Nat → Int32) → (Nat → Int32) → (Nat → Int32) → (Nat → Int32) → Prop} (h : wp_X1_init Q) : CV l g yX1_init wsX1_init rm_X1_init [.ref h_this] [(h_this, .inr (1, [.null, .null, .null]))] (S := Nat × Nat × Nat × Nat × Nat × Nat × Nat × (Nat → Int32) × (Nat → Int32) × Int32 × Int32 × (Nat → Int32) × (Nat → Int32) × (Nat → Int32) × (Nat → Int32)) (fun u => [(h_this, .inr (1, [.ref u.1, .ref u.2.1, .ref u.2.2.1])), (u.1, .inl (g.2.1, 12, .inl u.2.2.2.2.2.2.2.1)), (u.2.1, .inl (g.2.1, 12, .inl u.2.2.2.2.2.2.2.2.1)), (u.2.2.1, .inr (3, [.int u.2.2.2.2.2.2.2.2.2.1, .int u.2.2.2.2.2.2.2.2.2.2.1, .ref u.2.2.2.1, .ref u.2.2.2.2.1, .ref u.2.2.2.2.2.1, .ref u.2.2.2.2.2.2.1])), (u.2.2.2.1, .inl (g.2.1, 48, .inl u.2.2.2.2.2.2.2.2.2.2.2.1)), (u.2.2.2.2.1, .inl (g.2.1, 12, .inl u.2.2.2.2.2.2.2.2.2.2.2.2.1)), (u.2.2.2.2.2.1, .inl (g.2.1, 4, .inl u.2.2.2.2.2.2.2.2.2.2.2.2.2.1)), (u.2.2.2.2.2.2.1, .inl (g.2.1, 4, .inl u.2.2.2.2.2.2.2.2.2.2.2.2.2.2))]) (fun u => Q u.2.2.2.2.2.2.2.1 u.2.2.2.2.2.2.2.2.1 u.2.2.2.2.2.2.2.2.2.1 u.2.2.2.2.2.2.2.2.2.2.1 u.2.2.2.2.2.2.2.2.2.2.2.1 u.2.2.2.2.2.2.2.2.2.2.2.2.1 u.2.2.2.2.2.2.2.2.2.2.2.2.2.1 u.2.2.2.2.2.2.2.2.2.2.2.2.2.2) 7 98 := by
  refine mk_V (cc := cX1_init) (maxL := 1) (own := RX1) (by decide) rfl rfl (Nat.le_of_ble_eq_true rfl) ?_
  intro p e s m args below meth c A QQ E hret hP hD hS ls hl
  have E2 := E
  obtain ⟨hx, hb, hr, hml, hown, hts, hlocks, hA, hZ, hK, hnm⟩ := E2
  have f3 := hts (.methodLink RX1 3 objectInit) (by decide +kernel)
  have fobi := hts (.instanceMethod objectInit) (by decide +kernel)
  have fobc := hts (.code objectInit ⟨#[0xb1]⟩ 1 none) (by decide +kernel)
  have arI := hts (.arrayClass .int) (by decide +kernel)
  have f9 := hts (.fieldLink RX1 9 "WordBench$Colouring" "orders" "[I") (by decide +kernel)
  have f15 := hts (.fieldLink RX1 15 "WordBench$Colouring" "together" "[I") (by decide +kernel)
  have cl18 := hts (.classLink RX1 18 RX4) (by decide +kernel)
  have inX4 := hts (.instantiable RX4 6) (by decide +kernel)
  have iiX4 := hts (.initialized RX4) (by decide +kernel)
  have ml20 := hts (.methodLink RX1 20 yX4_init) (by decide +kernel)
  have im_X4_init := hts (.instanceMethod yX4_init) (by decide +kernel)
  have f23 := hts (.fieldLink RX1 23 "WordBench$Colouring" "painted" "LWordBench$Machine;") (by decide +kernel)
  have iX1 : ∀ w ∈ wsX10, w ∈ wsX1_init := fun _ h => List.mem_cons_of_mem _ (List.mem_append_left _ (List.mem_append_right _ h))
  have iX4 : ∀ w ∈ wsX40, w ∈ wsX1_init := fun _ h => List.mem_cons_of_mem _ (List.mem_append_right _ h)
  have hP : va_P g.1 vwCl [(h_this, .inr (1, [.null, .null, .null]))] s.heap := hP
  have hD : va_D A [(h_this, .inr (1, [.null, .null, .null]))] := hD
  have hl : lv_has ls 1 [(0, .ref h_this)] := hl
  unfold wp_X1_init at h
  refine lv_aload_n hx hb dX1_init_0 rfl (lv_at hl 0 rfl) ?_
  refine W.objInit hx hb hown f3 fobi fobc rfl (by rw [hml]; exact hl.1) rfl dX1_init_1 (Nat.le_of_ble_eq_true rfl) (Nat.le_of_ble_eq_true rfl) ?_
  refine W.eq (g2 := F0 m 4 ls []) rfl ?_
  refine lv_aload_n hx hb dX1_init_4 rfl (lv_at hl 0 rfl) ?_
  refine lv_bipush (v := (nI 12)) hx hb dX1_init_5 (by decide) ?_
  refine new_I E arI hP hD hS (n := nI 12) (N' := 12) (by decide) (by decide) (Nat.le_of_ble_eq_true rfl) (Nat.le_of_ble_eq_true rfl) (Nat.le_of_ble_eq_true rfl) dX1_init_7 (fun h_this_orders H hP hD hS => ?_)
  have hP : va_P g.1 vwCl [(h_this, .inr (1, [.null, .null, .null])), (h_this_orders, .inl (g.2.1, 12, .inl (fun _ => 0)))] H := hP
  have hD : va_D A [(h_this, .inr (1, [.null, .null, .null])), (h_this_orders, .inl (g.2.1, 12, .inl (fun _ => 0)))] := hD
  refine va_putF (D := g.1) (ci := 1) (v := .ref h_this_orders) (ty := (.array .int)) (C := RX1) (T := TX1) (N := 3) hx hb hts iX1 tyX1 tyX1_ok nmX1 hown hK hP hD hS 0 rfl rfl 0 (by decide) f9 (fun _ h9 => h9) rfl hnm rfl (by decide +kernel) rfl rfl (Nat.le_of_ble_eq_true rfl) dX1_init_9 (fun H locs hP hD hS => ?_)
  have hP : va_P g.1 vwCl [(h_this, .inr (1, [.ref h_this_orders, .null, .null])), (h_this_orders, .inl (g.2.1, 12, .inl (fun _ => 0)))] H := hP
  have hD : va_D A [(h_this, .inr (1, [.ref h_this_orders, .null, .null])), (h_this_orders, .inl (g.2.1, 12, .inl (fun _ => 0)))] := hD
  refine lv_aload_n hx hb dX1_init_12 rfl (lv_at hl 0 rfl) ?_
  refine lv_bipush (v := (nI 12)) hx hb dX1_init_13 (by decide) ?_
  refine new_I E arI hP hD hS (n := nI 12) (N' := 12) (by decide) (by decide) (Nat.le_of_ble_eq_true rfl) (Nat.le_of_ble_eq_true rfl) (Nat.le_of_ble_eq_true rfl) dX1_init_15 (fun h_this_together H hP hD hS => ?_)
  have hP : va_P g.1 vwCl [(h_this, .inr (1, [.ref h_this_orders, .null, .null])), (h_this_orders, .inl (g.2.1, 12, .inl (fun _ => 0))), (h_this_together, .inl (g.2.1, 12, .inl (fun _ => 0)))] H := hP
  have hD : va_D A [(h_this, .inr (1, [.ref h_this_orders, .null, .null])), (h_this_orders, .inl (g.2.1, 12, .inl (fun _ => 0))), (h_this_together, .inl (g.2.1, 12, .inl (fun _ => 0)))] := hD
  refine va_putF (D := g.1) (ci := 1) (v := .ref h_this_together) (ty := (.array .int)) (C := RX1) (T := TX1) (N := 3) hx hb hts iX1 tyX1 tyX1_ok nmX1 hown hK hP hD hS 0 rfl rfl 1 (by decide) f15 (fun _ h9 => h9) rfl hnm rfl (by decide +kernel) rfl rfl (Nat.le_of_ble_eq_true rfl) dX1_init_17 (fun H locs hP hD hS => ?_)
  have hP : va_P g.1 vwCl [(h_this, .inr (1, [.ref h_this_orders, .ref h_this_together, .null])), (h_this_orders, .inl (g.2.1, 12, .inl (fun _ => 0))), (h_this_together, .inl (g.2.1, 12, .inl (fun _ => 0)))] H := hP
  have hD : va_D A [(h_this, .inr (1, [.ref h_this_orders, .ref h_this_together, .null])), (h_this_orders, .inl (g.2.1, 12, .inl (fun _ => 0))), (h_this_together, .inl (g.2.1, 12, .inl (fun _ => 0)))] := hD
  refine lv_aload_n hx hb dX1_init_20 rfl (lv_at hl 0 rfl) ?_
  refine va_new (ci := 3) (fs := [.int 0, .int 0, .null, .null, .null, .null]) (C := RX4) (T := TX4) (N := 6) hx hb hts iX4 tyX4 tyX4_ok hown cl18 inX4 iiX4 hK hP hD hS hA rfl (fun j hj => by match j, hj with | 0, _ => rfl | 1, _ => rfl | 2, _ => rfl | 3, _ => rfl | 4, _ => rfl | 5, _ => rfl) (Nat.le_of_ble_eq_true rfl) (Nat.le_of_ble_eq_true rfl) dX1_init_21 (fun h_this_painted H hP hD hS => ?_)
  have hP : va_P g.1 vwCl [(h_this, .inr (1, [.ref h_this_orders, .ref h_this_together, .null])), (h_this_orders, .inl (g.2.1, 12, .inl (fun _ => 0))), (h_this_together, .inl (g.2.1, 12, .inl (fun _ => 0))), (h_this_painted, .inr (3, [.int 0, .int 0, .null, .null, .null, .null]))] H := hP
  have hD : va_D A [(h_this, .inr (1, [.ref h_this_orders, .ref h_this_together, .null])), (h_this_orders, .inl (g.2.1, 12, .inl (fun _ => 0))), (h_this_together, .inl (g.2.1, 12, .inl (fun _ => 0))), (h_this_painted, .inr (3, [.int 0, .int 0, .null, .null, .null, .null]))] := hD
  refine lv_dup hx hb dX1_init_24 rfl ?_
  refine lv_bipush (v := (nI 12)) hx hb dX1_init_25 (by decide) ?_
  refine lv_iconst (v := (nI 4)) hx hb dX1_init_27 (by decide) ?_
  refine go_V E (run_C E ((k_X4_init l g h_this_painted h) _) (cwI 2 hts gX1_init_X4_init rfl rfl rfl iiX4 ml20 im_X4_init rfl (by decide +kernel) ⟨Nat.le_of_ble_eq_true rfl, Nat.le_of_ble_eq_true rfl⟩) hP hD hS [3] rfl rfl hl rfl rfl (Nat.le_of_ble_eq_true rfl) dX1_init_28 ⟨Nat.le_of_ble_eq_true rfl, Nat.le_of_ble_eq_true rfl⟩) hP hD hS [3] rfl [(true, 0), (true, 1), (true, 2), (false, 0), (false, 1), (false, 2), (false, 3), (false, 4)] rfl (by decide) (fun u => [(h_this, .inr (1, [.ref h_this_orders, .ref h_this_together, .null])), (h_this_orders, .inl (g.2.1, 12, .inl (fun _ => 0))), (h_this_together, .inl (g.2.1, 12, .inl (fun _ => 0))), (h_this_painted, .inr (3, [.int u.2.2.2.2.1, .int u.2.2.2.2.2.1, .ref u.1, .ref u.2.1, .ref u.2.2.1, .ref u.2.2.2.1])), (u.1, .inl (g.2.1, 48, .inl u.2.2.2.2.2.2.1)), (u.2.1, .inl (g.2.1, 12, .inl u.2.2.2.2.2.2.2.1)), (u.2.2.1, .inl (g.2.1, 4, .inl u.2.2.2.2.2.2.2.2.1)), (u.2.2.2.1, .inl (g.2.1, 4, .inl u.2.2.2.2.2.2.2.2.2))]) (fun _ => rfl) (fun u H locs h hP hD hS => ?_)
  obtain ⟨h_this_painted_moves, h_this_painted_lights, h_this_painted_prices, h_this_painted_shares, c_painted_states, c_painted_letters, c_painted_moves, c_painted_lights, c_painted_prices, c_painted_shares⟩ := u
  try dsimp only at h
  have hP : va_P g.1 vwCl [(h_this, .inr (1, [.ref h_this_orders, .ref h_this_together, .null])), (h_this_orders, .inl (g.2.1, 12, .inl (fun _ => 0))), (h_this_together, .inl (g.2.1, 12, .inl (fun _ => 0))), (h_this_painted, .inr (3, [.int c_painted_states, .int c_painted_letters, .ref h_this_painted_moves, .ref h_this_painted_lights, .ref h_this_painted_prices, .ref h_this_painted_shares])), (h_this_painted_moves, .inl (g.2.1, 48, .inl c_painted_moves)), (h_this_painted_lights, .inl (g.2.1, 12, .inl c_painted_lights)), (h_this_painted_prices, .inl (g.2.1, 4, .inl c_painted_prices)), (h_this_painted_shares, .inl (g.2.1, 4, .inl c_painted_shares))] H := hP
  have hD : va_D A [(h_this, .inr (1, [.ref h_this_orders, .ref h_this_together, .null])), (h_this_orders, .inl (g.2.1, 12, .inl (fun _ => 0))), (h_this_together, .inl (g.2.1, 12, .inl (fun _ => 0))), (h_this_painted, .inr (3, [.int c_painted_states, .int c_painted_letters, .ref h_this_painted_moves, .ref h_this_painted_lights, .ref h_this_painted_prices, .ref h_this_painted_shares])), (h_this_painted_moves, .inl (g.2.1, 48, .inl c_painted_moves)), (h_this_painted_lights, .inl (g.2.1, 12, .inl c_painted_lights)), (h_this_painted_prices, .inl (g.2.1, 4, .inl c_painted_prices)), (h_this_painted_shares, .inl (g.2.1, 4, .inl c_painted_shares))] := hD
  refine va_putF (D := g.1) (ci := 1) (v := .ref h_this_painted) (ty := (.object "WordBench$Machine")) (C := RX1) (T := TX1) (N := 3) hx hb hts iX1 tyX1 tyX1_ok nmX1 hown hK hP hD hS 0 rfl rfl 2 (by decide) f23 (fun _ h9 => h9) rfl hnm rfl (by decide +kernel) rfl rfl (Nat.le_of_ble_eq_true rfl) dX1_init_31 (fun H locs hP hD hS => ?_)
  have hP : va_P g.1 vwCl [(h_this, .inr (1, [.ref h_this_orders, .ref h_this_together, .ref h_this_painted])), (h_this_orders, .inl (g.2.1, 12, .inl (fun _ => 0))), (h_this_together, .inl (g.2.1, 12, .inl (fun _ => 0))), (h_this_painted, .inr (3, [.int c_painted_states, .int c_painted_letters, .ref h_this_painted_moves, .ref h_this_painted_lights, .ref h_this_painted_prices, .ref h_this_painted_shares])), (h_this_painted_moves, .inl (g.2.1, 48, .inl c_painted_moves)), (h_this_painted_lights, .inl (g.2.1, 12, .inl c_painted_lights)), (h_this_painted_prices, .inl (g.2.1, 4, .inl c_painted_prices)), (h_this_painted_shares, .inl (g.2.1, 4, .inl c_painted_shares))] H := hP
  have hD : va_D A [(h_this, .inr (1, [.ref h_this_orders, .ref h_this_together, .ref h_this_painted])), (h_this_orders, .inl (g.2.1, 12, .inl (fun _ => 0))), (h_this_together, .inl (g.2.1, 12, .inl (fun _ => 0))), (h_this_painted, .inr (3, [.int c_painted_states, .int c_painted_letters, .ref h_this_painted_moves, .ref h_this_painted_lights, .ref h_this_painted_prices, .ref h_this_painted_shares])), (h_this_painted_moves, .inl (g.2.1, 48, .inl c_painted_moves)), (h_this_painted_lights, .inl (g.2.1, 12, .inl c_painted_lights)), (h_this_painted_prices, .inl (g.2.1, 4, .inl c_painted_prices)), (h_this_painted_shares, .inl (g.2.1, 4, .inl c_painted_shares))] := hD
  exact hret (h_this_orders, h_this_together, h_this_painted, h_this_painted_moves, h_this_painted_lights, h_this_painted_prices, h_this_painted_shares, (fun _ => 0), (fun _ => 0), c_painted_states, c_painted_letters, c_painted_moves, c_painted_lights, c_painted_prices, c_painted_shares) _ _ _ _ h (hP.sub [0, 1, 2, 3, 4, 5, 6, 7] rfl) (hD.sub [0, 1, 2, 3, 4, 5, 6, 7] rfl rfl) hS dX1_init_34
def wp_X10_init (Q : Int32 → (Nat → Int32) → Prop) : Prop :=
    Q 0 (fun _ => 0)
abbrev rm_X10_init : Room := { frames := 1, cells := 1, slots := 600, locals := 12 }
set_option maxHeartbeats 4000000 in
set_option maxRecDepth 100000 in
theorem k_X10_init (l : Launch) (g : GG) (h_this : Nat) {Q : Int32 → (Nat → Int32) → Prop} (h : wp_X10_init Q) : CV l g yX10_init wsX10_init rm_X10_init [.ref h_this] [(h_this, .inr (9, [.null, .int 0]))] (S := Nat × Int32 × (Nat → Int32)) (fun u => [(h_this, .inr (9, [.ref u.1, .int u.2.1])), (u.1, .inl (g.2.1, 600, .inl u.2.2))]) (fun u => Q u.2.1 u.2.2) 1 600 := by
  refine mk_V (cc := cX10_init) (maxL := 1) (own := RX10) (by decide) rfl rfl (Nat.le_of_ble_eq_true rfl) ?_
  intro p e s m args below meth c A QQ E hret hP hD hS ls hl
  have E2 := E
  obtain ⟨hx, hb, hr, hml, hown, hts, hlocks, hA, hZ, hK, hnm⟩ := E2
  have f3 := hts (.methodLink RX10 3 objectInit) (by decide +kernel)
  have fobi := hts (.instanceMethod objectInit) (by decide +kernel)
  have fobc := hts (.code objectInit ⟨#[0xb1]⟩ 1 none) (by decide +kernel)
  have arI := hts (.arrayClass .int) (by decide +kernel)
  have f9 := hts (.fieldLink RX10 9 "WordBench$Word" "row" "[I") (by decide +kernel)
  have iX10 : ∀ w ∈ wsX100, w ∈ wsX10_init := fun _ h => List.mem_cons_of_mem _ (List.mem_append_right _ h)
  have hP : va_P g.1 vwCl [(h_this, .inr (9, [.null, .int 0]))] s.heap := hP
  have hD : va_D A [(h_this, .inr (9, [.null, .int 0]))] := hD
  have hl : lv_has ls 1 [(0, .ref h_this)] := hl
  unfold wp_X10_init at h
  refine lv_aload_n hx hb dX10_init_0 rfl (lv_at hl 0 rfl) ?_
  refine W.objInit hx hb hown f3 fobi fobc rfl (by rw [hml]; exact hl.1) rfl dX10_init_1 (Nat.le_of_ble_eq_true rfl) (Nat.le_of_ble_eq_true rfl) ?_
  refine W.eq (g2 := F0 m 4 ls []) rfl ?_
  refine lv_aload_n hx hb dX10_init_4 rfl (lv_at hl 0 rfl) ?_
  refine lv_sipush (v := (nI 600)) hx hb dX10_init_5 (by decide) ?_
  refine new_I E arI hP hD hS (n := nI 600) (N' := 600) (by decide) (by decide) (Nat.le_of_ble_eq_true rfl) (Nat.le_of_ble_eq_true rfl) (Nat.le_of_ble_eq_true rfl) dX10_init_8 (fun h_this_row H hP hD hS => ?_)
  have hP : va_P g.1 vwCl [(h_this, .inr (9, [.null, .int 0])), (h_this_row, .inl (g.2.1, 600, .inl (fun _ => 0)))] H := hP
  have hD : va_D A [(h_this, .inr (9, [.null, .int 0])), (h_this_row, .inl (g.2.1, 600, .inl (fun _ => 0)))] := hD
  refine va_putF (D := g.1) (ci := 9) (v := .ref h_this_row) (ty := (.array .int)) (C := RX10) (T := TX10) (N := 2) hx hb hts iX10 tyX10 tyX10_ok nmX10 hown hK hP hD hS 0 rfl rfl 0 (by decide) f9 (fun _ h9 => h9) rfl hnm rfl (by decide +kernel) rfl rfl (Nat.le_of_ble_eq_true rfl) dX10_init_10 (fun H locs hP hD hS => ?_)
  have hP : va_P g.1 vwCl [(h_this, .inr (9, [.ref h_this_row, .int 0])), (h_this_row, .inl (g.2.1, 600, .inl (fun _ => 0)))] H := hP
  have hD : va_D A [(h_this, .inr (9, [.ref h_this_row, .int 0])), (h_this_row, .inl (g.2.1, 600, .inl (fun _ => 0)))] := hD
  exact hret (h_this_row, 0, (fun _ => 0)) _ _ _ _ h (hP.sub [0, 1] rfl) (hD.sub [0, 1] rfl rfl) hS dX10_init_13
def wp_X2_init (Q : Int32 → Int32 → (Nat → Int32) → Int32 → (Nat → Int32) → Int32 → (Nat → Int32) → Prop) : Prop :=
    wp_X10_init (fun c_whole_length c_whole_row => wp_X10_init (fun c_best_length c_best_row => wp_X10_init (fun c_tried_length c_tried_row => Q 0 c_whole_length c_whole_row c_best_length c_best_row c_tried_length c_tried_row)))
abbrev rm_X2_init : Room := { frames := 2, cells := 6, slots := 1806, locals := 32 }
set_option maxHeartbeats 4000000 in
set_option maxRecDepth 100000 in
theorem k_X2_init (l : Launch) (g : GG) (h_this : Nat) (h_steps : Nat) (h_pairs : Nat) {Q : Int32 → Int32 → (Nat → Int32) → Int32 → (Nat → Int32) → Int32 → (Nat → Int32) → Prop} (h : wp_X2_init Q) : CV l g yX2_init wsX2_init rm_X2_init [.ref h_this, .ref h_steps, .ref h_pairs] [(h_this, .inr (2, [.null, .null, .null, .null, .null, .int 0]))] (S := Nat × Nat × Nat × Nat × Nat × Nat × Int32 × Int32 × (Nat → Int32) × Int32 × (Nat → Int32) × Int32 × (Nat → Int32)) (fun u => [(h_this, .inr (2, [.ref h_steps, .ref h_pairs, .ref u.1, .ref u.2.2.1, .ref u.2.2.2.2.1, .int u.2.2.2.2.2.2.1])), (u.1, .inr (9, [.ref u.2.1, .int u.2.2.2.2.2.2.2.1])), (u.2.1, .inl (g.2.1, 600, .inl u.2.2.2.2.2.2.2.2.1)), (u.2.2.1, .inr (9, [.ref u.2.2.2.1, .int u.2.2.2.2.2.2.2.2.2.1])), (u.2.2.2.1, .inl (g.2.1, 600, .inl u.2.2.2.2.2.2.2.2.2.2.1)), (u.2.2.2.2.1, .inr (9, [.ref u.2.2.2.2.2.1, .int u.2.2.2.2.2.2.2.2.2.2.2.1])), (u.2.2.2.2.2.1, .inl (g.2.1, 600, .inl u.2.2.2.2.2.2.2.2.2.2.2.2))]) (fun u => Q u.2.2.2.2.2.2.1 u.2.2.2.2.2.2.2.1 u.2.2.2.2.2.2.2.2.1 u.2.2.2.2.2.2.2.2.2.1 u.2.2.2.2.2.2.2.2.2.2.1 u.2.2.2.2.2.2.2.2.2.2.2.1 u.2.2.2.2.2.2.2.2.2.2.2.2) 6 1806 := by
  refine mk_V (cc := cX2_init) (maxL := 3) (own := RX2) (by decide) rfl rfl (Nat.le_of_ble_eq_true rfl) ?_
  intro p e s m args below meth c A QQ E hret hP hD hS ls hl
  have E2 := E
  obtain ⟨hx, hb, hr, hml, hown, hts, hlocks, hA, hZ, hK, hnm⟩ := E2
  have f3 := hts (.methodLink RX2 3 objectInit) (by decide +kernel)
  have fobi := hts (.instanceMethod objectInit) (by decide +kernel)
  have fobc := hts (.code objectInit ⟨#[0xb1]⟩ 1 none) (by decide +kernel)
  have cl9 := hts (.classLink RX2 9 RX10) (by decide +kernel)
  have inX10 := hts (.instantiable RX10 2) (by decide +kernel)
  have iiX10 := hts (.initialized RX10) (by decide +kernel)
  have im_X10_init := hts (.instanceMethod yX10_init) (by decide +kernel)
  have f12 := hts (.fieldLink RX2 12 "WordBench$Greedy" "whole" "LWordBench$Word;") (by decide +kernel)
  have f18 := hts (.fieldLink RX2 18 "WordBench$Greedy" "best" "LWordBench$Word;") (by decide +kernel)
  have f21 := hts (.fieldLink RX2 21 "WordBench$Greedy" "tried" "LWordBench$Word;") (by decide +kernel)
  have f24 := hts (.fieldLink RX2 24 "WordBench$Greedy" "steps" "LWordBench$Steps;") (by decide +kernel)
  have f28 := hts (.fieldLink RX2 28 "WordBench$Greedy" "pairs" "LWordBench$Pairs;") (by decide +kernel)
  have iX10 : ∀ w ∈ wsX100, w ∈ wsX2_init := fun _ h => List.mem_cons_of_mem _ (List.mem_append_left _ (List.mem_append_right _ h))
  have iX2 : ∀ w ∈ wsX20, w ∈ wsX2_init := fun _ h => List.mem_cons_of_mem _ (List.mem_append_right _ h)
  have hP : va_P g.1 vwCl [(h_this, .inr (2, [.null, .null, .null, .null, .null, .int 0]))] s.heap := hP
  have hD : va_D A [(h_this, .inr (2, [.null, .null, .null, .null, .null, .int 0]))] := hD
  have hl : lv_has ls 3 [(0, .ref h_this), (1, .ref h_steps), (2, .ref h_pairs)] := hl
  unfold wp_X2_init at h
  refine lv_aload_n hx hb dX2_init_0 rfl (lv_at hl 0 rfl) ?_
  refine W.objInit hx hb hown f3 fobi fobc rfl (by rw [hml]; exact hl.1) rfl dX2_init_1 (Nat.le_of_ble_eq_true rfl) (Nat.le_of_ble_eq_true rfl) ?_
  refine W.eq (g2 := F0 m 4 ls []) rfl ?_
  refine lv_aload_n hx hb dX2_init_4 rfl (lv_at hl 0 rfl) ?_
  refine va_new (ci := 9) (fs := [.null, .int 0]) (C := RX10) (T := TX10) (N := 2) hx hb hts iX10 tyX10 tyX10_ok hown cl9 inX10 iiX10 hK hP hD hS hA rfl (fun j hj => by match j, hj with | 0, _ => rfl | 1, _ => rfl) (Nat.le_of_ble_eq_true rfl) (Nat.le_of_ble_eq_true rfl) dX2_init_5 (fun h_this_whole H hP hD hS => ?_)
  have hP : va_P g.1 vwCl [(h_this, .inr (2, [.null, .null, .null, .null, .null, .int 0])), (h_this_whole, .inr (9, [.null, .int 0]))] H := hP
  have hD : va_D A [(h_this, .inr (2, [.null, .null, .null, .null, .null, .int 0])), (h_this_whole, .inr (9, [.null, .int 0]))] := hD
  refine lv_dup hx hb dX2_init_8 rfl ?_
  refine go_V E (run_N E ((k_X10_init l g h_this_whole h) _) ⟨va_cnB (host := "WordBench") 0 hts gX2_init_X10_init_n11 rfl rfl rfl (hZ.1 (RX2, 11, yX10_init) (by decide +kernel)) iiX10 (by decide +kernel) ⟨Nat.le_of_ble_eq_true rfl, Nat.le_of_ble_eq_true rfl⟩, rfl, im_X10_init⟩ hP hD hS [1] rfl rfl hl rfl rfl (Nat.le_of_ble_eq_true rfl) dX2_init_9 ⟨Nat.le_of_ble_eq_true rfl, Nat.le_of_ble_eq_true rfl⟩) hP hD hS [1] rfl [(true, 0), (false, 0), (false, 1)] rfl (by decide) (fun u => [(h_this, .inr (2, [.null, .null, .null, .null, .null, .int 0])), (h_this_whole, .inr (9, [.ref u.1, .int u.2.1])), (u.1, .inl (g.2.1, 600, .inl u.2.2))]) (fun _ => rfl) (fun u H locs h hP hD hS => ?_)
  obtain ⟨h_this_whole_row, c_whole_length, c_whole_row⟩ := u
  try dsimp only at h
  have hP : va_P g.1 vwCl [(h_this, .inr (2, [.null, .null, .null, .null, .null, .int 0])), (h_this_whole, .inr (9, [.ref h_this_whole_row, .int c_whole_length])), (h_this_whole_row, .inl (g.2.1, 600, .inl c_whole_row))] H := hP
  have hD : va_D A [(h_this, .inr (2, [.null, .null, .null, .null, .null, .int 0])), (h_this_whole, .inr (9, [.ref h_this_whole_row, .int c_whole_length])), (h_this_whole_row, .inl (g.2.1, 600, .inl c_whole_row))] := hD
  refine va_putF (D := g.1) (ci := 2) (v := .ref h_this_whole) (ty := (.object "WordBench$Word")) (C := RX2) (T := TX2) (N := 6) hx hb hts iX2 tyX2 tyX2_ok nmX2 hown hK hP hD hS 0 rfl rfl 2 (by decide) f12 (fun _ h9 => h9) rfl hnm rfl (by decide +kernel) rfl rfl (Nat.le_of_ble_eq_true rfl) dX2_init_12 (fun H locs hP hD hS => ?_)
  have hP : va_P g.1 vwCl [(h_this, .inr (2, [.null, .null, .ref h_this_whole, .null, .null, .int 0])), (h_this_whole, .inr (9, [.ref h_this_whole_row, .int c_whole_length])), (h_this_whole_row, .inl (g.2.1, 600, .inl c_whole_row))] H := hP
  have hD : va_D A [(h_this, .inr (2, [.null, .null, .ref h_this_whole, .null, .null, .int 0])), (h_this_whole, .inr (9, [.ref h_this_whole_row, .int c_whole_length])), (h_this_whole_row, .inl (g.2.1, 600, .inl c_whole_row))] := hD
  refine lv_aload_n hx hb dX2_init_15 rfl (lv_at hl 0 rfl) ?_
  refine va_new (ci := 9) (fs := [.null, .int 0]) (C := RX10) (T := TX10) (N := 2) hx hb hts iX10 tyX10 tyX10_ok hown cl9 inX10 iiX10 hK hP hD hS hA rfl (fun j hj => by match j, hj with | 0, _ => rfl | 1, _ => rfl) (Nat.le_of_ble_eq_true rfl) (Nat.le_of_ble_eq_true rfl) dX2_init_16 (fun h_this_best H hP hD hS => ?_)
  have hP : va_P g.1 vwCl [(h_this, .inr (2, [.null, .null, .ref h_this_whole, .null, .null, .int 0])), (h_this_whole, .inr (9, [.ref h_this_whole_row, .int c_whole_length])), (h_this_whole_row, .inl (g.2.1, 600, .inl c_whole_row)), (h_this_best, .inr (9, [.null, .int 0]))] H := hP
  have hD : va_D A [(h_this, .inr (2, [.null, .null, .ref h_this_whole, .null, .null, .int 0])), (h_this_whole, .inr (9, [.ref h_this_whole_row, .int c_whole_length])), (h_this_whole_row, .inl (g.2.1, 600, .inl c_whole_row)), (h_this_best, .inr (9, [.null, .int 0]))] := hD
  refine lv_dup hx hb dX2_init_19 rfl ?_
  refine go_V E (run_N E ((k_X10_init l g h_this_best h) _) ⟨va_cnB (host := "WordBench") 0 hts gX2_init_X10_init_n11 rfl rfl rfl (hZ.1 (RX2, 11, yX10_init) (by decide +kernel)) iiX10 (by decide +kernel) ⟨Nat.le_of_ble_eq_true rfl, Nat.le_of_ble_eq_true rfl⟩, rfl, im_X10_init⟩ hP hD hS [3] rfl rfl hl rfl rfl (Nat.le_of_ble_eq_true rfl) dX2_init_20 ⟨Nat.le_of_ble_eq_true rfl, Nat.le_of_ble_eq_true rfl⟩) hP hD hS [3] rfl [(true, 0), (true, 1), (true, 2), (false, 0), (false, 1)] rfl (by decide) (fun u => [(h_this, .inr (2, [.null, .null, .ref h_this_whole, .null, .null, .int 0])), (h_this_whole, .inr (9, [.ref h_this_whole_row, .int c_whole_length])), (h_this_whole_row, .inl (g.2.1, 600, .inl c_whole_row)), (h_this_best, .inr (9, [.ref u.1, .int u.2.1])), (u.1, .inl (g.2.1, 600, .inl u.2.2))]) (fun _ => rfl) (fun u H locs h hP hD hS => ?_)
  obtain ⟨h_this_best_row, c_best_length, c_best_row⟩ := u
  try dsimp only at h
  have hP : va_P g.1 vwCl [(h_this, .inr (2, [.null, .null, .ref h_this_whole, .null, .null, .int 0])), (h_this_whole, .inr (9, [.ref h_this_whole_row, .int c_whole_length])), (h_this_whole_row, .inl (g.2.1, 600, .inl c_whole_row)), (h_this_best, .inr (9, [.ref h_this_best_row, .int c_best_length])), (h_this_best_row, .inl (g.2.1, 600, .inl c_best_row))] H := hP
  have hD : va_D A [(h_this, .inr (2, [.null, .null, .ref h_this_whole, .null, .null, .int 0])), (h_this_whole, .inr (9, [.ref h_this_whole_row, .int c_whole_length])), (h_this_whole_row, .inl (g.2.1, 600, .inl c_whole_row)), (h_this_best, .inr (9, [.ref h_this_best_row, .int c_best_length])), (h_this_best_row, .inl (g.2.1, 600, .inl c_best_row))] := hD
  refine va_putF (D := g.1) (ci := 2) (v := .ref h_this_best) (ty := (.object "WordBench$Word")) (C := RX2) (T := TX2) (N := 6) hx hb hts iX2 tyX2 tyX2_ok nmX2 hown hK hP hD hS 0 rfl rfl 3 (by decide) f18 (fun _ h9 => h9) rfl hnm rfl (by decide +kernel) rfl rfl (Nat.le_of_ble_eq_true rfl) dX2_init_23 (fun H locs hP hD hS => ?_)
  have hP : va_P g.1 vwCl [(h_this, .inr (2, [.null, .null, .ref h_this_whole, .ref h_this_best, .null, .int 0])), (h_this_whole, .inr (9, [.ref h_this_whole_row, .int c_whole_length])), (h_this_whole_row, .inl (g.2.1, 600, .inl c_whole_row)), (h_this_best, .inr (9, [.ref h_this_best_row, .int c_best_length])), (h_this_best_row, .inl (g.2.1, 600, .inl c_best_row))] H := hP
  have hD : va_D A [(h_this, .inr (2, [.null, .null, .ref h_this_whole, .ref h_this_best, .null, .int 0])), (h_this_whole, .inr (9, [.ref h_this_whole_row, .int c_whole_length])), (h_this_whole_row, .inl (g.2.1, 600, .inl c_whole_row)), (h_this_best, .inr (9, [.ref h_this_best_row, .int c_best_length])), (h_this_best_row, .inl (g.2.1, 600, .inl c_best_row))] := hD
  refine lv_aload_n hx hb dX2_init_26 rfl (lv_at hl 0 rfl) ?_
  refine va_new (ci := 9) (fs := [.null, .int 0]) (C := RX10) (T := TX10) (N := 2) hx hb hts iX10 tyX10 tyX10_ok hown cl9 inX10 iiX10 hK hP hD hS hA rfl (fun j hj => by match j, hj with | 0, _ => rfl | 1, _ => rfl) (Nat.le_of_ble_eq_true rfl) (Nat.le_of_ble_eq_true rfl) dX2_init_27 (fun h_this_tried H hP hD hS => ?_)
  have hP : va_P g.1 vwCl [(h_this, .inr (2, [.null, .null, .ref h_this_whole, .ref h_this_best, .null, .int 0])), (h_this_whole, .inr (9, [.ref h_this_whole_row, .int c_whole_length])), (h_this_whole_row, .inl (g.2.1, 600, .inl c_whole_row)), (h_this_best, .inr (9, [.ref h_this_best_row, .int c_best_length])), (h_this_best_row, .inl (g.2.1, 600, .inl c_best_row)), (h_this_tried, .inr (9, [.null, .int 0]))] H := hP
  have hD : va_D A [(h_this, .inr (2, [.null, .null, .ref h_this_whole, .ref h_this_best, .null, .int 0])), (h_this_whole, .inr (9, [.ref h_this_whole_row, .int c_whole_length])), (h_this_whole_row, .inl (g.2.1, 600, .inl c_whole_row)), (h_this_best, .inr (9, [.ref h_this_best_row, .int c_best_length])), (h_this_best_row, .inl (g.2.1, 600, .inl c_best_row)), (h_this_tried, .inr (9, [.null, .int 0]))] := hD
  refine lv_dup hx hb dX2_init_30 rfl ?_
  refine go_V E (run_N E ((k_X10_init l g h_this_tried h) _) ⟨va_cnB (host := "WordBench") 0 hts gX2_init_X10_init_n11 rfl rfl rfl (hZ.1 (RX2, 11, yX10_init) (by decide +kernel)) iiX10 (by decide +kernel) ⟨Nat.le_of_ble_eq_true rfl, Nat.le_of_ble_eq_true rfl⟩, rfl, im_X10_init⟩ hP hD hS [5] rfl rfl hl rfl rfl (Nat.le_of_ble_eq_true rfl) dX2_init_31 ⟨Nat.le_of_ble_eq_true rfl, Nat.le_of_ble_eq_true rfl⟩) hP hD hS [5] rfl [(true, 0), (true, 1), (true, 2), (true, 3), (true, 4), (false, 0), (false, 1)] rfl (by decide) (fun u => [(h_this, .inr (2, [.null, .null, .ref h_this_whole, .ref h_this_best, .null, .int 0])), (h_this_whole, .inr (9, [.ref h_this_whole_row, .int c_whole_length])), (h_this_whole_row, .inl (g.2.1, 600, .inl c_whole_row)), (h_this_best, .inr (9, [.ref h_this_best_row, .int c_best_length])), (h_this_best_row, .inl (g.2.1, 600, .inl c_best_row)), (h_this_tried, .inr (9, [.ref u.1, .int u.2.1])), (u.1, .inl (g.2.1, 600, .inl u.2.2))]) (fun _ => rfl) (fun u H locs h hP hD hS => ?_)
  obtain ⟨h_this_tried_row, c_tried_length, c_tried_row⟩ := u
  try dsimp only at h
  have hP : va_P g.1 vwCl [(h_this, .inr (2, [.null, .null, .ref h_this_whole, .ref h_this_best, .null, .int 0])), (h_this_whole, .inr (9, [.ref h_this_whole_row, .int c_whole_length])), (h_this_whole_row, .inl (g.2.1, 600, .inl c_whole_row)), (h_this_best, .inr (9, [.ref h_this_best_row, .int c_best_length])), (h_this_best_row, .inl (g.2.1, 600, .inl c_best_row)), (h_this_tried, .inr (9, [.ref h_this_tried_row, .int c_tried_length])), (h_this_tried_row, .inl (g.2.1, 600, .inl c_tried_row))] H := hP
  have hD : va_D A [(h_this, .inr (2, [.null, .null, .ref h_this_whole, .ref h_this_best, .null, .int 0])), (h_this_whole, .inr (9, [.ref h_this_whole_row, .int c_whole_length])), (h_this_whole_row, .inl (g.2.1, 600, .inl c_whole_row)), (h_this_best, .inr (9, [.ref h_this_best_row, .int c_best_length])), (h_this_best_row, .inl (g.2.1, 600, .inl c_best_row)), (h_this_tried, .inr (9, [.ref h_this_tried_row, .int c_tried_length])), (h_this_tried_row, .inl (g.2.1, 600, .inl c_tried_row))] := hD
  refine va_putF (D := g.1) (ci := 2) (v := .ref h_this_tried) (ty := (.object "WordBench$Word")) (C := RX2) (T := TX2) (N := 6) hx hb hts iX2 tyX2 tyX2_ok nmX2 hown hK hP hD hS 0 rfl rfl 4 (by decide) f21 (fun _ h9 => h9) rfl hnm rfl (by decide +kernel) rfl rfl (Nat.le_of_ble_eq_true rfl) dX2_init_34 (fun H locs hP hD hS => ?_)
  have hP : va_P g.1 vwCl [(h_this, .inr (2, [.null, .null, .ref h_this_whole, .ref h_this_best, .ref h_this_tried, .int 0])), (h_this_whole, .inr (9, [.ref h_this_whole_row, .int c_whole_length])), (h_this_whole_row, .inl (g.2.1, 600, .inl c_whole_row)), (h_this_best, .inr (9, [.ref h_this_best_row, .int c_best_length])), (h_this_best_row, .inl (g.2.1, 600, .inl c_best_row)), (h_this_tried, .inr (9, [.ref h_this_tried_row, .int c_tried_length])), (h_this_tried_row, .inl (g.2.1, 600, .inl c_tried_row))] H := hP
  have hD : va_D A [(h_this, .inr (2, [.null, .null, .ref h_this_whole, .ref h_this_best, .ref h_this_tried, .int 0])), (h_this_whole, .inr (9, [.ref h_this_whole_row, .int c_whole_length])), (h_this_whole_row, .inl (g.2.1, 600, .inl c_whole_row)), (h_this_best, .inr (9, [.ref h_this_best_row, .int c_best_length])), (h_this_best_row, .inl (g.2.1, 600, .inl c_best_row)), (h_this_tried, .inr (9, [.ref h_this_tried_row, .int c_tried_length])), (h_this_tried_row, .inl (g.2.1, 600, .inl c_tried_row))] := hD
  refine lv_aload_n hx hb dX2_init_37 rfl (lv_at hl 0 rfl) ?_
  refine lv_aload_n hx hb dX2_init_38 rfl (lv_at hl 1 rfl) ?_
  refine va_putF (D := g.1) (ci := 2) (v := .ref h_steps) (ty := (.object "WordBench$Steps")) (C := RX2) (T := TX2) (N := 6) hx hb hts iX2 tyX2 tyX2_ok nmX2 hown hK hP hD hS 0 rfl rfl 0 (by decide) f24 (fun _ h9 => h9) rfl hnm rfl (by decide +kernel) rfl rfl (Nat.le_of_ble_eq_true rfl) dX2_init_39 (fun H locs hP hD hS => ?_)
  have hP : va_P g.1 vwCl [(h_this, .inr (2, [.ref h_steps, .null, .ref h_this_whole, .ref h_this_best, .ref h_this_tried, .int 0])), (h_this_whole, .inr (9, [.ref h_this_whole_row, .int c_whole_length])), (h_this_whole_row, .inl (g.2.1, 600, .inl c_whole_row)), (h_this_best, .inr (9, [.ref h_this_best_row, .int c_best_length])), (h_this_best_row, .inl (g.2.1, 600, .inl c_best_row)), (h_this_tried, .inr (9, [.ref h_this_tried_row, .int c_tried_length])), (h_this_tried_row, .inl (g.2.1, 600, .inl c_tried_row))] H := hP
  have hD : va_D A [(h_this, .inr (2, [.ref h_steps, .null, .ref h_this_whole, .ref h_this_best, .ref h_this_tried, .int 0])), (h_this_whole, .inr (9, [.ref h_this_whole_row, .int c_whole_length])), (h_this_whole_row, .inl (g.2.1, 600, .inl c_whole_row)), (h_this_best, .inr (9, [.ref h_this_best_row, .int c_best_length])), (h_this_best_row, .inl (g.2.1, 600, .inl c_best_row)), (h_this_tried, .inr (9, [.ref h_this_tried_row, .int c_tried_length])), (h_this_tried_row, .inl (g.2.1, 600, .inl c_tried_row))] := hD
  refine lv_aload_n hx hb dX2_init_42 rfl (lv_at hl 0 rfl) ?_
  refine lv_aload_n hx hb dX2_init_43 rfl (lv_at hl 2 rfl) ?_
  refine va_putF (D := g.1) (ci := 2) (v := .ref h_pairs) (ty := (.object "WordBench$Pairs")) (C := RX2) (T := TX2) (N := 6) hx hb hts iX2 tyX2 tyX2_ok nmX2 hown hK hP hD hS 0 rfl rfl 1 (by decide) f28 (fun _ h9 => h9) rfl hnm rfl (by decide +kernel) rfl rfl (Nat.le_of_ble_eq_true rfl) dX2_init_44 (fun H locs hP hD hS => ?_)
  have hP : va_P g.1 vwCl [(h_this, .inr (2, [.ref h_steps, .ref h_pairs, .ref h_this_whole, .ref h_this_best, .ref h_this_tried, .int 0])), (h_this_whole, .inr (9, [.ref h_this_whole_row, .int c_whole_length])), (h_this_whole_row, .inl (g.2.1, 600, .inl c_whole_row)), (h_this_best, .inr (9, [.ref h_this_best_row, .int c_best_length])), (h_this_best_row, .inl (g.2.1, 600, .inl c_best_row)), (h_this_tried, .inr (9, [.ref h_this_tried_row, .int c_tried_length])), (h_this_tried_row, .inl (g.2.1, 600, .inl c_tried_row))] H := hP
  have hD : va_D A [(h_this, .inr (2, [.ref h_steps, .ref h_pairs, .ref h_this_whole, .ref h_this_best, .ref h_this_tried, .int 0])), (h_this_whole, .inr (9, [.ref h_this_whole_row, .int c_whole_length])), (h_this_whole_row, .inl (g.2.1, 600, .inl c_whole_row)), (h_this_best, .inr (9, [.ref h_this_best_row, .int c_best_length])), (h_this_best_row, .inl (g.2.1, 600, .inl c_best_row)), (h_this_tried, .inr (9, [.ref h_this_tried_row, .int c_tried_length])), (h_this_tried_row, .inl (g.2.1, 600, .inl c_tried_row))] := hD
  exact hret (h_this_whole, h_this_whole_row, h_this_best, h_this_best_row, h_this_tried, h_this_tried_row, 0, c_whole_length, c_whole_row, c_best_length, c_best_row, c_tried_length, c_tried_row) _ _ _ _ h (hP.sub [0, 1, 2, 3, 4, 5, 6] rfl) (hD.sub [0, 1, 2, 3, 4, 5, 6] rfl rfl) hS dX2_init_47
def wp_X5_init (Q : Int32 → (Nat → Int32) → (Nat → Int32) → Prop) : Prop :=
    Q 0 (fun _ => 0) (fun _ => 0)
abbrev rm_X5_init : Room := { frames := 1, cells := 2, slots := 288, locals := 12 }
set_option maxHeartbeats 4000000 in
set_option maxRecDepth 100000 in
theorem k_X5_init (l : Launch) (g : GG) (h_this : Nat) {Q : Int32 → (Nat → Int32) → (Nat → Int32) → Prop} (h : wp_X5_init Q) : CV l g yX5_init wsX5_init rm_X5_init [.ref h_this] [(h_this, .inr (4, [.null, .null, .int 0]))] (S := Nat × Nat × Int32 × (Nat → Int32) × (Nat → Int32)) (fun u => [(h_this, .inr (4, [.ref u.1, .ref u.2.1, .int u.2.2.1])), (u.1, .inl (g.2.1, 144, .inl u.2.2.2.1)), (u.2.1, .inl (g.2.1, 144, .inl u.2.2.2.2))]) (fun u => Q u.2.2.1 u.2.2.2.1 u.2.2.2.2) 2 288 := by
  refine mk_V (cc := cX5_init) (maxL := 1) (own := RX5) (by decide) rfl rfl (Nat.le_of_ble_eq_true rfl) ?_
  intro p e s m args below meth c A QQ E hret hP hD hS ls hl
  have E2 := E
  obtain ⟨hx, hb, hr, hml, hown, hts, hlocks, hA, hZ, hK, hnm⟩ := E2
  have f3 := hts (.methodLink RX5 3 objectInit) (by decide +kernel)
  have fobi := hts (.instanceMethod objectInit) (by decide +kernel)
  have fobc := hts (.code objectInit ⟨#[0xb1]⟩ 1 none) (by decide +kernel)
  have arI := hts (.arrayClass .int) (by decide +kernel)
  have f9 := hts (.fieldLink RX5 9 "WordBench$Pairs" "lengths" "[I") (by decide +kernel)
  have f15 := hts (.fieldLink RX5 15 "WordBench$Pairs" "queue" "[I") (by decide +kernel)
  have iX5 : ∀ w ∈ wsX50, w ∈ wsX5_init := fun _ h => List.mem_cons_of_mem _ (List.mem_append_right _ h)
  have hP : va_P g.1 vwCl [(h_this, .inr (4, [.null, .null, .int 0]))] s.heap := hP
  have hD : va_D A [(h_this, .inr (4, [.null, .null, .int 0]))] := hD
  have hl : lv_has ls 1 [(0, .ref h_this)] := hl
  unfold wp_X5_init at h
  refine lv_aload_n hx hb dX5_init_0 rfl (lv_at hl 0 rfl) ?_
  refine W.objInit hx hb hown f3 fobi fobc rfl (by rw [hml]; exact hl.1) rfl dX5_init_1 (Nat.le_of_ble_eq_true rfl) (Nat.le_of_ble_eq_true rfl) ?_
  refine W.eq (g2 := F0 m 4 ls []) rfl ?_
  refine lv_aload_n hx hb dX5_init_4 rfl (lv_at hl 0 rfl) ?_
  refine lv_sipush (v := (nI 144)) hx hb dX5_init_5 (by decide) ?_
  refine new_I E arI hP hD hS (n := nI 144) (N' := 144) (by decide) (by decide) (Nat.le_of_ble_eq_true rfl) (Nat.le_of_ble_eq_true rfl) (Nat.le_of_ble_eq_true rfl) dX5_init_8 (fun h_this_lengths H hP hD hS => ?_)
  have hP : va_P g.1 vwCl [(h_this, .inr (4, [.null, .null, .int 0])), (h_this_lengths, .inl (g.2.1, 144, .inl (fun _ => 0)))] H := hP
  have hD : va_D A [(h_this, .inr (4, [.null, .null, .int 0])), (h_this_lengths, .inl (g.2.1, 144, .inl (fun _ => 0)))] := hD
  refine va_putF (D := g.1) (ci := 4) (v := .ref h_this_lengths) (ty := (.array .int)) (C := RX5) (T := TX5) (N := 3) hx hb hts iX5 tyX5 tyX5_ok nmX5 hown hK hP hD hS 0 rfl rfl 0 (by decide) f9 (fun _ h9 => h9) rfl hnm rfl (by decide +kernel) rfl rfl (Nat.le_of_ble_eq_true rfl) dX5_init_10 (fun H locs hP hD hS => ?_)
  have hP : va_P g.1 vwCl [(h_this, .inr (4, [.ref h_this_lengths, .null, .int 0])), (h_this_lengths, .inl (g.2.1, 144, .inl (fun _ => 0)))] H := hP
  have hD : va_D A [(h_this, .inr (4, [.ref h_this_lengths, .null, .int 0])), (h_this_lengths, .inl (g.2.1, 144, .inl (fun _ => 0)))] := hD
  refine lv_aload_n hx hb dX5_init_13 rfl (lv_at hl 0 rfl) ?_
  refine lv_sipush (v := (nI 144)) hx hb dX5_init_14 (by decide) ?_
  refine new_I E arI hP hD hS (n := nI 144) (N' := 144) (by decide) (by decide) (Nat.le_of_ble_eq_true rfl) (Nat.le_of_ble_eq_true rfl) (Nat.le_of_ble_eq_true rfl) dX5_init_17 (fun h_this_queue H hP hD hS => ?_)
  have hP : va_P g.1 vwCl [(h_this, .inr (4, [.ref h_this_lengths, .null, .int 0])), (h_this_lengths, .inl (g.2.1, 144, .inl (fun _ => 0))), (h_this_queue, .inl (g.2.1, 144, .inl (fun _ => 0)))] H := hP
  have hD : va_D A [(h_this, .inr (4, [.ref h_this_lengths, .null, .int 0])), (h_this_lengths, .inl (g.2.1, 144, .inl (fun _ => 0))), (h_this_queue, .inl (g.2.1, 144, .inl (fun _ => 0)))] := hD
  refine va_putF (D := g.1) (ci := 4) (v := .ref h_this_queue) (ty := (.array .int)) (C := RX5) (T := TX5) (N := 3) hx hb hts iX5 tyX5 tyX5_ok nmX5 hown hK hP hD hS 0 rfl rfl 1 (by decide) f15 (fun _ h9 => h9) rfl hnm rfl (by decide +kernel) rfl rfl (Nat.le_of_ble_eq_true rfl) dX5_init_19 (fun H locs hP hD hS => ?_)
  have hP : va_P g.1 vwCl [(h_this, .inr (4, [.ref h_this_lengths, .ref h_this_queue, .int 0])), (h_this_lengths, .inl (g.2.1, 144, .inl (fun _ => 0))), (h_this_queue, .inl (g.2.1, 144, .inl (fun _ => 0)))] H := hP
  have hD : va_D A [(h_this, .inr (4, [.ref h_this_lengths, .ref h_this_queue, .int 0])), (h_this_lengths, .inl (g.2.1, 144, .inl (fun _ => 0))), (h_this_queue, .inl (g.2.1, 144, .inl (fun _ => 0)))] := hD
  exact hret (h_this_lengths, h_this_queue, 0, (fun _ => 0), (fun _ => 0)) _ _ _ _ h (hP.sub [0, 1, 2] rfl) (hD.sub [0, 1, 2] rfl rfl) hS dX5_init_22
def wp_X6_init (Q : Int32 → (Nat → Int32) → (Nat → Int32) → Prop) : Prop :=
    Q 0 (fun _ => 0) (fun _ => 0)
abbrev rm_X6_init : Room := { frames := 1, cells := 2, slots := 20481, locals := 12 }
set_option maxHeartbeats 4000000 in
set_option maxRecDepth 100000 in
theorem k_X6_init (l : Launch) (g : GG) (h_this : Nat) (h_steps : Nat) (h_trail : Nat) {Q : Int32 → (Nat → Int32) → (Nat → Int32) → Prop} (h : wp_X6_init Q) : CV l g yX6_init wsX6_init rm_X6_init [.ref h_this, .ref h_steps, .ref h_trail] [(h_this, .inr (5, [.null, .null, .null, .null, .int 0]))] (S := Nat × Nat × Int32 × (Nat → Int32) × (Nat → Int32)) (fun u => [(h_this, .inr (5, [.ref h_steps, .ref h_trail, .ref u.1, .ref u.2.1, .int u.2.2.1])), (u.1, .inl (g.2.1, 4096, .inl u.2.2.2.1)), (u.2.1, .inl (g.2.1, 16385, .inl u.2.2.2.2))]) (fun u => Q u.2.2.1 u.2.2.2.1 u.2.2.2.2) 2 20481 := by
  refine mk_V (cc := cX6_init) (maxL := 3) (own := RX6) (by decide) rfl rfl (Nat.le_of_ble_eq_true rfl) ?_
  intro p e s m args below meth c A QQ E hret hP hD hS ls hl
  have E2 := E
  obtain ⟨hx, hb, hr, hml, hown, hts, hlocks, hA, hZ, hK, hnm⟩ := E2
  have f3 := hts (.methodLink RX6 3 objectInit) (by decide +kernel)
  have fobi := hts (.instanceMethod objectInit) (by decide +kernel)
  have fobc := hts (.code objectInit ⟨#[0xb1]⟩ 1 none) (by decide +kernel)
  have arI := hts (.arrayClass .int) (by decide +kernel)
  have f9 := hts (.fieldLink RX6 9 "WordBench$PriceSearch" "sums" "[I") (by decide +kernel)
  have f15 := hts (.fieldLink RX6 15 "WordBench$PriceSearch" "keys" "[I") (by decide +kernel)
  have f18 := hts (.fieldLink RX6 18 "WordBench$PriceSearch" "steps" "LWordBench$Steps;") (by decide +kernel)
  have f22 := hts (.fieldLink RX6 22 "WordBench$PriceSearch" "trail" "LWordBench$Trail;") (by decide +kernel)
  have iX6 : ∀ w ∈ wsX60, w ∈ wsX6_init := fun _ h => List.mem_cons_of_mem _ (List.mem_append_right _ h)
  have hP : va_P g.1 vwCl [(h_this, .inr (5, [.null, .null, .null, .null, .int 0]))] s.heap := hP
  have hD : va_D A [(h_this, .inr (5, [.null, .null, .null, .null, .int 0]))] := hD
  have hl : lv_has ls 3 [(0, .ref h_this), (1, .ref h_steps), (2, .ref h_trail)] := hl
  unfold wp_X6_init at h
  refine lv_aload_n hx hb dX6_init_0 rfl (lv_at hl 0 rfl) ?_
  refine W.objInit hx hb hown f3 fobi fobc rfl (by rw [hml]; exact hl.1) rfl dX6_init_1 (Nat.le_of_ble_eq_true rfl) (Nat.le_of_ble_eq_true rfl) ?_
  refine W.eq (g2 := F0 m 4 ls []) rfl ?_
  refine lv_aload_n hx hb dX6_init_4 rfl (lv_at hl 0 rfl) ?_
  refine lv_sipush (v := (nI 4096)) hx hb dX6_init_5 (by decide) ?_
  refine new_I E arI hP hD hS (n := nI 4096) (N' := 4096) (by decide) (by decide) (Nat.le_of_ble_eq_true rfl) (Nat.le_of_ble_eq_true rfl) (Nat.le_of_ble_eq_true rfl) dX6_init_8 (fun h_this_sums H hP hD hS => ?_)
  have hP : va_P g.1 vwCl [(h_this, .inr (5, [.null, .null, .null, .null, .int 0])), (h_this_sums, .inl (g.2.1, 4096, .inl (fun _ => 0)))] H := hP
  have hD : va_D A [(h_this, .inr (5, [.null, .null, .null, .null, .int 0])), (h_this_sums, .inl (g.2.1, 4096, .inl (fun _ => 0)))] := hD
  refine va_putF (D := g.1) (ci := 5) (v := .ref h_this_sums) (ty := (.array .int)) (C := RX6) (T := TX6) (N := 5) hx hb hts iX6 tyX6 tyX6_ok nmX6 hown hK hP hD hS 0 rfl rfl 2 (by decide) f9 (fun _ h9 => h9) rfl hnm rfl (by decide +kernel) rfl rfl (Nat.le_of_ble_eq_true rfl) dX6_init_10 (fun H locs hP hD hS => ?_)
  have hP : va_P g.1 vwCl [(h_this, .inr (5, [.null, .null, .ref h_this_sums, .null, .int 0])), (h_this_sums, .inl (g.2.1, 4096, .inl (fun _ => 0)))] H := hP
  have hD : va_D A [(h_this, .inr (5, [.null, .null, .ref h_this_sums, .null, .int 0])), (h_this_sums, .inl (g.2.1, 4096, .inl (fun _ => 0)))] := hD
  refine lv_aload_n hx hb dX6_init_13 rfl (lv_at hl 0 rfl) ?_
  refine lv_sipush (v := (nI 16385)) hx hb dX6_init_14 (by decide) ?_
  refine new_I E arI hP hD hS (n := nI 16385) (N' := 16385) (by decide) (by decide) (Nat.le_of_ble_eq_true rfl) (Nat.le_of_ble_eq_true rfl) (Nat.le_of_ble_eq_true rfl) dX6_init_17 (fun h_this_keys H hP hD hS => ?_)
  have hP : va_P g.1 vwCl [(h_this, .inr (5, [.null, .null, .ref h_this_sums, .null, .int 0])), (h_this_sums, .inl (g.2.1, 4096, .inl (fun _ => 0))), (h_this_keys, .inl (g.2.1, 16385, .inl (fun _ => 0)))] H := hP
  have hD : va_D A [(h_this, .inr (5, [.null, .null, .ref h_this_sums, .null, .int 0])), (h_this_sums, .inl (g.2.1, 4096, .inl (fun _ => 0))), (h_this_keys, .inl (g.2.1, 16385, .inl (fun _ => 0)))] := hD
  refine va_putF (D := g.1) (ci := 5) (v := .ref h_this_keys) (ty := (.array .int)) (C := RX6) (T := TX6) (N := 5) hx hb hts iX6 tyX6 tyX6_ok nmX6 hown hK hP hD hS 0 rfl rfl 3 (by decide) f15 (fun _ h9 => h9) rfl hnm rfl (by decide +kernel) rfl rfl (Nat.le_of_ble_eq_true rfl) dX6_init_19 (fun H locs hP hD hS => ?_)
  have hP : va_P g.1 vwCl [(h_this, .inr (5, [.null, .null, .ref h_this_sums, .ref h_this_keys, .int 0])), (h_this_sums, .inl (g.2.1, 4096, .inl (fun _ => 0))), (h_this_keys, .inl (g.2.1, 16385, .inl (fun _ => 0)))] H := hP
  have hD : va_D A [(h_this, .inr (5, [.null, .null, .ref h_this_sums, .ref h_this_keys, .int 0])), (h_this_sums, .inl (g.2.1, 4096, .inl (fun _ => 0))), (h_this_keys, .inl (g.2.1, 16385, .inl (fun _ => 0)))] := hD
  refine lv_aload_n hx hb dX6_init_22 rfl (lv_at hl 0 rfl) ?_
  refine lv_aload_n hx hb dX6_init_23 rfl (lv_at hl 1 rfl) ?_
  refine va_putF (D := g.1) (ci := 5) (v := .ref h_steps) (ty := (.object "WordBench$Steps")) (C := RX6) (T := TX6) (N := 5) hx hb hts iX6 tyX6 tyX6_ok nmX6 hown hK hP hD hS 0 rfl rfl 0 (by decide) f18 (fun _ h9 => h9) rfl hnm rfl (by decide +kernel) rfl rfl (Nat.le_of_ble_eq_true rfl) dX6_init_24 (fun H locs hP hD hS => ?_)
  have hP : va_P g.1 vwCl [(h_this, .inr (5, [.ref h_steps, .null, .ref h_this_sums, .ref h_this_keys, .int 0])), (h_this_sums, .inl (g.2.1, 4096, .inl (fun _ => 0))), (h_this_keys, .inl (g.2.1, 16385, .inl (fun _ => 0)))] H := hP
  have hD : va_D A [(h_this, .inr (5, [.ref h_steps, .null, .ref h_this_sums, .ref h_this_keys, .int 0])), (h_this_sums, .inl (g.2.1, 4096, .inl (fun _ => 0))), (h_this_keys, .inl (g.2.1, 16385, .inl (fun _ => 0)))] := hD
  refine lv_aload_n hx hb dX6_init_27 rfl (lv_at hl 0 rfl) ?_
  refine lv_aload_n hx hb dX6_init_28 rfl (lv_at hl 2 rfl) ?_
  refine va_putF (D := g.1) (ci := 5) (v := .ref h_trail) (ty := (.object "WordBench$Trail")) (C := RX6) (T := TX6) (N := 5) hx hb hts iX6 tyX6 tyX6_ok nmX6 hown hK hP hD hS 0 rfl rfl 1 (by decide) f22 (fun _ h9 => h9) rfl hnm rfl (by decide +kernel) rfl rfl (Nat.le_of_ble_eq_true rfl) dX6_init_29 (fun H locs hP hD hS => ?_)
  have hP : va_P g.1 vwCl [(h_this, .inr (5, [.ref h_steps, .ref h_trail, .ref h_this_sums, .ref h_this_keys, .int 0])), (h_this_sums, .inl (g.2.1, 4096, .inl (fun _ => 0))), (h_this_keys, .inl (g.2.1, 16385, .inl (fun _ => 0)))] H := hP
  have hD : va_D A [(h_this, .inr (5, [.ref h_steps, .ref h_trail, .ref h_this_sums, .ref h_this_keys, .int 0])), (h_this_sums, .inl (g.2.1, 4096, .inl (fun _ => 0))), (h_this_keys, .inl (g.2.1, 16385, .inl (fun _ => 0)))] := hD
  exact hret (h_this_sums, h_this_keys, 0, (fun _ => 0), (fun _ => 0)) _ _ _ _ h (hP.sub [0, 1, 2] rfl) (hD.sub [0, 1, 2] rfl rfl) hS dX6_init_32
def wp_X7_init (Q : Int32 → (Nat → Int32) → Prop) : Prop :=
    Q 0 (fun _ => 0)
abbrev rm_X7_init : Room := { frames := 1, cells := 1, slots := 4096, locals := 12 }
set_option maxHeartbeats 4000000 in
set_option maxRecDepth 100000 in
theorem k_X7_init (l : Launch) (g : GG) (h_this : Nat) (h_steps : Nat) (h_trail : Nat) {Q : Int32 → (Nat → Int32) → Prop} (h : wp_X7_init Q) : CV l g yX7_init wsX7_init rm_X7_init [.ref h_this, .ref h_steps, .ref h_trail] [(h_this, .inr (6, [.null, .null, .null, .int 0]))] (S := Nat × Int32 × (Nat → Int32)) (fun u => [(h_this, .inr (6, [.ref h_steps, .ref h_trail, .ref u.1, .int u.2.1])), (u.1, .inl (g.2.1, 4096, .inl u.2.2))]) (fun u => Q u.2.1 u.2.2) 1 4096 := by
  refine mk_V (cc := cX7_init) (maxL := 3) (own := RX7) (by decide) rfl rfl (Nat.le_of_ble_eq_true rfl) ?_
  intro p e s m args below meth c A QQ E hret hP hD hS ls hl
  have E2 := E
  obtain ⟨hx, hb, hr, hml, hown, hts, hlocks, hA, hZ, hK, hnm⟩ := E2
  have f3 := hts (.methodLink RX7 3 objectInit) (by decide +kernel)
  have fobi := hts (.instanceMethod objectInit) (by decide +kernel)
  have fobc := hts (.code objectInit ⟨#[0xb1]⟩ 1 none) (by decide +kernel)
  have arI := hts (.arrayClass .int) (by decide +kernel)
  have f9 := hts (.fieldLink RX7 9 "WordBench$SetSearch" "queue" "[I") (by decide +kernel)
  have f15 := hts (.fieldLink RX7 15 "WordBench$SetSearch" "steps" "LWordBench$Steps;") (by decide +kernel)
  have f19 := hts (.fieldLink RX7 19 "WordBench$SetSearch" "trail" "LWordBench$Trail;") (by decide +kernel)
  have iX7 : ∀ w ∈ wsX70, w ∈ wsX7_init := fun _ h => List.mem_cons_of_mem _ (List.mem_append_right _ h)
  have hP : va_P g.1 vwCl [(h_this, .inr (6, [.null, .null, .null, .int 0]))] s.heap := hP
  have hD : va_D A [(h_this, .inr (6, [.null, .null, .null, .int 0]))] := hD
  have hl : lv_has ls 3 [(0, .ref h_this), (1, .ref h_steps), (2, .ref h_trail)] := hl
  unfold wp_X7_init at h
  refine lv_aload_n hx hb dX7_init_0 rfl (lv_at hl 0 rfl) ?_
  refine W.objInit hx hb hown f3 fobi fobc rfl (by rw [hml]; exact hl.1) rfl dX7_init_1 (Nat.le_of_ble_eq_true rfl) (Nat.le_of_ble_eq_true rfl) ?_
  refine W.eq (g2 := F0 m 4 ls []) rfl ?_
  refine lv_aload_n hx hb dX7_init_4 rfl (lv_at hl 0 rfl) ?_
  refine lv_sipush (v := (nI 4096)) hx hb dX7_init_5 (by decide) ?_
  refine new_I E arI hP hD hS (n := nI 4096) (N' := 4096) (by decide) (by decide) (Nat.le_of_ble_eq_true rfl) (Nat.le_of_ble_eq_true rfl) (Nat.le_of_ble_eq_true rfl) dX7_init_8 (fun h_this_queue H hP hD hS => ?_)
  have hP : va_P g.1 vwCl [(h_this, .inr (6, [.null, .null, .null, .int 0])), (h_this_queue, .inl (g.2.1, 4096, .inl (fun _ => 0)))] H := hP
  have hD : va_D A [(h_this, .inr (6, [.null, .null, .null, .int 0])), (h_this_queue, .inl (g.2.1, 4096, .inl (fun _ => 0)))] := hD
  refine va_putF (D := g.1) (ci := 6) (v := .ref h_this_queue) (ty := (.array .int)) (C := RX7) (T := TX7) (N := 4) hx hb hts iX7 tyX7 tyX7_ok nmX7 hown hK hP hD hS 0 rfl rfl 2 (by decide) f9 (fun _ h9 => h9) rfl hnm rfl (by decide +kernel) rfl rfl (Nat.le_of_ble_eq_true rfl) dX7_init_10 (fun H locs hP hD hS => ?_)
  have hP : va_P g.1 vwCl [(h_this, .inr (6, [.null, .null, .ref h_this_queue, .int 0])), (h_this_queue, .inl (g.2.1, 4096, .inl (fun _ => 0)))] H := hP
  have hD : va_D A [(h_this, .inr (6, [.null, .null, .ref h_this_queue, .int 0])), (h_this_queue, .inl (g.2.1, 4096, .inl (fun _ => 0)))] := hD
  refine lv_aload_n hx hb dX7_init_13 rfl (lv_at hl 0 rfl) ?_
  refine lv_aload_n hx hb dX7_init_14 rfl (lv_at hl 1 rfl) ?_
  refine va_putF (D := g.1) (ci := 6) (v := .ref h_steps) (ty := (.object "WordBench$Steps")) (C := RX7) (T := TX7) (N := 4) hx hb hts iX7 tyX7 tyX7_ok nmX7 hown hK hP hD hS 0 rfl rfl 0 (by decide) f15 (fun _ h9 => h9) rfl hnm rfl (by decide +kernel) rfl rfl (Nat.le_of_ble_eq_true rfl) dX7_init_15 (fun H locs hP hD hS => ?_)
  have hP : va_P g.1 vwCl [(h_this, .inr (6, [.ref h_steps, .null, .ref h_this_queue, .int 0])), (h_this_queue, .inl (g.2.1, 4096, .inl (fun _ => 0)))] H := hP
  have hD : va_D A [(h_this, .inr (6, [.ref h_steps, .null, .ref h_this_queue, .int 0])), (h_this_queue, .inl (g.2.1, 4096, .inl (fun _ => 0)))] := hD
  refine lv_aload_n hx hb dX7_init_18 rfl (lv_at hl 0 rfl) ?_
  refine lv_aload_n hx hb dX7_init_19 rfl (lv_at hl 2 rfl) ?_
  refine va_putF (D := g.1) (ci := 6) (v := .ref h_trail) (ty := (.object "WordBench$Trail")) (C := RX7) (T := TX7) (N := 4) hx hb hts iX7 tyX7 tyX7_ok nmX7 hown hK hP hD hS 0 rfl rfl 1 (by decide) f19 (fun _ h9 => h9) rfl hnm rfl (by decide +kernel) rfl rfl (Nat.le_of_ble_eq_true rfl) dX7_init_20 (fun H locs hP hD hS => ?_)
  have hP : va_P g.1 vwCl [(h_this, .inr (6, [.ref h_steps, .ref h_trail, .ref h_this_queue, .int 0])), (h_this_queue, .inl (g.2.1, 4096, .inl (fun _ => 0)))] H := hP
  have hD : va_D A [(h_this, .inr (6, [.ref h_steps, .ref h_trail, .ref h_this_queue, .int 0])), (h_this_queue, .inl (g.2.1, 4096, .inl (fun _ => 0)))] := hD
  exact hret (h_this_queue, 0, (fun _ => 0)) _ _ _ _ h (hP.sub [0, 1] rfl) (hD.sub [0, 1] rfl rfl) hS dX7_init_23
def wp_X8_init (Q : Int32 → (Nat → Int32) → (Nat → Int32) → Prop) : Prop :=
    Q 0 (fun _ => 0) (fun _ => 0)
abbrev rm_X8_init : Room := { frames := 1, cells := 2, slots := 512, locals := 12 }
set_option maxHeartbeats 4000000 in
set_option maxRecDepth 100000 in
theorem k_X8_init (l : Launch) (g : GG) (h_this : Nat) {Q : Int32 → (Nat → Int32) → (Nat → Int32) → Prop} (h : wp_X8_init Q) : CV l g yX8_init wsX8_init rm_X8_init [.ref h_this] [(h_this, .inr (7, [.null, .null, .int 0]))] (S := Nat × Nat × Int32 × (Nat → Int32) × (Nat → Int32)) (fun u => [(h_this, .inr (7, [.ref u.1, .ref u.2.1, .int u.2.2.1])), (u.1, .inl (g.2.1, 256, .inl u.2.2.2.1)), (u.2.1, .inl (g.2.1, 256, .inl u.2.2.2.2))]) (fun u => Q u.2.2.1 u.2.2.2.1 u.2.2.2.2) 2 512 := by
  refine mk_V (cc := cX8_init) (maxL := 1) (own := RX8) (by decide) rfl rfl (Nat.le_of_ble_eq_true rfl) ?_
  intro p e s m args below meth c A QQ E hret hP hD hS ls hl
  have E2 := E
  obtain ⟨hx, hb, hr, hml, hown, hts, hlocks, hA, hZ, hK, hnm⟩ := E2
  have f5 := hts (.methodLink RX8 5 objectInit) (by decide +kernel)
  have fobi := hts (.instanceMethod objectInit) (by decide +kernel)
  have fobc := hts (.code objectInit ⟨#[0xb1]⟩ 1 none) (by decide +kernel)
  have arI := hts (.arrayClass .int) (by decide +kernel)
  have f11 := hts (.fieldLink RX8 11 "WordBench$Steps" "low" "[I") (by decide +kernel)
  have f15 := hts (.fieldLink RX8 15 "WordBench$Steps" "high" "[I") (by decide +kernel)
  have iX8 : ∀ w ∈ wsX80, w ∈ wsX8_init := fun _ h => List.mem_cons_of_mem _ (List.mem_append_right _ h)
  have hP : va_P g.1 vwCl [(h_this, .inr (7, [.null, .null, .int 0]))] s.heap := hP
  have hD : va_D A [(h_this, .inr (7, [.null, .null, .int 0]))] := hD
  have hl : lv_has ls 1 [(0, .ref h_this)] := hl
  unfold wp_X8_init at h
  refine lv_aload_n hx hb dX8_init_0 rfl (lv_at hl 0 rfl) ?_
  refine W.objInit hx hb hown f5 fobi fobc rfl (by rw [hml]; exact hl.1) rfl dX8_init_1 (Nat.le_of_ble_eq_true rfl) (Nat.le_of_ble_eq_true rfl) ?_
  refine W.eq (g2 := F0 m 4 ls []) rfl ?_
  refine lv_aload_n hx hb dX8_init_4 rfl (lv_at hl 0 rfl) ?_
  refine lv_sipush (v := (nI 256)) hx hb dX8_init_5 (by decide) ?_
  refine new_I E arI hP hD hS (n := nI 256) (N' := 256) (by decide) (by decide) (Nat.le_of_ble_eq_true rfl) (Nat.le_of_ble_eq_true rfl) (Nat.le_of_ble_eq_true rfl) dX8_init_8 (fun h_this_low H hP hD hS => ?_)
  have hP : va_P g.1 vwCl [(h_this, .inr (7, [.null, .null, .int 0])), (h_this_low, .inl (g.2.1, 256, .inl (fun _ => 0)))] H := hP
  have hD : va_D A [(h_this, .inr (7, [.null, .null, .int 0])), (h_this_low, .inl (g.2.1, 256, .inl (fun _ => 0)))] := hD
  refine va_putF (D := g.1) (ci := 7) (v := .ref h_this_low) (ty := (.array .int)) (C := RX8) (T := TX8) (N := 3) hx hb hts iX8 tyX8 tyX8_ok nmX8 hown hK hP hD hS 0 rfl rfl 0 (by decide) f11 (fun _ h9 => h9) rfl hnm rfl (by decide +kernel) rfl rfl (Nat.le_of_ble_eq_true rfl) dX8_init_10 (fun H locs hP hD hS => ?_)
  have hP : va_P g.1 vwCl [(h_this, .inr (7, [.ref h_this_low, .null, .int 0])), (h_this_low, .inl (g.2.1, 256, .inl (fun _ => 0)))] H := hP
  have hD : va_D A [(h_this, .inr (7, [.ref h_this_low, .null, .int 0])), (h_this_low, .inl (g.2.1, 256, .inl (fun _ => 0)))] := hD
  refine lv_aload_n hx hb dX8_init_13 rfl (lv_at hl 0 rfl) ?_
  refine lv_sipush (v := (nI 256)) hx hb dX8_init_14 (by decide) ?_
  refine new_I E arI hP hD hS (n := nI 256) (N' := 256) (by decide) (by decide) (Nat.le_of_ble_eq_true rfl) (Nat.le_of_ble_eq_true rfl) (Nat.le_of_ble_eq_true rfl) dX8_init_17 (fun h_this_high H hP hD hS => ?_)
  have hP : va_P g.1 vwCl [(h_this, .inr (7, [.ref h_this_low, .null, .int 0])), (h_this_low, .inl (g.2.1, 256, .inl (fun _ => 0))), (h_this_high, .inl (g.2.1, 256, .inl (fun _ => 0)))] H := hP
  have hD : va_D A [(h_this, .inr (7, [.ref h_this_low, .null, .int 0])), (h_this_low, .inl (g.2.1, 256, .inl (fun _ => 0))), (h_this_high, .inl (g.2.1, 256, .inl (fun _ => 0)))] := hD
  refine va_putF (D := g.1) (ci := 7) (v := .ref h_this_high) (ty := (.array .int)) (C := RX8) (T := TX8) (N := 3) hx hb hts iX8 tyX8 tyX8_ok nmX8 hown hK hP hD hS 0 rfl rfl 1 (by decide) f15 (fun _ h9 => h9) rfl hnm rfl (by decide +kernel) rfl rfl (Nat.le_of_ble_eq_true rfl) dX8_init_19 (fun H locs hP hD hS => ?_)
  have hP : va_P g.1 vwCl [(h_this, .inr (7, [.ref h_this_low, .ref h_this_high, .int 0])), (h_this_low, .inl (g.2.1, 256, .inl (fun _ => 0))), (h_this_high, .inl (g.2.1, 256, .inl (fun _ => 0)))] H := hP
  have hD : va_D A [(h_this, .inr (7, [.ref h_this_low, .ref h_this_high, .int 0])), (h_this_low, .inl (g.2.1, 256, .inl (fun _ => 0))), (h_this_high, .inl (g.2.1, 256, .inl (fun _ => 0)))] := hD
  exact hret (h_this_low, h_this_high, 0, (fun _ => 0), (fun _ => 0)) _ _ _ _ h (hP.sub [0, 1, 2] rfl) (hD.sub [0, 1, 2] rfl rfl) hS dX8_init_22
def wp_X9_init (Q : (Nat → Int32) → Prop) : Prop :=
    Q (fun _ => 0)
abbrev rm_X9_init : Room := { frames := 1, cells := 1, slots := 4096, locals := 12 }
set_option maxHeartbeats 4000000 in
set_option maxRecDepth 100000 in
theorem k_X9_init (l : Launch) (g : GG) (h_this : Nat) {Q : (Nat → Int32) → Prop} (h : wp_X9_init Q) : CV l g yX9_init wsX9_init rm_X9_init [.ref h_this] [(h_this, .inr (8, [.null]))] (S := Nat × (Nat → Int32)) (fun u => [(h_this, .inr (8, [.ref u.1])), (u.1, .inl (g.2.1, 4096, .inl u.2))]) (fun u => Q u.2) 1 4096 := by
  refine mk_V (cc := cX9_init) (maxL := 1) (own := RX9) (by decide) rfl rfl (Nat.le_of_ble_eq_true rfl) ?_
  intro p e s m args below meth c A QQ E hret hP hD hS ls hl
  have E2 := E
  obtain ⟨hx, hb, hr, hml, hown, hts, hlocks, hA, hZ, hK, hnm⟩ := E2
  have f3 := hts (.methodLink RX9 3 objectInit) (by decide +kernel)
  have fobi := hts (.instanceMethod objectInit) (by decide +kernel)
  have fobc := hts (.code objectInit ⟨#[0xb1]⟩ 1 none) (by decide +kernel)
  have arI := hts (.arrayClass .int) (by decide +kernel)
  have f9 := hts (.fieldLink RX9 9 "WordBench$Trail" "from" "[I") (by decide +kernel)
  have iX9 : ∀ w ∈ wsX90, w ∈ wsX9_init := fun _ h => List.mem_cons_of_mem _ (List.mem_append_right _ h)
  have hP : va_P g.1 vwCl [(h_this, .inr (8, [.null]))] s.heap := hP
  have hD : va_D A [(h_this, .inr (8, [.null]))] := hD
  have hl : lv_has ls 1 [(0, .ref h_this)] := hl
  unfold wp_X9_init at h
  refine lv_aload_n hx hb dX9_init_0 rfl (lv_at hl 0 rfl) ?_
  refine W.objInit hx hb hown f3 fobi fobc rfl (by rw [hml]; exact hl.1) rfl dX9_init_1 (Nat.le_of_ble_eq_true rfl) (Nat.le_of_ble_eq_true rfl) ?_
  refine W.eq (g2 := F0 m 4 ls []) rfl ?_
  refine lv_aload_n hx hb dX9_init_4 rfl (lv_at hl 0 rfl) ?_
  refine lv_sipush (v := (nI 4096)) hx hb dX9_init_5 (by decide) ?_
  refine new_I E arI hP hD hS (n := nI 4096) (N' := 4096) (by decide) (by decide) (Nat.le_of_ble_eq_true rfl) (Nat.le_of_ble_eq_true rfl) (Nat.le_of_ble_eq_true rfl) dX9_init_8 (fun h_this_from H hP hD hS => ?_)
  have hP : va_P g.1 vwCl [(h_this, .inr (8, [.null])), (h_this_from, .inl (g.2.1, 4096, .inl (fun _ => 0)))] H := hP
  have hD : va_D A [(h_this, .inr (8, [.null])), (h_this_from, .inl (g.2.1, 4096, .inl (fun _ => 0)))] := hD
  refine va_putF (D := g.1) (ci := 8) (v := .ref h_this_from) (ty := (.array .int)) (C := RX9) (T := TX9) (N := 1) hx hb hts iX9 tyX9 tyX9_ok nmX9 hown hK hP hD hS 0 rfl rfl 0 (by decide) f9 (fun _ h9 => h9) rfl hnm rfl (by decide +kernel) rfl rfl (Nat.le_of_ble_eq_true rfl) dX9_init_10 (fun H locs hP hD hS => ?_)
  have hP : va_P g.1 vwCl [(h_this, .inr (8, [.ref h_this_from])), (h_this_from, .inl (g.2.1, 4096, .inl (fun _ => 0)))] H := hP
  have hD : va_D A [(h_this, .inr (8, [.ref h_this_from])), (h_this_from, .inl (g.2.1, 4096, .inl (fun _ => 0)))] := hD
  exact hret (h_this_from, (fun _ => 0)) _ _ _ _ h (hP.sub [0, 1] rfl) (hD.sub [0, 1] rfl rfl) hS dX9_init_13
