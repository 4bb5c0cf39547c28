abbrev cw_X3_staysByAll (g : GG) (h_m : Nat) (h_m_moves : Nat) (h_m_lights : Nat) (h_m_prices : Nat) (h_m_shares : Nat) (c_m_states : Int32) (c_m_letters : Int32) (c_m_moves : Nat → Int32) : va_W := [(h_m, .inr (3, [.int c_m_states, .int c_m_letters, .ref h_m_moves, .ref h_m_lights, .ref h_m_prices, .ref h_m_shares])), (h_m_moves, .inl (g.2.1, 48, .inl c_m_moves))]
def L_X3_staysByAll_2 (c_m_states : Int32) (c_m_letters : Int32) (c_m_moves : Nat → Int32) (x1 : Int32) (Q : Int32 → Prop) : Nat → Int32 → Prop
  | 0, _ => False
  | n_2 + 1, x2 =>
    ((c_m_letters ≤ x2 → Q (nI 1)) ∧ (¬ c_m_letters ≤ x2 → wp_X4_target c_m_states c_m_letters c_m_moves x1 x2 (fun r4 => ((r4 = x1 → (L_X3_staysByAll_2 c_m_states c_m_letters c_m_moves x1 Q n_2) (x2 + (nI 1))) ∧ (¬ r4 = x1 → Q (nI 0))))))
def wp_X3_staysByAll (c_m_states : Int32) (c_m_letters : Int32) (c_m_moves : Nat → Int32) (x1 : Int32) (Q : Int32 → Prop) : Prop :=
    ∃ n, L_X3_staysByAll_2 c_m_states c_m_letters c_m_moves x1 Q n (nI 0)
abbrev rm_X3_staysByAll : Room := { frames := 1, cells := 0, slots := 0, locals := 23 }
set_option maxHeartbeats 4000000 in
set_option maxRecDepth 100000 in
theorem k_X3_staysByAll (l : Launch) (g : GG) (h_m : Nat) (h_m_moves : Nat) (h_m_lights : Nat) (h_m_prices : Nat) (h_m_shares : Nat) {c_m_states : Int32} {c_m_letters : Int32} {c_m_moves : Nat → Int32} {x1 : Int32} {Q : Int32 → Prop} (h : wp_X3_staysByAll c_m_states c_m_letters c_m_moves x1 Q) : CI l g yX3_staysByAll wsX3_staysByAll rm_X3_staysByAll [.ref h_m, .int x1] (cw_X3_staysByAll g h_m h_m_moves h_m_lights h_m_prices h_m_shares c_m_states c_m_letters c_m_moves) (S := Unit) (fun _ => (cw_X3_staysByAll g h_m h_m_moves h_m_lights h_m_prices h_m_shares c_m_states c_m_letters c_m_moves)) (fun r _ => Q r) 0 0 := by
  refine mk_I (cc := cX3_staysByAll) (maxL := 3) (own := RX3) (by decide) rfl rfl (Nat.le_of_ble_eq_true rfl) ?_
  intro p e s m args below meth c A QQ E hret hP hD hS ls hl
  have E2 := E
  obtain ⟨hx, hb, hr, hml, hown, hts, hlocks, hA, hZ, hK, hnm⟩ := E2
  have hP : va_P g.1 vwCl (cw_X3_staysByAll g h_m h_m_moves h_m_lights h_m_prices h_m_shares c_m_states c_m_letters c_m_moves) s.heap := hP
  have hD : va_D A (cw_X3_staysByAll g h_m h_m_moves h_m_lights h_m_prices h_m_shares c_m_states c_m_letters c_m_moves) := hD
  have hl : lv_has ls 3 [(0, .ref h_m), (1, .int x1)] := hl
  unfold wp_X3_staysByAll at h
  have K_2 : ∀ (n_2 : Nat) (x2 : Int32) , L_X3_staysByAll_2 c_m_states c_m_letters c_m_moves x1 Q n_2 x2 → ∀ (H : Heap) (locs : List Loc), va_P g.1 vwCl (cw_X3_staysByAll g h_m h_m_moves h_m_lights h_m_prices h_m_shares c_m_states c_m_letters c_m_moves) H → va_D A (cw_X3_staysByAll g h_m h_m_moves h_m_lights h_m_prices h_m_shares c_m_states c_m_letters c_m_moves) → va_S A s.heap H locs → ∀ ls : Array Slot, lv_has ls 3 [(0, .ref h_m), (1, .int x1), (2, .int x2)] → W p l e rm_X3_staysByAll s m args below meth c H locs 0 0 QQ (F0 m 2 ls []) := by
    intro n_2
    induction n_2 with
    | zero => intro x2; exact fun h => False.elim h
    | succ n_2 ih_2 =>
      intro x2 h H locs hP hD hS ls hl
      unfold L_X3_staysByAll_2 at h
      refine lv_iload_n hx hb dX3_staysByAll_2 rfl (lv_at hl 2 rfl) ?_
      refine lv_aload_n hx hb dX3_staysByAll_3 rfl (lv_at hl 0 rfl) ?_
      refine go_I E (run_V E ((k_X4_letters l g h_m h_m_moves h_m_lights h_m_prices h_m_shares (Q := fun r => r = c_m_letters) rfl) _) (cwV 0 hts gX3_staysByAll_X4_letters rfl rfl rfl (by decide +kernel) ⟨Nat.le_of_ble_eq_true rfl, Nat.le_of_ble_eq_true rfl⟩) hP hD hS [0] rfl rfl 0 3 rfl rfl rfl hl rfl rfl (Nat.le_of_ble_eq_true rfl) dX3_staysByAll_4 ⟨Nat.le_of_ble_eq_true rfl, Nat.le_of_ble_eq_true rfl⟩) hP hD hS [0] rfl [(false, 0), (true, 1)] rfl (by decide) (fun _ => (cw_X3_staysByAll g h_m h_m_moves h_m_lights h_m_prices h_m_shares c_m_states c_m_letters c_m_moves)) (fun _ => rfl) (fun r2 _ H locs hr_ hP hD hS => ?_)
      have hr_ : c_m_letters = r2 := Eq.symm hr_
      subst hr_
      have hP : va_P g.1 vwCl (cw_X3_staysByAll g h_m h_m_moves h_m_lights h_m_prices h_m_shares c_m_states c_m_letters c_m_moves) H := hP
      have hD : va_D A (cw_X3_staysByAll g h_m h_m_moves h_m_lights h_m_prices h_m_shares c_m_states c_m_letters c_m_moves) := hD
      refine lv_icmp_ge (tgt := 28) hx hb dX3_staysByAll_7 (by decide) (fun cq => ?_) (fun cq => ?_)
      · replace h := h.1 cq
        refine lv_iconst (v := (nI 1)) hx hb dX3_staysByAll_28 (by decide) ?_
        exact hret (nI 1) () _ _ _ _ nbo h hP hD hS dX3_staysByAll_29
      · replace h := h.2 cq
        refine lv_aload_n hx hb dX3_staysByAll_10 rfl (lv_at hl 0 rfl) ?_
        refine lv_iload_n hx hb dX3_staysByAll_11 rfl (lv_at hl 1 rfl) ?_
        refine lv_iload_n hx hb dX3_staysByAll_12 rfl (lv_at hl 2 rfl) ?_
        refine go_I E (run_V E ((k_X4_target l g h_m h_m_moves h_m_lights h_m_prices h_m_shares h) _) (cwV 2 hts gX3_staysByAll_X4_target rfl rfl rfl (by decide +kernel) ⟨Nat.le_of_ble_eq_true rfl, Nat.le_of_ble_eq_true rfl⟩) hP hD hS [0, 1] rfl rfl 0 3 rfl rfl rfl hl rfl rfl (Nat.le_of_ble_eq_true rfl) dX3_staysByAll_13 ⟨Nat.le_of_ble_eq_true rfl, Nat.le_of_ble_eq_true rfl⟩) hP hD hS [0, 1] rfl [(false, 0), (false, 1)] rfl (by decide) (fun _ => (cw_X3_staysByAll g h_m h_m_moves h_m_lights h_m_prices h_m_shares c_m_states c_m_letters c_m_moves)) (fun _ => rfl) (fun r4 _ H locs h hP hD hS => ?_)
        try dsimp only at h
        have hP : va_P g.1 vwCl (cw_X3_staysByAll g h_m h_m_moves h_m_lights h_m_prices h_m_shares c_m_states c_m_letters c_m_moves) H := hP
        have hD : va_D A (cw_X3_staysByAll g h_m h_m_moves h_m_lights h_m_prices h_m_shares c_m_states c_m_letters c_m_moves) := hD
        refine lv_iload_n hx hb dX3_staysByAll_16 rfl (lv_at hl 1 rfl) ?_
        refine lv_icmp_eq (tgt := 22) hx hb dX3_staysByAll_17 (by decide) (fun cq => ?_) (fun cq => ?_)
        · replace h := h.1 cq
          refine lv_iinc (v := (x2 + (nI 1))) (lv' := [(2, .int (x2 + (nI 1))), (0, .ref h_m), (1, .int x1)]) hx hb dX3_staysByAll_22 hl (k := 2) rfl rfl (by decide) rfl (fun ls hl => ?_)
          refine lv_goto (tgt := 2) hx hb dX3_staysByAll_25 (by decide) ?_
          exact ih_2 (x2 + (nI 1)) h _ _ hP hD hS _ (lv_sub hl [1, 2, 0] rfl)
        · replace h := h.2 cq
          refine lv_iconst (v := (nI 0)) hx hb dX3_staysByAll_20 (by decide) ?_
          exact hret (nI 0) () _ _ _ _ nbz h hP hD hS dX3_staysByAll_21
  refine lv_iconst (v := (nI 0)) hx hb dX3_staysByAll_0 (by decide) ?_
  refine lv_istore_n (lv' := [(2, .int (nI 0)), (0, .ref h_m), (1, .int x1)]) hx hb dX3_staysByAll_1 rfl hl (by decide) rfl (fun ls hl => ?_)
  obtain ⟨n, h⟩ := h
  exact K_2 n (nI 0) h _ _ hP hD hS _ (lv_sub hl [1, 2, 0] rfl)
abbrev cw_X3_isReachedByAll (g : GG) (h_m : Nat) (h_m_moves : Nat) (h_m_lights : Nat) (h_m_prices : Nat) (h_m_shares : Nat) (c_m_states : Int32) (c_m_letters : Int32) (c_m_moves : Nat → Int32) : va_W := [(h_m, .inr (3, [.int c_m_states, .int c_m_letters, .ref h_m_moves, .ref h_m_lights, .ref h_m_prices, .ref h_m_shares])), (h_m_moves, .inl (g.2.1, 48, .inl c_m_moves))]
def J_X3_isReachedByAll_76 (c_m_states : Int32) (Q : Int32 → Prop) (x2 : Int32) : Prop :=
    ((¬ x2 = (((nI 1) <<< (c_m_states &&& 31)) - (nI 1)) → Q (nI 0)) ∧ (x2 = (((nI 1) <<< (c_m_states &&& 31)) - (nI 1)) → Q (nI 1)))
def J_X3_isReachedByAll_70 (R_6 : Int32 → Int32 → Prop) (x2 : Int32) (x3 : Int32) : Prop :=
    R_6 x2 (x3 + (nI 1))
def J_X3_isReachedByAll_64 (R_15 : Int32 → Int32 → Prop) (x2 : Int32) (x4 : Int32) : Prop :=
    R_15 x2 (x4 + (nI 1))
def J_X3_isReachedByAll_58 (R_27 : Int32 → Int32 → Prop) (x2 : Int32) (x5 : Int32) : Prop :=
    R_27 x2 (x5 + (nI 1))
def L_X3_isReachedByAll_27 (c_m_states : Int32) (c_m_letters : Int32) (c_m_moves : Nat → Int32) (x4 : Int32) (R_15 : Int32 → Int32 → Prop) : Nat → Int32 → Int32 → Prop
  | 0, _, _ => False
  | n_27 + 1, x2, x5 =>
    ((c_m_letters ≤ x5 → J_X3_isReachedByAll_64 R_15 x2 x4) ∧ (¬ c_m_letters ≤ x5 → wp_X4_target c_m_states c_m_letters c_m_moves x4 x5 (fun r8 => ((((x2 >>> (r8 &&& 31)) &&& (nI 1)) = (nI 0) → J_X3_isReachedByAll_58 (L_X3_isReachedByAll_27 c_m_states c_m_letters c_m_moves x4 R_15 n_27) x2 x5) ∧ (¬ ((x2 >>> (r8 &&& 31)) &&& (nI 1)) = (nI 0) → J_X3_isReachedByAll_58 (L_X3_isReachedByAll_27 c_m_states c_m_letters c_m_moves x4 R_15 n_27) (x2 ||| ((nI 1) <<< (x4 &&& 31))) x5)))))
def L_X3_isReachedByAll_15 (c_m_states : Int32) (c_m_letters : Int32) (c_m_moves : Nat → Int32) (x3 : Int32) (R_6 : Int32 → Int32 → Prop) : Nat → Int32 → Int32 → Prop
  | 0, _, _ => False
  | n_15 + 1, x2, x4 =>
    ((c_m_states ≤ x4 → J_X3_isReachedByAll_70 R_6 x2 x3) ∧ (¬ c_m_states ≤ x4 → ∃ n, L_X3_isReachedByAll_27 c_m_states c_m_letters c_m_moves x4 (L_X3_isReachedByAll_15 c_m_states c_m_letters c_m_moves x3 R_6 n_15) n x2 (nI 0)))
def L_X3_isReachedByAll_6 (c_m_states : Int32) (c_m_letters : Int32) (c_m_moves : Nat → Int32) (Q : Int32 → Prop) : Nat → Int32 → Int32 → Prop
  | 0, _, _ => False
  | n_6 + 1, x2, x3 =>
    (((nI 12) ≤ x3 → J_X3_isReachedByAll_76 c_m_states Q x2) ∧ (¬ (nI 12) ≤ x3 → ∃ n, L_X3_isReachedByAll_15 c_m_states c_m_letters c_m_moves x3 (L_X3_isReachedByAll_6 c_m_states c_m_letters c_m_moves Q n_6) n x2 (nI 0)))
def wp_X3_isReachedByAll (c_m_states : Int32) (c_m_letters : Int32) (c_m_moves : Nat → Int32) (x1 : Int32) (Q : Int32 → Prop) : Prop :=
    ∃ n, L_X3_isReachedByAll_6 c_m_states c_m_letters c_m_moves Q n ((nI 1) <<< (x1 &&& 31)) (nI 0)
abbrev rm_X3_isReachedByAll : Room := { frames := 1, cells := 0, slots := 0, locals := 23 }
set_option maxHeartbeats 4000000 in
set_option maxRecDepth 100000 in
theorem k_X3_isReachedByAll (l : Launch) (g : GG) (h_m : Nat) (h_m_moves : Nat) (h_m_lights : Nat) (h_m_prices : Nat) (h_m_shares : Nat) {c_m_states : Int32} {c_m_letters : Int32} {c_m_moves : Nat → Int32} {x1 : Int32} {Q : Int32 → Prop} (h : wp_X3_isReachedByAll c_m_states c_m_letters c_m_moves x1 Q) : CI l g yX3_isReachedByAll wsX3_isReachedByAll rm_X3_isReachedByAll [.ref h_m, .int x1] (cw_X3_isReachedByAll g h_m h_m_moves h_m_lights h_m_prices h_m_shares c_m_states c_m_letters c_m_moves) (S := Unit) (fun _ => (cw_X3_isReachedByAll g h_m h_m_moves h_m_lights h_m_prices h_m_shares c_m_states c_m_letters c_m_moves)) (fun r _ => Q r) 0 0 := by
  refine mk_I (cc := cX3_isReachedByAll) (maxL := 6) (own := RX3) (by decide) rfl rfl (Nat.le_of_ble_eq_true rfl) ?_
  intro p e s m args below meth c A QQ E hret hP hD hS ls hl
  have E2 := E
  obtain ⟨hx, hb, hr, hml, hown, hts, hlocks, hA, hZ, hK, hnm⟩ := E2
  have hP : va_P g.1 vwCl (cw_X3_isReachedByAll g h_m h_m_moves h_m_lights h_m_prices h_m_shares c_m_states c_m_letters c_m_moves) s.heap := hP
  have hD : va_D A (cw_X3_isReachedByAll g h_m h_m_moves h_m_lights h_m_prices h_m_shares c_m_states c_m_letters c_m_moves) := hD
  have hl : lv_has ls 6 [(0, .ref h_m), (1, .int x1)] := hl
  unfold wp_X3_isReachedByAll at h
  have K_76 : ∀ (x2 : Int32) , J_X3_isReachedByAll_76 c_m_states Q x2 → ∀ (H : Heap) (locs : List Loc), va_P g.1 vwCl (cw_X3_isReachedByAll g h_m h_m_moves h_m_lights h_m_prices h_m_shares c_m_states c_m_letters c_m_moves) H → va_D A (cw_X3_isReachedByAll g h_m h_m_moves h_m_lights h_m_prices h_m_shares c_m_states c_m_letters c_m_moves) → va_S A s.heap H locs → ∀ ls : Array Slot, lv_has ls 6 [(0, .ref h_m), (2, .int x2)] → W p l e rm_X3_isReachedByAll s m args below meth c H locs 0 0 QQ (F0 m 76 ls []) := by
    intro x2 h H locs hP hD hS ls hl
    unfold J_X3_isReachedByAll_76 at h
    refine lv_iload_n hx hb dX3_isReachedByAll_76 rfl (lv_at hl 1 rfl) ?_
    refine lv_iconst (v := (nI 1)) hx hb dX3_isReachedByAll_77 (by decide) ?_
    refine lv_aload_n hx hb dX3_isReachedByAll_78 rfl (lv_at hl 0 rfl) ?_
    refine go_I E (run_V E ((k_X4_states l g h_m h_m_moves h_m_lights h_m_prices h_m_shares (Q := fun r => r = c_m_states) rfl) _) (cwV 0 hts gX3_isReachedByAll_X4_states rfl rfl rfl (by decide +kernel) ⟨Nat.le_of_ble_eq_true rfl, Nat.le_of_ble_eq_true rfl⟩) hP hD hS [0] rfl rfl 0 3 rfl rfl rfl hl rfl rfl (Nat.le_of_ble_eq_true rfl) dX3_isReachedByAll_79 ⟨Nat.le_of_ble_eq_true rfl, Nat.le_of_ble_eq_true rfl⟩) hP hD hS [0] rfl [(false, 0), (true, 1)] rfl (by decide) (fun _ => (cw_X3_isReachedByAll g h_m h_m_moves h_m_lights h_m_prices h_m_shares c_m_states c_m_letters c_m_moves)) (fun _ => rfl) (fun r2 _ H locs hr_ hP hD hS => ?_)
    have hr_ : c_m_states = r2 := Eq.symm hr_
    subst hr_
    have hP : va_P g.1 vwCl (cw_X3_isReachedByAll g h_m h_m_moves h_m_lights h_m_prices h_m_shares c_m_states c_m_letters c_m_moves) H := hP
    have hD : va_D A (cw_X3_isReachedByAll g h_m h_m_moves h_m_lights h_m_prices h_m_shares c_m_states c_m_letters c_m_moves) := hD
    refine lv_ishl hx hb dX3_isReachedByAll_82 ?_
    refine lv_iconst (v := (nI 1)) hx hb dX3_isReachedByAll_83 (by decide) ?_
    refine lv_isub hx hb dX3_isReachedByAll_84 ?_
    refine lv_icmp_ne (tgt := 92) hx hb dX3_isReachedByAll_85 (by decide) (fun cq => ?_) (fun cq => ?_)
    · replace h := h.1 cq
      refine lv_iconst (v := (nI 0)) hx hb dX3_isReachedByAll_92 (by decide) ?_
      exact hret (nI 0) () _ _ _ _ nbz h hP hD hS dX3_isReachedByAll_93
    · replace h := h.2 cq
      refine lv_iconst (v := (nI 1)) hx hb dX3_isReachedByAll_88 (by decide) ?_
      refine lv_goto (tgt := 93) hx hb dX3_isReachedByAll_89 (by decide) ?_
      exact hret (nI 1) () _ _ _ _ nbo h hP hD hS dX3_isReachedByAll_93
  have K_6 : ∀ (n_6 : Nat) (x2 : Int32) (x3 : Int32) , L_X3_isReachedByAll_6 c_m_states c_m_letters c_m_moves Q n_6 x2 x3 → ∀ (H : Heap) (locs : List Loc), va_P g.1 vwCl (cw_X3_isReachedByAll g h_m h_m_moves h_m_lights h_m_prices h_m_shares c_m_states c_m_letters c_m_moves) H → va_D A (cw_X3_isReachedByAll g h_m h_m_moves h_m_lights h_m_prices h_m_shares c_m_states c_m_letters c_m_moves) → va_S A s.heap H locs → ∀ ls : Array Slot, lv_has ls 6 [(0, .ref h_m), (2, .int x2), (3, .int x3)] → W p l e rm_X3_isReachedByAll s m args below meth c H locs 0 0 QQ (F0 m 6 ls []) := by
    intro n_6
    induction n_6 with
    | zero => intro x2 x3; exact fun h => False.elim h
    | succ n_6 ih_6 =>
      intro x2 x3 h H locs hP hD hS ls hl
      unfold L_X3_isReachedByAll_6 at h
      have K_70 : ∀ (x2 : Int32) (x3 : Int32) , J_X3_isReachedByAll_70 (L_X3_isReachedByAll_6 c_m_states c_m_letters c_m_moves Q n_6) x2 x3 → ∀ (H : Heap) (locs : List Loc), va_P g.1 vwCl (cw_X3_isReachedByAll g h_m h_m_moves h_m_lights h_m_prices h_m_shares c_m_states c_m_letters c_m_moves) H → va_D A (cw_X3_isReachedByAll g h_m h_m_moves h_m_lights h_m_prices h_m_shares c_m_states c_m_letters c_m_moves) → va_S A s.heap H locs → ∀ ls : Array Slot, lv_has ls 6 [(0, .ref h_m), (2, .int x2), (3, .int x3)] → W p l e rm_X3_isReachedByAll s m args below meth c H locs 0 0 QQ (F0 m 70 ls []) := by
        intro x2 x3 h H locs hP hD hS ls hl
        unfold J_X3_isReachedByAll_70 at h
        refine lv_iinc (v := (x3 + (nI 1))) (lv' := [(3, .int (x3 + (nI 1))), (0, .ref h_m), (2, .int x2)]) hx hb dX3_isReachedByAll_70 hl (k := 2) rfl rfl (by decide) rfl (fun ls hl => ?_)
        refine lv_goto (tgt := 6) hx hb dX3_isReachedByAll_73 (by decide) ?_
        exact ih_6 x2 (x3 + (nI 1)) h _ _ hP hD hS _ (lv_sub hl [1, 2, 0] rfl)
      have K_15 : ∀ (x3 : Int32) (n_15 : Nat) (x2 : Int32) (x4 : Int32) , L_X3_isReachedByAll_15 c_m_states c_m_letters c_m_moves x3 (L_X3_isReachedByAll_6 c_m_states c_m_letters c_m_moves Q n_6) n_15 x2 x4 → ∀ (H : Heap) (locs : List Loc), va_P g.1 vwCl (cw_X3_isReachedByAll g h_m h_m_moves h_m_lights h_m_prices h_m_shares c_m_states c_m_letters c_m_moves) H → va_D A (cw_X3_isReachedByAll g h_m h_m_moves h_m_lights h_m_prices h_m_shares c_m_states c_m_letters c_m_moves) → va_S A s.heap H locs → ∀ ls : Array Slot, lv_has ls 6 [(0, .ref h_m), (2, .int x2), (3, .int x3), (4, .int x4)] → W p l e rm_X3_isReachedByAll s m args below meth c H locs 0 0 QQ (F0 m 15 ls []) := by
        intro x3 n_15
        induction n_15 with
        | zero => intro x2 x4; exact fun h => False.elim h
        | succ n_15 ih_15 =>
          intro x2 x4 h H locs hP hD hS ls hl
          unfold L_X3_isReachedByAll_15 at h
          have K_64 : ∀ (x2 : Int32) (x4 : Int32) , J_X3_isReachedByAll_64 (L_X3_isReachedByAll_15 c_m_states c_m_letters c_m_moves x3 (L_X3_isReachedByAll_6 c_m_states c_m_letters c_m_moves Q n_6) n_15) x2 x4 → ∀ (H : Heap) (locs : List Loc), va_P g.1 vwCl (cw_X3_isReachedByAll g h_m h_m_moves h_m_lights h_m_prices h_m_shares c_m_states c_m_letters c_m_moves) H → va_D A (cw_X3_isReachedByAll g h_m h_m_moves h_m_lights h_m_prices h_m_shares c_m_states c_m_letters c_m_moves) → va_S A s.heap H locs → ∀ ls : Array Slot, lv_has ls 6 [(0, .ref h_m), (2, .int x2), (3, .int x3), (4, .int x4)] → W p l e rm_X3_isReachedByAll s m args below meth c H locs 0 0 QQ (F0 m 64 ls []) := by
            intro x2 x4 h H locs hP hD hS ls hl
            unfold J_X3_isReachedByAll_64 at h
            refine lv_iinc (v := (x4 + (nI 1))) (lv' := [(4, .int (x4 + (nI 1))), (0, .ref h_m), (2, .int x2), (3, .int x3)]) hx hb dX3_isReachedByAll_64 hl (k := 3) rfl rfl (by decide) rfl (fun ls hl => ?_)
            refine lv_goto (tgt := 15) hx hb dX3_isReachedByAll_67 (by decide) ?_
            exact ih_15 x2 (x4 + (nI 1)) h _ _ hP hD hS _ (lv_sub hl [1, 2, 3, 0] rfl)
          have K_27 : ∀ (x4 : Int32) (n_27 : Nat) (x2 : Int32) (x5 : Int32) , L_X3_isReachedByAll_27 c_m_states c_m_letters c_m_moves x4 (L_X3_isReachedByAll_15 c_m_states c_m_letters c_m_moves x3 (L_X3_isReachedByAll_6 c_m_states c_m_letters c_m_moves Q n_6) n_15) n_27 x2 x5 → ∀ (H : Heap) (locs : List Loc), va_P g.1 vwCl (cw_X3_isReachedByAll g h_m h_m_moves h_m_lights h_m_prices h_m_shares c_m_states c_m_letters c_m_moves) H → va_D A (cw_X3_isReachedByAll g h_m h_m_moves h_m_lights h_m_prices h_m_shares c_m_states c_m_letters c_m_moves) → va_S A s.heap H locs → ∀ ls : Array Slot, lv_has ls 6 [(0, .ref h_m), (2, .int x2), (3, .int x3), (4, .int x4), (5, .int x5)] → W p l e rm_X3_isReachedByAll s m args below meth c H locs 0 0 QQ (F0 m 27 ls []) := by
            intro x4 n_27
            induction n_27 with
            | zero => intro x2 x5; exact fun h => False.elim h
            | succ n_27 ih_27 =>
              intro x2 x5 h H locs hP hD hS ls hl
              unfold L_X3_isReachedByAll_27 at h
              have K_58 : ∀ (x2 : Int32) (x5 : Int32) , J_X3_isReachedByAll_58 (L_X3_isReachedByAll_27 c_m_states c_m_letters c_m_moves x4 (L_X3_isReachedByAll_15 c_m_states c_m_letters c_m_moves x3 (L_X3_isReachedByAll_6 c_m_states c_m_letters c_m_moves Q n_6) n_15) n_27) x2 x5 → ∀ (H : Heap) (locs : List Loc), va_P g.1 vwCl (cw_X3_isReachedByAll g h_m h_m_moves h_m_lights h_m_prices h_m_shares c_m_states c_m_letters c_m_moves) H → va_D A (cw_X3_isReachedByAll g h_m h_m_moves h_m_lights h_m_prices h_m_shares c_m_states c_m_letters c_m_moves) → va_S A s.heap H locs → ∀ ls : Array Slot, lv_has ls 6 [(0, .ref h_m), (2, .int x2), (3, .int x3), (4, .int x4), (5, .int x5)] → W p l e rm_X3_isReachedByAll s m args below meth c H locs 0 0 QQ (F0 m 58 ls []) := by
                intro x2 x5 h H locs hP hD hS ls hl
                unfold J_X3_isReachedByAll_58 at h
                refine lv_iinc (v := (x5 + (nI 1))) (lv' := [(5, .int (x5 + (nI 1))), (0, .ref h_m), (2, .int x2), (3, .int x3), (4, .int x4)]) hx hb dX3_isReachedByAll_58 hl (k := 4) rfl rfl (by decide) rfl (fun ls hl => ?_)
                refine lv_goto (tgt := 27) hx hb dX3_isReachedByAll_61 (by decide) ?_
                exact ih_27 x2 (x5 + (nI 1)) h _ _ hP hD hS _ (lv_sub hl [1, 2, 3, 4, 0] rfl)
              refine lv_iload hx hb dX3_isReachedByAll_27 (lv_at hl 4 rfl) ?_
              refine lv_aload_n hx hb dX3_isReachedByAll_29 rfl (lv_at hl 0 rfl) ?_
              refine go_I E (run_V E ((k_X4_letters l g h_m h_m_moves h_m_lights h_m_prices h_m_shares (Q := fun r => r = c_m_letters) rfl) _) (cwV 0 hts gX3_isReachedByAll_X4_letters rfl rfl rfl (by decide +kernel) ⟨Nat.le_of_ble_eq_true rfl, Nat.le_of_ble_eq_true rfl⟩) hP hD hS [0] rfl rfl 0 3 rfl rfl rfl hl rfl rfl (Nat.le_of_ble_eq_true rfl) dX3_isReachedByAll_30 ⟨Nat.le_of_ble_eq_true rfl, Nat.le_of_ble_eq_true rfl⟩) hP hD hS [0] rfl [(false, 0), (true, 1)] rfl (by decide) (fun _ => (cw_X3_isReachedByAll g h_m h_m_moves h_m_lights h_m_prices h_m_shares c_m_states c_m_letters c_m_moves)) (fun _ => rfl) (fun r6 _ H locs hr_ hP hD hS => ?_)
              have hr_ : c_m_letters = r6 := Eq.symm hr_
              subst hr_
              have hP : va_P g.1 vwCl (cw_X3_isReachedByAll g h_m h_m_moves h_m_lights h_m_prices h_m_shares c_m_states c_m_letters c_m_moves) H := hP
              have hD : va_D A (cw_X3_isReachedByAll g h_m h_m_moves h_m_lights h_m_prices h_m_shares c_m_states c_m_letters c_m_moves) := hD
              refine lv_icmp_ge (tgt := 64) hx hb dX3_isReachedByAll_33 (by decide) (fun cq => ?_) (fun cq => ?_)
              · replace h := h.1 cq
                exact K_64 x2 x4 h _ _ hP hD hS _ (lv_sub hl [0, 1, 2, 3] rfl)
              · replace h := h.2 cq
                refine lv_iload_n hx hb dX3_isReachedByAll_36 rfl (lv_at hl 1 rfl) ?_
                refine lv_aload_n hx hb dX3_isReachedByAll_37 rfl (lv_at hl 0 rfl) ?_
                refine lv_iload hx hb dX3_isReachedByAll_38 (lv_at hl 3 rfl) ?_
                refine lv_iload hx hb dX3_isReachedByAll_40 (lv_at hl 4 rfl) ?_
                refine go_I E (run_V E ((k_X4_target l g h_m h_m_moves h_m_lights h_m_prices h_m_shares h) _) (cwV 2 hts gX3_isReachedByAll_X4_target rfl rfl rfl (by decide +kernel) ⟨Nat.le_of_ble_eq_true rfl, Nat.le_of_ble_eq_true rfl⟩) hP hD hS [0, 1] rfl rfl 0 3 rfl rfl rfl hl rfl rfl (Nat.le_of_ble_eq_true rfl) dX3_isReachedByAll_42 ⟨Nat.le_of_ble_eq_true rfl, Nat.le_of_ble_eq_true rfl⟩) hP hD hS [0, 1] rfl [(false, 0), (false, 1)] rfl (by decide) (fun _ => (cw_X3_isReachedByAll g h_m h_m_moves h_m_lights h_m_prices h_m_shares c_m_states c_m_letters c_m_moves)) (fun _ => rfl) (fun r8 _ H locs h hP hD hS => ?_)
                try dsimp only at h
                have hP : va_P g.1 vwCl (cw_X3_isReachedByAll g h_m h_m_moves h_m_lights h_m_prices h_m_shares c_m_states c_m_letters c_m_moves) H := hP
                have hD : va_D A (cw_X3_isReachedByAll g h_m h_m_moves h_m_lights h_m_prices h_m_shares c_m_states c_m_letters c_m_moves) := hD
                refine lv_ishr hx hb dX3_isReachedByAll_45 ?_
                refine lv_iconst (v := (nI 1)) hx hb dX3_isReachedByAll_46 (by decide) ?_
                refine lv_iand hx hb dX3_isReachedByAll_47 ?_
                refine lv_if_eq (tgt := 58) hx hb dX3_isReachedByAll_48 (by decide) (fun cq => ?_) (fun cq => ?_)
                · replace h := h.1 cq
                  exact K_58 x2 x5 h _ _ hP hD hS _ (lv_sub hl [0, 1, 2, 3, 4] rfl)
                · replace h := h.2 cq
                  refine lv_iload_n hx hb dX3_isReachedByAll_51 rfl (lv_at hl 1 rfl) ?_
                  refine lv_iconst (v := (nI 1)) hx hb dX3_isReachedByAll_52 (by decide) ?_
                  refine lv_iload hx hb dX3_isReachedByAll_53 (lv_at hl 3 rfl) ?_
                  refine lv_ishl hx hb dX3_isReachedByAll_55 ?_
                  refine lv_ior hx hb dX3_isReachedByAll_56 ?_
                  refine lv_istore_n (lv' := [(2, .int (x2 ||| ((nI 1) <<< (x4 &&& 31)))), (0, .ref h_m), (3, .int x3), (4, .int x4), (5, .int x5)]) hx hb dX3_isReachedByAll_57 rfl hl (by decide) rfl (fun ls hl => ?_)
                  exact K_58 (x2 ||| ((nI 1) <<< (x4 &&& 31))) x5 h _ _ hP hD hS _ (lv_sub hl [1, 0, 2, 3, 4] rfl)
          refine lv_iload hx hb dX3_isReachedByAll_15 (lv_at hl 3 rfl) ?_
          refine lv_aload_n hx hb dX3_isReachedByAll_17 rfl (lv_at hl 0 rfl) ?_
          refine go_I E (run_V E ((k_X4_states l g h_m h_m_moves h_m_lights h_m_prices h_m_shares (Q := fun r => r = c_m_states) rfl) _) (cwV 0 hts gX3_isReachedByAll_X4_states rfl rfl rfl (by decide +kernel) ⟨Nat.le_of_ble_eq_true rfl, Nat.le_of_ble_eq_true rfl⟩) hP hD hS [0] rfl rfl 0 3 rfl rfl rfl hl rfl rfl (Nat.le_of_ble_eq_true rfl) dX3_isReachedByAll_18 ⟨Nat.le_of_ble_eq_true rfl, Nat.le_of_ble_eq_true rfl⟩) hP hD hS [0] rfl [(false, 0), (true, 1)] rfl (by decide) (fun _ => (cw_X3_isReachedByAll g h_m h_m_moves h_m_lights h_m_prices h_m_shares c_m_states c_m_letters c_m_moves)) (fun _ => rfl) (fun r4 _ H locs hr_ hP hD hS => ?_)
          have hr_ : c_m_states = r4 := Eq.symm hr_
          subst hr_
          have hP : va_P g.1 vwCl (cw_X3_isReachedByAll g h_m h_m_moves h_m_lights h_m_prices h_m_shares c_m_states c_m_letters c_m_moves) H := hP
          have hD : va_D A (cw_X3_isReachedByAll g h_m h_m_moves h_m_lights h_m_prices h_m_shares c_m_states c_m_letters c_m_moves) := hD
          refine lv_icmp_ge (tgt := 70) hx hb dX3_isReachedByAll_21 (by decide) (fun cq => ?_) (fun cq => ?_)
          · replace h := h.1 cq
            exact K_70 x2 x3 h _ _ hP hD hS _ (lv_sub hl [0, 1, 2] rfl)
          · replace h := h.2 cq
            refine lv_iconst (v := (nI 0)) hx hb dX3_isReachedByAll_24 (by decide) ?_
            refine lv_istore (lv' := [(5, .int (nI 0)), (0, .ref h_m), (2, .int x2), (3, .int x3), (4, .int x4)]) hx hb dX3_isReachedByAll_25 hl (by decide) rfl (fun ls hl => ?_)
            obtain ⟨n, h⟩ := h
            exact K_27 x4 n x2 (nI 0) h _ _ hP hD hS _ (lv_sub hl [1, 2, 3, 4, 0] rfl)
      refine lv_iload_n hx hb dX3_isReachedByAll_6 rfl (lv_at hl 2 rfl) ?_
      refine lv_bipush (v := (nI 12)) hx hb dX3_isReachedByAll_7 (by decide) ?_
      refine lv_icmp_ge (tgt := 76) hx hb dX3_isReachedByAll_9 (by decide) (fun cq => ?_) (fun cq => ?_)
      · replace h := h.1 cq
        exact K_76 x2 h _ _ hP hD hS _ (lv_sub hl [0, 1] rfl)
      · replace h := h.2 cq
        refine lv_iconst (v := (nI 0)) hx hb dX3_isReachedByAll_12 (by decide) ?_
        refine lv_istore (lv' := [(4, .int (nI 0)), (0, .ref h_m), (2, .int x2), (3, .int x3)]) hx hb dX3_isReachedByAll_13 hl (by decide) rfl (fun ls hl => ?_)
        obtain ⟨n, h⟩ := h
        exact K_15 x3 n x2 (nI 0) h _ _ hP hD hS _ (lv_sub hl [1, 2, 3, 0] rfl)
  refine lv_iconst (v := (nI 1)) hx hb dX3_isReachedByAll_0 (by decide) ?_
  refine lv_iload_n hx hb dX3_isReachedByAll_1 rfl (lv_at hl 1 rfl) ?_
  refine lv_ishl hx hb dX3_isReachedByAll_2 ?_
  refine lv_istore_n (lv' := [(2, .int ((nI 1) <<< (x1 &&& 31))), (0, .ref h_m), (1, .int x1)]) hx hb dX3_isReachedByAll_3 rfl hl (by decide) rfl (fun ls hl => ?_)
  refine lv_iconst (v := (nI 0)) hx hb dX3_isReachedByAll_4 (by decide) ?_
  refine lv_istore_n (lv' := [(3, .int (nI 0)), (2, .int ((nI 1) <<< (x1 &&& 31))), (0, .ref h_m), (1, .int x1)]) hx hb dX3_isReachedByAll_5 rfl hl (by decide) rfl (fun ls hl => ?_)
  obtain ⟨n, h⟩ := h
  exact K_6 n ((nI 1) <<< (x1 &&& 31)) (nI 0) h _ _ hP hD hS _ (lv_sub hl [2, 1, 0] rfl)
abbrev cw_X3_hasSink (g : GG) (h_m : Nat) (h_m_moves : Nat) (h_m_lights : Nat) (h_m_prices : Nat) (h_m_shares : Nat) (c_m_states : Int32) (c_m_letters : Int32) (c_m_moves : Nat → Int32) : va_W := [(h_m, .inr (3, [.int c_m_states, .int c_m_letters, .ref h_m_moves, .ref h_m_lights, .ref h_m_prices, .ref h_m_shares])), (h_m_moves, .inl (g.2.1, 48, .inl c_m_moves))]
def J_X3_hasSink_28 (R_2 : Int32 → Prop) (x1 : Int32) : Prop :=
    R_2 (x1 + (nI 1))
def L_X3_hasSink_2 (c_m_states : Int32) (c_m_letters : Int32) (c_m_moves : Nat → Int32) (Q : Int32 → Prop) : Nat → Int32 → Prop
  | 0, _ => False
  | n_2 + 1, x1 =>
    ((c_m_states ≤ x1 → Q (nI 0)) ∧ (¬ c_m_states ≤ x1 → wp_X3_staysByAll c_m_states c_m_letters c_m_moves x1 (fun r4 => ((r4 = (nI 0) → J_X3_hasSink_28 (L_X3_hasSink_2 c_m_states c_m_letters c_m_moves Q n_2) x1) ∧ (¬ r4 = (nI 0) → wp_X3_isReachedByAll c_m_states c_m_letters c_m_moves x1 (fun r6 => ((r6 = (nI 0) → J_X3_hasSink_28 (L_X3_hasSink_2 c_m_states c_m_letters c_m_moves Q n_2) x1) ∧ (¬ r6 = (nI 0) → Q (nI 1)))))))))
def wp_X3_hasSink (c_m_states : Int32) (c_m_letters : Int32) (c_m_moves : Nat → Int32) (Q : Int32 → Prop) : Prop :=
    ∃ n, L_X3_hasSink_2 c_m_states c_m_letters c_m_moves Q n (nI 0)
abbrev rm_X3_hasSink : Room := { frames := 2, cells := 0, slots := 0, locals := 48 }
set_option maxHeartbeats 4000000 in
set_option maxRecDepth 100000 in
theorem k_X3_hasSink (l : Launch) (g : GG) (h_m : Nat) (h_m_moves : Nat) (h_m_lights : Nat) (h_m_prices : Nat) (h_m_shares : Nat) {c_m_states : Int32} {c_m_letters : Int32} {c_m_moves : Nat → Int32} {Q : Int32 → Prop} (h : wp_X3_hasSink c_m_states c_m_letters c_m_moves Q) : CI l g yX3_hasSink wsX3_hasSink rm_X3_hasSink [.ref h_m] (cw_X3_hasSink g h_m h_m_moves h_m_lights h_m_prices h_m_shares c_m_states c_m_letters c_m_moves) (S := Unit) (fun _ => (cw_X3_hasSink g h_m h_m_moves h_m_lights h_m_prices h_m_shares c_m_states c_m_letters c_m_moves)) (fun r _ => Q r) 0 0 := by
  refine mk_I (cc := cX3_hasSink) (maxL := 2) (own := RX3) (by decide) rfl rfl (Nat.le_of_ble_eq_true rfl) ?_
  intro p e s m args below meth c A QQ E hret hP hD hS ls hl
  have E2 := E
  obtain ⟨hx, hb, hr, hml, hown, hts, hlocks, hA, hZ, hK, hnm⟩ := E2
  have hP : va_P g.1 vwCl (cw_X3_hasSink g h_m h_m_moves h_m_lights h_m_prices h_m_shares c_m_states c_m_letters c_m_moves) s.heap := hP
  have hD : va_D A (cw_X3_hasSink g h_m h_m_moves h_m_lights h_m_prices h_m_shares c_m_states c_m_letters c_m_moves) := hD
  have hl : lv_has ls 2 [(0, .ref h_m)] := hl
  unfold wp_X3_hasSink at h
  have K_2 : ∀ (n_2 : Nat) (x1 : Int32) , L_X3_hasSink_2 c_m_states c_m_letters c_m_moves Q n_2 x1 → ∀ (H : Heap) (locs : List Loc), va_P g.1 vwCl (cw_X3_hasSink g h_m h_m_moves h_m_lights h_m_prices h_m_shares c_m_states c_m_letters c_m_moves) H → va_D A (cw_X3_hasSink g h_m h_m_moves h_m_lights h_m_prices h_m_shares c_m_states c_m_letters c_m_moves) → va_S A s.heap H locs → ∀ ls : Array Slot, lv_has ls 2 [(0, .ref h_m), (1, .int x1)] → W p l e rm_X3_hasSink s m args below meth c H locs 0 0 QQ (F0 m 2 ls []) := by
    intro n_2
    induction n_2 with
    | zero => intro x1; exact fun h => False.elim h
    | succ n_2 ih_2 =>
      intro x1 h H locs hP hD hS ls hl
      unfold L_X3_hasSink_2 at h
      have K_28 : ∀ (x1 : Int32) , J_X3_hasSink_28 (L_X3_hasSink_2 c_m_states c_m_letters c_m_moves Q n_2) x1 → ∀ (H : Heap) (locs : List Loc), va_P g.1 vwCl (cw_X3_hasSink g h_m h_m_moves h_m_lights h_m_prices h_m_shares c_m_states c_m_letters c_m_moves) H → va_D A (cw_X3_hasSink g h_m h_m_moves h_m_lights h_m_prices h_m_shares c_m_states c_m_letters c_m_moves) → va_S A s.heap H locs → ∀ ls : Array Slot, lv_has ls 2 [(0, .ref h_m), (1, .int x1)] → W p l e rm_X3_hasSink s m args below meth c H locs 0 0 QQ (F0 m 28 ls []) := by
        intro x1 h H locs hP hD hS ls hl
        unfold J_X3_hasSink_28 at h
        refine lv_iinc (v := (x1 + (nI 1))) (lv' := [(1, .int (x1 + (nI 1))), (0, .ref h_m)]) hx hb dX3_hasSink_28 hl (k := 1) rfl rfl (by decide) rfl (fun ls hl => ?_)
        refine lv_goto (tgt := 2) hx hb dX3_hasSink_31 (by decide) ?_
        exact ih_2 (x1 + (nI 1)) h _ _ hP hD hS _ (lv_sub hl [1, 0] rfl)
      refine lv_iload_n hx hb dX3_hasSink_2 rfl (lv_at hl 1 rfl) ?_
      refine lv_aload_n hx hb dX3_hasSink_3 rfl (lv_at hl 0 rfl) ?_
      refine go_I E (run_V E ((k_X4_states l g h_m h_m_moves h_m_lights h_m_prices h_m_shares (Q := fun r => r = c_m_states) rfl) _) (cwV 0 hts gX3_hasSink_X4_states rfl rfl rfl (by decide +kernel) ⟨Nat.le_of_ble_eq_true rfl, Nat.le_of_ble_eq_true rfl⟩) hP hD hS [0] rfl rfl 0 3 rfl rfl rfl hl rfl rfl (Nat.le_of_ble_eq_true rfl) dX3_hasSink_4 ⟨Nat.le_of_ble_eq_true rfl, Nat.le_of_ble_eq_true rfl⟩) hP hD hS [0] rfl [(false, 0), (true, 1)] rfl (by decide) (fun _ => (cw_X3_hasSink g h_m h_m_moves h_m_lights h_m_prices h_m_shares c_m_states c_m_letters c_m_moves)) (fun _ => rfl) (fun r2 _ H locs hr_ hP hD hS => ?_)
      have hr_ : c_m_states = r2 := Eq.symm hr_
      subst hr_
      have hP : va_P g.1 vwCl (cw_X3_hasSink g h_m h_m_moves h_m_lights h_m_prices h_m_shares c_m_states c_m_letters c_m_moves) H := hP
      have hD : va_D A (cw_X3_hasSink g h_m h_m_moves h_m_lights h_m_prices h_m_shares c_m_states c_m_letters c_m_moves) := hD
      refine lv_icmp_ge (tgt := 34) hx hb dX3_hasSink_7 (by decide) (fun cq => ?_) (fun cq => ?_)
      · replace h := h.1 cq
        refine lv_iconst (v := (nI 0)) hx hb dX3_hasSink_34 (by decide) ?_
        exact hret (nI 0) () _ _ _ _ nbz h hP hD hS dX3_hasSink_35
      · replace h := h.2 cq
        refine lv_aload_n hx hb dX3_hasSink_10 rfl (lv_at hl 0 rfl) ?_
        refine lv_iload_n hx hb dX3_hasSink_11 rfl (lv_at hl 1 rfl) ?_
        refine go_I E (run_S E ((k_X3_staysByAll l g h_m h_m_moves h_m_lights h_m_prices h_m_shares h) _) (va_cwS 2 hts gX3_hasSink_X3_staysByAll rfl rfl rfl (by decide +kernel) ⟨Nat.le_of_ble_eq_true rfl, Nat.le_of_ble_eq_true rfl⟩) hP hD hS [0, 1] rfl rfl hl rfl rfl (Nat.le_of_ble_eq_true rfl) dX3_hasSink_12 ⟨Nat.le_of_ble_eq_true rfl, Nat.le_of_ble_eq_true rfl⟩) hP hD hS [0, 1] rfl [(false, 0), (false, 1)] rfl (by decide) (fun _ => (cw_X3_hasSink g h_m h_m_moves h_m_lights h_m_prices h_m_shares c_m_states c_m_letters c_m_moves)) (fun _ => rfl) (fun r4 _ H locs h hP hD hS => ?_)
        try dsimp only at h
        have hP : va_P g.1 vwCl (cw_X3_hasSink g h_m h_m_moves h_m_lights h_m_prices h_m_shares c_m_states c_m_letters c_m_moves) H := hP
        have hD : va_D A (cw_X3_hasSink g h_m h_m_moves h_m_lights h_m_prices h_m_shares c_m_states c_m_letters c_m_moves) := hD
        refine lv_if_eq (tgt := 28) hx hb dX3_hasSink_15 (by decide) (fun cq => ?_) (fun cq => ?_)
        · replace h := h.1 cq
          exact K_28 x1 h _ _ hP hD hS _ (lv_sub hl [0, 1] rfl)
        · replace h := h.2 cq
          refine lv_aload_n hx hb dX3_hasSink_18 rfl (lv_at hl 0 rfl) ?_
          refine lv_iload_n hx hb dX3_hasSink_19 rfl (lv_at hl 1 rfl) ?_
          refine go_I E (run_S E ((k_X3_isReachedByAll l g h_m h_m_moves h_m_lights h_m_prices h_m_shares h) _) (va_cwS 2 hts gX3_hasSink_X3_isReachedByAll rfl rfl rfl (by decide +kernel) ⟨Nat.le_of_ble_eq_true rfl, Nat.le_of_ble_eq_true rfl⟩) hP hD hS [0, 1] rfl rfl hl rfl rfl (Nat.le_of_ble_eq_true rfl) dX3_hasSink_20 ⟨Nat.le_of_ble_eq_true rfl, Nat.le_of_ble_eq_true rfl⟩) hP hD hS [0, 1] rfl [(false, 0), (false, 1)] rfl (by decide) (fun _ => (cw_X3_hasSink g h_m h_m_moves h_m_lights h_m_prices h_m_shares c_m_states c_m_letters c_m_moves)) (fun _ => rfl) (fun r6 _ H locs h hP hD hS => ?_)
          try dsimp only at h
          have hP : va_P g.1 vwCl (cw_X3_hasSink g h_m h_m_moves h_m_lights h_m_prices h_m_shares c_m_states c_m_letters c_m_moves) H := hP
          have hD : va_D A (cw_X3_hasSink g h_m h_m_moves h_m_lights h_m_prices h_m_shares c_m_states c_m_letters c_m_moves) := hD
          refine lv_if_eq (tgt := 28) hx hb dX3_hasSink_23 (by decide) (fun cq => ?_) (fun cq => ?_)
          · replace h := h.1 cq
            exact K_28 x1 h _ _ hP hD hS _ (lv_sub hl [0, 1] rfl)
          · replace h := h.2 cq
            refine lv_iconst (v := (nI 1)) hx hb dX3_hasSink_26 (by decide) ?_
            exact hret (nI 1) () _ _ _ _ nbo h hP hD hS dX3_hasSink_27
  refine lv_iconst (v := (nI 0)) hx hb dX3_hasSink_0 (by decide) ?_
  refine lv_istore_n (lv' := [(1, .int (nI 0)), (0, .ref h_m)]) hx hb dX3_hasSink_1 rfl hl (by decide) rfl (fun ls hl => ?_)
  obtain ⟨n, h⟩ := h
  exact K_2 n (nI 0) h _ _ hP hD hS _ (lv_sub hl [1, 0] rfl)
abbrev cw_X3_isRound (g : GG) (h_m : Nat) (h_m_moves : Nat) (h_m_lights : Nat) (h_m_prices : Nat) (h_m_shares : Nat) (c_m_states : Int32) (c_m_letters : Int32) (c_m_moves : Nat → Int32) : va_W := [(h_m, .inr (3, [.int c_m_states, .int c_m_letters, .ref h_m_moves, .ref h_m_lights, .ref h_m_prices, .ref h_m_shares])), (h_m_moves, .inl (g.2.1, 48, .inl c_m_moves))]
def J_X3_isRound_31 (c_m_states : Int32) (c_m_letters : Int32) (c_m_moves : Nat → Int32) (x1 : Int32) (Q : Int32 → Prop) (x2 : Int32) : Prop :=
    wp_X4_target c_m_states c_m_letters c_m_moves x2 x1 (fun r4 => ((¬ r4 = (nI 0) → Q (nI 0)) ∧ (r4 = (nI 0) → Q (nI 1))))
def L_X3_isRound_4 (c_m_states : Int32) (c_m_letters : Int32) (c_m_moves : Nat → Int32) (x1 : Int32) (Q : Int32 → Prop) : Nat → Int32 → Int32 → Prop
  | 0, _, _ => False
  | n_4 + 1, x2, x3 =>
    ((c_m_states ≤ x3 → J_X3_isRound_31 c_m_states c_m_letters c_m_moves x1 Q x2) ∧ (¬ c_m_states ≤ x3 → wp_X4_target c_m_states c_m_letters c_m_moves x2 x1 (fun r6 => ((¬ r6 = (nI 0) → (L_X3_isRound_4 c_m_states c_m_letters c_m_moves x1 Q n_4) r6 (x3 + (nI 1))) ∧ (r6 = (nI 0) → Q (nI 0))))))
def wp_X3_isRound (c_m_states : Int32) (c_m_letters : Int32) (c_m_moves : Nat → Int32) (x1 : Int32) (Q : Int32 → Prop) : Prop :=
    ∃ n, L_X3_isRound_4 c_m_states c_m_letters c_m_moves x1 Q n (nI 0) (nI 1)
abbrev rm_X3_isRound : Room := { frames := 1, cells := 0, slots := 0, locals := 23 }
set_option maxHeartbeats 4000000 in
set_option maxRecDepth 100000 in
theorem k_X3_isRound (l : Launch) (g : GG) (h_m : Nat) (h_m_moves : Nat) (h_m_lights : Nat) (h_m_prices : Nat) (h_m_shares : Nat) {c_m_states : Int32} {c_m_letters : Int32} {c_m_moves : Nat → Int32} {x1 : Int32} {Q : Int32 → Prop} (h : wp_X3_isRound c_m_states c_m_letters c_m_moves x1 Q) : CI l g yX3_isRound wsX3_isRound rm_X3_isRound [.ref h_m, .int x1] (cw_X3_isRound g h_m h_m_moves h_m_lights h_m_prices h_m_shares c_m_states c_m_letters c_m_moves) (S := Unit) (fun _ => (cw_X3_isRound g h_m h_m_moves h_m_lights h_m_prices h_m_shares c_m_states c_m_letters c_m_moves)) (fun r _ => Q r) 0 0 := by
  refine mk_I (cc := cX3_isRound) (maxL := 4) (own := RX3) (by decide) rfl rfl (Nat.le_of_ble_eq_true rfl) ?_
  intro p e s m args below meth c A QQ E hret hP hD hS ls hl
  have E2 := E
  obtain ⟨hx, hb, hr, hml, hown, hts, hlocks, hA, hZ, hK, hnm⟩ := E2
  have hP : va_P g.1 vwCl (cw_X3_isRound g h_m h_m_moves h_m_lights h_m_prices h_m_shares c_m_states c_m_letters c_m_moves) s.heap := hP
  have hD : va_D A (cw_X3_isRound g h_m h_m_moves h_m_lights h_m_prices h_m_shares c_m_states c_m_letters c_m_moves) := hD
  have hl : lv_has ls 4 [(0, .ref h_m), (1, .int x1)] := hl
  unfold wp_X3_isRound at h
  have K_31 : ∀ (x2 : Int32) , J_X3_isRound_31 c_m_states c_m_letters c_m_moves x1 Q x2 → ∀ (H : Heap) (locs : List Loc), va_P g.1 vwCl (cw_X3_isRound g h_m h_m_moves h_m_lights h_m_prices h_m_shares c_m_states c_m_letters c_m_moves) H → va_D A (cw_X3_isRound g h_m h_m_moves h_m_lights h_m_prices h_m_shares c_m_states c_m_letters c_m_moves) → va_S A s.heap H locs → ∀ ls : Array Slot, lv_has ls 4 [(0, .ref h_m), (1, .int x1), (2, .int x2)] → W p l e rm_X3_isRound s m args below meth c H locs 0 0 QQ (F0 m 31 ls []) := by
    intro x2 h H locs hP hD hS ls hl
    unfold J_X3_isRound_31 at h
    refine lv_aload_n hx hb dX3_isRound_31 rfl (lv_at hl 0 rfl) ?_
    refine lv_iload_n hx hb dX3_isRound_32 rfl (lv_at hl 2 rfl) ?_
    refine lv_iload_n hx hb dX3_isRound_33 rfl (lv_at hl 1 rfl) ?_
    refine go_I E (run_V E ((k_X4_target l g h_m h_m_moves h_m_lights h_m_prices h_m_shares h) _) (cwV 2 hts gX3_isRound_X4_target rfl rfl rfl (by decide +kernel) ⟨Nat.le_of_ble_eq_true rfl, Nat.le_of_ble_eq_true rfl⟩) hP hD hS [0, 1] rfl rfl 0 3 rfl rfl rfl hl rfl rfl (Nat.le_of_ble_eq_true rfl) dX3_isRound_34 ⟨Nat.le_of_ble_eq_true rfl, Nat.le_of_ble_eq_true rfl⟩) hP hD hS [0, 1] rfl [(false, 0), (false, 1)] rfl (by decide) (fun _ => (cw_X3_isRound g h_m h_m_moves h_m_lights h_m_prices h_m_shares c_m_states c_m_letters c_m_moves)) (fun _ => rfl) (fun r4 _ H locs h hP hD hS => ?_)
    try dsimp only at h
    have hP : va_P g.1 vwCl (cw_X3_isRound g h_m h_m_moves h_m_lights h_m_prices h_m_shares c_m_states c_m_letters c_m_moves) H := hP
    have hD : va_D A (cw_X3_isRound g h_m h_m_moves h_m_lights h_m_prices h_m_shares c_m_states c_m_letters c_m_moves) := hD
    refine lv_if_ne (tgt := 44) hx hb dX3_isRound_37 (by decide) (fun cq => ?_) (fun cq => ?_)
    · replace h := h.1 cq
      refine lv_iconst (v := (nI 0)) hx hb dX3_isRound_44 (by decide) ?_
      exact hret (nI 0) () _ _ _ _ nbz h hP hD hS dX3_isRound_45
    · replace h := h.2 cq
      refine lv_iconst (v := (nI 1)) hx hb dX3_isRound_40 (by decide) ?_
      refine lv_goto (tgt := 45) hx hb dX3_isRound_41 (by decide) ?_
      exact hret (nI 1) () _ _ _ _ nbo h hP hD hS dX3_isRound_45
  have K_4 : ∀ (n_4 : Nat) (x2 : Int32) (x3 : Int32) , L_X3_isRound_4 c_m_states c_m_letters c_m_moves x1 Q n_4 x2 x3 → ∀ (H : Heap) (locs : List Loc), va_P g.1 vwCl (cw_X3_isRound g h_m h_m_moves h_m_lights h_m_prices h_m_shares c_m_states c_m_letters c_m_moves) H → va_D A (cw_X3_isRound g h_m h_m_moves h_m_lights h_m_prices h_m_shares c_m_states c_m_letters c_m_moves) → va_S A s.heap H locs → ∀ ls : Array Slot, lv_has ls 4 [(0, .ref h_m), (1, .int x1), (2, .int x2), (3, .int x3)] → W p l e rm_X3_isRound s m args below meth c H locs 0 0 QQ (F0 m 4 ls []) := by
    intro n_4
    induction n_4 with
    | zero => intro x2 x3; exact fun h => False.elim h
    | succ n_4 ih_4 =>
      intro x2 x3 h H locs hP hD hS ls hl
      unfold L_X3_isRound_4 at h
      refine lv_iload_n hx hb dX3_isRound_4 rfl (lv_at hl 3 rfl) ?_
      refine lv_aload_n hx hb dX3_isRound_5 rfl (lv_at hl 0 rfl) ?_
      refine go_I E (run_V E ((k_X4_states l g h_m h_m_moves h_m_lights h_m_prices h_m_shares (Q := fun r => r = c_m_states) rfl) _) (cwV 0 hts gX3_isRound_X4_states rfl rfl rfl (by decide +kernel) ⟨Nat.le_of_ble_eq_true rfl, Nat.le_of_ble_eq_true rfl⟩) hP hD hS [0] rfl rfl 0 3 rfl rfl rfl hl rfl rfl (Nat.le_of_ble_eq_true rfl) dX3_isRound_6 ⟨Nat.le_of_ble_eq_true rfl, Nat.le_of_ble_eq_true rfl⟩) hP hD hS [0] rfl [(false, 0), (true, 1)] rfl (by decide) (fun _ => (cw_X3_isRound g h_m h_m_moves h_m_lights h_m_prices h_m_shares c_m_states c_m_letters c_m_moves)) (fun _ => rfl) (fun r2 _ H locs hr_ hP hD hS => ?_)
      have hr_ : c_m_states = r2 := Eq.symm hr_
      subst hr_
      have hP : va_P g.1 vwCl (cw_X3_isRound g h_m h_m_moves h_m_lights h_m_prices h_m_shares c_m_states c_m_letters c_m_moves) H := hP
      have hD : va_D A (cw_X3_isRound g h_m h_m_moves h_m_lights h_m_prices h_m_shares c_m_states c_m_letters c_m_moves) := hD
      refine lv_icmp_ge (tgt := 31) hx hb dX3_isRound_9 (by decide) (fun cq => ?_) (fun cq => ?_)
      · replace h := h.1 cq
        exact K_31 x2 h _ _ hP hD hS _ (lv_sub hl [0, 1, 2] rfl)
      · replace h := h.2 cq
        refine lv_aload_n hx hb dX3_isRound_12 rfl (lv_at hl 0 rfl) ?_
        refine lv_iload_n hx hb dX3_isRound_13 rfl (lv_at hl 2 rfl) ?_
        refine lv_iload_n hx hb dX3_isRound_14 rfl (lv_at hl 1 rfl) ?_
        refine go_I E (run_V E ((k_X4_target l g h_m h_m_moves h_m_lights h_m_prices h_m_shares h) _) (cwV 2 hts gX3_isRound_X4_target rfl rfl rfl (by decide +kernel) ⟨Nat.le_of_ble_eq_true rfl, Nat.le_of_ble_eq_true rfl⟩) hP hD hS [0, 1] rfl rfl 0 3 rfl rfl rfl hl rfl rfl (Nat.le_of_ble_eq_true rfl) dX3_isRound_15 ⟨Nat.le_of_ble_eq_true rfl, Nat.le_of_ble_eq_true rfl⟩) hP hD hS [0, 1] rfl [(false, 0), (false, 1)] rfl (by decide) (fun _ => (cw_X3_isRound g h_m h_m_moves h_m_lights h_m_prices h_m_shares c_m_states c_m_letters c_m_moves)) (fun _ => rfl) (fun r6 _ H locs h hP hD hS => ?_)
        try dsimp only at h
        have hP : va_P g.1 vwCl (cw_X3_isRound g h_m h_m_moves h_m_lights h_m_prices h_m_shares c_m_states c_m_letters c_m_moves) H := hP
        have hD : va_D A (cw_X3_isRound g h_m h_m_moves h_m_lights h_m_prices h_m_shares c_m_states c_m_letters c_m_moves) := hD
        refine lv_istore_n (lv' := [(2, .int r6), (0, .ref h_m), (1, .int x1), (3, .int x3)]) hx hb dX3_isRound_18 rfl hl (by decide) rfl (fun ls hl => ?_)
        refine lv_iload_n hx hb dX3_isRound_19 rfl (lv_at hl 0 rfl) ?_
        refine lv_if_ne (tgt := 25) hx hb dX3_isRound_20 (by decide) (fun cq => ?_) (fun cq => ?_)
        · replace h := h.1 cq
          refine lv_iinc (v := (x3 + (nI 1))) (lv' := [(3, .int (x3 + (nI 1))), (2, .int r6), (0, .ref h_m), (1, .int x1)]) hx hb dX3_isRound_25 hl (k := 3) rfl rfl (by decide) rfl (fun ls hl => ?_)
          refine lv_goto (tgt := 4) hx hb dX3_isRound_28 (by decide) ?_
          exact ih_4 r6 (x3 + (nI 1)) h _ _ hP hD hS _ (lv_sub hl [2, 3, 1, 0] rfl)
        · replace h := h.2 cq
          refine lv_iconst (v := (nI 0)) hx hb dX3_isRound_23 (by decide) ?_
          exact hret (nI 0) () _ _ _ _ nbz h hP hD hS dX3_isRound_24
  refine lv_iconst (v := (nI 0)) hx hb dX3_isRound_0 (by decide) ?_
  refine lv_istore_n (lv' := [(2, .int (nI 0)), (0, .ref h_m), (1, .int x1)]) hx hb dX3_isRound_1 rfl hl (by decide) rfl (fun ls hl => ?_)
  refine lv_iconst (v := (nI 1)) hx hb dX3_isRound_2 (by decide) ?_
  refine lv_istore_n (lv' := [(3, .int (nI 1)), (2, .int (nI 0)), (0, .ref h_m), (1, .int x1)]) hx hb dX3_isRound_3 rfl hl (by decide) rfl (fun ls hl => ?_)
  obtain ⟨n, h⟩ := h
  exact K_4 n (nI 0) (nI 1) h _ _ hP hD hS _ (lv_sub hl [2, 3, 1, 0] rfl)
abbrev cw_X3_hasLoop (g : GG) (h_m : Nat) (h_m_moves : Nat) (h_m_lights : Nat) (h_m_prices : Nat) (h_m_shares : Nat) (c_m_states : Int32) (c_m_letters : Int32) (c_m_moves : Nat → Int32) : va_W := [(h_m, .inr (3, [.int c_m_states, .int c_m_letters, .ref h_m_moves, .ref h_m_lights, .ref h_m_prices, .ref h_m_shares])), (h_m_moves, .inl (g.2.1, 48, .inl c_m_moves))]
def L_X3_hasLoop_2 (c_m_states : Int32) (c_m_letters : Int32) (c_m_moves : Nat → Int32) (x1 : Int32) (Q : Int32 → Prop) : Nat → Int32 → Prop
  | 0, _ => False
  | n_2 + 1, x2 =>
    ((c_m_states ≤ x2 → Q (nI 0)) ∧ (¬ c_m_states ≤ x2 → wp_X4_target c_m_states c_m_letters c_m_moves x2 x1 (fun r4 => ((¬ r4 = x2 → (L_X3_hasLoop_2 c_m_states c_m_letters c_m_moves x1 Q n_2) (x2 + (nI 1))) ∧ (r4 = x2 → Q (nI 1))))))
def wp_X3_hasLoop (c_m_states : Int32) (c_m_letters : Int32) (c_m_moves : Nat → Int32) (x1 : Int32) (Q : Int32 → Prop) : Prop :=
    ∃ n, L_X3_hasLoop_2 c_m_states c_m_letters c_m_moves x1 Q n (nI 0)
abbrev rm_X3_hasLoop : Room := { frames := 1, cells := 0, slots := 0, locals := 23 }
set_option maxHeartbeats 4000000 in
set_option maxRecDepth 100000 in
theorem k_X3_hasLoop (l : Launch) (g : GG) (h_m : Nat) (h_m_moves : Nat) (h_m_lights : Nat) (h_m_prices : Nat) (h_m_shares : Nat) {c_m_states : Int32} {c_m_letters : Int32} {c_m_moves : Nat → Int32} {x1 : Int32} {Q : Int32 → Prop} (h : wp_X3_hasLoop c_m_states c_m_letters c_m_moves x1 Q) : CI l g yX3_hasLoop wsX3_hasLoop rm_X3_hasLoop [.ref h_m, .int x1] (cw_X3_hasLoop g h_m h_m_moves h_m_lights h_m_prices h_m_shares c_m_states c_m_letters c_m_moves) (S := Unit) (fun _ => (cw_X3_hasLoop g h_m h_m_moves h_m_lights h_m_prices h_m_shares c_m_states c_m_letters c_m_moves)) (fun r _ => Q r) 0 0 := by
  refine mk_I (cc := cX3_hasLoop) (maxL := 3) (own := RX3) (by decide) rfl rfl (Nat.le_of_ble_eq_true rfl) ?_
  intro p e s m args below meth c A QQ E hret hP hD hS ls hl
  have E2 := E
  obtain ⟨hx, hb, hr, hml, hown, hts, hlocks, hA, hZ, hK, hnm⟩ := E2
  have hP : va_P g.1 vwCl (cw_X3_hasLoop g h_m h_m_moves h_m_lights h_m_prices h_m_shares c_m_states c_m_letters c_m_moves) s.heap := hP
  have hD : va_D A (cw_X3_hasLoop g h_m h_m_moves h_m_lights h_m_prices h_m_shares c_m_states c_m_letters c_m_moves) := hD
  have hl : lv_has ls 3 [(0, .ref h_m), (1, .int x1)] := hl
  unfold wp_X3_hasLoop at h
  have K_2 : ∀ (n_2 : Nat) (x2 : Int32) , L_X3_hasLoop_2 c_m_states c_m_letters c_m_moves x1 Q n_2 x2 → ∀ (H : Heap) (locs : List Loc), va_P g.1 vwCl (cw_X3_hasLoop g h_m h_m_moves h_m_lights h_m_prices h_m_shares c_m_states c_m_letters c_m_moves) H → va_D A (cw_X3_hasLoop g h_m h_m_moves h_m_lights h_m_prices h_m_shares c_m_states c_m_letters c_m_moves) → va_S A s.heap H locs → ∀ ls : Array Slot, lv_has ls 3 [(0, .ref h_m), (1, .int x1), (2, .int x2)] → W p l e rm_X3_hasLoop s m args below meth c H locs 0 0 QQ (F0 m 2 ls []) := by
    intro n_2
    induction n_2 with
    | zero => intro x2; exact fun h => False.elim h
    | succ n_2 ih_2 =>
      intro x2 h H locs hP hD hS ls hl
      unfold L_X3_hasLoop_2 at h
      refine lv_iload_n hx hb dX3_hasLoop_2 rfl (lv_at hl 2 rfl) ?_
      refine lv_aload_n hx hb dX3_hasLoop_3 rfl (lv_at hl 0 rfl) ?_
      refine go_I E (run_V E ((k_X4_states l g h_m h_m_moves h_m_lights h_m_prices h_m_shares (Q := fun r => r = c_m_states) rfl) _) (cwV 0 hts gX3_hasLoop_X4_states rfl rfl rfl (by decide +kernel) ⟨Nat.le_of_ble_eq_true rfl, Nat.le_of_ble_eq_true rfl⟩) hP hD hS [0] rfl rfl 0 3 rfl rfl rfl hl rfl rfl (Nat.le_of_ble_eq_true rfl) dX3_hasLoop_4 ⟨Nat.le_of_ble_eq_true rfl, Nat.le_of_ble_eq_true rfl⟩) hP hD hS [0] rfl [(false, 0), (true, 1)] rfl (by decide) (fun _ => (cw_X3_hasLoop g h_m h_m_moves h_m_lights h_m_prices h_m_shares c_m_states c_m_letters c_m_moves)) (fun _ => rfl) (fun r2 _ H locs hr_ hP hD hS => ?_)
      have hr_ : c_m_states = r2 := Eq.symm hr_
      subst hr_
      have hP : va_P g.1 vwCl (cw_X3_hasLoop g h_m h_m_moves h_m_lights h_m_prices h_m_shares c_m_states c_m_letters c_m_moves) H := hP
      have hD : va_D A (cw_X3_hasLoop g h_m h_m_moves h_m_lights h_m_prices h_m_shares c_m_states c_m_letters c_m_moves) := hD
      refine lv_icmp_ge (tgt := 28) hx hb dX3_hasLoop_7 (by decide) (fun cq => ?_) (fun cq => ?_)
      · replace h := h.1 cq
        refine lv_iconst (v := (nI 0)) hx hb dX3_hasLoop_28 (by decide) ?_
        exact hret (nI 0) () _ _ _ _ nbz h hP hD hS dX3_hasLoop_29
      · replace h := h.2 cq
        refine lv_aload_n hx hb dX3_hasLoop_10 rfl (lv_at hl 0 rfl) ?_
        refine lv_iload_n hx hb dX3_hasLoop_11 rfl (lv_at hl 2 rfl) ?_
        refine lv_iload_n hx hb dX3_hasLoop_12 rfl (lv_at hl 1 rfl) ?_
        refine go_I E (run_V E ((k_X4_target l g h_m h_m_moves h_m_lights h_m_prices h_m_shares h) _) (cwV 2 hts gX3_hasLoop_X4_target rfl rfl rfl (by decide +kernel) ⟨Nat.le_of_ble_eq_true rfl, Nat.le_of_ble_eq_true rfl⟩) hP hD hS [0, 1] rfl rfl 0 3 rfl rfl rfl hl rfl rfl (Nat.le_of_ble_eq_true rfl) dX3_hasLoop_13 ⟨Nat.le_of_ble_eq_true rfl, Nat.le_of_ble_eq_true rfl⟩) hP hD hS [0, 1] rfl [(false, 0), (false, 1)] rfl (by decide) (fun _ => (cw_X3_hasLoop g h_m h_m_moves h_m_lights h_m_prices h_m_shares c_m_states c_m_letters c_m_moves)) (fun _ => rfl) (fun r4 _ H locs h hP hD hS => ?_)
        try dsimp only at h
        have hP : va_P g.1 vwCl (cw_X3_hasLoop g h_m h_m_moves h_m_lights h_m_prices h_m_shares c_m_states c_m_letters c_m_moves) H := hP
        have hD : va_D A (cw_X3_hasLoop g h_m h_m_moves h_m_lights h_m_prices h_m_shares c_m_states c_m_letters c_m_moves) := hD
        refine lv_iload_n hx hb dX3_hasLoop_16 rfl (lv_at hl 2 rfl) ?_
        refine lv_icmp_ne (tgt := 22) hx hb dX3_hasLoop_17 (by decide) (fun cq => ?_) (fun cq => ?_)
        · replace h := h.1 cq
          refine lv_iinc (v := (x2 + (nI 1))) (lv' := [(2, .int (x2 + (nI 1))), (0, .ref h_m), (1, .int x1)]) hx hb dX3_hasLoop_22 hl (k := 2) rfl rfl (by decide) rfl (fun ls hl => ?_)
          refine lv_goto (tgt := 2) hx hb dX3_hasLoop_25 (by decide) ?_
          exact ih_2 (x2 + (nI 1)) h _ _ hP hD hS _ (lv_sub hl [1, 2, 0] rfl)
        · replace h := h.2 cq
          refine lv_iconst (v := (nI 1)) hx hb dX3_hasLoop_20 (by decide) ?_
          exact hret (nI 1) () _ _ _ _ nbo h hP hD hS dX3_hasLoop_21
  refine lv_iconst (v := (nI 0)) hx hb dX3_hasLoop_0 (by decide) ?_
  refine lv_istore_n (lv' := [(2, .int (nI 0)), (0, .ref h_m), (1, .int x1)]) hx hb dX3_hasLoop_1 rfl hl (by decide) rfl (fun ls hl => ?_)
  obtain ⟨n, h⟩ := h
  exact K_2 n (nI 0) h _ _ hP hD hS _ (lv_sub hl [1, 2, 0] rfl)
abbrev cw_X3_isInOrder (g : GG) (h_m : Nat) (h_m_moves : Nat) (h_m_lights : Nat) (h_m_prices : Nat) (h_m_shares : Nat) (c_m_states : Int32) (c_m_letters : Int32) (c_m_moves : Nat → Int32) : va_W := [(h_m, .inr (3, [.int c_m_states, .int c_m_letters, .ref h_m_moves, .ref h_m_lights, .ref h_m_prices, .ref h_m_shares])), (h_m_moves, .inl (g.2.1, 48, .inl c_m_moves))]
def L_X3_isInOrder_2 (c_m_states : Int32) (c_m_letters : Int32) (c_m_moves : Nat → Int32) (x1 : Int32) (Q : Int32 → Prop) : Nat → Int32 → Prop
  | 0, _ => False
  | n_2 + 1, x2 =>
    ((c_m_states ≤ x2 → Q (nI 1)) ∧ (¬ c_m_states ≤ x2 → wp_X4_target c_m_states c_m_letters c_m_moves (x2 - (nI 1)) x1 (fun r4 => wp_X4_target c_m_states c_m_letters c_m_moves x2 x1 (fun r6 => ((r4 ≤ r6 → (L_X3_isInOrder_2 c_m_states c_m_letters c_m_moves x1 Q n_2) (x2 + (nI 1))) ∧ (¬ r4 ≤ r6 → Q (nI 0)))))))
def wp_X3_isInOrder (c_m_states : Int32) (c_m_letters : Int32) (c_m_moves : Nat → Int32) (x1 : Int32) (Q : Int32 → Prop) : Prop :=
    ∃ n, L_X3_isInOrder_2 c_m_states c_m_letters c_m_moves x1 Q n (nI 1)
abbrev rm_X3_isInOrder : Room := { frames := 1, cells := 0, slots := 0, locals := 23 }
set_option maxHeartbeats 4000000 in
set_option maxRecDepth 100000 in
theorem k_X3_isInOrder (l : Launch) (g : GG) (h_m : Nat) (h_m_moves : Nat) (h_m_lights : Nat) (h_m_prices : Nat) (h_m_shares : Nat) {c_m_states : Int32} {c_m_letters : Int32} {c_m_moves : Nat → Int32} {x1 : Int32} {Q : Int32 → Prop} (h : wp_X3_isInOrder c_m_states c_m_letters c_m_moves x1 Q) : CI l g yX3_isInOrder wsX3_isInOrder rm_X3_isInOrder [.ref h_m, .int x1] (cw_X3_isInOrder g h_m h_m_moves h_m_lights h_m_prices h_m_shares c_m_states c_m_letters c_m_moves) (S := Unit) (fun _ => (cw_X3_isInOrder g h_m h_m_moves h_m_lights h_m_prices h_m_shares c_m_states c_m_letters c_m_moves)) (fun r _ => Q r) 0 0 := by
  refine mk_I (cc := cX3_isInOrder) (maxL := 3) (own := RX3) (by decide) rfl rfl (Nat.le_of_ble_eq_true rfl) ?_
  intro p e s m args below meth c A QQ E hret hP hD hS ls hl
  have E2 := E
  obtain ⟨hx, hb, hr, hml, hown, hts, hlocks, hA, hZ, hK, hnm⟩ := E2
  have hP : va_P g.1 vwCl (cw_X3_isInOrder g h_m h_m_moves h_m_lights h_m_prices h_m_shares c_m_states c_m_letters c_m_moves) s.heap := hP
  have hD : va_D A (cw_X3_isInOrder g h_m h_m_moves h_m_lights h_m_prices h_m_shares c_m_states c_m_letters c_m_moves) := hD
  have hl : lv_has ls 3 [(0, .ref h_m), (1, .int x1)] := hl
  unfold wp_X3_isInOrder at h
  have K_2 : ∀ (n_2 : Nat) (x2 : Int32) , L_X3_isInOrder_2 c_m_states c_m_letters c_m_moves x1 Q n_2 x2 → ∀ (H : Heap) (locs : List Loc), va_P g.1 vwCl (cw_X3_isInOrder g h_m h_m_moves h_m_lights h_m_prices h_m_shares c_m_states c_m_letters c_m_moves) H → va_D A (cw_X3_isInOrder g h_m h_m_moves h_m_lights h_m_prices h_m_shares c_m_states c_m_letters c_m_moves) → va_S A s.heap H locs → ∀ ls : Array Slot, lv_has ls 3 [(0, .ref h_m), (1, .int x1), (2, .int x2)] → W p l e rm_X3_isInOrder s m args below meth c H locs 0 0 QQ (F0 m 2 ls []) := by
    intro n_2
    induction n_2 with
    | zero => intro x2; exact fun h => False.elim h
    | succ n_2 ih_2 =>
      intro x2 h H locs hP hD hS ls hl
      unfold L_X3_isInOrder_2 at h
      refine lv_iload_n hx hb dX3_isInOrder_2 rfl (lv_at hl 2 rfl) ?_
      refine lv_aload_n hx hb dX3_isInOrder_3 rfl (lv_at hl 0 rfl) ?_
      refine go_I E (run_V E ((k_X4_states l g h_m h_m_moves h_m_lights h_m_prices h_m_shares (Q := fun r => r = c_m_states) rfl) _) (cwV 0 hts gX3_isInOrder_X4_states rfl rfl rfl (by decide +kernel) ⟨Nat.le_of_ble_eq_true rfl, Nat.le_of_ble_eq_true rfl⟩) hP hD hS [0] rfl rfl 0 3 rfl rfl rfl hl rfl rfl (Nat.le_of_ble_eq_true rfl) dX3_isInOrder_4 ⟨Nat.le_of_ble_eq_true rfl, Nat.le_of_ble_eq_true rfl⟩) hP hD hS [0] rfl [(false, 0), (true, 1)] rfl (by decide) (fun _ => (cw_X3_isInOrder g h_m h_m_moves h_m_lights h_m_prices h_m_shares c_m_states c_m_letters c_m_moves)) (fun _ => rfl) (fun r2 _ H locs hr_ hP hD hS => ?_)
      have hr_ : c_m_states = r2 := Eq.symm hr_
      subst hr_
      have hP : va_P g.1 vwCl (cw_X3_isInOrder g h_m h_m_moves h_m_lights h_m_prices h_m_shares c_m_states c_m_letters c_m_moves) H := hP
      have hD : va_D A (cw_X3_isInOrder g h_m h_m_moves h_m_lights h_m_prices h_m_shares c_m_states c_m_letters c_m_moves) := hD
      refine lv_icmp_ge (tgt := 35) hx hb dX3_isInOrder_7 (by decide) (fun cq => ?_) (fun cq => ?_)
      · replace h := h.1 cq
        refine lv_iconst (v := (nI 1)) hx hb dX3_isInOrder_35 (by decide) ?_
        exact hret (nI 1) () _ _ _ _ nbo h hP hD hS dX3_isInOrder_36
      · replace h := h.2 cq
        refine lv_aload_n hx hb dX3_isInOrder_10 rfl (lv_at hl 0 rfl) ?_
        refine lv_iload_n hx hb dX3_isInOrder_11 rfl (lv_at hl 2 rfl) ?_
        refine lv_iconst (v := (nI 1)) hx hb dX3_isInOrder_12 (by decide) ?_
        refine lv_isub hx hb dX3_isInOrder_13 ?_
        refine lv_iload_n hx hb dX3_isInOrder_14 rfl (lv_at hl 1 rfl) ?_
        refine go_I E (run_V E ((k_X4_target l g h_m h_m_moves h_m_lights h_m_prices h_m_shares h) _) (cwV 2 hts gX3_isInOrder_X4_target rfl rfl rfl (by decide +kernel) ⟨Nat.le_of_ble_eq_true rfl, Nat.le_of_ble_eq_true rfl⟩) hP hD hS [0, 1] rfl rfl 0 3 rfl rfl rfl hl rfl rfl (Nat.le_of_ble_eq_true rfl) dX3_isInOrder_15 ⟨Nat.le_of_ble_eq_true rfl, Nat.le_of_ble_eq_true rfl⟩) hP hD hS [0, 1] rfl [(false, 0), (false, 1)] rfl (by decide) (fun _ => (cw_X3_isInOrder g h_m h_m_moves h_m_lights h_m_prices h_m_shares c_m_states c_m_letters c_m_moves)) (fun _ => rfl) (fun r4 _ H locs h hP hD hS => ?_)
        try dsimp only at h
        have hP : va_P g.1 vwCl (cw_X3_isInOrder g h_m h_m_moves h_m_lights h_m_prices h_m_shares c_m_states c_m_letters c_m_moves) H := hP
        have hD : va_D A (cw_X3_isInOrder g h_m h_m_moves h_m_lights h_m_prices h_m_shares c_m_states c_m_letters c_m_moves) := hD
        refine lv_aload_n hx hb dX3_isInOrder_18 rfl (lv_at hl 0 rfl) ?_
        refine lv_iload_n hx hb dX3_isInOrder_19 rfl (lv_at hl 2 rfl) ?_
        refine lv_iload_n hx hb dX3_isInOrder_20 rfl (lv_at hl 1 rfl) ?_
        refine go_I E (run_V E ((k_X4_target l g h_m h_m_moves h_m_lights h_m_prices h_m_shares h) _) (cwV 2 hts gX3_isInOrder_X4_target rfl rfl rfl (by decide +kernel) ⟨Nat.le_of_ble_eq_true rfl, Nat.le_of_ble_eq_true rfl⟩) hP hD hS [0, 1] rfl rfl 0 3 rfl rfl rfl hl rfl rfl (Nat.le_of_ble_eq_true rfl) dX3_isInOrder_21 ⟨Nat.le_of_ble_eq_true rfl, Nat.le_of_ble_eq_true rfl⟩) hP hD hS [0, 1] rfl [(false, 0), (false, 1)] rfl (by decide) (fun _ => (cw_X3_isInOrder g h_m h_m_moves h_m_lights h_m_prices h_m_shares c_m_states c_m_letters c_m_moves)) (fun _ => rfl) (fun r6 _ H locs h hP hD hS => ?_)
        try dsimp only at h
        have hP : va_P g.1 vwCl (cw_X3_isInOrder g h_m h_m_moves h_m_lights h_m_prices h_m_shares c_m_states c_m_letters c_m_moves) H := hP
        have hD : va_D A (cw_X3_isInOrder g h_m h_m_moves h_m_lights h_m_prices h_m_shares c_m_states c_m_letters c_m_moves) := hD
        refine lv_icmp_le (tgt := 29) hx hb dX3_isInOrder_24 (by decide) (fun cq => ?_) (fun cq => ?_)
        · replace h := h.1 cq
          refine lv_iinc (v := (x2 + (nI 1))) (lv' := [(2, .int (x2 + (nI 1))), (0, .ref h_m), (1, .int x1)]) hx hb dX3_isInOrder_29 hl (k := 2) rfl rfl (by decide) rfl (fun ls hl => ?_)
          refine lv_goto (tgt := 2) hx hb dX3_isInOrder_32 (by decide) ?_
          exact ih_2 (x2 + (nI 1)) h _ _ hP hD hS _ (lv_sub hl [1, 2, 0] rfl)
        · replace h := h.2 cq
          refine lv_iconst (v := (nI 0)) hx hb dX3_isInOrder_27 (by decide) ?_
          exact hret (nI 0) () _ _ _ _ nbz h hP hD hS dX3_isInOrder_28
  refine lv_iconst (v := (nI 1)) hx hb dX3_isInOrder_0 (by decide) ?_
  refine lv_istore_n (lv' := [(2, .int (nI 1)), (0, .ref h_m), (1, .int x1)]) hx hb dX3_isInOrder_1 rfl hl (by decide) rfl (fun ls hl => ?_)
  obtain ⟨n, h⟩ := h
  exact K_2 n (nI 1) h _ _ hP hD hS _ (lv_sub hl [1, 2, 0] rfl)
abbrev cw_X3_isSwap (g : GG) (h_m : Nat) (h_m_moves : Nat) (h_m_lights : Nat) (h_m_prices : Nat) (h_m_shares : Nat) (c_m_states : Int32) (c_m_letters : Int32) (c_m_moves : Nat → Int32) : va_W := [(h_m, .inr (3, [.int c_m_states, .int c_m_letters, .ref h_m_moves, .ref h_m_lights, .ref h_m_prices, .ref h_m_shares])), (h_m_moves, .inl (g.2.1, 48, .inl c_m_moves))]
def J_X3_isSwap_29 (c_m_states : Int32) (Q : Int32 → Prop) (x2 : Int32) : Prop :=
    wp_J6_bitCount_0f7a4 x2 (fun r4 => ((¬ r4 = c_m_states → Q (nI 0)) ∧ (r4 = c_m_states → Q (nI 1))))
def L_X3_isSwap_4 (c_m_states : Int32) (c_m_letters : Int32) (c_m_moves : Nat → Int32) (x1 : Int32) (Q : Int32 → Prop) : Nat → Int32 → Int32 → Prop
  | 0, _, _ => False
  | n_4 + 1, x2, x3 =>
    ((c_m_states ≤ x3 → J_X3_isSwap_29 c_m_states Q x2) ∧ (¬ c_m_states ≤ x3 → wp_X4_target c_m_states c_m_letters c_m_moves x3 x1 (fun r8 => (L_X3_isSwap_4 c_m_states c_m_letters c_m_moves x1 Q n_4) (x2 ||| ((nI 1) <<< (r8 &&& 31))) (x3 + (nI 1)))))
def wp_X3_isSwap (c_m_states : Int32) (c_m_letters : Int32) (c_m_moves : Nat → Int32) (x1 : Int32) (Q : Int32 → Prop) : Prop :=
    ∃ n, L_X3_isSwap_4 c_m_states c_m_letters c_m_moves x1 Q n (nI 0) (nI 0)
abbrev rm_X3_isSwap : Room := { frames := 1, cells := 0, slots := 0, locals := 23 }
set_option maxHeartbeats 4000000 in
set_option maxRecDepth 100000 in
theorem k_X3_isSwap (l : Launch) (g : GG) (h_m : Nat) (h_m_moves : Nat) (h_m_lights : Nat) (h_m_prices : Nat) (h_m_shares : Nat) {c_m_states : Int32} {c_m_letters : Int32} {c_m_moves : Nat → Int32} {x1 : Int32} {Q : Int32 → Prop} (h : wp_X3_isSwap c_m_states c_m_letters c_m_moves x1 Q) : CI l g yX3_isSwap wsX3_isSwap rm_X3_isSwap [.ref h_m, .int x1] (cw_X3_isSwap g h_m h_m_moves h_m_lights h_m_prices h_m_shares c_m_states c_m_letters c_m_moves) (S := Unit) (fun _ => (cw_X3_isSwap g h_m h_m_moves h_m_lights h_m_prices h_m_shares c_m_states c_m_letters c_m_moves)) (fun r _ => Q r) 0 0 := by
  refine mk_I (cc := cX3_isSwap) (maxL := 4) (own := RX3) (by decide) rfl rfl (Nat.le_of_ble_eq_true rfl) ?_
  intro p e s m args below meth c A QQ E hret hP hD hS ls hl
  have E2 := E
  obtain ⟨hx, hb, hr, hml, hown, hts, hlocks, hA, hZ, hK, hnm⟩ := E2
  have hP : va_P g.1 vwCl (cw_X3_isSwap g h_m h_m_moves h_m_lights h_m_prices h_m_shares c_m_states c_m_letters c_m_moves) s.heap := hP
  have hD : va_D A (cw_X3_isSwap g h_m h_m_moves h_m_lights h_m_prices h_m_shares c_m_states c_m_letters c_m_moves) := hD
  have hl : lv_has ls 4 [(0, .ref h_m), (1, .int x1)] := hl
  unfold wp_X3_isSwap at h
  have K_29 : ∀ (x2 : Int32) , J_X3_isSwap_29 c_m_states Q x2 → ∀ (H : Heap) (locs : List Loc), va_P g.1 vwCl (cw_X3_isSwap g h_m h_m_moves h_m_lights h_m_prices h_m_shares c_m_states c_m_letters c_m_moves) H → va_D A (cw_X3_isSwap g h_m h_m_moves h_m_lights h_m_prices h_m_shares c_m_states c_m_letters c_m_moves) → va_S A s.heap H locs → ∀ ls : Array Slot, lv_has ls 4 [(0, .ref h_m), (2, .int x2)] → W p l e rm_X3_isSwap s m args below meth c H locs 0 0 QQ (F0 m 29 ls []) := by
    intro x2 h H locs hP hD hS ls hl
    unfold J_X3_isSwap_29 at h
    refine lv_iload_n hx hb dX3_isSwap_29 rfl (lv_at hl 1 rfl) ?_
    refine go_I E (run_S E ((k_J6_bitCount_0f7a4 l g  h) _) (va_cwS 1 hts gX3_isSwap_J6_bitCount_0f7a4 rfl rfl rfl (by decide +kernel) ⟨Nat.le_of_ble_eq_true rfl, Nat.le_of_ble_eq_true rfl⟩) hP hD hS [] rfl rfl hl rfl rfl (Nat.le_of_ble_eq_true rfl) dX3_isSwap_30 ⟨Nat.le_of_ble_eq_true rfl, Nat.le_of_ble_eq_true rfl⟩) hP hD hS [] rfl [(true, 0), (true, 1)] rfl (by decide) (fun _ => (cw_X3_isSwap g h_m h_m_moves h_m_lights h_m_prices h_m_shares c_m_states c_m_letters c_m_moves)) (fun _ => rfl) (fun r4 _ H locs h hP hD hS => ?_)
    try dsimp only at h
    have hP : va_P g.1 vwCl (cw_X3_isSwap g h_m h_m_moves h_m_lights h_m_prices h_m_shares c_m_states c_m_letters c_m_moves) H := hP
    have hD : va_D A (cw_X3_isSwap g h_m h_m_moves h_m_lights h_m_prices h_m_shares c_m_states c_m_letters c_m_moves) := hD
    refine lv_aload_n hx hb dX3_isSwap_33 rfl (lv_at hl 0 rfl) ?_
    refine go_I E (run_V E ((k_X4_states l g h_m h_m_moves h_m_lights h_m_prices h_m_shares (Q := fun r => r = c_m_states) rfl) _) (cwV 0 hts gX3_isSwap_X4_states rfl rfl rfl (by decide +kernel) ⟨Nat.le_of_ble_eq_true rfl, Nat.le_of_ble_eq_true rfl⟩) hP hD hS [0] rfl rfl 0 3 rfl rfl rfl hl rfl rfl (Nat.le_of_ble_eq_true rfl) dX3_isSwap_34 ⟨Nat.le_of_ble_eq_true rfl, Nat.le_of_ble_eq_true rfl⟩) hP hD hS [0] rfl [(false, 0), (true, 1)] rfl (by decide) (fun _ => (cw_X3_isSwap g h_m h_m_moves h_m_lights h_m_prices h_m_shares c_m_states c_m_letters c_m_moves)) (fun _ => rfl) (fun r6 _ H locs hr_ hP hD hS => ?_)
    have hr_ : c_m_states = r6 := Eq.symm hr_
    subst hr_
    have hP : va_P g.1 vwCl (cw_X3_isSwap g h_m h_m_moves h_m_lights h_m_prices h_m_shares c_m_states c_m_letters c_m_moves) H := hP
    have hD : va_D A (cw_X3_isSwap g h_m h_m_moves h_m_lights h_m_prices h_m_shares c_m_states c_m_letters c_m_moves) := hD
    refine lv_icmp_ne (tgt := 44) hx hb dX3_isSwap_37 (by decide) (fun cq => ?_) (fun cq => ?_)
    · replace h := h.1 cq
      refine lv_iconst (v := (nI 0)) hx hb dX3_isSwap_44 (by decide) ?_
      exact hret (nI 0) () _ _ _ _ nbz h hP hD hS dX3_isSwap_45
    · replace h := h.2 cq
      refine lv_iconst (v := (nI 1)) hx hb dX3_isSwap_40 (by decide) ?_
      refine lv_goto (tgt := 45) hx hb dX3_isSwap_41 (by decide) ?_
      exact hret (nI 1) () _ _ _ _ nbo h hP hD hS dX3_isSwap_45
  have K_4 : ∀ (n_4 : Nat) (x2 : Int32) (x3 : Int32) , L_X3_isSwap_4 c_m_states c_m_letters c_m_moves x1 Q n_4 x2 x3 → ∀ (H : Heap) (locs : List Loc), va_P g.1 vwCl (cw_X3_isSwap g h_m h_m_moves h_m_lights h_m_prices h_m_shares c_m_states c_m_letters c_m_moves) H → va_D A (cw_X3_isSwap g h_m h_m_moves h_m_lights h_m_prices h_m_shares c_m_states c_m_letters c_m_moves) → va_S A s.heap H locs → ∀ ls : Array Slot, lv_has ls 4 [(0, .ref h_m), (1, .int x1), (2, .int x2), (3, .int x3)] → W p l e rm_X3_isSwap s m args below meth c H locs 0 0 QQ (F0 m 4 ls []) := by
    intro n_4
    induction n_4 with
    | zero => intro x2 x3; exact fun h => False.elim h
    | succ n_4 ih_4 =>
      intro x2 x3 h H locs hP hD hS ls hl
      unfold L_X3_isSwap_4 at h
      refine lv_iload_n hx hb dX3_isSwap_4 rfl (lv_at hl 3 rfl) ?_
      refine lv_aload_n hx hb dX3_isSwap_5 rfl (lv_at hl 0 rfl) ?_
      refine go_I E (run_V E ((k_X4_states l g h_m h_m_moves h_m_lights h_m_prices h_m_shares (Q := fun r => r = c_m_states) rfl) _) (cwV 0 hts gX3_isSwap_X4_states rfl rfl rfl (by decide +kernel) ⟨Nat.le_of_ble_eq_true rfl, Nat.le_of_ble_eq_true rfl⟩) hP hD hS [0] rfl rfl 0 3 rfl rfl rfl hl rfl rfl (Nat.le_of_ble_eq_true rfl) dX3_isSwap_6 ⟨Nat.le_of_ble_eq_true rfl, Nat.le_of_ble_eq_true rfl⟩) hP hD hS [0] rfl [(false, 0), (true, 1)] rfl (by decide) (fun _ => (cw_X3_isSwap g h_m h_m_moves h_m_lights h_m_prices h_m_shares c_m_states c_m_letters c_m_moves)) (fun _ => rfl) (fun r2 _ H locs hr_ hP hD hS => ?_)
      have hr_ : c_m_states = r2 := Eq.symm hr_
      subst hr_
      have hP : va_P g.1 vwCl (cw_X3_isSwap g h_m h_m_moves h_m_lights h_m_prices h_m_shares c_m_states c_m_letters c_m_moves) H := hP
      have hD : va_D A (cw_X3_isSwap g h_m h_m_moves h_m_lights h_m_prices h_m_shares c_m_states c_m_letters c_m_moves) := hD
      refine lv_icmp_ge (tgt := 29) hx hb dX3_isSwap_9 (by decide) (fun cq => ?_) (fun cq => ?_)
      · replace h := h.1 cq
        exact K_29 x2 h _ _ hP hD hS _ (lv_sub hl [0, 2] rfl)
      · replace h := h.2 cq
        refine lv_iload_n hx hb dX3_isSwap_12 rfl (lv_at hl 2 rfl) ?_
        refine lv_iconst (v := (nI 1)) hx hb dX3_isSwap_13 (by decide) ?_
        refine lv_aload_n hx hb dX3_isSwap_14 rfl (lv_at hl 0 rfl) ?_
        refine lv_iload_n hx hb dX3_isSwap_15 rfl (lv_at hl 3 rfl) ?_
        refine lv_iload_n hx hb dX3_isSwap_16 rfl (lv_at hl 1 rfl) ?_
        refine go_I E (run_V E ((k_X4_target l g h_m h_m_moves h_m_lights h_m_prices h_m_shares h) _) (cwV 2 hts gX3_isSwap_X4_target rfl rfl rfl (by decide +kernel) ⟨Nat.le_of_ble_eq_true rfl, Nat.le_of_ble_eq_true rfl⟩) hP hD hS [0, 1] rfl rfl 0 3 rfl rfl rfl hl rfl rfl (Nat.le_of_ble_eq_true rfl) dX3_isSwap_17 ⟨Nat.le_of_ble_eq_true rfl, Nat.le_of_ble_eq_true rfl⟩) hP hD hS [0, 1] rfl [(false, 0), (false, 1)] rfl (by decide) (fun _ => (cw_X3_isSwap g h_m h_m_moves h_m_lights h_m_prices h_m_shares c_m_states c_m_letters c_m_moves)) (fun _ => rfl) (fun r8 _ H locs h hP hD hS => ?_)
        try dsimp only at h
        have hP : va_P g.1 vwCl (cw_X3_isSwap g h_m h_m_moves h_m_lights h_m_prices h_m_shares c_m_states c_m_letters c_m_moves) H := hP
        have hD : va_D A (cw_X3_isSwap g h_m h_m_moves h_m_lights h_m_prices h_m_shares c_m_states c_m_letters c_m_moves) := hD
        refine lv_ishl hx hb dX3_isSwap_20 ?_
        refine lv_ior hx hb dX3_isSwap_21 ?_
        refine lv_istore_n (lv' := [(2, .int (x2 ||| ((nI 1) <<< (r8 &&& 31)))), (0, .ref h_m), (1, .int x1), (3, .int x3)]) hx hb dX3_isSwap_22 rfl hl (by decide) rfl (fun ls hl => ?_)
        refine lv_iinc (v := (x3 + (nI 1))) (lv' := [(3, .int (x3 + (nI 1))), (2, .int (x2 ||| ((nI 1) <<< (r8 &&& 31)))), (0, .ref h_m), (1, .int x1)]) hx hb dX3_isSwap_23 hl (k := 3) rfl rfl (by decide) rfl (fun ls hl => ?_)
        refine lv_goto (tgt := 4) hx hb dX3_isSwap_26 (by decide) ?_
        exact ih_4 (x2 ||| ((nI 1) <<< (r8 &&& 31))) (x3 + (nI 1)) h _ _ hP hD hS _ (lv_sub hl [2, 3, 1, 0] rfl)
  refine lv_iconst (v := (nI 0)) hx hb dX3_isSwap_0 (by decide) ?_
  refine lv_istore_n (lv' := [(2, .int (nI 0)), (0, .ref h_m), (1, .int x1)]) hx hb dX3_isSwap_1 rfl hl (by decide) rfl (fun ls hl => ?_)
  refine lv_iconst (v := (nI 0)) hx hb dX3_isSwap_2 (by decide) ?_
  refine lv_istore_n (lv' := [(3, .int (nI 0)), (2, .int (nI 0)), (0, .ref h_m), (1, .int x1)]) hx hb dX3_isSwap_3 rfl hl (by decide) rfl (fun ls hl => ?_)
  obtain ⟨n, h⟩ := h
  exact K_4 n (nI 0) (nI 0) h _ _ hP hD hS _ (lv_sub hl [2, 3, 1, 0] rfl)
abbrev cw_X3_of (g : GG) (h_m : Nat) (h_m_moves : Nat) (h_m_lights : Nat) (h_m_prices : Nat) (h_m_shares : Nat) (c_m_states : Int32) (c_m_letters : Int32) (c_m_moves : Nat → Int32) : va_W := [(h_m, .inr (3, [.int c_m_states, .int c_m_letters, .ref h_m_moves, .ref h_m_lights, .ref h_m_prices, .ref h_m_shares])), (h_m_moves, .inl (g.2.1, 48, .inl c_m_moves))]
def J_X3_of_109 (Q : Int32 → Prop) (t0 : Int32) (t1 : Int32) : Prop :=
    Q (t1 ||| t0)
def J_X3_of_98 (Q : Int32 → Prop) (x3 : Int32) (t0 : Int32) (t1 : Int32) : Prop :=
    ((x3 = (nI 0) → J_X3_of_109 Q (nI 0) (t1 ||| t0)) ∧ (¬ x3 = (nI 0) → J_X3_of_109 Q (nI 8) (t1 ||| t0)))
def J_X3_of_88 (Q : Int32 → Prop) (x1 : Int32) (x2 : Int32) (x3 : Int32) : Prop :=
    ((x2 = (nI 0) → J_X3_of_98 Q x3 (nI 0) x1) ∧ (¬ x2 = (nI 0) → J_X3_of_98 Q x3 (nI 4) x1))
def J_X3_of_62 (c_m_states : Int32) (c_m_letters : Int32) (c_m_moves : Nat → Int32) (R_20 : Int32 → Int32 → Int32 → Int32 → Prop) (x2 : Int32) (x3 : Int32) (x4 : Int32) (t0 : Int32) (t1 : Int32) : Prop :=
    wp_X3_isInOrder c_m_states c_m_letters c_m_moves x4 (fun r10 => wp_X3_isSwap c_m_states c_m_letters c_m_moves x4 (fun r12 => R_20 (t1 ||| t0) (x2 &&& r10) (x3 &&& r12) (x4 + (nI 1))))
def J_X3_of_44 (c_m_states : Int32) (c_m_letters : Int32) (c_m_moves : Nat → Int32) (R_20 : Int32 → Int32 → Int32 → Int32 → Prop) (x2 : Int32) (x3 : Int32) (x4 : Int32) (t0 : Int32) (t1 : Int32) : Prop :=
    wp_X3_hasLoop c_m_states c_m_letters c_m_moves x4 (fun r8 => ((r8 = (nI 0) → J_X3_of_62 c_m_states c_m_letters c_m_moves R_20 x2 x3 x4 (nI 0) (t1 ||| t0)) ∧ (¬ r8 = (nI 0) → J_X3_of_62 c_m_states c_m_letters c_m_moves R_20 x2 x3 x4 (nI 16) (t1 ||| t0))))
def L_X3_of_20 (c_m_states : Int32) (c_m_letters : Int32) (c_m_moves : Nat → Int32) (Q : Int32 → Prop) : Nat → Int32 → Int32 → Int32 → Int32 → Prop
  | 0, _, _, _, _ => False
  | n_20 + 1, x1, x2, x3, x4 =>
    ((c_m_letters ≤ x4 → J_X3_of_88 Q x1 x2 x3) ∧ (¬ c_m_letters ≤ x4 → wp_X3_isRound c_m_states c_m_letters c_m_moves x4 (fun r6 => ((r6 = (nI 0) → J_X3_of_44 c_m_states c_m_letters c_m_moves (L_X3_of_20 c_m_states c_m_letters c_m_moves Q n_20) x2 x3 x4 (nI 0) x1) ∧ (¬ r6 = (nI 0) → J_X3_of_44 c_m_states c_m_letters c_m_moves (L_X3_of_20 c_m_states c_m_letters c_m_moves Q n_20) x2 x3 x4 (nI 1) x1)))))
def J_X3_of_12 (c_m_states : Int32) (c_m_letters : Int32) (c_m_moves : Nat → Int32) (Q : Int32 → Prop) (t0 : Int32) : Prop :=
    ∃ n, L_X3_of_20 c_m_states c_m_letters c_m_moves Q n t0 (nI 1) (nI 1) (nI 0)
def wp_X3_of (c_m_states : Int32) (c_m_letters : Int32) (c_m_moves : Nat → Int32) (Q : Int32 → Prop) : Prop :=
    wp_X3_hasSink c_m_states c_m_letters c_m_moves (fun r2 => ((r2 = (nI 0) → J_X3_of_12 c_m_states c_m_letters c_m_moves Q (nI 0)) ∧ (¬ r2 = (nI 0) → J_X3_of_12 c_m_states c_m_letters c_m_moves Q (nI 2))))
abbrev rm_X3_of : Room := { frames := 3, cells := 0, slots := 0, locals := 69 }
set_option maxHeartbeats 4000000 in
set_option maxRecDepth 100000 in
theorem k_X3_of (l : Launch) (g : GG) (h_m : Nat) (h_m_moves : Nat) (h_m_lights : Nat) (h_m_prices : Nat) (h_m_shares : Nat) {c_m_states : Int32} {c_m_letters : Int32} {c_m_moves : Nat → Int32} {Q : Int32 → Prop} (h : wp_X3_of c_m_states c_m_letters c_m_moves Q) : CI l g yX3_of wsX3_of rm_X3_of [.ref h_m] (cw_X3_of g h_m h_m_moves h_m_lights h_m_prices h_m_shares c_m_states c_m_letters c_m_moves) (S := Unit) (fun _ => (cw_X3_of g h_m h_m_moves h_m_lights h_m_prices h_m_shares c_m_states c_m_letters c_m_moves)) (fun r _ => Q r) 0 0 := by
  refine mk_I (cc := cX3_of) (maxL := 5) (own := RX3) (by decide) rfl rfl (Nat.le_of_ble_eq_true rfl) ?_
  intro p e s m args below meth c A QQ E hret hP hD hS ls hl
  have E2 := E
  obtain ⟨hx, hb, hr, hml, hown, hts, hlocks, hA, hZ, hK, hnm⟩ := E2
  have hP : va_P g.1 vwCl (cw_X3_of g h_m h_m_moves h_m_lights h_m_prices h_m_shares c_m_states c_m_letters c_m_moves) s.heap := hP
  have hD : va_D A (cw_X3_of g h_m h_m_moves h_m_lights h_m_prices h_m_shares c_m_states c_m_letters c_m_moves) := hD
  have hl : lv_has ls 5 [(0, .ref h_m)] := hl
  unfold wp_X3_of at h
  have K_109 : ∀ (t0 : Int32) (t1 : Int32) , J_X3_of_109 Q t0 t1 → ∀ (H : Heap) (locs : List Loc), va_P g.1 vwCl (cw_X3_of g h_m h_m_moves h_m_lights h_m_prices h_m_shares c_m_states c_m_letters c_m_moves) H → va_D A (cw_X3_of g h_m h_m_moves h_m_lights h_m_prices h_m_shares c_m_states c_m_letters c_m_moves) → va_S A s.heap H locs → ∀ ls : Array Slot, lv_has ls 5 [] → W p l e rm_X3_of s m args below meth c H locs 0 0 QQ (F0 m 109 ls [.int t0, .int t1]) := by
    intro t0 t1 h H locs hP hD hS ls hl
    unfold J_X3_of_109 at h
    refine lv_ior hx hb dX3_of_109 ?_
    exact hret (t1 ||| t0) () _ _ _ _ rfl h hP hD hS dX3_of_110
  have K_98 : ∀ (x3 : Int32) (t0 : Int32) (t1 : Int32) , J_X3_of_98 Q x3 t0 t1 → ∀ (H : Heap) (locs : List Loc), va_P g.1 vwCl (cw_X3_of g h_m h_m_moves h_m_lights h_m_prices h_m_shares c_m_states c_m_letters c_m_moves) H → va_D A (cw_X3_of g h_m h_m_moves h_m_lights h_m_prices h_m_shares c_m_states c_m_letters c_m_moves) → va_S A s.heap H locs → ∀ ls : Array Slot, lv_has ls 5 [(3, .int x3)] → W p l e rm_X3_of s m args below meth c H locs 0 0 QQ (F0 m 98 ls [.int t0, .int t1]) := by
    intro x3 t0 t1 h H locs hP hD hS ls hl
    unfold J_X3_of_98 at h
    refine lv_ior hx hb dX3_of_98 ?_
    refine lv_iload_n hx hb dX3_of_99 rfl (lv_at hl 0 rfl) ?_
    refine lv_if_eq (tgt := 108) hx hb dX3_of_100 (by decide) (fun cq => ?_) (fun cq => ?_)
    · replace h := h.1 cq
      refine lv_iconst (v := (nI 0)) hx hb dX3_of_108 (by decide) ?_
      exact K_109 (nI 0) (t1 ||| t0) h _ _ hP hD hS _ (lv_sub hl [] rfl)
    · replace h := h.2 cq
      refine lv_bipush (v := (nI 8)) hx hb dX3_of_103 (by decide) ?_
      refine lv_goto (tgt := 109) hx hb dX3_of_105 (by decide) ?_
      exact K_109 (nI 8) (t1 ||| t0) h _ _ hP hD hS _ (lv_sub hl [] rfl)
  have K_88 : ∀ (x1 : Int32) (x2 : Int32) (x3 : Int32) , J_X3_of_88 Q x1 x2 x3 → ∀ (H : Heap) (locs : List Loc), va_P g.1 vwCl (cw_X3_of g h_m h_m_moves h_m_lights h_m_prices h_m_shares c_m_states c_m_letters c_m_moves) H → va_D A (cw_X3_of g h_m h_m_moves h_m_lights h_m_prices h_m_shares c_m_states c_m_letters c_m_moves) → va_S A s.heap H locs → ∀ ls : Array Slot, lv_has ls 5 [(1, .int x1), (2, .int x2), (3, .int x3)] → W p l e rm_X3_of s m args below meth c H locs 0 0 QQ (F0 m 88 ls []) := by
    intro x1 x2 x3 h H locs hP hD hS ls hl
    unfold J_X3_of_88 at h
    refine lv_iload_n hx hb dX3_of_88 rfl (lv_at hl 0 rfl) ?_
    refine lv_iload_n hx hb dX3_of_89 rfl (lv_at hl 1 rfl) ?_
    refine lv_if_eq (tgt := 97) hx hb dX3_of_90 (by decide) (fun cq => ?_) (fun cq => ?_)
    · replace h := h.1 cq
      refine lv_iconst (v := (nI 0)) hx hb dX3_of_97 (by decide) ?_
      exact K_98 x3 (nI 0) x1 h _ _ hP hD hS _ (lv_sub hl [2] rfl)
    · replace h := h.2 cq
      refine lv_iconst (v := (nI 4)) hx hb dX3_of_93 (by decide) ?_
      refine lv_goto (tgt := 98) hx hb dX3_of_94 (by decide) ?_
      exact K_98 x3 (nI 4) x1 h _ _ hP hD hS _ (lv_sub hl [2] rfl)
  have K_20 : ∀ (n_20 : Nat) (x1 : Int32) (x2 : Int32) (x3 : Int32) (x4 : Int32) , L_X3_of_20 c_m_states c_m_letters c_m_moves Q n_20 x1 x2 x3 x4 → ∀ (H : Heap) (locs : List Loc), va_P g.1 vwCl (cw_X3_of g h_m h_m_moves h_m_lights h_m_prices h_m_shares c_m_states c_m_letters c_m_moves) H → va_D A (cw_X3_of g h_m h_m_moves h_m_lights h_m_prices h_m_shares c_m_states c_m_letters c_m_moves) → va_S A s.heap H locs → ∀ ls : Array Slot, lv_has ls 5 [(0, .ref h_m), (1, .int x1), (2, .int x2), (3, .int x3), (4, .int x4)] → W p l e rm_X3_of s m args below meth c H locs 0 0 QQ (F0 m 20 ls []) := by
    intro n_20
    induction n_20 with
    | zero => intro x1 x2 x3 x4; exact fun h => False.elim h
    | succ n_20 ih_20 =>
      intro x1 x2 x3 x4 h H locs hP hD hS ls hl
      unfold L_X3_of_20 at h
      have K_62 : ∀ (x2 : Int32) (x3 : Int32) (x4 : Int32) (t0 : Int32) (t1 : Int32) , J_X3_of_62 c_m_states c_m_letters c_m_moves (L_X3_of_20 c_m_states c_m_letters c_m_moves Q n_20) x2 x3 x4 t0 t1 → ∀ (H : Heap) (locs : List Loc), va_P g.1 vwCl (cw_X3_of g h_m h_m_moves h_m_lights h_m_prices h_m_shares c_m_states c_m_letters c_m_moves) H → va_D A (cw_X3_of g h_m h_m_moves h_m_lights h_m_prices h_m_shares c_m_states c_m_letters c_m_moves) → va_S A s.heap H locs → ∀ ls : Array Slot, lv_has ls 5 [(0, .ref h_m), (2, .int x2), (3, .int x3), (4, .int x4)] → W p l e rm_X3_of s m args below meth c H locs 0 0 QQ (F0 m 62 ls [.int t0, .int t1]) := by
        intro x2 x3 x4 t0 t1 h H locs hP hD hS ls hl
        unfold J_X3_of_62 at h
        refine lv_ior hx hb dX3_of_62 ?_
        refine lv_istore_n (lv' := [(1, .int (t1 ||| t0)), (0, .ref h_m), (2, .int x2), (3, .int x3), (4, .int x4)]) hx hb dX3_of_63 rfl hl (by decide) rfl (fun ls hl => ?_)
        refine lv_iload_n hx hb dX3_of_64 rfl (lv_at hl 2 rfl) ?_
        refine lv_aload_n hx hb dX3_of_65 rfl (lv_at hl 1 rfl) ?_
        refine lv_iload hx hb dX3_of_66 (lv_at hl 4 rfl) ?_
        refine go_I E (run_S E ((k_X3_isInOrder l g h_m h_m_moves h_m_lights h_m_prices h_m_shares h) _) (va_cwS 2 hts gX3_of_X3_isInOrder rfl rfl rfl (by decide +kernel) ⟨Nat.le_of_ble_eq_true rfl, Nat.le_of_ble_eq_true rfl⟩) hP hD hS [0, 1] rfl rfl hl rfl rfl (Nat.le_of_ble_eq_true rfl) dX3_of_68 ⟨Nat.le_of_ble_eq_true rfl, Nat.le_of_ble_eq_true rfl⟩) hP hD hS [0, 1] rfl [(false, 0), (false, 1)] rfl (by decide) (fun _ => (cw_X3_of g h_m h_m_moves h_m_lights h_m_prices h_m_shares c_m_states c_m_letters c_m_moves)) (fun _ => rfl) (fun r10 _ H locs h hP hD hS => ?_)
        try dsimp only at h
        have hP : va_P g.1 vwCl (cw_X3_of g h_m h_m_moves h_m_lights h_m_prices h_m_shares c_m_states c_m_letters c_m_moves) H := hP
        have hD : va_D A (cw_X3_of g h_m h_m_moves h_m_lights h_m_prices h_m_shares c_m_states c_m_letters c_m_moves) := hD
        refine lv_iand hx hb dX3_of_71 ?_
        refine lv_istore_n (lv' := [(2, .int (x2 &&& r10)), (1, .int (t1 ||| t0)), (0, .ref h_m), (3, .int x3), (4, .int x4)]) hx hb dX3_of_72 rfl hl (by decide) rfl (fun ls hl => ?_)
        refine lv_iload_n hx hb dX3_of_73 rfl (lv_at hl 3 rfl) ?_
        refine lv_aload_n hx hb dX3_of_74 rfl (lv_at hl 2 rfl) ?_
        refine lv_iload hx hb dX3_of_75 (lv_at hl 4 rfl) ?_
        refine go_I E (run_S E ((k_X3_isSwap l g h_m h_m_moves h_m_lights h_m_prices h_m_shares h) _) (va_cwS 2 hts gX3_of_X3_isSwap rfl rfl rfl (by decide +kernel) ⟨Nat.le_of_ble_eq_true rfl, Nat.le_of_ble_eq_true rfl⟩) hP hD hS [0, 1] rfl rfl hl rfl rfl (Nat.le_of_ble_eq_true rfl) dX3_of_77 ⟨Nat.le_of_ble_eq_true rfl, Nat.le_of_ble_eq_true rfl⟩) hP hD hS [0, 1] rfl [(false, 0), (false, 1)] rfl (by decide) (fun _ => (cw_X3_of g h_m h_m_moves h_m_lights h_m_prices h_m_shares c_m_states c_m_letters c_m_moves)) (fun _ => rfl) (fun r12 _ H locs h hP hD hS => ?_)
        try dsimp only at h
        have hP : va_P g.1 vwCl (cw_X3_of g h_m h_m_moves h_m_lights h_m_prices h_m_shares c_m_states c_m_letters c_m_moves) H := hP
        have hD : va_D A (cw_X3_of g h_m h_m_moves h_m_lights h_m_prices h_m_shares c_m_states c_m_letters c_m_moves) := hD
        refine lv_iand hx hb dX3_of_80 ?_
        refine lv_istore_n (lv' := [(3, .int (x3 &&& r12)), (2, .int (x2 &&& r10)), (1, .int (t1 ||| t0)), (0, .ref h_m), (4, .int x4)]) hx hb dX3_of_81 rfl hl (by decide) rfl (fun ls hl => ?_)
        refine lv_iinc (v := (x4 + (nI 1))) (lv' := [(4, .int (x4 + (nI 1))), (3, .int (x3 &&& r12)), (2, .int (x2 &&& r10)), (1, .int (t1 ||| t0)), (0, .ref h_m)]) hx hb dX3_of_82 hl (k := 4) rfl rfl (by decide) rfl (fun ls hl => ?_)
        refine lv_goto (tgt := 20) hx hb dX3_of_85 (by decide) ?_
        exact ih_20 (t1 ||| t0) (x2 &&& r10) (x3 &&& r12) (x4 + (nI 1)) h _ _ hP hD hS _ (lv_sub hl [4, 3, 2, 1, 0] rfl)
      have K_44 : ∀ (x2 : Int32) (x3 : Int32) (x4 : Int32) (t0 : Int32) (t1 : Int32) , J_X3_of_44 c_m_states c_m_letters c_m_moves (L_X3_of_20 c_m_states c_m_letters c_m_moves Q n_20) x2 x3 x4 t0 t1 → ∀ (H : Heap) (locs : List Loc), va_P g.1 vwCl (cw_X3_of g h_m h_m_moves h_m_lights h_m_prices h_m_shares c_m_states c_m_letters c_m_moves) H → va_D A (cw_X3_of g h_m h_m_moves h_m_lights h_m_prices h_m_shares c_m_states c_m_letters c_m_moves) → va_S A s.heap H locs → ∀ ls : Array Slot, lv_has ls 5 [(0, .ref h_m), (2, .int x2), (3, .int x3), (4, .int x4)] → W p l e rm_X3_of s m args below meth c H locs 0 0 QQ (F0 m 44 ls [.int t0, .int t1]) := by
        intro x2 x3 x4 t0 t1 h H locs hP hD hS ls hl
        unfold J_X3_of_44 at h
        refine lv_ior hx hb dX3_of_44 ?_
        refine lv_istore_n (lv' := [(1, .int (t1 ||| t0)), (0, .ref h_m), (2, .int x2), (3, .int x3), (4, .int x4)]) hx hb dX3_of_45 rfl hl (by decide) rfl (fun ls hl => ?_)
        refine lv_iload_n hx hb dX3_of_46 rfl (lv_at hl 0 rfl) ?_
        refine lv_aload_n hx hb dX3_of_47 rfl (lv_at hl 1 rfl) ?_
        refine lv_iload hx hb dX3_of_48 (lv_at hl 4 rfl) ?_
        refine go_I E (run_S E ((k_X3_hasLoop l g h_m h_m_moves h_m_lights h_m_prices h_m_shares h) _) (va_cwS 2 hts gX3_of_X3_hasLoop rfl rfl rfl (by decide +kernel) ⟨Nat.le_of_ble_eq_true rfl, Nat.le_of_ble_eq_true rfl⟩) hP hD hS [0, 1] rfl rfl hl rfl rfl (Nat.le_of_ble_eq_true rfl) dX3_of_50 ⟨Nat.le_of_ble_eq_true rfl, Nat.le_of_ble_eq_true rfl⟩) hP hD hS [0, 1] rfl [(false, 0), (false, 1)] rfl (by decide) (fun _ => (cw_X3_of g h_m h_m_moves h_m_lights h_m_prices h_m_shares c_m_states c_m_letters c_m_moves)) (fun _ => rfl) (fun r8 _ H locs h hP hD hS => ?_)
        try dsimp only at h
        have hP : va_P g.1 vwCl (cw_X3_of g h_m h_m_moves h_m_lights h_m_prices h_m_shares c_m_states c_m_letters c_m_moves) H := hP
        have hD : va_D A (cw_X3_of g h_m h_m_moves h_m_lights h_m_prices h_m_shares c_m_states c_m_letters c_m_moves) := hD
        refine lv_if_eq (tgt := 61) hx hb dX3_of_53 (by decide) (fun cq => ?_) (fun cq => ?_)
        · replace h := h.1 cq
          refine lv_iconst (v := (nI 0)) hx hb dX3_of_61 (by decide) ?_
          exact K_62 x2 x3 x4 (nI 0) (t1 ||| t0) h _ _ hP hD hS _ (lv_sub hl [1, 2, 3, 4] rfl)
        · replace h := h.2 cq
          refine lv_bipush (v := (nI 16)) hx hb dX3_of_56 (by decide) ?_
          refine lv_goto (tgt := 62) hx hb dX3_of_58 (by decide) ?_
          exact K_62 x2 x3 x4 (nI 16) (t1 ||| t0) h _ _ hP hD hS _ (lv_sub hl [1, 2, 3, 4] rfl)
      refine lv_iload hx hb dX3_of_20 (lv_at hl 4 rfl) ?_
      refine lv_aload_n hx hb dX3_of_22 rfl (lv_at hl 0 rfl) ?_
      refine go_I E (run_V E ((k_X4_letters l g h_m h_m_moves h_m_lights h_m_prices h_m_shares (Q := fun r => r = c_m_letters) rfl) _) (cwV 0 hts gX3_of_X4_letters rfl rfl rfl (by decide +kernel) ⟨Nat.le_of_ble_eq_true rfl, Nat.le_of_ble_eq_true rfl⟩) hP hD hS [0] rfl rfl 0 3 rfl rfl rfl hl rfl rfl (Nat.le_of_ble_eq_true rfl) dX3_of_23 ⟨Nat.le_of_ble_eq_true rfl, Nat.le_of_ble_eq_true rfl⟩) hP hD hS [0] rfl [(false, 0), (true, 1)] rfl (by decide) (fun _ => (cw_X3_of g h_m h_m_moves h_m_lights h_m_prices h_m_shares c_m_states c_m_letters c_m_moves)) (fun _ => rfl) (fun r4 _ H locs hr_ hP hD hS => ?_)
      have hr_ : c_m_letters = r4 := Eq.symm hr_
      subst hr_
      have hP : va_P g.1 vwCl (cw_X3_of g h_m h_m_moves h_m_lights h_m_prices h_m_shares c_m_states c_m_letters c_m_moves) H := hP
      have hD : va_D A (cw_X3_of g h_m h_m_moves h_m_lights h_m_prices h_m_shares c_m_states c_m_letters c_m_moves) := hD
      refine lv_icmp_ge (tgt := 88) hx hb dX3_of_26 (by decide) (fun cq => ?_) (fun cq => ?_)
      · replace h := h.1 cq
        exact K_88 x1 x2 x3 h _ _ hP hD hS _ (lv_sub hl [1, 2, 3] rfl)
      · replace h := h.2 cq
        refine lv_iload_n hx hb dX3_of_29 rfl (lv_at hl 1 rfl) ?_
        refine lv_aload_n hx hb dX3_of_30 rfl (lv_at hl 0 rfl) ?_
        refine lv_iload hx hb dX3_of_31 (lv_at hl 4 rfl) ?_
        refine go_I E (run_S E ((k_X3_isRound l g h_m h_m_moves h_m_lights h_m_prices h_m_shares h) _) (va_cwS 2 hts gX3_of_X3_isRound rfl rfl rfl (by decide +kernel) ⟨Nat.le_of_ble_eq_true rfl, Nat.le_of_ble_eq_true rfl⟩) hP hD hS [0, 1] rfl rfl hl rfl rfl (Nat.le_of_ble_eq_true rfl) dX3_of_33 ⟨Nat.le_of_ble_eq_true rfl, Nat.le_of_ble_eq_true rfl⟩) hP hD hS [0, 1] rfl [(false, 0), (false, 1)] rfl (by decide) (fun _ => (cw_X3_of g h_m h_m_moves h_m_lights h_m_prices h_m_shares c_m_states c_m_letters c_m_moves)) (fun _ => rfl) (fun r6 _ H locs h hP hD hS => ?_)
        try dsimp only at h
        have hP : va_P g.1 vwCl (cw_X3_of g h_m h_m_moves h_m_lights h_m_prices h_m_shares c_m_states c_m_letters c_m_moves) H := hP
        have hD : va_D A (cw_X3_of g h_m h_m_moves h_m_lights h_m_prices h_m_shares c_m_states c_m_letters c_m_moves) := hD
        refine lv_if_eq (tgt := 43) hx hb dX3_of_36 (by decide) (fun cq => ?_) (fun cq => ?_)
        · replace h := h.1 cq
          refine lv_iconst (v := (nI 0)) hx hb dX3_of_43 (by decide) ?_
          exact K_44 x2 x3 x4 (nI 0) x1 h _ _ hP hD hS _ (lv_sub hl [0, 2, 3, 4] rfl)
        · replace h := h.2 cq
          refine lv_iconst (v := (nI 1)) hx hb dX3_of_39 (by decide) ?_
          refine lv_goto (tgt := 44) hx hb dX3_of_40 (by decide) ?_
          exact K_44 x2 x3 x4 (nI 1) x1 h _ _ hP hD hS _ (lv_sub hl [0, 2, 3, 4] rfl)
  have K_12 : ∀ (t0 : Int32) , J_X3_of_12 c_m_states c_m_letters c_m_moves Q t0 → ∀ (H : Heap) (locs : List Loc), va_P g.1 vwCl (cw_X3_of g h_m h_m_moves h_m_lights h_m_prices h_m_shares c_m_states c_m_letters c_m_moves) H → va_D A (cw_X3_of g h_m h_m_moves h_m_lights h_m_prices h_m_shares c_m_states c_m_letters c_m_moves) → va_S A s.heap H locs → ∀ ls : Array Slot, lv_has ls 5 [(0, .ref h_m)] → W p l e rm_X3_of s m args below meth c H locs 0 0 QQ (F0 m 12 ls [.int t0]) := by
    intro t0 h H locs hP hD hS ls hl
    unfold J_X3_of_12 at h
    refine lv_istore_n (lv' := [(1, .int t0), (0, .ref h_m)]) hx hb dX3_of_12 rfl hl (by decide) rfl (fun ls hl => ?_)
    refine lv_iconst (v := (nI 1)) hx hb dX3_of_13 (by decide) ?_
    refine lv_istore_n (lv' := [(2, .int (nI 1)), (1, .int t0), (0, .ref h_m)]) hx hb dX3_of_14 rfl hl (by decide) rfl (fun ls hl => ?_)
    refine lv_iconst (v := (nI 1)) hx hb dX3_of_15 (by decide) ?_
    refine lv_istore_n (lv' := [(3, .int (nI 1)), (2, .int (nI 1)), (1, .int t0), (0, .ref h_m)]) hx hb dX3_of_16 rfl hl (by decide) rfl (fun ls hl => ?_)
    refine lv_iconst (v := (nI 0)) hx hb dX3_of_17 (by decide) ?_
    refine lv_istore (lv' := [(4, .int (nI 0)), (3, .int (nI 1)), (2, .int (nI 1)), (1, .int t0), (0, .ref h_m)]) hx hb dX3_of_18 hl (by decide) rfl (fun ls hl => ?_)
    obtain ⟨n, h⟩ := h
    exact K_20 n t0 (nI 1) (nI 1) (nI 0) h _ _ hP hD hS _ (lv_sub hl [4, 3, 2, 1, 0] rfl)
  refine lv_aload_n hx hb dX3_of_0 rfl (lv_at hl 0 rfl) ?_
  refine go_I E (run_S E ((k_X3_hasSink l g h_m h_m_moves h_m_lights h_m_prices h_m_shares h) _) (va_cwS 1 hts gX3_of_X3_hasSink rfl rfl rfl (by decide +kernel) ⟨Nat.le_of_ble_eq_true rfl, Nat.le_of_ble_eq_true rfl⟩) hP hD hS [0, 1] rfl rfl hl rfl rfl (Nat.le_of_ble_eq_true rfl) dX3_of_1 ⟨Nat.le_of_ble_eq_true rfl, Nat.le_of_ble_eq_true rfl⟩) hP hD hS [0, 1] rfl [(false, 0), (false, 1)] rfl (by decide) (fun _ => (cw_X3_of g h_m h_m_moves h_m_lights h_m_prices h_m_shares c_m_states c_m_letters c_m_moves)) (fun _ => rfl) (fun r2 _ H locs h hP hD hS => ?_)
  try dsimp only at h
  have hP : va_P g.1 vwCl (cw_X3_of g h_m h_m_moves h_m_lights h_m_prices h_m_shares c_m_states c_m_letters c_m_moves) H := hP
  have hD : va_D A (cw_X3_of g h_m h_m_moves h_m_lights h_m_prices h_m_shares c_m_states c_m_letters c_m_moves) := hD
  refine lv_if_eq (tgt := 11) hx hb dX3_of_4 (by decide) (fun cq => ?_) (fun cq => ?_)
  · replace h := h.1 cq
    refine lv_iconst (v := (nI 0)) hx hb dX3_of_11 (by decide) ?_
    exact K_12 (nI 0) h _ _ hP hD hS _ (lv_sub hl [0] rfl)
  · replace h := h.2 cq
    refine lv_iconst (v := (nI 2)) hx hb dX3_of_7 (by decide) ?_
    refine lv_goto (tgt := 12) hx hb dX3_of_8 (by decide) ?_
    exact K_12 (nI 2) h _ _ hP hD hS _ (lv_sub hl [0] rfl)
abbrev cw_X4_hasSet (g : GG) (h_this : Nat) (h_this_moves : Nat) (h_this_lights : Nat) (h_this_prices : Nat) (h_this_shares : Nat) (c_states : Int32) (c_letters : Int32) : va_W := [(h_this, .inr (3, [.int c_states, .int c_letters, .ref h_this_moves, .ref h_this_lights, .ref h_this_prices, .ref h_this_shares]))]
def wp_X4_hasSet (c_states : Int32) (c_letters : Int32) (x1 : Int32) (Q : Int32 → Prop) : Prop :=
    ((x1 ≤ (nI 0) → Q (nI 0)) ∧ (¬ x1 ≤ (nI 0) → (((nI 4096) ≤ x1 → Q (nI 0)) ∧ (¬ (nI 4096) ≤ x1 → ((¬ (x1 >>> (c_states &&& 31)) = (nI 0) → Q (nI 0)) ∧ ((x1 >>> (c_states &&& 31)) = (nI 0) → Q (nI 1)))))))
abbrev rm_X4_hasSet : Room := { frames := 0, cells := 0, slots := 0, locals := 0 }
set_option maxHeartbeats 4000000 in
set_option maxRecDepth 100000 in
theorem k_X4_hasSet (l : Launch) (g : GG) (h_this : Nat) (h_this_moves : Nat) (h_this_lights : Nat) (h_this_prices : Nat) (h_this_shares : Nat) {c_states : Int32} {c_letters : Int32} {x1 : Int32} {Q : Int32 → Prop} (h : wp_X4_hasSet c_states c_letters x1 Q) : CI l g yX4_hasSet wsX4_hasSet rm_X4_hasSet [.ref h_this, .int x1] (cw_X4_hasSet g h_this h_this_moves h_this_lights h_this_prices h_this_shares c_states c_letters) (S := Unit) (fun _ => (cw_X4_hasSet g h_this h_this_moves h_this_lights h_this_prices h_this_shares c_states c_letters)) (fun r _ => Q r) 0 0 := by
  refine mk_I (cc := cX4_hasSet) (maxL := 2) (own := RX4) (by decide) rfl rfl (Nat.le_of_ble_eq_true rfl) ?_
  intro p e s m args below meth c A QQ E hret hP hD hS ls hl
  have E2 := E
  obtain ⟨hx, hb, hr, hml, hown, hts, hlocks, hA, hZ, hK, hnm⟩ := E2
  have f24 := hts (.fieldLink RX4 24 "WordBench$Machine" "states" "I") (by decide +kernel)
  have iX4 : ∀ w ∈ wsX40, w ∈ wsX4_hasSet := fun _ h => List.mem_cons_of_mem _ (List.mem_append_right _ h)
  have hP : va_P g.1 vwCl (cw_X4_hasSet g h_this h_this_moves h_this_lights h_this_prices h_this_shares c_states c_letters) s.heap := hP
  have hD : va_D A (cw_X4_hasSet g h_this h_this_moves h_this_lights h_this_prices h_this_shares c_states c_letters) := hD
  have hl : lv_has ls 2 [(0, .ref h_this), (1, .int x1)] := hl
  unfold wp_X4_hasSet at h
  refine lv_iload_n hx hb dX4_hasSet_0 rfl (lv_at hl 1 rfl) ?_
  refine lv_if_le (tgt := 24) hx hb dX4_hasSet_1 (by decide) (fun cq => ?_) (fun cq => ?_)
  · replace h := h.1 cq
    refine lv_iconst (v := (nI 0)) hx hb dX4_hasSet_24 (by decide) ?_
    exact hret (nI 0) () _ _ _ _ nbz h hP hD hS dX4_hasSet_25
  · replace h := h.2 cq
    refine lv_iload_n hx hb dX4_hasSet_4 rfl (lv_at hl 1 rfl) ?_
    refine lv_sipush (v := (nI 4096)) hx hb dX4_hasSet_5 (by decide) ?_
    refine lv_icmp_ge (tgt := 24) hx hb dX4_hasSet_8 (by decide) (fun cq => ?_) (fun cq => ?_)
    · replace h := h.1 cq
      refine lv_iconst (v := (nI 0)) hx hb dX4_hasSet_24 (by decide) ?_
      exact hret (nI 0) () _ _ _ _ nbz h hP hD hS dX4_hasSet_25
    · replace h := h.2 cq
      refine lv_iload_n hx hb dX4_hasSet_11 rfl (lv_at hl 1 rfl) ?_
      refine lv_aload_n hx hb dX4_hasSet_12 rfl (lv_at hl 0 rfl) ?_
      refine va_get (D := g.1) (ci := 3) (v := .int c_states) (C := RX4) (T := TX4) (N := 6) hx hb hts iX4 hown hK hP 0 rfl rfl 0 (by decide) f24 (fun _ h9 => h9) rfl dX4_hasSet_13 ?_
      refine lv_ishr hx hb dX4_hasSet_16 ?_
      refine lv_if_ne (tgt := 24) hx hb dX4_hasSet_17 (by decide) (fun cq => ?_) (fun cq => ?_)
      · replace h := h.1 cq
        refine lv_iconst (v := (nI 0)) hx hb dX4_hasSet_24 (by decide) ?_
        exact hret (nI 0) () _ _ _ _ nbz h hP hD hS dX4_hasSet_25
      · replace h := h.2 cq
        refine lv_iconst (v := (nI 1)) hx hb dX4_hasSet_20 (by decide) ?_
        refine lv_goto (tgt := 25) hx hb dX4_hasSet_21 (by decide) ?_
        exact hret (nI 1) () _ _ _ _ nbo h hP hD hS dX4_hasSet_25
abbrev cw_X4_lightOf (g : GG) (h_this : Nat) (h_this_moves : Nat) (h_this_lights : Nat) (h_this_prices : Nat) (h_this_shares : Nat) (c_states : Int32) (c_letters : Int32) (c_lights : Nat → Int32) : va_W := [(h_this, .inr (3, [.int c_states, .int c_letters, .ref h_this_moves, .ref h_this_lights, .ref h_this_prices, .ref h_this_shares])), (h_this_lights, .inl (g.2.1, 12, .inl c_lights))]
def wp_X4_lightOf (c_states : Int32) (c_letters : Int32) (c_lights : Nat → Int32) (x1 : Int32) (Q : Int32 → Prop) : Prop :=
    wp_X4_hasState c_states c_letters x1 (fun r2 => ((r2 = (nI 0) → Q (nI 0)) ∧ (¬ r2 = (nI 0) → vp_in x1 12 ∧ Q (c_lights (Int32.toNatClampNeg x1)))))
abbrev rm_X4_lightOf : Room := { frames := 1, cells := 0, slots := 0, locals := 21 }
set_option maxHeartbeats 4000000 in
set_option maxRecDepth 100000 in
theorem k_X4_lightOf (l : Launch) (g : GG) (h_this : Nat) (h_this_moves : Nat) (h_this_lights : Nat) (h_this_prices : Nat) (h_this_shares : Nat) {c_states : Int32} {c_letters : Int32} {c_lights : Nat → Int32} {x1 : Int32} {Q : Int32 → Prop} (h : wp_X4_lightOf c_states c_letters c_lights x1 Q) : CI l g yX4_lightOf wsX4_lightOf rm_X4_lightOf [.ref h_this, .int x1] (cw_X4_lightOf g h_this h_this_moves h_this_lights h_this_prices h_this_shares c_states c_letters c_lights) (S := Unit) (fun _ => (cw_X4_lightOf g h_this h_this_moves h_this_lights h_this_prices h_this_shares c_states c_letters c_lights)) (fun r _ => Q r) 0 0 := by
  refine mk_I (cc := cX4_lightOf) (maxL := 2) (own := RX4) (by decide) rfl rfl (Nat.le_of_ble_eq_true rfl) ?_
  intro p e s m args below meth c A QQ E hret hP hD hS ls hl
  have E2 := E
  obtain ⟨hx, hb, hr, hml, hown, hts, hlocks, hA, hZ, hK, hnm⟩ := E2
  have f15 := hts (.fieldLink RX4 15 "WordBench$Machine" "lights" "[I") (by decide +kernel)
  have iX4 : ∀ w ∈ wsX40, w ∈ wsX4_lightOf := fun _ h => List.mem_cons_of_mem _ (List.mem_append_right _ h)
  have hP : va_P g.1 vwCl (cw_X4_lightOf g h_this h_this_moves h_this_lights h_this_prices h_this_shares c_states c_letters c_lights) s.heap := hP
  have hD : va_D A (cw_X4_lightOf g h_this h_this_moves h_this_lights h_this_prices h_this_shares c_states c_letters c_lights) := hD
  have hl : lv_has ls 2 [(0, .ref h_this), (1, .int x1)] := hl
  unfold wp_X4_lightOf at h
  refine lv_aload_n hx hb dX4_lightOf_0 rfl (lv_at hl 0 rfl) ?_
  refine lv_iload_n hx hb dX4_lightOf_1 rfl (lv_at hl 1 rfl) ?_
  refine go_I E (run_V E ((k_X4_hasState l g h_this h_this_moves h_this_lights h_this_prices h_this_shares h) _) (cwV 1 hts gX4_lightOf_X4_hasState rfl rfl rfl (by decide +kernel) ⟨Nat.le_of_ble_eq_true rfl, Nat.le_of_ble_eq_true rfl⟩) hP hD hS [0] rfl rfl 0 3 rfl rfl rfl hl rfl rfl (Nat.le_of_ble_eq_true rfl) dX4_lightOf_2 ⟨Nat.le_of_ble_eq_true rfl, Nat.le_of_ble_eq_true rfl⟩) hP hD hS [0] rfl [(false, 0), (true, 1)] rfl (by decide) (fun _ => (cw_X4_lightOf g h_this h_this_moves h_this_lights h_this_prices h_this_shares c_states c_letters c_lights)) (fun _ => rfl) (fun r2 _ H locs h hP hD hS => ?_)
  try dsimp only at h
  have hP : va_P g.1 vwCl (cw_X4_lightOf g h_this h_this_moves h_this_lights h_this_prices h_this_shares c_states c_letters c_lights) H := hP
  have hD : va_D A (cw_X4_lightOf g h_this h_this_moves h_this_lights h_this_prices h_this_shares c_states c_letters c_lights) := hD
  refine lv_if_eq (tgt := 17) hx hb dX4_lightOf_5 (by decide) (fun cq => ?_) (fun cq => ?_)
  · replace h := h.1 cq
    refine lv_iconst (v := (nI 0)) hx hb dX4_lightOf_17 (by decide) ?_
    exact hret (nI 0) () _ _ _ _ rfl h hP hD hS dX4_lightOf_18
  · replace h := h.2 cq
    refine lv_aload_n hx hb dX4_lightOf_8 rfl (lv_at hl 0 rfl) ?_
    refine va_get (D := g.1) (ci := 3) (v := .ref h_this_lights) (C := RX4) (T := TX4) (N := 6) hx hb hts iX4 hown hK hP 0 rfl rfl 3 (by decide) f15 (fun _ h9 => h9) rfl dX4_lightOf_9 ?_
    refine lv_iload_n hx hb dX4_lightOf_12 rfl (lv_at hl 1 rfl) ?_
    obtain ⟨hi, h⟩ := h
    refine va_iald (D := g.1) (n := 12) (f := c_lights) hx hb hK hP 1 0 rfl rfl hi dX4_lightOf_13 ?_
    refine lv_goto (tgt := 18) hx hb dX4_lightOf_14 (by decide) ?_
    exact hret (c_lights (Int32.toNatClampNeg x1)) () _ _ _ _ rfl h hP hD hS dX4_lightOf_18
abbrev cw_X4_priceOf (g : GG) (h_this : Nat) (h_this_moves : Nat) (h_this_lights : Nat) (h_this_prices : Nat) (h_this_shares : Nat) (c_states : Int32) (c_letters : Int32) (c_prices : Nat → Int32) : va_W := [(h_this, .inr (3, [.int c_states, .int c_letters, .ref h_this_moves, .ref h_this_lights, .ref h_this_prices, .ref h_this_shares])), (h_this_prices, .inl (g.2.1, 4, .inl c_prices))]
def wp_X4_priceOf (c_states : Int32) (c_letters : Int32) (c_prices : Nat → Int32) (x1 : Int32) (Q : Int32 → Prop) : Prop :=
    wp_X4_hasLetter c_states c_letters x1 (fun r2 => ((r2 = (nI 0) → Q (nI 1)) ∧ (¬ r2 = (nI 0) → vp_in x1 4 ∧ Q (c_prices (Int32.toNatClampNeg x1)))))
abbrev rm_X4_priceOf : Room := { frames := 1, cells := 0, slots := 0, locals := 21 }
set_option maxHeartbeats 4000000 in
set_option maxRecDepth 100000 in
theorem k_X4_priceOf (l : Launch) (g : GG) (h_this : Nat) (h_this_moves : Nat) (h_this_lights : Nat) (h_this_prices : Nat) (h_this_shares : Nat) {c_states : Int32} {c_letters : Int32} {c_prices : Nat → Int32} {x1 : Int32} {Q : Int32 → Prop} (h : wp_X4_priceOf c_states c_letters c_prices x1 Q) : CI l g yX4_priceOf wsX4_priceOf rm_X4_priceOf [.ref h_this, .int x1] (cw_X4_priceOf g h_this h_this_moves h_this_lights h_this_prices h_this_shares c_states c_letters c_prices) (S := Unit) (fun _ => (cw_X4_priceOf g h_this h_this_moves h_this_lights h_this_prices h_this_shares c_states c_letters c_prices)) (fun r _ => Q r) 0 0 := by
  refine mk_I (cc := cX4_priceOf) (maxL := 2) (own := RX4) (by decide) rfl rfl (Nat.le_of_ble_eq_true rfl) ?_
  intro p e s m args below meth c A QQ E hret hP hD hS ls hl
  have E2 := E
  obtain ⟨hx, hb, hr, hml, hown, hts, hlocks, hA, hZ, hK, hnm⟩ := E2
  have f18 := hts (.fieldLink RX4 18 "WordBench$Machine" "prices" "[I") (by decide +kernel)
  have iX4 : ∀ w ∈ wsX40, w ∈ wsX4_priceOf := fun _ h => List.mem_cons_of_mem _ (List.mem_append_right _ h)
  have hP : va_P g.1 vwCl (cw_X4_priceOf g h_this h_this_moves h_this_lights h_this_prices h_this_shares c_states c_letters c_prices) s.heap := hP
  have hD : va_D A (cw_X4_priceOf g h_this h_this_moves h_this_lights h_this_prices h_this_shares c_states c_letters c_prices) := hD
  have hl : lv_has ls 2 [(0, .ref h_this), (1, .int x1)] := hl
  unfold wp_X4_priceOf at h
  refine lv_aload_n hx hb dX4_priceOf_0 rfl (lv_at hl 0 rfl) ?_
  refine lv_iload_n hx hb dX4_priceOf_1 rfl (lv_at hl 1 rfl) ?_
  refine go_I E (run_V E ((k_X4_hasLetter l g h_this h_this_moves h_this_lights h_this_prices h_this_shares h) _) (cwV 1 hts gX4_priceOf_X4_hasLetter rfl rfl rfl (by decide +kernel) ⟨Nat.le_of_ble_eq_true rfl, Nat.le_of_ble_eq_true rfl⟩) hP hD hS [0] rfl rfl 0 3 rfl rfl rfl hl rfl rfl (Nat.le_of_ble_eq_true rfl) dX4_priceOf_2 ⟨Nat.le_of_ble_eq_true rfl, Nat.le_of_ble_eq_true rfl⟩) hP hD hS [0] rfl [(false, 0), (true, 1)] rfl (by decide) (fun _ => (cw_X4_priceOf g h_this h_this_moves h_this_lights h_this_prices h_this_shares c_states c_letters c_prices)) (fun _ => rfl) (fun r2 _ H locs h hP hD hS => ?_)
  try dsimp only at h
  have hP : va_P g.1 vwCl (cw_X4_priceOf g h_this h_this_moves h_this_lights h_this_prices h_this_shares c_states c_letters c_prices) H := hP
  have hD : va_D A (cw_X4_priceOf g h_this h_this_moves h_this_lights h_this_prices h_this_shares c_states c_letters c_prices) := hD
  refine lv_if_eq (tgt := 17) hx hb dX4_priceOf_5 (by decide) (fun cq => ?_) (fun cq => ?_)
  · replace h := h.1 cq
    refine lv_iconst (v := (nI 1)) hx hb dX4_priceOf_17 (by decide) ?_
    exact hret (nI 1) () _ _ _ _ rfl h hP hD hS dX4_priceOf_18
  · replace h := h.2 cq
    refine lv_aload_n hx hb dX4_priceOf_8 rfl (lv_at hl 0 rfl) ?_
    refine va_get (D := g.1) (ci := 3) (v := .ref h_this_prices) (C := RX4) (T := TX4) (N := 6) hx hb hts iX4 hown hK hP 0 rfl rfl 4 (by decide) f18 (fun _ h9 => h9) rfl dX4_priceOf_9 ?_
    refine lv_iload_n hx hb dX4_priceOf_12 rfl (lv_at hl 1 rfl) ?_
    obtain ⟨hi, h⟩ := h
    refine va_iald (D := g.1) (n := 4) (f := c_prices) hx hb hK hP 1 0 rfl rfl hi dX4_priceOf_13 ?_
    refine lv_goto (tgt := 18) hx hb dX4_priceOf_14 (by decide) ?_
    exact hret (c_prices (Int32.toNatClampNeg x1)) () _ _ _ _ rfl h hP hD hS dX4_priceOf_18
abbrev cw_X4_putLight (g : GG) (h_this : Nat) (h_this_moves : Nat) (h_this_lights : Nat) (h_this_prices : Nat) (h_this_shares : Nat) (c_states : Int32) (c_letters : Int32) (c_lights : Nat → Int32) : va_W := [(h_this, .inr (3, [.int c_states, .int c_letters, .ref h_this_moves, .ref h_this_lights, .ref h_this_prices, .ref h_this_shares])), (h_this_lights, .inl (g.2.1, 12, .inl c_lights))]
def wp_X4_putLight (c_states : Int32) (c_letters : Int32) (c_lights : Nat → Int32) (x1 : Int32) (x2 : Int32) (Q : Int32 → (Nat → Int32) → Prop) : Prop :=
    wp_X4_lightOf c_states c_letters c_lights x1 (fun r2 => wp_X4_hasState c_states c_letters x1 (fun r4 => ((r4 = (nI 0) → Q r2 c_lights) ∧ (¬ r4 = (nI 0) → vp_in x1 12 ∧ Q r2 (upd c_lights (Int32.toNatClampNeg x1) x2)))))
abbrev rm_X4_putLight : Room := { frames := 2, cells := 0, slots := 0, locals := 42 }
set_option maxHeartbeats 4000000 in
set_option maxRecDepth 100000 in
theorem k_X4_putLight (l : Launch) (g : GG) (h_this : Nat) (h_this_moves : Nat) (h_this_lights : Nat) (h_this_prices : Nat) (h_this_shares : Nat) {c_states : Int32} {c_letters : Int32} {c_lights : Nat → Int32} {x1 : Int32} {x2 : Int32} {Q : Int32 → (Nat → Int32) → Prop} (h : wp_X4_putLight c_states c_letters c_lights x1 x2 Q) : CI l g yX4_putLight wsX4_putLight rm_X4_putLight [.ref h_this, .int x1, .int x2] (cw_X4_putLight g h_this h_this_moves h_this_lights h_this_prices h_this_shares c_states c_letters c_lights) (S := (Nat → Int32)) (fun u => (cw_X4_putLight g h_this h_this_moves h_this_lights h_this_prices h_this_shares c_states c_letters u)) (fun r u => Q r u) 0 0 := by
  refine mk_I (cc := cX4_putLight) (maxL := 4) (own := RX4) (by decide) rfl rfl (Nat.le_of_ble_eq_true rfl) ?_
  intro p e s m args below meth c A QQ E hret hP hD hS ls hl
  have E2 := E
  obtain ⟨hx, hb, hr, hml, hown, hts, hlocks, hA, hZ, hK, hnm⟩ := E2
  have f15 := hts (.fieldLink RX4 15 "WordBench$Machine" "lights" "[I") (by decide +kernel)
  have iX4 : ∀ w ∈ wsX40, w ∈ wsX4_putLight := fun _ h => List.mem_cons_of_mem _ (List.mem_append_right _ h)
  have hP : va_P g.1 vwCl (cw_X4_putLight g h_this h_this_moves h_this_lights h_this_prices h_this_shares c_states c_letters c_lights) s.heap := hP
  have hD : va_D A (cw_X4_putLight g h_this h_this_moves h_this_lights h_this_prices h_this_shares c_states c_letters c_lights) := hD
  have hl : lv_has ls 4 [(0, .ref h_this), (1, .int x1), (2, .int x2)] := hl
  unfold wp_X4_putLight at h
  refine lv_aload_n hx hb dX4_putLight_0 rfl (lv_at hl 0 rfl) ?_
  refine lv_iload_n hx hb dX4_putLight_1 rfl (lv_at hl 1 rfl) ?_
  refine go_I E (run_V E ((k_X4_lightOf l g h_this h_this_moves h_this_lights h_this_prices h_this_shares h) _) (cwV 1 hts gX4_putLight_X4_lightOf rfl rfl rfl (by decide +kernel) ⟨Nat.le_of_ble_eq_true rfl, Nat.le_of_ble_eq_true rfl⟩) hP hD hS [0, 1] rfl rfl 0 3 rfl rfl rfl hl rfl rfl (Nat.le_of_ble_eq_true rfl) dX4_putLight_2 ⟨Nat.le_of_ble_eq_true rfl, Nat.le_of_ble_eq_true rfl⟩) hP hD hS [0, 1] rfl [(false, 0), (false, 1)] rfl (by decide) (fun _ => (cw_X4_putLight g h_this h_this_moves h_this_lights h_this_prices h_this_shares c_states c_letters c_lights)) (fun _ => rfl) (fun r2 _ H locs h hP hD hS => ?_)
  try dsimp only at h
  have hP : va_P g.1 vwCl (cw_X4_putLight g h_this h_this_moves h_this_lights h_this_prices h_this_shares c_states c_letters c_lights) H := hP
  have hD : va_D A (cw_X4_putLight g h_this h_this_moves h_this_lights h_this_prices h_this_shares c_states c_letters c_lights) := hD
  refine lv_istore_n (lv' := [(3, .int r2), (0, .ref h_this), (1, .int x1), (2, .int x2)]) hx hb dX4_putLight_5 rfl hl (by decide) rfl (fun ls hl => ?_)
  refine lv_aload_n hx hb dX4_putLight_6 rfl (lv_at hl 1 rfl) ?_
  refine lv_iload_n hx hb dX4_putLight_7 rfl (lv_at hl 2 rfl) ?_
  refine go_I E (run_V E ((k_X4_hasState l g h_this h_this_moves h_this_lights h_this_prices h_this_shares h) _) (cwV 1 hts gX4_putLight_X4_hasState rfl rfl rfl (by decide +kernel) ⟨Nat.le_of_ble_eq_true rfl, Nat.le_of_ble_eq_true rfl⟩) hP hD hS [0] rfl rfl 0 3 rfl rfl rfl hl rfl rfl (Nat.le_of_ble_eq_true rfl) dX4_putLight_8 ⟨Nat.le_of_ble_eq_true rfl, Nat.le_of_ble_eq_true rfl⟩) hP hD hS [0] rfl [(false, 0), (true, 1)] rfl (by decide) (fun _ => (cw_X4_putLight g h_this h_this_moves h_this_lights h_this_prices h_this_shares c_states c_letters c_lights)) (fun _ => rfl) (fun r4 _ H locs h hP hD hS => ?_)
  try dsimp only at h
  have hP : va_P g.1 vwCl (cw_X4_putLight g h_this h_this_moves h_this_lights h_this_prices h_this_shares c_states c_letters c_lights) H := hP
  have hD : va_D A (cw_X4_putLight g h_this h_this_moves h_this_lights h_this_prices h_this_shares c_states c_letters c_lights) := hD
  refine lv_if_eq (tgt := 21) hx hb dX4_putLight_11 (by decide) (fun cq => ?_) (fun cq => ?_)
  · replace h := h.1 cq
    refine lv_iload_n hx hb dX4_putLight_21 rfl (lv_at hl 0 rfl) ?_
    exact hret r2 c_lights _ _ _ _ rfl h hP hD hS dX4_putLight_22
  · replace h := h.2 cq
    refine lv_aload_n hx hb dX4_putLight_14 rfl (lv_at hl 1 rfl) ?_
    refine va_get (D := g.1) (ci := 3) (v := .ref h_this_lights) (C := RX4) (T := TX4) (N := 6) hx hb hts iX4 hown hK hP 0 rfl rfl 3 (by decide) f15 (fun _ h9 => h9) rfl dX4_putLight_15 ?_
    refine lv_iload_n hx hb dX4_putLight_18 rfl (lv_at hl 2 rfl) ?_
    refine lv_iload_n hx hb dX4_putLight_19 rfl (lv_at hl 3 rfl) ?_
    obtain ⟨hi, h⟩ := h
    refine va_iast (D := g.1) (n := 12) (f := c_lights) hx hb hK hP hD hS 1 0 rfl rfl hi dX4_putLight_20 (fun H locs hP hD hS => ?_)
    have hP : va_P g.1 vwCl (cw_X4_putLight g h_this h_this_moves h_this_lights h_this_prices h_this_shares c_states c_letters (upd c_lights (Int32.toNatClampNeg x1) x2)) H := hP
    have hD : va_D A (cw_X4_putLight g h_this h_this_moves h_this_lights h_this_prices h_this_shares c_states c_letters (upd c_lights (Int32.toNatClampNeg x1) x2)) := hD
    refine lv_iload_n hx hb dX4_putLight_21 rfl (lv_at hl 0 rfl) ?_
    exact hret r2 (upd c_lights (Int32.toNatClampNeg x1) x2) _ _ _ _ rfl h hP hD hS dX4_putLight_22
abbrev cw_X4_putPrice (g : GG) (h_this : Nat) (h_this_moves : Nat) (h_this_lights : Nat) (h_this_prices : Nat) (h_this_shares : Nat) (c_states : Int32) (c_letters : Int32) (c_prices : Nat → Int32) : va_W := [(h_this, .inr (3, [.int c_states, .int c_letters, .ref h_this_moves, .ref h_this_lights, .ref h_this_prices, .ref h_this_shares])), (h_this_prices, .inl (g.2.1, 4, .inl c_prices))]
def wp_X4_putPrice (c_states : Int32) (c_letters : Int32) (c_prices : Nat → Int32) (x1 : Int32) (x2 : Int32) (Q : Int32 → (Nat → Int32) → Prop) : Prop :=
    wp_X4_priceOf c_states c_letters c_prices x1 (fun r2 => wp_X4_hasLetter c_states c_letters x1 (fun r4 => ((r4 = (nI 0) → Q r2 c_prices) ∧ (¬ r4 = (nI 0) → vp_in x1 4 ∧ Q r2 (upd c_prices (Int32.toNatClampNeg x1) x2)))))
abbrev rm_X4_putPrice : Room := { frames := 2, cells := 0, slots := 0, locals := 42 }
set_option maxHeartbeats 4000000 in
set_option maxRecDepth 100000 in
theorem k_X4_putPrice (l : Launch) (g : GG) (h_this : Nat) (h_this_moves : Nat) (h_this_lights : Nat) (h_this_prices : Nat) (h_this_shares : Nat) {c_states : Int32} {c_letters : Int32} {c_prices : Nat → Int32} {x1 : Int32} {x2 : Int32} {Q : Int32 → (Nat → Int32) → Prop} (h : wp_X4_putPrice c_states c_letters c_prices x1 x2 Q) : CI l g yX4_putPrice wsX4_putPrice rm_X4_putPrice [.ref h_this, .int x1, .int x2] (cw_X4_putPrice g h_this h_this_moves h_this_lights h_this_prices h_this_shares c_states c_letters c_prices) (S := (Nat → Int32)) (fun u => (cw_X4_putPrice g h_this h_this_moves h_this_lights h_this_prices h_this_shares c_states c_letters u)) (fun r u => Q r u) 0 0 := by
  refine mk_I (cc := cX4_putPrice) (maxL := 4) (own := RX4) (by decide) rfl rfl (Nat.le_of_ble_eq_true rfl) ?_
  intro p e s m args below meth c A QQ E hret hP hD hS ls hl
  have E2 := E
  obtain ⟨hx, hb, hr, hml, hown, hts, hlocks, hA, hZ, hK, hnm⟩ := E2
  have f18 := hts (.fieldLink RX4 18 "WordBench$Machine" "prices" "[I") (by decide +kernel)
  have iX4 : ∀ w ∈ wsX40, w ∈ wsX4_putPrice := fun _ h => List.mem_cons_of_mem _ (List.mem_append_right _ h)
  have hP : va_P g.1 vwCl (cw_X4_putPrice g h_this h_this_moves h_this_lights h_this_prices h_this_shares c_states c_letters c_prices) s.heap := hP
  have hD : va_D A (cw_X4_putPrice g h_this h_this_moves h_this_lights h_this_prices h_this_shares c_states c_letters c_prices) := hD
  have hl : lv_has ls 4 [(0, .ref h_this), (1, .int x1), (2, .int x2)] := hl
  unfold wp_X4_putPrice at h
  refine lv_aload_n hx hb dX4_putPrice_0 rfl (lv_at hl 0 rfl) ?_
  refine lv_iload_n hx hb dX4_putPrice_1 rfl (lv_at hl 1 rfl) ?_
  refine go_I E (run_V E ((k_X4_priceOf l g h_this h_this_moves h_this_lights h_this_prices h_this_shares h) _) (cwV 1 hts gX4_putPrice_X4_priceOf rfl rfl rfl (by decide +kernel) ⟨Nat.le_of_ble_eq_true rfl, Nat.le_of_ble_eq_true rfl⟩) hP hD hS [0, 1] rfl rfl 0 3 rfl rfl rfl hl rfl rfl (Nat.le_of_ble_eq_true rfl) dX4_putPrice_2 ⟨Nat.le_of_ble_eq_true rfl, Nat.le_of_ble_eq_true rfl⟩) hP hD hS [0, 1] rfl [(false, 0), (false, 1)] rfl (by decide) (fun _ => (cw_X4_putPrice g h_this h_this_moves h_this_lights h_this_prices h_this_shares c_states c_letters c_prices)) (fun _ => rfl) (fun r2 _ H locs h hP hD hS => ?_)
  try dsimp only at h
  have hP : va_P g.1 vwCl (cw_X4_putPrice g h_this h_this_moves h_this_lights h_this_prices h_this_shares c_states c_letters c_prices) H := hP
  have hD : va_D A (cw_X4_putPrice g h_this h_this_moves h_this_lights h_this_prices h_this_shares c_states c_letters c_prices) := hD
  refine lv_istore_n (lv' := [(3, .int r2), (0, .ref h_this), (1, .int x1), (2, .int x2)]) hx hb dX4_putPrice_5 rfl hl (by decide) rfl (fun ls hl => ?_)
  refine lv_aload_n hx hb dX4_putPrice_6 rfl (lv_at hl 1 rfl) ?_
  refine lv_iload_n hx hb dX4_putPrice_7 rfl (lv_at hl 2 rfl) ?_
  refine go_I E (run_V E ((k_X4_hasLetter l g h_this h_this_moves h_this_lights h_this_prices h_this_shares h) _) (cwV 1 hts gX4_putPrice_X4_hasLetter rfl rfl rfl (by decide +kernel) ⟨Nat.le_of_ble_eq_true rfl, Nat.le_of_ble_eq_true rfl⟩) hP hD hS [0] rfl rfl 0 3 rfl rfl rfl hl rfl rfl (Nat.le_of_ble_eq_true rfl) dX4_putPrice_8 ⟨Nat.le_of_ble_eq_true rfl, Nat.le_of_ble_eq_true rfl⟩) hP hD hS [0] rfl [(false, 0), (true, 1)] rfl (by decide) (fun _ => (cw_X4_putPrice g h_this h_this_moves h_this_lights h_this_prices h_this_shares c_states c_letters c_prices)) (fun _ => rfl) (fun r4 _ H locs h hP hD hS => ?_)
  try dsimp only at h
  have hP : va_P g.1 vwCl (cw_X4_putPrice g h_this h_this_moves h_this_lights h_this_prices h_this_shares c_states c_letters c_prices) H := hP
  have hD : va_D A (cw_X4_putPrice g h_this h_this_moves h_this_lights h_this_prices h_this_shares c_states c_letters c_prices) := hD
  refine lv_if_eq (tgt := 21) hx hb dX4_putPrice_11 (by decide) (fun cq => ?_) (fun cq => ?_)
  · replace h := h.1 cq
    refine lv_iload_n hx hb dX4_putPrice_21 rfl (lv_at hl 0 rfl) ?_
    exact hret r2 c_prices _ _ _ _ rfl h hP hD hS dX4_putPrice_22
  · replace h := h.2 cq
    refine lv_aload_n hx hb dX4_putPrice_14 rfl (lv_at hl 1 rfl) ?_
    refine va_get (D := g.1) (ci := 3) (v := .ref h_this_prices) (C := RX4) (T := TX4) (N := 6) hx hb hts iX4 hown hK hP 0 rfl rfl 4 (by decide) f18 (fun _ h9 => h9) rfl dX4_putPrice_15 ?_
    refine lv_iload_n hx hb dX4_putPrice_18 rfl (lv_at hl 2 rfl) ?_
    refine lv_iload_n hx hb dX4_putPrice_19 rfl (lv_at hl 3 rfl) ?_
    obtain ⟨hi, h⟩ := h
    refine va_iast (D := g.1) (n := 4) (f := c_prices) hx hb hK hP hD hS 1 0 rfl rfl hi dX4_putPrice_20 (fun H locs hP hD hS => ?_)
    have hP : va_P g.1 vwCl (cw_X4_putPrice g h_this h_this_moves h_this_lights h_this_prices h_this_shares c_states c_letters (upd c_prices (Int32.toNatClampNeg x1) x2)) H := hP
    have hD : va_D A (cw_X4_putPrice g h_this h_this_moves h_this_lights h_this_prices h_this_shares c_states c_letters (upd c_prices (Int32.toNatClampNeg x1) x2)) := hD
    refine lv_iload_n hx hb dX4_putPrice_21 rfl (lv_at hl 0 rfl) ?_
    exact hret r2 (upd c_prices (Int32.toNatClampNeg x1) x2) _ _ _ _ rfl h hP hD hS dX4_putPrice_22
abbrev cw_X4_putShare (g : GG) (h_this : Nat) (h_this_moves : Nat) (h_this_lights : Nat) (h_this_prices : Nat) (h_this_shares : Nat) (c_states : Int32) (c_letters : Int32) (c_shares : Nat → Int32) : va_W := [(h_this, .inr (3, [.int c_states, .int c_letters, .ref h_this_moves, .ref h_this_lights, .ref h_this_prices, .ref h_this_shares])), (h_this_shares, .inl (g.2.1, 4, .inl c_shares))]
def wp_X4_putShare (c_states : Int32) (c_letters : Int32) (c_shares : Nat → Int32) (x1 : Int32) (x2 : Int32) (Q : Int32 → (Nat → Int32) → Prop) : Prop :=
    wp_X4_shareOf c_states c_letters c_shares x1 (fun r2 => wp_X4_hasLetter c_states c_letters x1 (fun r4 => ((r4 = (nI 0) → Q r2 c_shares) ∧ (¬ r4 = (nI 0) → vp_in x1 4 ∧ Q r2 (upd c_shares (Int32.toNatClampNeg x1) x2)))))
abbrev rm_X4_putShare : Room := { frames := 2, cells := 0, slots := 0, locals := 42 }
set_option maxHeartbeats 4000000 in
set_option maxRecDepth 100000 in
theorem k_X4_putShare (l : Launch) (g : GG) (h_this : Nat) (h_this_moves : Nat) (h_this_lights : Nat) (h_this_prices : Nat) (h_this_shares : Nat) {c_states : Int32} {c_letters : Int32} {c_shares : Nat → Int32} {x1 : Int32} {x2 : Int32} {Q : Int32 → (Nat → Int32) → Prop} (h : wp_X4_putShare c_states c_letters c_shares x1 x2 Q) : CI l g yX4_putShare wsX4_putShare rm_X4_putShare [.ref h_this, .int x1, .int x2] (cw_X4_putShare g h_this h_this_moves h_this_lights h_this_prices h_this_shares c_states c_letters c_shares) (S := (Nat → Int32)) (fun u => (cw_X4_putShare g h_this h_this_moves h_this_lights h_this_prices h_this_shares c_states c_letters u)) (fun r u => Q r u) 0 0 := by
  refine mk_I (cc := cX4_putShare) (maxL := 4) (own := RX4) (by decide) rfl rfl (Nat.le_of_ble_eq_true rfl) ?_
  intro p e s m args below meth c A QQ E hret hP hD hS ls hl
  have E2 := E
  obtain ⟨hx, hb, hr, hml, hown, hts, hlocks, hA, hZ, hK, hnm⟩ := E2
  have f21 := hts (.fieldLink RX4 21 "WordBench$Machine" "shares" "[I") (by decide +kernel)
  have iX4 : ∀ w ∈ wsX40, w ∈ wsX4_putShare := fun _ h => List.mem_cons_of_mem _ (List.mem_append_right _ h)
  have hP : va_P g.1 vwCl (cw_X4_putShare g h_this h_this_moves h_this_lights h_this_prices h_this_shares c_states c_letters c_shares) s.heap := hP
  have hD : va_D A (cw_X4_putShare g h_this h_this_moves h_this_lights h_this_prices h_this_shares c_states c_letters c_shares) := hD
  have hl : lv_has ls 4 [(0, .ref h_this), (1, .int x1), (2, .int x2)] := hl
  unfold wp_X4_putShare at h
  refine lv_aload_n hx hb dX4_putShare_0 rfl (lv_at hl 0 rfl) ?_
  refine lv_iload_n hx hb dX4_putShare_1 rfl (lv_at hl 1 rfl) ?_
  refine go_I E (run_V E ((k_X4_shareOf l g h_this h_this_moves h_this_lights h_this_prices h_this_shares h) _) (cwV 1 hts gX4_putShare_X4_shareOf rfl rfl rfl (by decide +kernel) ⟨Nat.le_of_ble_eq_true rfl, Nat.le_of_ble_eq_true rfl⟩) hP hD hS [0, 1] rfl rfl 0 3 rfl rfl rfl hl rfl rfl (Nat.le_of_ble_eq_true rfl) dX4_putShare_2 ⟨Nat.le_of_ble_eq_true rfl, Nat.le_of_ble_eq_true rfl⟩) hP hD hS [0, 1] rfl [(false, 0), (false, 1)] rfl (by decide) (fun _ => (cw_X4_putShare g h_this h_this_moves h_this_lights h_this_prices h_this_shares c_states c_letters c_shares)) (fun _ => rfl) (fun r2 _ H locs h hP hD hS => ?_)
  try dsimp only at h
  have hP : va_P g.1 vwCl (cw_X4_putShare g h_this h_this_moves h_this_lights h_this_prices h_this_shares c_states c_letters c_shares) H := hP
  have hD : va_D A (cw_X4_putShare g h_this h_this_moves h_this_lights h_this_prices h_this_shares c_states c_letters c_shares) := hD
  refine lv_istore_n (lv' := [(3, .int r2), (0, .ref h_this), (1, .int x1), (2, .int x2)]) hx hb dX4_putShare_5 rfl hl (by decide) rfl (fun ls hl => ?_)
  refine lv_aload_n hx hb dX4_putShare_6 rfl (lv_at hl 1 rfl) ?_
  refine lv_iload_n hx hb dX4_putShare_7 rfl (lv_at hl 2 rfl) ?_
  refine go_I E (run_V E ((k_X4_hasLetter l g h_this h_this_moves h_this_lights h_this_prices h_this_shares h) _) (cwV 1 hts gX4_putShare_X4_hasLetter rfl rfl rfl (by decide +kernel) ⟨Nat.le_of_ble_eq_true rfl, Nat.le_of_ble_eq_true rfl⟩) hP hD hS [0] rfl rfl 0 3 rfl rfl rfl hl rfl rfl (Nat.le_of_ble_eq_true rfl) dX4_putShare_8 ⟨Nat.le_of_ble_eq_true rfl, Nat.le_of_ble_eq_true rfl⟩) hP hD hS [0] rfl [(false, 0), (true, 1)] rfl (by decide) (fun _ => (cw_X4_putShare g h_this h_this_moves h_this_lights h_this_prices h_this_shares c_states c_letters c_shares)) (fun _ => rfl) (fun r4 _ H locs h hP hD hS => ?_)
  try dsimp only at h
  have hP : va_P g.1 vwCl (cw_X4_putShare g h_this h_this_moves h_this_lights h_this_prices h_this_shares c_states c_letters c_shares) H := hP
  have hD : va_D A (cw_X4_putShare g h_this h_this_moves h_this_lights h_this_prices h_this_shares c_states c_letters c_shares) := hD
  refine lv_if_eq (tgt := 21) hx hb dX4_putShare_11 (by decide) (fun cq => ?_) (fun cq => ?_)
  · replace h := h.1 cq
    refine lv_iload_n hx hb dX4_putShare_21 rfl (lv_at hl 0 rfl) ?_
    exact hret r2 c_shares _ _ _ _ rfl h hP hD hS dX4_putShare_22
  · replace h := h.2 cq
    refine lv_aload_n hx hb dX4_putShare_14 rfl (lv_at hl 1 rfl) ?_
    refine va_get (D := g.1) (ci := 3) (v := .ref h_this_shares) (C := RX4) (T := TX4) (N := 6) hx hb hts iX4 hown hK hP 0 rfl rfl 5 (by decide) f21 (fun _ h9 => h9) rfl dX4_putShare_15 ?_
    refine lv_iload_n hx hb dX4_putShare_18 rfl (lv_at hl 2 rfl) ?_
    refine lv_iload_n hx hb dX4_putShare_19 rfl (lv_at hl 3 rfl) ?_
    obtain ⟨hi, h⟩ := h
    refine va_iast (D := g.1) (n := 4) (f := c_shares) hx hb hK hP hD hS 1 0 rfl rfl hi dX4_putShare_20 (fun H locs hP hD hS => ?_)
    have hP : va_P g.1 vwCl (cw_X4_putShare g h_this h_this_moves h_this_lights h_this_prices h_this_shares c_states c_letters (upd c_shares (Int32.toNatClampNeg x1) x2)) H := hP
    have hD : va_D A (cw_X4_putShare g h_this h_this_moves h_this_lights h_this_prices h_this_shares c_states c_letters (upd c_shares (Int32.toNatClampNeg x1) x2)) := hD
    refine lv_iload_n hx hb dX4_putShare_21 rfl (lv_at hl 0 rfl) ?_
    exact hret r2 (upd c_shares (Int32.toNatClampNeg x1) x2) _ _ _ _ rfl h hP hD hS dX4_putShare_22
