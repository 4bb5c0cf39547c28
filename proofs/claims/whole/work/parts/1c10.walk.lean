abbrev cw_X12_isSink (g : GG) (h_this : Nat) (h_this_states : Nat) (h_this_letters : Nat) (h_this_moves : Nat) (h_this_light : Nat) (h_this_price : Nat) (h_this_share : Nat) (h_this_word : Nat) (h_this_queue : Nat) (h_this_cameFrom : Nat) (h_this_cameBy : Nat) (h_this_isKnown : Nat) (h_this_isJoined : Nat) (h_this_made : Nat) (h_this_pairWord : Nat) (h_this_bestWord : Nat) (h_this_sum : Nat) (h_this_isSettled : Nat) (h_this_heapSum : Nat) (h_this_heapSet : Nat) (h_this_worth : Nat) (h_this_worthNext : Nat) (h_this_order : Nat) (h_this_hadMoves : Nat) (h_this_row : Nat) (h_this_pairs : Nat) (h_this_pairLong : Nat) (c_machines : Int32) (c_wordLong : Int32) (c_queued : Int32) (c_heaped : Int32) (c_states : Nat → Int32) (c_letters : Nat → Int32) (c_moves : Nat → Int32) : va_W := [(h_this, .inr (11, [.int c_machines, .ref h_this_states, .ref h_this_letters, .ref h_this_moves, .ref h_this_light, .ref h_this_price, .ref h_this_share, .int c_wordLong, .ref h_this_word, .int c_queued, .ref h_this_queue, .ref h_this_cameFrom, .ref h_this_cameBy, .ref h_this_isKnown, .ref h_this_isJoined, .ref h_this_made, .ref h_this_pairWord, .ref h_this_bestWord, .ref h_this_sum, .ref h_this_isSettled, .ref h_this_heapSum, .ref h_this_heapSet, .int c_heaped, .ref h_this_worth, .ref h_this_worthNext, .ref h_this_order, .ref h_this_hadMoves, .ref h_this_row, .ref h_this_pairs, .ref h_this_pairLong])), (h_this_states, .inl (g.2.1, 6, .inl c_states)), (h_this_letters, .inl (g.2.1, 6, .inl c_letters)), (h_this_moves, .inl (g.2.1, 288, .inl c_moves))]
def J_X12_isSink_129 (c_states : Nat → Int32) (x1 : Int32) (Q : Int32 → Prop) (x3 : Int32) : Prop :=
    vp_in x1 6 ∧ ((¬ x3 = (((nI 1) <<< ((c_states (Int32.toNatClampNeg x1)) &&& 31)) - (nI 1)) → Q (nI 0)) ∧ (x3 = (((nI 1) <<< ((c_states (Int32.toNatClampNeg x1)) &&& 31)) - (nI 1)) → Q (nI 1)))
def J_X12_isSink_124 (R_42 : Int32 → Int32 → Prop) (x3 : Int32) (t0 : Int32) : Prop :=
    R_42 x3 t0
def J_X12_isSink_113 (R_42 : Int32 → Int32 → Prop) (x3 : Int32) (x5 : Int32) : Prop :=
    ((x3 = x5 → J_X12_isSink_124 R_42 x3 (nI 0)) ∧ (¬ x3 = x5 → J_X12_isSink_124 R_42 x3 (nI 1)))
def J_X12_isSink_107 (R_53 : Int32 → Int32 → Prop) (x3 : Int32) (x6 : Int32) : Prop :=
    R_53 x3 (x6 + (nI 1))
def L_X12_isSink_67 (c_letters : Nat → Int32) (c_moves : Nat → Int32) (x1 : Int32) (x6 : Int32) (R_53 : Int32 → Int32 → Prop) : Nat → Int32 → Int32 → Prop
  | 0, _, _ => False
  | n_67 + 1, x3, x7 =>
    vp_in x1 6 ∧ (((c_letters (Int32.toNatClampNeg x1)) ≤ x7 → J_X12_isSink_107 R_53 x3 x6) ∧ (¬ (c_letters (Int32.toNatClampNeg x1)) ≤ x7 → vp_in ((((nI 48) * x1) + ((nI 4) * x6)) + x7) 288 ∧ (L_X12_isSink_67 c_letters c_moves x1 x6 R_53 n_67) (x3 ||| (((x3 >>> ((c_moves (Int32.toNatClampNeg ((((nI 48) * x1) + ((nI 4) * x6)) + x7))) &&& 31)) &&& (nI 1)) <<< (x6 &&& 31))) (x7 + (nI 1))))
def L_X12_isSink_53 (c_states : Nat → Int32) (c_letters : Nat → Int32) (c_moves : Nat → Int32) (x1 : Int32) (x5 : Int32) (R_42 : Int32 → Int32 → Prop) : Nat → Int32 → Int32 → Prop
  | 0, _, _ => False
  | n_53 + 1, x3, x6 =>
    vp_in x1 6 ∧ (((c_states (Int32.toNatClampNeg x1)) ≤ x6 → J_X12_isSink_113 R_42 x3 x5) ∧ (¬ (c_states (Int32.toNatClampNeg x1)) ≤ x6 → ∃ n, L_X12_isSink_67 c_letters c_moves x1 x6 (L_X12_isSink_53 c_states c_letters c_moves x1 x5 R_42 n_53) n x3 (nI 0)))
def L_X12_isSink_42 (c_states : Nat → Int32) (c_letters : Nat → Int32) (c_moves : Nat → Int32) (x1 : Int32) (Q : Int32 → Prop) : Nat → Int32 → Int32 → Prop
  | 0, _, _ => False
  | n_42 + 1, x3, x4 =>
    ((x4 = (nI 0) → J_X12_isSink_129 c_states x1 Q x3) ∧ (¬ x4 = (nI 0) → ∃ n, L_X12_isSink_53 c_states c_letters c_moves x1 x3 (L_X12_isSink_42 c_states c_letters c_moves x1 Q n_42) n x3 (nI 0)))
def J_X12_isSink_35 (c_states : Nat → Int32) (c_letters : Nat → Int32) (c_moves : Nat → Int32) (x1 : Int32) (x2 : Int32) (Q : Int32 → Prop) : Prop :=
    ∃ n, L_X12_isSink_42 c_states c_letters c_moves x1 Q n ((nI 1) <<< (x2 &&& 31)) (nI 1)
def L_X12_isSink_2 (c_states : Nat → Int32) (c_letters : Nat → Int32) (c_moves : Nat → Int32) (x1 : Int32) (x2 : Int32) (Q : Int32 → Prop) : Nat → Int32 → Prop
  | 0, _ => False
  | n_2 + 1, x3 =>
    vp_in x1 6 ∧ (((c_letters (Int32.toNatClampNeg x1)) ≤ x3 → J_X12_isSink_35 c_states c_letters c_moves x1 x2 Q) ∧ (¬ (c_letters (Int32.toNatClampNeg x1)) ≤ x3 → vp_in ((((nI 48) * x1) + ((nI 4) * x2)) + x3) 288 ∧ (((c_moves (Int32.toNatClampNeg ((((nI 48) * x1) + ((nI 4) * x2)) + x3))) = x2 → (L_X12_isSink_2 c_states c_letters c_moves x1 x2 Q n_2) (x3 + (nI 1))) ∧ (¬ (c_moves (Int32.toNatClampNeg ((((nI 48) * x1) + ((nI 4) * x2)) + x3))) = x2 → Q (nI 0)))))
def wp_X12_isSink (c_machines : Int32) (c_wordLong : Int32) (c_queued : Int32) (c_heaped : Int32) (c_states : Nat → Int32) (c_letters : Nat → Int32) (c_moves : Nat → Int32) (x1 : Int32) (x2 : Int32) (Q : Int32 → Prop) : Prop :=
    ∃ n, L_X12_isSink_2 c_states c_letters c_moves x1 x2 Q n (nI 0)
abbrev rm_X12_isSink : Room := { frames := 1, cells := 0, slots := 0, locals := 22 }
set_option maxHeartbeats 4000000 in
set_option maxRecDepth 100000 in
theorem k_X12_isSink (l : Launch) (g : GG) (h_this : Nat) (h_this_states : Nat) (h_this_letters : Nat) (h_this_moves : Nat) (h_this_light : Nat) (h_this_price : Nat) (h_this_share : Nat) (h_this_word : Nat) (h_this_queue : Nat) (h_this_cameFrom : Nat) (h_this_cameBy : Nat) (h_this_isKnown : Nat) (h_this_isJoined : Nat) (h_this_made : Nat) (h_this_pairWord : Nat) (h_this_bestWord : Nat) (h_this_sum : Nat) (h_this_isSettled : Nat) (h_this_heapSum : Nat) (h_this_heapSet : Nat) (h_this_worth : Nat) (h_this_worthNext : Nat) (h_this_order : Nat) (h_this_hadMoves : Nat) (h_this_row : Nat) (h_this_pairs : Nat) (h_this_pairLong : Nat) {c_machines : Int32} {c_wordLong : Int32} {c_queued : Int32} {c_heaped : Int32} {c_states : Nat → Int32} {c_letters : Nat → Int32} {c_moves : Nat → Int32} {x1 : Int32} {x2 : Int32} {Q : Int32 → Prop} (h : wp_X12_isSink c_machines c_wordLong c_queued c_heaped c_states c_letters c_moves x1 x2 Q) : CI l g yX12_isSink wsX12_isSink rm_X12_isSink [.ref h_this, .int x1, .int x2] (cw_X12_isSink g h_this h_this_states h_this_letters h_this_moves h_this_light h_this_price h_this_share h_this_word h_this_queue h_this_cameFrom h_this_cameBy h_this_isKnown h_this_isJoined h_this_made h_this_pairWord h_this_bestWord h_this_sum h_this_isSettled h_this_heapSum h_this_heapSet h_this_worth h_this_worthNext h_this_order h_this_hadMoves h_this_row h_this_pairs h_this_pairLong c_machines c_wordLong c_queued c_heaped c_states c_letters c_moves) (S := Unit) (fun _ => (cw_X12_isSink g h_this h_this_states h_this_letters h_this_moves h_this_light h_this_price h_this_share h_this_word h_this_queue h_this_cameFrom h_this_cameBy h_this_isKnown h_this_isJoined h_this_made h_this_pairWord h_this_bestWord h_this_sum h_this_isSettled h_this_heapSum h_this_heapSet h_this_worth h_this_worthNext h_this_order h_this_hadMoves h_this_row h_this_pairs h_this_pairLong c_machines c_wordLong c_queued c_heaped c_states c_letters c_moves)) (fun r _ => Q r) 0 0 := by
  refine mk_I (cc := cX12_isSink) (maxL := 8) (own := RX12) (by decide) rfl rfl (Nat.le_of_ble_eq_true rfl) ?_
  intro p e s m args below meth c A QQ E hret hP hD hS ls hl
  have E2 := E
  obtain ⟨hx, hb, hr, hml, hown, hts, hlocks, hA, hZ, hK, hnm⟩ := E2
  have f13 := hts (.fieldLink RX12 13 "WordBenchModel" "letters" "[I") (by decide +kernel)
  have f7 := hts (.fieldLink RX12 7 "WordBenchModel" "states" "[I") (by decide +kernel)
  have f16 := hts (.fieldLink RX12 16 "WordBenchModel" "moves" "[I") (by decide +kernel)
  have iX12 : ∀ w ∈ wsX120, w ∈ wsX12_isSink := fun _ h => List.mem_cons_of_mem _ (List.mem_append_right _ h)
  have hP : va_P g.1 vwCl (cw_X12_isSink g h_this h_this_states h_this_letters h_this_moves h_this_light h_this_price h_this_share h_this_word h_this_queue h_this_cameFrom h_this_cameBy h_this_isKnown h_this_isJoined h_this_made h_this_pairWord h_this_bestWord h_this_sum h_this_isSettled h_this_heapSum h_this_heapSet h_this_worth h_this_worthNext h_this_order h_this_hadMoves h_this_row h_this_pairs h_this_pairLong c_machines c_wordLong c_queued c_heaped c_states c_letters c_moves) s.heap := hP
  have hD : va_D A (cw_X12_isSink g h_this h_this_states h_this_letters h_this_moves h_this_light h_this_price h_this_share h_this_word h_this_queue h_this_cameFrom h_this_cameBy h_this_isKnown h_this_isJoined h_this_made h_this_pairWord h_this_bestWord h_this_sum h_this_isSettled h_this_heapSum h_this_heapSet h_this_worth h_this_worthNext h_this_order h_this_hadMoves h_this_row h_this_pairs h_this_pairLong c_machines c_wordLong c_queued c_heaped c_states c_letters c_moves) := hD
  have hl : lv_has ls 8 [(0, .ref h_this), (1, .int x1), (2, .int x2)] := hl
  unfold wp_X12_isSink at h
  have K_129 : ∀ (x3 : Int32) , J_X12_isSink_129 c_states x1 Q x3 → ∀ (H : Heap) (locs : List Loc), va_P g.1 vwCl (cw_X12_isSink g h_this h_this_states h_this_letters h_this_moves h_this_light h_this_price h_this_share h_this_word h_this_queue h_this_cameFrom h_this_cameBy h_this_isKnown h_this_isJoined h_this_made h_this_pairWord h_this_bestWord h_this_sum h_this_isSettled h_this_heapSum h_this_heapSet h_this_worth h_this_worthNext h_this_order h_this_hadMoves h_this_row h_this_pairs h_this_pairLong c_machines c_wordLong c_queued c_heaped c_states c_letters c_moves) H → va_D A (cw_X12_isSink g h_this h_this_states h_this_letters h_this_moves h_this_light h_this_price h_this_share h_this_word h_this_queue h_this_cameFrom h_this_cameBy h_this_isKnown h_this_isJoined h_this_made h_this_pairWord h_this_bestWord h_this_sum h_this_isSettled h_this_heapSum h_this_heapSet h_this_worth h_this_worthNext h_this_order h_this_hadMoves h_this_row h_this_pairs h_this_pairLong c_machines c_wordLong c_queued c_heaped c_states c_letters c_moves) → va_S A s.heap H locs → ∀ ls : Array Slot, lv_has ls 8 [(0, .ref h_this), (1, .int x1), (3, .int x3)] → W p l e rm_X12_isSink s m args below meth c H locs 0 0 QQ (F0 m 129 ls []) := by
    intro x3 h H locs hP hD hS ls hl
    unfold J_X12_isSink_129 at h
    refine lv_iload_n hx hb dX12_isSink_129 rfl (lv_at hl 2 rfl) ?_
    refine lv_iconst (v := (nI 1)) hx hb dX12_isSink_130 (by decide) ?_
    refine lv_aload_n hx hb dX12_isSink_131 rfl (lv_at hl 0 rfl) ?_
    refine va_get (D := g.1) (ci := 11) (v := .ref h_this_states) (C := RX12) (T := TX12) (N := 30) hx hb hts iX12 hown hK hP 0 rfl rfl 1 (by decide) f7 (fun _ h9 => h9) rfl dX12_isSink_132 ?_
    refine lv_iload_n hx hb dX12_isSink_135 rfl (lv_at hl 1 rfl) ?_
    obtain ⟨hi, h⟩ := h
    refine va_iald (D := g.1) (n := 6) (f := c_states) hx hb hK hP 1 0 rfl rfl hi dX12_isSink_136 ?_
    refine lv_ishl hx hb dX12_isSink_137 ?_
    refine lv_iconst (v := (nI 1)) hx hb dX12_isSink_138 (by decide) ?_
    refine lv_isub hx hb dX12_isSink_139 ?_
    refine lv_icmp_ne (tgt := 147) hx hb dX12_isSink_140 (by decide) (fun cq => ?_) (fun cq => ?_)
    · replace h := h.1 cq
      refine lv_iconst (v := (nI 0)) hx hb dX12_isSink_147 (by decide) ?_
      exact hret (nI 0) () _ _ _ _ nbz h hP hD hS dX12_isSink_148
    · replace h := h.2 cq
      refine lv_iconst (v := (nI 1)) hx hb dX12_isSink_143 (by decide) ?_
      refine lv_goto (tgt := 148) hx hb dX12_isSink_144 (by decide) ?_
      exact hret (nI 1) () _ _ _ _ nbo h hP hD hS dX12_isSink_148
  have K_42 : ∀ (n_42 : Nat) (x3 : Int32) (x4 : Int32) , L_X12_isSink_42 c_states c_letters c_moves x1 Q n_42 x3 x4 → ∀ (H : Heap) (locs : List Loc), va_P g.1 vwCl (cw_X12_isSink g h_this h_this_states h_this_letters h_this_moves h_this_light h_this_price h_this_share h_this_word h_this_queue h_this_cameFrom h_this_cameBy h_this_isKnown h_this_isJoined h_this_made h_this_pairWord h_this_bestWord h_this_sum h_this_isSettled h_this_heapSum h_this_heapSet h_this_worth h_this_worthNext h_this_order h_this_hadMoves h_this_row h_this_pairs h_this_pairLong c_machines c_wordLong c_queued c_heaped c_states c_letters c_moves) H → va_D A (cw_X12_isSink g h_this h_this_states h_this_letters h_this_moves h_this_light h_this_price h_this_share h_this_word h_this_queue h_this_cameFrom h_this_cameBy h_this_isKnown h_this_isJoined h_this_made h_this_pairWord h_this_bestWord h_this_sum h_this_isSettled h_this_heapSum h_this_heapSet h_this_worth h_this_worthNext h_this_order h_this_hadMoves h_this_row h_this_pairs h_this_pairLong c_machines c_wordLong c_queued c_heaped c_states c_letters c_moves) → va_S A s.heap H locs → ∀ ls : Array Slot, lv_has ls 8 [(0, .ref h_this), (1, .int x1), (3, .int x3), (4, .int x4)] → W p l e rm_X12_isSink s m args below meth c H locs 0 0 QQ (F0 m 42 ls []) := by
    intro n_42
    induction n_42 with
    | zero => intro x3 x4; exact fun h => False.elim h
    | succ n_42 ih_42 =>
      intro x3 x4 h H locs hP hD hS ls hl
      unfold L_X12_isSink_42 at h
      have K_124 : ∀ (x3 : Int32) (t0 : Int32) , J_X12_isSink_124 (L_X12_isSink_42 c_states c_letters c_moves x1 Q n_42) x3 t0 → ∀ (H : Heap) (locs : List Loc), va_P g.1 vwCl (cw_X12_isSink g h_this h_this_states h_this_letters h_this_moves h_this_light h_this_price h_this_share h_this_word h_this_queue h_this_cameFrom h_this_cameBy h_this_isKnown h_this_isJoined h_this_made h_this_pairWord h_this_bestWord h_this_sum h_this_isSettled h_this_heapSum h_this_heapSet h_this_worth h_this_worthNext h_this_order h_this_hadMoves h_this_row h_this_pairs h_this_pairLong c_machines c_wordLong c_queued c_heaped c_states c_letters c_moves) H → va_D A (cw_X12_isSink g h_this h_this_states h_this_letters h_this_moves h_this_light h_this_price h_this_share h_this_word h_this_queue h_this_cameFrom h_this_cameBy h_this_isKnown h_this_isJoined h_this_made h_this_pairWord h_this_bestWord h_this_sum h_this_isSettled h_this_heapSum h_this_heapSet h_this_worth h_this_worthNext h_this_order h_this_hadMoves h_this_row h_this_pairs h_this_pairLong c_machines c_wordLong c_queued c_heaped c_states c_letters c_moves) → va_S A s.heap H locs → ∀ ls : Array Slot, lv_has ls 8 [(0, .ref h_this), (1, .int x1), (3, .int x3)] → W p l e rm_X12_isSink s m args below meth c H locs 0 0 QQ (F0 m 124 ls [.int t0]) := by
        intro x3 t0 h H locs hP hD hS ls hl
        unfold J_X12_isSink_124 at h
        refine lv_istore (lv' := [(4, .int t0), (0, .ref h_this), (1, .int x1), (3, .int x3)]) hx hb dX12_isSink_124 hl (by decide) rfl (fun ls hl => ?_)
        refine lv_goto (tgt := 42) hx hb dX12_isSink_126 (by decide) ?_
        exact ih_42 x3 t0 h _ _ hP hD hS _ (lv_sub hl [1, 2, 3, 0] rfl)
      have K_113 : ∀ (x3 : Int32) (x5 : Int32) , J_X12_isSink_113 (L_X12_isSink_42 c_states c_letters c_moves x1 Q n_42) x3 x5 → ∀ (H : Heap) (locs : List Loc), va_P g.1 vwCl (cw_X12_isSink g h_this h_this_states h_this_letters h_this_moves h_this_light h_this_price h_this_share h_this_word h_this_queue h_this_cameFrom h_this_cameBy h_this_isKnown h_this_isJoined h_this_made h_this_pairWord h_this_bestWord h_this_sum h_this_isSettled h_this_heapSum h_this_heapSet h_this_worth h_this_worthNext h_this_order h_this_hadMoves h_this_row h_this_pairs h_this_pairLong c_machines c_wordLong c_queued c_heaped c_states c_letters c_moves) H → va_D A (cw_X12_isSink g h_this h_this_states h_this_letters h_this_moves h_this_light h_this_price h_this_share h_this_word h_this_queue h_this_cameFrom h_this_cameBy h_this_isKnown h_this_isJoined h_this_made h_this_pairWord h_this_bestWord h_this_sum h_this_isSettled h_this_heapSum h_this_heapSet h_this_worth h_this_worthNext h_this_order h_this_hadMoves h_this_row h_this_pairs h_this_pairLong c_machines c_wordLong c_queued c_heaped c_states c_letters c_moves) → va_S A s.heap H locs → ∀ ls : Array Slot, lv_has ls 8 [(0, .ref h_this), (1, .int x1), (3, .int x3), (5, .int x5)] → W p l e rm_X12_isSink s m args below meth c H locs 0 0 QQ (F0 m 113 ls []) := by
        intro x3 x5 h H locs hP hD hS ls hl
        unfold J_X12_isSink_113 at h
        refine lv_iload_n hx hb dX12_isSink_113 rfl (lv_at hl 2 rfl) ?_
        refine lv_iload hx hb dX12_isSink_114 (lv_at hl 3 rfl) ?_
        refine lv_icmp_eq (tgt := 123) hx hb dX12_isSink_116 (by decide) (fun cq => ?_) (fun cq => ?_)
        · replace h := h.1 cq
          refine lv_iconst (v := (nI 0)) hx hb dX12_isSink_123 (by decide) ?_
          exact K_124 x3 (nI 0) h _ _ hP hD hS _ (lv_sub hl [0, 1, 2] rfl)
        · replace h := h.2 cq
          refine lv_iconst (v := (nI 1)) hx hb dX12_isSink_119 (by decide) ?_
          refine lv_goto (tgt := 124) hx hb dX12_isSink_120 (by decide) ?_
          exact K_124 x3 (nI 1) h _ _ hP hD hS _ (lv_sub hl [0, 1, 2] rfl)
      have K_53 : ∀ (x5 : Int32) (n_53 : Nat) (x3 : Int32) (x6 : Int32) , L_X12_isSink_53 c_states c_letters c_moves x1 x5 (L_X12_isSink_42 c_states c_letters c_moves x1 Q n_42) n_53 x3 x6 → ∀ (H : Heap) (locs : List Loc), va_P g.1 vwCl (cw_X12_isSink g h_this h_this_states h_this_letters h_this_moves h_this_light h_this_price h_this_share h_this_word h_this_queue h_this_cameFrom h_this_cameBy h_this_isKnown h_this_isJoined h_this_made h_this_pairWord h_this_bestWord h_this_sum h_this_isSettled h_this_heapSum h_this_heapSet h_this_worth h_this_worthNext h_this_order h_this_hadMoves h_this_row h_this_pairs h_this_pairLong c_machines c_wordLong c_queued c_heaped c_states c_letters c_moves) H → va_D A (cw_X12_isSink g h_this h_this_states h_this_letters h_this_moves h_this_light h_this_price h_this_share h_this_word h_this_queue h_this_cameFrom h_this_cameBy h_this_isKnown h_this_isJoined h_this_made h_this_pairWord h_this_bestWord h_this_sum h_this_isSettled h_this_heapSum h_this_heapSet h_this_worth h_this_worthNext h_this_order h_this_hadMoves h_this_row h_this_pairs h_this_pairLong c_machines c_wordLong c_queued c_heaped c_states c_letters c_moves) → va_S A s.heap H locs → ∀ ls : Array Slot, lv_has ls 8 [(0, .ref h_this), (1, .int x1), (3, .int x3), (5, .int x5), (6, .int x6)] → W p l e rm_X12_isSink s m args below meth c H locs 0 0 QQ (F0 m 53 ls []) := by
        intro x5 n_53
        induction n_53 with
        | zero => intro x3 x6; exact fun h => False.elim h
        | succ n_53 ih_53 =>
          intro x3 x6 h H locs hP hD hS ls hl
          unfold L_X12_isSink_53 at h
          have K_107 : ∀ (x3 : Int32) (x6 : Int32) , J_X12_isSink_107 (L_X12_isSink_53 c_states c_letters c_moves x1 x5 (L_X12_isSink_42 c_states c_letters c_moves x1 Q n_42) n_53) x3 x6 → ∀ (H : Heap) (locs : List Loc), va_P g.1 vwCl (cw_X12_isSink g h_this h_this_states h_this_letters h_this_moves h_this_light h_this_price h_this_share h_this_word h_this_queue h_this_cameFrom h_this_cameBy h_this_isKnown h_this_isJoined h_this_made h_this_pairWord h_this_bestWord h_this_sum h_this_isSettled h_this_heapSum h_this_heapSet h_this_worth h_this_worthNext h_this_order h_this_hadMoves h_this_row h_this_pairs h_this_pairLong c_machines c_wordLong c_queued c_heaped c_states c_letters c_moves) H → va_D A (cw_X12_isSink g h_this h_this_states h_this_letters h_this_moves h_this_light h_this_price h_this_share h_this_word h_this_queue h_this_cameFrom h_this_cameBy h_this_isKnown h_this_isJoined h_this_made h_this_pairWord h_this_bestWord h_this_sum h_this_isSettled h_this_heapSum h_this_heapSet h_this_worth h_this_worthNext h_this_order h_this_hadMoves h_this_row h_this_pairs h_this_pairLong c_machines c_wordLong c_queued c_heaped c_states c_letters c_moves) → va_S A s.heap H locs → ∀ ls : Array Slot, lv_has ls 8 [(0, .ref h_this), (1, .int x1), (3, .int x3), (5, .int x5), (6, .int x6)] → W p l e rm_X12_isSink s m args below meth c H locs 0 0 QQ (F0 m 107 ls []) := by
            intro x3 x6 h H locs hP hD hS ls hl
            unfold J_X12_isSink_107 at h
            refine lv_iinc (v := (x6 + (nI 1))) (lv' := [(6, .int (x6 + (nI 1))), (0, .ref h_this), (1, .int x1), (3, .int x3), (5, .int x5)]) hx hb dX12_isSink_107 hl (k := 4) rfl rfl (by decide) rfl (fun ls hl => ?_)
            refine lv_goto (tgt := 53) hx hb dX12_isSink_110 (by decide) ?_
            exact ih_53 x3 (x6 + (nI 1)) h _ _ hP hD hS _ (lv_sub hl [1, 2, 3, 4, 0] rfl)
          have K_67 : ∀ (x6 : Int32) (n_67 : Nat) (x3 : Int32) (x7 : Int32) , L_X12_isSink_67 c_letters c_moves x1 x6 (L_X12_isSink_53 c_states c_letters c_moves x1 x5 (L_X12_isSink_42 c_states c_letters c_moves x1 Q n_42) n_53) n_67 x3 x7 → ∀ (H : Heap) (locs : List Loc), va_P g.1 vwCl (cw_X12_isSink g h_this h_this_states h_this_letters h_this_moves h_this_light h_this_price h_this_share h_this_word h_this_queue h_this_cameFrom h_this_cameBy h_this_isKnown h_this_isJoined h_this_made h_this_pairWord h_this_bestWord h_this_sum h_this_isSettled h_this_heapSum h_this_heapSet h_this_worth h_this_worthNext h_this_order h_this_hadMoves h_this_row h_this_pairs h_this_pairLong c_machines c_wordLong c_queued c_heaped c_states c_letters c_moves) H → va_D A (cw_X12_isSink g h_this h_this_states h_this_letters h_this_moves h_this_light h_this_price h_this_share h_this_word h_this_queue h_this_cameFrom h_this_cameBy h_this_isKnown h_this_isJoined h_this_made h_this_pairWord h_this_bestWord h_this_sum h_this_isSettled h_this_heapSum h_this_heapSet h_this_worth h_this_worthNext h_this_order h_this_hadMoves h_this_row h_this_pairs h_this_pairLong c_machines c_wordLong c_queued c_heaped c_states c_letters c_moves) → va_S A s.heap H locs → ∀ ls : Array Slot, lv_has ls 8 [(0, .ref h_this), (1, .int x1), (3, .int x3), (5, .int x5), (6, .int x6), (7, .int x7)] → W p l e rm_X12_isSink s m args below meth c H locs 0 0 QQ (F0 m 67 ls []) := by
            intro x6 n_67
            induction n_67 with
            | zero => intro x3 x7; exact fun h => False.elim h
            | succ n_67 ih_67 =>
              intro x3 x7 h H locs hP hD hS ls hl
              unfold L_X12_isSink_67 at h
              refine lv_iload hx hb dX12_isSink_67 (lv_at hl 5 rfl) ?_
              refine lv_aload_n hx hb dX12_isSink_69 rfl (lv_at hl 0 rfl) ?_
              refine va_get (D := g.1) (ci := 11) (v := .ref h_this_letters) (C := RX12) (T := TX12) (N := 30) hx hb hts iX12 hown hK hP 0 rfl rfl 2 (by decide) f13 (fun _ h9 => h9) rfl dX12_isSink_70 ?_
              refine lv_iload_n hx hb dX12_isSink_73 rfl (lv_at hl 1 rfl) ?_
              obtain ⟨hi, h⟩ := h
              refine va_iald (D := g.1) (n := 6) (f := c_letters) hx hb hK hP 2 0 rfl rfl hi dX12_isSink_74 ?_
              refine lv_icmp_ge (tgt := 107) hx hb dX12_isSink_75 (by decide) (fun cq => ?_) (fun cq => ?_)
              · replace h := h.1 cq
                exact K_107 x3 x6 h _ _ hP hD hS _ (lv_sub hl [0, 1, 2, 3, 4] rfl)
              · replace h := h.2 cq
                refine lv_iload_n hx hb dX12_isSink_78 rfl (lv_at hl 2 rfl) ?_
                refine lv_iload_n hx hb dX12_isSink_79 rfl (lv_at hl 2 rfl) ?_
                refine lv_aload_n hx hb dX12_isSink_80 rfl (lv_at hl 0 rfl) ?_
                refine va_get (D := g.1) (ci := 11) (v := .ref h_this_moves) (C := RX12) (T := TX12) (N := 30) hx hb hts iX12 hown hK hP 0 rfl rfl 3 (by decide) f16 (fun _ h9 => h9) rfl dX12_isSink_81 ?_
                refine lv_iload_n hx hb dX12_isSink_84 rfl (lv_at hl 1 rfl) ?_
                refine lv_iload hx hb dX12_isSink_85 (lv_at hl 4 rfl) ?_
                refine lv_iload hx hb dX12_isSink_87 (lv_at hl 5 rfl) ?_
                refine go_I E (run_S E ((k_X12_at l g  (Q := fun r => r = ((((nI 48) * x1) + ((nI 4) * x6)) + x7)) rfl) _) (va_cwS 3 hts gX12_isSink_X12_at rfl rfl rfl (by decide +kernel) ⟨Nat.le_of_ble_eq_true rfl, Nat.le_of_ble_eq_true rfl⟩) hP hD hS [] rfl rfl hl rfl rfl (Nat.le_of_ble_eq_true rfl) dX12_isSink_89 ⟨Nat.le_of_ble_eq_true rfl, Nat.le_of_ble_eq_true rfl⟩) hP hD hS [] rfl [(true, 0), (true, 1), (true, 2), (true, 3)] rfl (by decide) (fun _ => (cw_X12_isSink g h_this h_this_states h_this_letters h_this_moves h_this_light h_this_price h_this_share h_this_word h_this_queue h_this_cameFrom h_this_cameBy h_this_isKnown h_this_isJoined h_this_made h_this_pairWord h_this_bestWord h_this_sum h_this_isSettled h_this_heapSum h_this_heapSet h_this_worth h_this_worthNext h_this_order h_this_hadMoves h_this_row h_this_pairs h_this_pairLong c_machines c_wordLong c_queued c_heaped c_states c_letters c_moves)) (fun _ => rfl) (fun r2 _ H locs hr_ hP hD hS => ?_)
                have hr_ : ((((nI 48) * x1) + ((nI 4) * x6)) + x7) = r2 := Eq.symm hr_
                subst hr_
                have hP : va_P g.1 vwCl (cw_X12_isSink g h_this h_this_states h_this_letters h_this_moves h_this_light h_this_price h_this_share h_this_word h_this_queue h_this_cameFrom h_this_cameBy h_this_isKnown h_this_isJoined h_this_made h_this_pairWord h_this_bestWord h_this_sum h_this_isSettled h_this_heapSum h_this_heapSet h_this_worth h_this_worthNext h_this_order h_this_hadMoves h_this_row h_this_pairs h_this_pairLong c_machines c_wordLong c_queued c_heaped c_states c_letters c_moves) H := hP
                have hD : va_D A (cw_X12_isSink g h_this h_this_states h_this_letters h_this_moves h_this_light h_this_price h_this_share h_this_word h_this_queue h_this_cameFrom h_this_cameBy h_this_isKnown h_this_isJoined h_this_made h_this_pairWord h_this_bestWord h_this_sum h_this_isSettled h_this_heapSum h_this_heapSet h_this_worth h_this_worthNext h_this_order h_this_hadMoves h_this_row h_this_pairs h_this_pairLong c_machines c_wordLong c_queued c_heaped c_states c_letters c_moves) := hD
                obtain ⟨hi, h⟩ := h
                refine va_iald (D := g.1) (n := 288) (f := c_moves) hx hb hK hP 3 0 rfl rfl hi dX12_isSink_92 ?_
                refine lv_ishr hx hb dX12_isSink_93 ?_
                refine lv_iconst (v := (nI 1)) hx hb dX12_isSink_94 (by decide) ?_
                refine lv_iand hx hb dX12_isSink_95 ?_
                refine lv_iload hx hb dX12_isSink_96 (lv_at hl 4 rfl) ?_
                refine lv_ishl hx hb dX12_isSink_98 ?_
                refine lv_ior hx hb dX12_isSink_99 ?_
                refine lv_istore_n (lv' := [(3, .int (x3 ||| (((x3 >>> ((c_moves (Int32.toNatClampNeg ((((nI 48) * x1) + ((nI 4) * x6)) + x7))) &&& 31)) &&& (nI 1)) <<< (x6 &&& 31)))), (0, .ref h_this), (1, .int x1), (5, .int x5), (6, .int x6), (7, .int x7)]) hx hb dX12_isSink_100 rfl hl (by decide) rfl (fun ls hl => ?_)
                refine lv_iinc (v := (x7 + (nI 1))) (lv' := [(7, .int (x7 + (nI 1))), (3, .int (x3 ||| (((x3 >>> ((c_moves (Int32.toNatClampNeg ((((nI 48) * x1) + ((nI 4) * x6)) + x7))) &&& 31)) &&& (nI 1)) <<< (x6 &&& 31)))), (0, .ref h_this), (1, .int x1), (5, .int x5), (6, .int x6)]) hx hb dX12_isSink_101 hl (k := 5) rfl rfl (by decide) rfl (fun ls hl => ?_)
                refine lv_goto (tgt := 67) hx hb dX12_isSink_104 (by decide) ?_
                exact ih_67 (x3 ||| (((x3 >>> ((c_moves (Int32.toNatClampNeg ((((nI 48) * x1) + ((nI 4) * x6)) + x7))) &&& 31)) &&& (nI 1)) <<< (x6 &&& 31))) (x7 + (nI 1)) h _ _ hP hD hS _ (lv_sub hl [2, 3, 1, 4, 5, 0] rfl)
          refine lv_iload hx hb dX12_isSink_53 (lv_at hl 4 rfl) ?_
          refine lv_aload_n hx hb dX12_isSink_55 rfl (lv_at hl 0 rfl) ?_
          refine va_get (D := g.1) (ci := 11) (v := .ref h_this_states) (C := RX12) (T := TX12) (N := 30) hx hb hts iX12 hown hK hP 0 rfl rfl 1 (by decide) f7 (fun _ h9 => h9) rfl dX12_isSink_56 ?_
          refine lv_iload_n hx hb dX12_isSink_59 rfl (lv_at hl 1 rfl) ?_
          obtain ⟨hi, h⟩ := h
          refine va_iald (D := g.1) (n := 6) (f := c_states) hx hb hK hP 1 0 rfl rfl hi dX12_isSink_60 ?_
          refine lv_icmp_ge (tgt := 113) hx hb dX12_isSink_61 (by decide) (fun cq => ?_) (fun cq => ?_)
          · replace h := h.1 cq
            exact K_113 x3 x5 h _ _ hP hD hS _ (lv_sub hl [0, 1, 2, 3] rfl)
          · replace h := h.2 cq
            refine lv_iconst (v := (nI 0)) hx hb dX12_isSink_64 (by decide) ?_
            refine lv_istore (lv' := [(7, .int (nI 0)), (0, .ref h_this), (1, .int x1), (3, .int x3), (5, .int x5), (6, .int x6)]) hx hb dX12_isSink_65 hl (by decide) rfl (fun ls hl => ?_)
            obtain ⟨n, h⟩ := h
            exact K_67 x6 n x3 (nI 0) h _ _ hP hD hS _ (lv_sub hl [1, 2, 3, 4, 5, 0] rfl)
      refine lv_iload hx hb dX12_isSink_42 (lv_at hl 3 rfl) ?_
      refine lv_if_eq (tgt := 129) hx hb dX12_isSink_44 (by decide) (fun cq => ?_) (fun cq => ?_)
      · replace h := h.1 cq
        exact K_129 x3 h _ _ hP hD hS _ (lv_sub hl [0, 1, 2] rfl)
      · replace h := h.2 cq
        refine lv_iload_n hx hb dX12_isSink_47 rfl (lv_at hl 2 rfl) ?_
        refine lv_istore (lv' := [(5, .int x3), (0, .ref h_this), (1, .int x1), (3, .int x3), (4, .int x4)]) hx hb dX12_isSink_48 hl (by decide) rfl (fun ls hl => ?_)
        refine lv_iconst (v := (nI 0)) hx hb dX12_isSink_50 (by decide) ?_
        refine lv_istore (lv' := [(6, .int (nI 0)), (5, .int x3), (0, .ref h_this), (1, .int x1), (3, .int x3), (4, .int x4)]) hx hb dX12_isSink_51 hl (by decide) rfl (fun ls hl => ?_)
        obtain ⟨n, h⟩ := h
        exact K_53 x3 n x3 (nI 0) h _ _ hP hD hS _ (lv_sub hl [2, 3, 4, 1, 0] rfl)
  have K_35 : J_X12_isSink_35 c_states c_letters c_moves x1 x2 Q → ∀ (H : Heap) (locs : List Loc), va_P g.1 vwCl (cw_X12_isSink g h_this h_this_states h_this_letters h_this_moves h_this_light h_this_price h_this_share h_this_word h_this_queue h_this_cameFrom h_this_cameBy h_this_isKnown h_this_isJoined h_this_made h_this_pairWord h_this_bestWord h_this_sum h_this_isSettled h_this_heapSum h_this_heapSet h_this_worth h_this_worthNext h_this_order h_this_hadMoves h_this_row h_this_pairs h_this_pairLong c_machines c_wordLong c_queued c_heaped c_states c_letters c_moves) H → va_D A (cw_X12_isSink g h_this h_this_states h_this_letters h_this_moves h_this_light h_this_price h_this_share h_this_word h_this_queue h_this_cameFrom h_this_cameBy h_this_isKnown h_this_isJoined h_this_made h_this_pairWord h_this_bestWord h_this_sum h_this_isSettled h_this_heapSum h_this_heapSet h_this_worth h_this_worthNext h_this_order h_this_hadMoves h_this_row h_this_pairs h_this_pairLong c_machines c_wordLong c_queued c_heaped c_states c_letters c_moves) → va_S A s.heap H locs → ∀ ls : Array Slot, lv_has ls 8 [(0, .ref h_this), (1, .int x1), (2, .int x2)] → W p l e rm_X12_isSink s m args below meth c H locs 0 0 QQ (F0 m 35 ls []) := by
    intro h H locs hP hD hS ls hl
    unfold J_X12_isSink_35 at h
    refine lv_iconst (v := (nI 1)) hx hb dX12_isSink_35 (by decide) ?_
    refine lv_iload_n hx hb dX12_isSink_36 rfl (lv_at hl 2 rfl) ?_
    refine lv_ishl hx hb dX12_isSink_37 ?_
    refine lv_istore_n (lv' := [(3, .int ((nI 1) <<< (x2 &&& 31))), (0, .ref h_this), (1, .int x1), (2, .int x2)]) hx hb dX12_isSink_38 rfl hl (by decide) rfl (fun ls hl => ?_)
    refine lv_iconst (v := (nI 1)) hx hb dX12_isSink_39 (by decide) ?_
    refine lv_istore (lv' := [(4, .int (nI 1)), (3, .int ((nI 1) <<< (x2 &&& 31))), (0, .ref h_this), (1, .int x1), (2, .int x2)]) hx hb dX12_isSink_40 hl (by decide) rfl (fun ls hl => ?_)
    obtain ⟨n, h⟩ := h
    exact K_42 n ((nI 1) <<< (x2 &&& 31)) (nI 1) h _ _ hP hD hS _ (lv_sub hl [2, 3, 1, 0] rfl)
  have K_2 : ∀ (n_2 : Nat) (x3 : Int32) , L_X12_isSink_2 c_states c_letters c_moves x1 x2 Q n_2 x3 → ∀ (H : Heap) (locs : List Loc), va_P g.1 vwCl (cw_X12_isSink g h_this h_this_states h_this_letters h_this_moves h_this_light h_this_price h_this_share h_this_word h_this_queue h_this_cameFrom h_this_cameBy h_this_isKnown h_this_isJoined h_this_made h_this_pairWord h_this_bestWord h_this_sum h_this_isSettled h_this_heapSum h_this_heapSet h_this_worth h_this_worthNext h_this_order h_this_hadMoves h_this_row h_this_pairs h_this_pairLong c_machines c_wordLong c_queued c_heaped c_states c_letters c_moves) H → va_D A (cw_X12_isSink g h_this h_this_states h_this_letters h_this_moves h_this_light h_this_price h_this_share h_this_word h_this_queue h_this_cameFrom h_this_cameBy h_this_isKnown h_this_isJoined h_this_made h_this_pairWord h_this_bestWord h_this_sum h_this_isSettled h_this_heapSum h_this_heapSet h_this_worth h_this_worthNext h_this_order h_this_hadMoves h_this_row h_this_pairs h_this_pairLong c_machines c_wordLong c_queued c_heaped c_states c_letters c_moves) → va_S A s.heap H locs → ∀ ls : Array Slot, lv_has ls 8 [(0, .ref h_this), (1, .int x1), (2, .int x2), (3, .int x3)] → W p l e rm_X12_isSink s m args below meth c H locs 0 0 QQ (F0 m 2 ls []) := by
    intro n_2
    induction n_2 with
    | zero => intro x3; exact fun h => False.elim h
    | succ n_2 ih_2 =>
      intro x3 h H locs hP hD hS ls hl
      unfold L_X12_isSink_2 at h
      refine lv_iload_n hx hb dX12_isSink_2 rfl (lv_at hl 3 rfl) ?_
      refine lv_aload_n hx hb dX12_isSink_3 rfl (lv_at hl 0 rfl) ?_
      refine va_get (D := g.1) (ci := 11) (v := .ref h_this_letters) (C := RX12) (T := TX12) (N := 30) hx hb hts iX12 hown hK hP 0 rfl rfl 2 (by decide) f13 (fun _ h9 => h9) rfl dX12_isSink_4 ?_
      refine lv_iload_n hx hb dX12_isSink_7 rfl (lv_at hl 1 rfl) ?_
      obtain ⟨hi, h⟩ := h
      refine va_iald (D := g.1) (n := 6) (f := c_letters) hx hb hK hP 2 0 rfl rfl hi dX12_isSink_8 ?_
      refine lv_icmp_ge (tgt := 35) hx hb dX12_isSink_9 (by decide) (fun cq => ?_) (fun cq => ?_)
      · replace h := h.1 cq
        exact K_35 h _ _ hP hD hS _ (lv_sub hl [0, 1, 2] rfl)
      · replace h := h.2 cq
        refine lv_aload_n hx hb dX12_isSink_12 rfl (lv_at hl 0 rfl) ?_
        refine va_get (D := g.1) (ci := 11) (v := .ref h_this_moves) (C := RX12) (T := TX12) (N := 30) hx hb hts iX12 hown hK hP 0 rfl rfl 3 (by decide) f16 (fun _ h9 => h9) rfl dX12_isSink_13 ?_
        refine lv_iload_n hx hb dX12_isSink_16 rfl (lv_at hl 1 rfl) ?_
        refine lv_iload_n hx hb dX12_isSink_17 rfl (lv_at hl 2 rfl) ?_
        refine lv_iload_n hx hb dX12_isSink_18 rfl (lv_at hl 3 rfl) ?_
        refine go_I E (run_S E ((k_X12_at l g  (Q := fun r => r = ((((nI 48) * x1) + ((nI 4) * x2)) + x3)) rfl) _) (va_cwS 3 hts gX12_isSink_X12_at rfl rfl rfl (by decide +kernel) ⟨Nat.le_of_ble_eq_true rfl, Nat.le_of_ble_eq_true rfl⟩) hP hD hS [] rfl rfl hl rfl rfl (Nat.le_of_ble_eq_true rfl) dX12_isSink_19 ⟨Nat.le_of_ble_eq_true rfl, Nat.le_of_ble_eq_true rfl⟩) hP hD hS [] rfl [(true, 0), (true, 1), (true, 2), (true, 3)] rfl (by decide) (fun _ => (cw_X12_isSink g h_this h_this_states h_this_letters h_this_moves h_this_light h_this_price h_this_share h_this_word h_this_queue h_this_cameFrom h_this_cameBy h_this_isKnown h_this_isJoined h_this_made h_this_pairWord h_this_bestWord h_this_sum h_this_isSettled h_this_heapSum h_this_heapSet h_this_worth h_this_worthNext h_this_order h_this_hadMoves h_this_row h_this_pairs h_this_pairLong c_machines c_wordLong c_queued c_heaped c_states c_letters c_moves)) (fun _ => rfl) (fun r4 _ H locs hr_ hP hD hS => ?_)
        have hr_ : ((((nI 48) * x1) + ((nI 4) * x2)) + x3) = r4 := Eq.symm hr_
        subst hr_
        have hP : va_P g.1 vwCl (cw_X12_isSink g h_this h_this_states h_this_letters h_this_moves h_this_light h_this_price h_this_share h_this_word h_this_queue h_this_cameFrom h_this_cameBy h_this_isKnown h_this_isJoined h_this_made h_this_pairWord h_this_bestWord h_this_sum h_this_isSettled h_this_heapSum h_this_heapSet h_this_worth h_this_worthNext h_this_order h_this_hadMoves h_this_row h_this_pairs h_this_pairLong c_machines c_wordLong c_queued c_heaped c_states c_letters c_moves) H := hP
        have hD : va_D A (cw_X12_isSink g h_this h_this_states h_this_letters h_this_moves h_this_light h_this_price h_this_share h_this_word h_this_queue h_this_cameFrom h_this_cameBy h_this_isKnown h_this_isJoined h_this_made h_this_pairWord h_this_bestWord h_this_sum h_this_isSettled h_this_heapSum h_this_heapSet h_this_worth h_this_worthNext h_this_order h_this_hadMoves h_this_row h_this_pairs h_this_pairLong c_machines c_wordLong c_queued c_heaped c_states c_letters c_moves) := hD
        obtain ⟨hi, h⟩ := h
        refine va_iald (D := g.1) (n := 288) (f := c_moves) hx hb hK hP 3 0 rfl rfl hi dX12_isSink_22 ?_
        refine lv_iload_n hx hb dX12_isSink_23 rfl (lv_at hl 2 rfl) ?_
        refine lv_icmp_eq (tgt := 29) hx hb dX12_isSink_24 (by decide) (fun cq => ?_) (fun cq => ?_)
        · replace h := h.1 cq
          refine lv_iinc (v := (x3 + (nI 1))) (lv' := [(3, .int (x3 + (nI 1))), (0, .ref h_this), (1, .int x1), (2, .int x2)]) hx hb dX12_isSink_29 hl (k := 3) rfl rfl (by decide) rfl (fun ls hl => ?_)
          refine lv_goto (tgt := 2) hx hb dX12_isSink_32 (by decide) ?_
          exact ih_2 (x3 + (nI 1)) h _ _ hP hD hS _ (lv_sub hl [1, 2, 3, 0] rfl)
        · replace h := h.2 cq
          refine lv_iconst (v := (nI 0)) hx hb dX12_isSink_27 (by decide) ?_
          exact hret (nI 0) () _ _ _ _ nbz h hP hD hS dX12_isSink_28
  refine lv_iconst (v := (nI 0)) hx hb dX12_isSink_0 (by decide) ?_
  refine lv_istore_n (lv' := [(3, .int (nI 0)), (0, .ref h_this), (1, .int x1), (2, .int x2)]) hx hb dX12_isSink_1 rfl hl (by decide) rfl (fun ls hl => ?_)
  obtain ⟨n, h⟩ := h
  exact K_2 n (nI 0) h _ _ hP hD hS _ (lv_sub hl [1, 2, 3, 0] rfl)
