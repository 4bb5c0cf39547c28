abbrev cw_X12_apartPairs (g : GG) (h_this : Nat) (h_this_states : Nat) (h_this_letters : Nat) (h_this_moves : Nat) (h_this_light : Nat) (h_this_price : Nat) (h_this_share : Nat) (h_this_word : Nat) (h_this_queue : Nat) (h_this_cameFrom : Nat) (h_this_cameBy : Nat) (h_this_isKnown : Nat) (h_this_isJoined : Nat) (h_this_made : Nat) (h_this_pairWord : Nat) (h_this_bestWord : Nat) (h_this_sum : Nat) (h_this_isSettled : Nat) (h_this_heapSum : Nat) (h_this_heapSet : Nat) (h_this_worth : Nat) (h_this_worthNext : Nat) (h_this_order : Nat) (h_this_hadMoves : Nat) (h_this_row : Nat) (h_this_pairs : Nat) (h_this_pairLong : Nat) (c_machines : Int32) (c_wordLong : Int32) (c_queued : Int32) (c_heaped : Int32) (c_states : Nat → Int32) (c_letters : Nat → Int32) (c_moves : Nat → Int32) (c_isJoined : Nat → Int32) : va_W := [(h_this, .inr (11, [.int c_machines, .ref h_this_states, .ref h_this_letters, .ref h_this_moves, .ref h_this_light, .ref h_this_price, .ref h_this_share, .int c_wordLong, .ref h_this_word, .int c_queued, .ref h_this_queue, .ref h_this_cameFrom, .ref h_this_cameBy, .ref h_this_isKnown, .ref h_this_isJoined, .ref h_this_made, .ref h_this_pairWord, .ref h_this_bestWord, .ref h_this_sum, .ref h_this_isSettled, .ref h_this_heapSum, .ref h_this_heapSet, .int c_heaped, .ref h_this_worth, .ref h_this_worthNext, .ref h_this_order, .ref h_this_hadMoves, .ref h_this_row, .ref h_this_pairs, .ref h_this_pairLong])), (h_this_states, .inl (g.2.1, 6, .inl c_states)), (h_this_letters, .inl (g.2.1, 6, .inl c_letters)), (h_this_moves, .inl (g.2.1, 288, .inl c_moves)), (h_this_isJoined, .inl (g.2.2.2.1, 144, .inl c_isJoined))]
def J_X12_apartPairs_204 (R_40 : Int32 → Int32 → (Nat → Int32) → Prop) (x3 : Int32) (x4 : Int32) (c_isJoined : Nat → Int32) : Prop :=
    R_40 x3 x4 c_isJoined
def J_X12_apartPairs_198 (R_51 : Int32 → Int32 → Int32 → (Nat → Int32) → Prop) (x3 : Int32) (x4 : Int32) (x5 : Int32) (c_isJoined : Nat → Int32) : Prop :=
    R_51 x3 x4 (x5 + (nI 1)) c_isJoined
def J_X12_apartPairs_192 (R_63 : Int32 → Int32 → Int32 → (Nat → Int32) → Prop) (x3 : Int32) (x4 : Int32) (x6 : Int32) (c_isJoined : Nat → Int32) : Prop :=
    R_63 x3 x4 (x6 + (nI 1)) c_isJoined
def J_X12_apartPairs_186 (R_72 : Int32 → Int32 → Int32 → (Nat → Int32) → Prop) (x3 : Int32) (x4 : Int32) (x7 : Int32) (c_isJoined : Nat → Int32) : Prop :=
    R_72 x3 x4 (x7 + (nI 1)) c_isJoined
def L_X12_apartPairs_72 (c_machines : Int32) (c_wordLong : Int32) (c_queued : Int32) (c_heaped : Int32) (c_letters : Nat → Int32) (c_moves : Nat → Int32) (x1 : Int32) (x5 : Int32) (x6 : Int32) (R_63 : Int32 → Int32 → Int32 → (Nat → Int32) → Prop) : Nat → Int32 → Int32 → Int32 → (Nat → Int32) → Prop
  | 0, _, _, _, _ => False
  | n_72 + 1, x3, x4, x7, c_isJoined =>
    vp_in x1 6 ∧ (((c_letters (Int32.toNatClampNeg x1)) ≤ x7 → J_X12_apartPairs_192 R_63 x3 x4 x6 c_isJoined) ∧ (¬ (c_letters (Int32.toNatClampNeg x1)) ≤ x7 → vp_in (((nI 12) * x5) + x6) 144 ∧ ((¬ (c_isJoined (Int32.toNatClampNeg (((nI 12) * x5) + x6))) = (nI 0) → J_X12_apartPairs_192 R_63 x3 x4 x6 c_isJoined) ∧ ((c_isJoined (Int32.toNatClampNeg (((nI 12) * x5) + x6))) = (nI 0) → vp_in ((((nI 48) * x1) + ((nI 4) * x5)) + x7) 288 ∧ vp_in ((((nI 48) * x1) + ((nI 4) * x6)) + x7) 288 ∧ (((c_moves (Int32.toNatClampNeg ((((nI 48) * x1) + ((nI 4) * x5)) + x7))) = (-1) → J_X12_apartPairs_186 (L_X12_apartPairs_72 c_machines c_wordLong c_queued c_heaped c_letters c_moves x1 x5 x6 R_63 n_72) x3 x4 x7 c_isJoined) ∧ (¬ (c_moves (Int32.toNatClampNeg ((((nI 48) * x1) + ((nI 4) * x5)) + x7))) = (-1) → (((c_moves (Int32.toNatClampNeg ((((nI 48) * x1) + ((nI 4) * x6)) + x7))) = (-1) → J_X12_apartPairs_186 (L_X12_apartPairs_72 c_machines c_wordLong c_queued c_heaped c_letters c_moves x1 x5 x6 R_63 n_72) x3 x4 x7 c_isJoined) ∧ (¬ (c_moves (Int32.toNatClampNeg ((((nI 48) * x1) + ((nI 4) * x6)) + x7))) = (-1) → wp_X12_isOne c_machines c_wordLong c_queued c_heaped c_isJoined (c_moves (Int32.toNatClampNeg ((((nI 48) * x1) + ((nI 4) * x5)) + x7))) (c_moves (Int32.toNatClampNeg ((((nI 48) * x1) + ((nI 4) * x6)) + x7))) (fun r6 => ((r6 = (nI 0) → J_X12_apartPairs_186 (L_X12_apartPairs_72 c_machines c_wordLong c_queued c_heaped c_letters c_moves x1 x5 x6 R_63 n_72) x3 x4 x7 c_isJoined) ∧ (¬ r6 = (nI 0) → vp_in (((nI 12) * x5) + x6) 144 ∧ vp_in (((nI 12) * x6) + x5) 144 ∧ J_X12_apartPairs_186 (L_X12_apartPairs_72 c_machines c_wordLong c_queued c_heaped c_letters c_moves x1 x5 x6 R_63 n_72) (x3 + (-1)) (nI 1) x7 (upd (upd c_isJoined (Int32.toNatClampNeg (((nI 12) * x5) + x6)) (vp_nar .boolean (nI 1))) (Int32.toNatClampNeg (((nI 12) * x6) + x5)) (vp_nar .boolean (nI 1))))))))))))))
def L_X12_apartPairs_63 (c_machines : Int32) (c_wordLong : Int32) (c_queued : Int32) (c_heaped : Int32) (c_letters : Nat → Int32) (c_moves : Nat → Int32) (x1 : Int32) (x2 : Int32) (x5 : Int32) (R_51 : Int32 → Int32 → Int32 → (Nat → Int32) → Prop) : Nat → Int32 → Int32 → Int32 → (Nat → Int32) → Prop
  | 0, _, _, _, _ => False
  | n_63 + 1, x3, x4, x6, c_isJoined =>
    ((x2 ≤ x6 → J_X12_apartPairs_198 R_51 x3 x4 x5 c_isJoined) ∧ (¬ x2 ≤ x6 → ∃ n, L_X12_apartPairs_72 c_machines c_wordLong c_queued c_heaped c_letters c_moves x1 x5 x6 (L_X12_apartPairs_63 c_machines c_wordLong c_queued c_heaped c_letters c_moves x1 x2 x5 R_51 n_63) n x3 x4 (nI 0) c_isJoined))
def L_X12_apartPairs_51 (c_machines : Int32) (c_wordLong : Int32) (c_queued : Int32) (c_heaped : Int32) (c_letters : Nat → Int32) (c_moves : Nat → Int32) (x1 : Int32) (x2 : Int32) (R_40 : Int32 → Int32 → (Nat → Int32) → Prop) : Nat → Int32 → Int32 → Int32 → (Nat → Int32) → Prop
  | 0, _, _, _, _ => False
  | n_51 + 1, x3, x4, x5, c_isJoined =>
    ((x2 ≤ x5 → J_X12_apartPairs_204 R_40 x3 x4 c_isJoined) ∧ (¬ x2 ≤ x5 → ∃ n, L_X12_apartPairs_63 c_machines c_wordLong c_queued c_heaped c_letters c_moves x1 x2 x5 (L_X12_apartPairs_51 c_machines c_wordLong c_queued c_heaped c_letters c_moves x1 x2 R_40 n_51) n x3 x4 (x5 + (nI 1)) c_isJoined))
def L_X12_apartPairs_40 (c_machines : Int32) (c_wordLong : Int32) (c_queued : Int32) (c_heaped : Int32) (c_letters : Nat → Int32) (c_moves : Nat → Int32) (x1 : Int32) (x2 : Int32) (Q : Int32 → (Nat → Int32) → Prop) : Nat → Int32 → Int32 → (Nat → Int32) → Prop
  | 0, _, _, _ => False
  | n_40 + 1, x3, x4, c_isJoined =>
    ((x4 = (nI 0) → Q x3 c_isJoined) ∧ (¬ x4 = (nI 0) → ∃ n, L_X12_apartPairs_51 c_machines c_wordLong c_queued c_heaped c_letters c_moves x1 x2 (L_X12_apartPairs_40 c_machines c_wordLong c_queued c_heaped c_letters c_moves x1 x2 Q n_40) n x3 (nI 0) (nI 0) c_isJoined))
def J_X12_apartPairs_29 (c_machines : Int32) (c_wordLong : Int32) (c_queued : Int32) (c_heaped : Int32) (c_letters : Nat → Int32) (c_moves : Nat → Int32) (x1 : Int32) (Q : Int32 → (Nat → Int32) → Prop) (x2 : Int32) (c_isJoined : Nat → Int32) : Prop :=
    ∃ n, L_X12_apartPairs_40 c_machines c_wordLong c_queued c_heaped c_letters c_moves x1 x2 Q n ((x2 * (x2 - (nI 1))) / (nI 2)) (nI 1) c_isJoined
def L_X12_apartPairs_9 (c_machines : Int32) (c_wordLong : Int32) (c_queued : Int32) (c_heaped : Int32) (c_letters : Nat → Int32) (c_moves : Nat → Int32) (x1 : Int32) (x2 : Int32) (Q : Int32 → (Nat → Int32) → Prop) : Nat → Int32 → (Nat → Int32) → Prop
  | 0, _, _ => False
  | n_9 + 1, x3, c_isJoined =>
    (((nI 144) ≤ x3 → J_X12_apartPairs_29 c_machines c_wordLong c_queued c_heaped c_letters c_moves x1 Q x2 c_isJoined) ∧ (¬ (nI 144) ≤ x3 → vp_in x3 144 ∧ (L_X12_apartPairs_9 c_machines c_wordLong c_queued c_heaped c_letters c_moves x1 x2 Q n_9) (x3 + (nI 1)) (upd c_isJoined (Int32.toNatClampNeg x3) (vp_nar .boolean (nI 0)))))
def wp_X12_apartPairs (c_machines : Int32) (c_wordLong : Int32) (c_queued : Int32) (c_heaped : Int32) (c_states : Nat → Int32) (c_letters : Nat → Int32) (c_moves : Nat → Int32) (c_isJoined : Nat → Int32) (x1 : Int32) (Q : Int32 → (Nat → Int32) → Prop) : Prop :=
    vp_in x1 6 ∧ ∃ n, L_X12_apartPairs_9 c_machines c_wordLong c_queued c_heaped c_letters c_moves x1 (c_states (Int32.toNatClampNeg x1)) Q n (nI 0) c_isJoined
abbrev rm_X12_apartPairs : Room := { frames := 1, cells := 0, slots := 0, locals := 22 }
set_option maxHeartbeats 4000000 in
set_option maxRecDepth 100000 in
theorem k_X12_apartPairs (l : Launch) (g : GG) (h_this : Nat) (h_this_states : Nat) (h_this_letters : Nat) (h_this_moves : Nat) (h_this_light : Nat) (h_this_price : Nat) (h_this_share : Nat) (h_this_word : Nat) (h_this_queue : Nat) (h_this_cameFrom : Nat) (h_this_cameBy : Nat) (h_this_isKnown : Nat) (h_this_isJoined : Nat) (h_this_made : Nat) (h_this_pairWord : Nat) (h_this_bestWord : Nat) (h_this_sum : Nat) (h_this_isSettled : Nat) (h_this_heapSum : Nat) (h_this_heapSet : Nat) (h_this_worth : Nat) (h_this_worthNext : Nat) (h_this_order : Nat) (h_this_hadMoves : Nat) (h_this_row : Nat) (h_this_pairs : Nat) (h_this_pairLong : Nat) {c_machines : Int32} {c_wordLong : Int32} {c_queued : Int32} {c_heaped : Int32} {c_states : Nat → Int32} {c_letters : Nat → Int32} {c_moves : Nat → Int32} {c_isJoined : Nat → Int32} {x1 : Int32} {Q : Int32 → (Nat → Int32) → Prop} (h : wp_X12_apartPairs c_machines c_wordLong c_queued c_heaped c_states c_letters c_moves c_isJoined x1 Q) : CI l g yX12_apartPairs wsX12_apartPairs rm_X12_apartPairs [.ref h_this, .int x1] (cw_X12_apartPairs g h_this h_this_states h_this_letters h_this_moves h_this_light h_this_price h_this_share h_this_word h_this_queue h_this_cameFrom h_this_cameBy h_this_isKnown h_this_isJoined h_this_made h_this_pairWord h_this_bestWord h_this_sum h_this_isSettled h_this_heapSum h_this_heapSet h_this_worth h_this_worthNext h_this_order h_this_hadMoves h_this_row h_this_pairs h_this_pairLong c_machines c_wordLong c_queued c_heaped c_states c_letters c_moves c_isJoined) (S := (Nat → Int32)) (fun u => (cw_X12_apartPairs g h_this h_this_states h_this_letters h_this_moves h_this_light h_this_price h_this_share h_this_word h_this_queue h_this_cameFrom h_this_cameBy h_this_isKnown h_this_isJoined h_this_made h_this_pairWord h_this_bestWord h_this_sum h_this_isSettled h_this_heapSum h_this_heapSet h_this_worth h_this_worthNext h_this_order h_this_hadMoves h_this_row h_this_pairs h_this_pairLong c_machines c_wordLong c_queued c_heaped c_states c_letters c_moves u)) (fun r u => Q r u) 0 0 := by
  refine mk_I (cc := cX12_apartPairs) (maxL := 10) (own := RX12) (by decide) rfl rfl (Nat.le_of_ble_eq_true rfl) ?_
  intro p e s m args below meth c A QQ E hret hP hD hS ls hl
  have E2 := E
  obtain ⟨hx, hb, hr, hml, hown, hts, hlocks, hA, hZ, hK, hnm⟩ := E2
  have f7 := hts (.fieldLink RX12 7 "WordBenchModel" "states" "[I") (by decide +kernel)
  have f13 := hts (.fieldLink RX12 13 "WordBenchModel" "letters" "[I") (by decide +kernel)
  have f44 := hts (.fieldLink RX12 44 "WordBenchModel" "isJoined" "[Z") (by decide +kernel)
  have f16 := hts (.fieldLink RX12 16 "WordBenchModel" "moves" "[I") (by decide +kernel)
  have iX12 : ∀ w ∈ wsX120, w ∈ wsX12_apartPairs := fun _ h => List.mem_cons_of_mem _ (List.mem_append_right _ h)
  have hP : va_P g.1 vwCl (cw_X12_apartPairs g h_this h_this_states h_this_letters h_this_moves h_this_light h_this_price h_this_share h_this_word h_this_queue h_this_cameFrom h_this_cameBy h_this_isKnown h_this_isJoined h_this_made h_this_pairWord h_this_bestWord h_this_sum h_this_isSettled h_this_heapSum h_this_heapSet h_this_worth h_this_worthNext h_this_order h_this_hadMoves h_this_row h_this_pairs h_this_pairLong c_machines c_wordLong c_queued c_heaped c_states c_letters c_moves c_isJoined) s.heap := hP
  have hD : va_D A (cw_X12_apartPairs g h_this h_this_states h_this_letters h_this_moves h_this_light h_this_price h_this_share h_this_word h_this_queue h_this_cameFrom h_this_cameBy h_this_isKnown h_this_isJoined h_this_made h_this_pairWord h_this_bestWord h_this_sum h_this_isSettled h_this_heapSum h_this_heapSet h_this_worth h_this_worthNext h_this_order h_this_hadMoves h_this_row h_this_pairs h_this_pairLong c_machines c_wordLong c_queued c_heaped c_states c_letters c_moves c_isJoined) := hD
  have hl : lv_has ls 10 [(0, .ref h_this), (1, .int x1)] := hl
  unfold wp_X12_apartPairs at h
  have K_40 : ∀ (x2 : Int32) (n_40 : Nat) (x3 : Int32) (x4 : Int32) (c_isJoined : Nat → Int32) , L_X12_apartPairs_40 c_machines c_wordLong c_queued c_heaped c_letters c_moves x1 x2 Q n_40 x3 x4 c_isJoined → ∀ (H : Heap) (locs : List Loc), va_P g.1 vwCl (cw_X12_apartPairs g h_this h_this_states h_this_letters h_this_moves h_this_light h_this_price h_this_share h_this_word h_this_queue h_this_cameFrom h_this_cameBy h_this_isKnown h_this_isJoined h_this_made h_this_pairWord h_this_bestWord h_this_sum h_this_isSettled h_this_heapSum h_this_heapSet h_this_worth h_this_worthNext h_this_order h_this_hadMoves h_this_row h_this_pairs h_this_pairLong c_machines c_wordLong c_queued c_heaped c_states c_letters c_moves c_isJoined) H → va_D A (cw_X12_apartPairs g h_this h_this_states h_this_letters h_this_moves h_this_light h_this_price h_this_share h_this_word h_this_queue h_this_cameFrom h_this_cameBy h_this_isKnown h_this_isJoined h_this_made h_this_pairWord h_this_bestWord h_this_sum h_this_isSettled h_this_heapSum h_this_heapSet h_this_worth h_this_worthNext h_this_order h_this_hadMoves h_this_row h_this_pairs h_this_pairLong c_machines c_wordLong c_queued c_heaped c_states c_letters c_moves c_isJoined) → va_S A s.heap H locs → ∀ ls : Array Slot, lv_has ls 10 [(0, .ref h_this), (1, .int x1), (2, .int x2), (3, .int x3), (4, .int x4)] → W p l e rm_X12_apartPairs s m args below meth c H locs 0 0 QQ (F0 m 40 ls []) := by
    intro x2 n_40
    induction n_40 with
    | zero => intro x3 x4 c_isJoined; exact fun h => False.elim h
    | succ n_40 ih_40 =>
      intro x3 x4 c_isJoined h H locs hP hD hS ls hl
      unfold L_X12_apartPairs_40 at h
      have K_204 : ∀ (x3 : Int32) (x4 : Int32) (c_isJoined : Nat → Int32) , J_X12_apartPairs_204 (L_X12_apartPairs_40 c_machines c_wordLong c_queued c_heaped c_letters c_moves x1 x2 Q n_40) x3 x4 c_isJoined → ∀ (H : Heap) (locs : List Loc), va_P g.1 vwCl (cw_X12_apartPairs g h_this h_this_states h_this_letters h_this_moves h_this_light h_this_price h_this_share h_this_word h_this_queue h_this_cameFrom h_this_cameBy h_this_isKnown h_this_isJoined h_this_made h_this_pairWord h_this_bestWord h_this_sum h_this_isSettled h_this_heapSum h_this_heapSet h_this_worth h_this_worthNext h_this_order h_this_hadMoves h_this_row h_this_pairs h_this_pairLong c_machines c_wordLong c_queued c_heaped c_states c_letters c_moves c_isJoined) H → va_D A (cw_X12_apartPairs g h_this h_this_states h_this_letters h_this_moves h_this_light h_this_price h_this_share h_this_word h_this_queue h_this_cameFrom h_this_cameBy h_this_isKnown h_this_isJoined h_this_made h_this_pairWord h_this_bestWord h_this_sum h_this_isSettled h_this_heapSum h_this_heapSet h_this_worth h_this_worthNext h_this_order h_this_hadMoves h_this_row h_this_pairs h_this_pairLong c_machines c_wordLong c_queued c_heaped c_states c_letters c_moves c_isJoined) → va_S A s.heap H locs → ∀ ls : Array Slot, lv_has ls 10 [(0, .ref h_this), (1, .int x1), (2, .int x2), (3, .int x3), (4, .int x4)] → W p l e rm_X12_apartPairs s m args below meth c H locs 0 0 QQ (F0 m 204 ls []) := by
        intro x3 x4 c_isJoined h H locs hP hD hS ls hl
        unfold J_X12_apartPairs_204 at h
        refine lv_goto (tgt := 40) hx hb dX12_apartPairs_204 (by decide) ?_
        exact ih_40 x3 x4 c_isJoined h _ _ hP hD hS _ (lv_sub hl [0, 1, 2, 3, 4] rfl)
      have K_51 : ∀ (n_51 : Nat) (x3 : Int32) (x4 : Int32) (x5 : Int32) (c_isJoined : Nat → Int32) , L_X12_apartPairs_51 c_machines c_wordLong c_queued c_heaped c_letters c_moves x1 x2 (L_X12_apartPairs_40 c_machines c_wordLong c_queued c_heaped c_letters c_moves x1 x2 Q n_40) n_51 x3 x4 x5 c_isJoined → ∀ (H : Heap) (locs : List Loc), va_P g.1 vwCl (cw_X12_apartPairs g h_this h_this_states h_this_letters h_this_moves h_this_light h_this_price h_this_share h_this_word h_this_queue h_this_cameFrom h_this_cameBy h_this_isKnown h_this_isJoined h_this_made h_this_pairWord h_this_bestWord h_this_sum h_this_isSettled h_this_heapSum h_this_heapSet h_this_worth h_this_worthNext h_this_order h_this_hadMoves h_this_row h_this_pairs h_this_pairLong c_machines c_wordLong c_queued c_heaped c_states c_letters c_moves c_isJoined) H → va_D A (cw_X12_apartPairs g h_this h_this_states h_this_letters h_this_moves h_this_light h_this_price h_this_share h_this_word h_this_queue h_this_cameFrom h_this_cameBy h_this_isKnown h_this_isJoined h_this_made h_this_pairWord h_this_bestWord h_this_sum h_this_isSettled h_this_heapSum h_this_heapSet h_this_worth h_this_worthNext h_this_order h_this_hadMoves h_this_row h_this_pairs h_this_pairLong c_machines c_wordLong c_queued c_heaped c_states c_letters c_moves c_isJoined) → va_S A s.heap H locs → ∀ ls : Array Slot, lv_has ls 10 [(0, .ref h_this), (1, .int x1), (2, .int x2), (3, .int x3), (4, .int x4), (5, .int x5)] → W p l e rm_X12_apartPairs s m args below meth c H locs 0 0 QQ (F0 m 51 ls []) := by
        intro n_51
        induction n_51 with
        | zero => intro x3 x4 x5 c_isJoined; exact fun h => False.elim h
        | succ n_51 ih_51 =>
          intro x3 x4 x5 c_isJoined h H locs hP hD hS ls hl
          unfold L_X12_apartPairs_51 at h
          have K_198 : ∀ (x3 : Int32) (x4 : Int32) (x5 : Int32) (c_isJoined : Nat → Int32) , J_X12_apartPairs_198 (L_X12_apartPairs_51 c_machines c_wordLong c_queued c_heaped c_letters c_moves x1 x2 (L_X12_apartPairs_40 c_machines c_wordLong c_queued c_heaped c_letters c_moves x1 x2 Q n_40) n_51) x3 x4 x5 c_isJoined → ∀ (H : Heap) (locs : List Loc), va_P g.1 vwCl (cw_X12_apartPairs g h_this h_this_states h_this_letters h_this_moves h_this_light h_this_price h_this_share h_this_word h_this_queue h_this_cameFrom h_this_cameBy h_this_isKnown h_this_isJoined h_this_made h_this_pairWord h_this_bestWord h_this_sum h_this_isSettled h_this_heapSum h_this_heapSet h_this_worth h_this_worthNext h_this_order h_this_hadMoves h_this_row h_this_pairs h_this_pairLong c_machines c_wordLong c_queued c_heaped c_states c_letters c_moves c_isJoined) H → va_D A (cw_X12_apartPairs g h_this h_this_states h_this_letters h_this_moves h_this_light h_this_price h_this_share h_this_word h_this_queue h_this_cameFrom h_this_cameBy h_this_isKnown h_this_isJoined h_this_made h_this_pairWord h_this_bestWord h_this_sum h_this_isSettled h_this_heapSum h_this_heapSet h_this_worth h_this_worthNext h_this_order h_this_hadMoves h_this_row h_this_pairs h_this_pairLong c_machines c_wordLong c_queued c_heaped c_states c_letters c_moves c_isJoined) → va_S A s.heap H locs → ∀ ls : Array Slot, lv_has ls 10 [(0, .ref h_this), (1, .int x1), (2, .int x2), (3, .int x3), (4, .int x4), (5, .int x5)] → W p l e rm_X12_apartPairs s m args below meth c H locs 0 0 QQ (F0 m 198 ls []) := by
            intro x3 x4 x5 c_isJoined h H locs hP hD hS ls hl
            unfold J_X12_apartPairs_198 at h
            refine lv_iinc (v := (x5 + (nI 1))) (lv' := [(5, .int (x5 + (nI 1))), (0, .ref h_this), (1, .int x1), (2, .int x2), (3, .int x3), (4, .int x4)]) hx hb dX12_apartPairs_198 hl (k := 5) rfl rfl (by decide) rfl (fun ls hl => ?_)
            refine lv_goto (tgt := 51) hx hb dX12_apartPairs_201 (by decide) ?_
            exact ih_51 x3 x4 (x5 + (nI 1)) c_isJoined h _ _ hP hD hS _ (lv_sub hl [1, 2, 3, 4, 5, 0] rfl)
          have K_63 : ∀ (x5 : Int32) (n_63 : Nat) (x3 : Int32) (x4 : Int32) (x6 : Int32) (c_isJoined : Nat → Int32) , L_X12_apartPairs_63 c_machines c_wordLong c_queued c_heaped c_letters c_moves x1 x2 x5 (L_X12_apartPairs_51 c_machines c_wordLong c_queued c_heaped c_letters c_moves x1 x2 (L_X12_apartPairs_40 c_machines c_wordLong c_queued c_heaped c_letters c_moves x1 x2 Q n_40) n_51) n_63 x3 x4 x6 c_isJoined → ∀ (H : Heap) (locs : List Loc), va_P g.1 vwCl (cw_X12_apartPairs g h_this h_this_states h_this_letters h_this_moves h_this_light h_this_price h_this_share h_this_word h_this_queue h_this_cameFrom h_this_cameBy h_this_isKnown h_this_isJoined h_this_made h_this_pairWord h_this_bestWord h_this_sum h_this_isSettled h_this_heapSum h_this_heapSet h_this_worth h_this_worthNext h_this_order h_this_hadMoves h_this_row h_this_pairs h_this_pairLong c_machines c_wordLong c_queued c_heaped c_states c_letters c_moves c_isJoined) H → va_D A (cw_X12_apartPairs g h_this h_this_states h_this_letters h_this_moves h_this_light h_this_price h_this_share h_this_word h_this_queue h_this_cameFrom h_this_cameBy h_this_isKnown h_this_isJoined h_this_made h_this_pairWord h_this_bestWord h_this_sum h_this_isSettled h_this_heapSum h_this_heapSet h_this_worth h_this_worthNext h_this_order h_this_hadMoves h_this_row h_this_pairs h_this_pairLong c_machines c_wordLong c_queued c_heaped c_states c_letters c_moves c_isJoined) → va_S A s.heap H locs → ∀ ls : Array Slot, lv_has ls 10 [(0, .ref h_this), (1, .int x1), (2, .int x2), (3, .int x3), (4, .int x4), (5, .int x5), (6, .int x6)] → W p l e rm_X12_apartPairs s m args below meth c H locs 0 0 QQ (F0 m 63 ls []) := by
            intro x5 n_63
            induction n_63 with
            | zero => intro x3 x4 x6 c_isJoined; exact fun h => False.elim h
            | succ n_63 ih_63 =>
              intro x3 x4 x6 c_isJoined h H locs hP hD hS ls hl
              unfold L_X12_apartPairs_63 at h
              have K_192 : ∀ (x3 : Int32) (x4 : Int32) (x6 : Int32) (c_isJoined : Nat → Int32) , J_X12_apartPairs_192 (L_X12_apartPairs_63 c_machines c_wordLong c_queued c_heaped c_letters c_moves x1 x2 x5 (L_X12_apartPairs_51 c_machines c_wordLong c_queued c_heaped c_letters c_moves x1 x2 (L_X12_apartPairs_40 c_machines c_wordLong c_queued c_heaped c_letters c_moves x1 x2 Q n_40) n_51) n_63) x3 x4 x6 c_isJoined → ∀ (H : Heap) (locs : List Loc), va_P g.1 vwCl (cw_X12_apartPairs g h_this h_this_states h_this_letters h_this_moves h_this_light h_this_price h_this_share h_this_word h_this_queue h_this_cameFrom h_this_cameBy h_this_isKnown h_this_isJoined h_this_made h_this_pairWord h_this_bestWord h_this_sum h_this_isSettled h_this_heapSum h_this_heapSet h_this_worth h_this_worthNext h_this_order h_this_hadMoves h_this_row h_this_pairs h_this_pairLong c_machines c_wordLong c_queued c_heaped c_states c_letters c_moves c_isJoined) H → va_D A (cw_X12_apartPairs g h_this h_this_states h_this_letters h_this_moves h_this_light h_this_price h_this_share h_this_word h_this_queue h_this_cameFrom h_this_cameBy h_this_isKnown h_this_isJoined h_this_made h_this_pairWord h_this_bestWord h_this_sum h_this_isSettled h_this_heapSum h_this_heapSet h_this_worth h_this_worthNext h_this_order h_this_hadMoves h_this_row h_this_pairs h_this_pairLong c_machines c_wordLong c_queued c_heaped c_states c_letters c_moves c_isJoined) → va_S A s.heap H locs → ∀ ls : Array Slot, lv_has ls 10 [(0, .ref h_this), (1, .int x1), (2, .int x2), (3, .int x3), (4, .int x4), (5, .int x5), (6, .int x6)] → W p l e rm_X12_apartPairs s m args below meth c H locs 0 0 QQ (F0 m 192 ls []) := by
                intro x3 x4 x6 c_isJoined h H locs hP hD hS ls hl
                unfold J_X12_apartPairs_192 at h
                refine lv_iinc (v := (x6 + (nI 1))) (lv' := [(6, .int (x6 + (nI 1))), (0, .ref h_this), (1, .int x1), (2, .int x2), (3, .int x3), (4, .int x4), (5, .int x5)]) hx hb dX12_apartPairs_192 hl (k := 6) rfl rfl (by decide) rfl (fun ls hl => ?_)
                refine lv_goto (tgt := 63) hx hb dX12_apartPairs_195 (by decide) ?_
                exact ih_63 x3 x4 (x6 + (nI 1)) c_isJoined h _ _ hP hD hS _ (lv_sub hl [1, 2, 3, 4, 5, 6, 0] rfl)
              have K_72 : ∀ (x6 : Int32) (n_72 : Nat) (x3 : Int32) (x4 : Int32) (x7 : Int32) (c_isJoined : Nat → Int32) , L_X12_apartPairs_72 c_machines c_wordLong c_queued c_heaped c_letters c_moves x1 x5 x6 (L_X12_apartPairs_63 c_machines c_wordLong c_queued c_heaped c_letters c_moves x1 x2 x5 (L_X12_apartPairs_51 c_machines c_wordLong c_queued c_heaped c_letters c_moves x1 x2 (L_X12_apartPairs_40 c_machines c_wordLong c_queued c_heaped c_letters c_moves x1 x2 Q n_40) n_51) n_63) n_72 x3 x4 x7 c_isJoined → ∀ (H : Heap) (locs : List Loc), va_P g.1 vwCl (cw_X12_apartPairs g h_this h_this_states h_this_letters h_this_moves h_this_light h_this_price h_this_share h_this_word h_this_queue h_this_cameFrom h_this_cameBy h_this_isKnown h_this_isJoined h_this_made h_this_pairWord h_this_bestWord h_this_sum h_this_isSettled h_this_heapSum h_this_heapSet h_this_worth h_this_worthNext h_this_order h_this_hadMoves h_this_row h_this_pairs h_this_pairLong c_machines c_wordLong c_queued c_heaped c_states c_letters c_moves c_isJoined) H → va_D A (cw_X12_apartPairs g h_this h_this_states h_this_letters h_this_moves h_this_light h_this_price h_this_share h_this_word h_this_queue h_this_cameFrom h_this_cameBy h_this_isKnown h_this_isJoined h_this_made h_this_pairWord h_this_bestWord h_this_sum h_this_isSettled h_this_heapSum h_this_heapSet h_this_worth h_this_worthNext h_this_order h_this_hadMoves h_this_row h_this_pairs h_this_pairLong c_machines c_wordLong c_queued c_heaped c_states c_letters c_moves c_isJoined) → va_S A s.heap H locs → ∀ ls : Array Slot, lv_has ls 10 [(0, .ref h_this), (1, .int x1), (2, .int x2), (3, .int x3), (4, .int x4), (5, .int x5), (6, .int x6), (7, .int x7)] → W p l e rm_X12_apartPairs s m args below meth c H locs 0 0 QQ (F0 m 72 ls []) := by
                intro x6 n_72
                induction n_72 with
                | zero => intro x3 x4 x7 c_isJoined; exact fun h => False.elim h
                | succ n_72 ih_72 =>
                  intro x3 x4 x7 c_isJoined h H locs hP hD hS ls hl
                  unfold L_X12_apartPairs_72 at h
                  have K_186 : ∀ (x3 : Int32) (x4 : Int32) (x7 : Int32) (c_isJoined : Nat → Int32) , J_X12_apartPairs_186 (L_X12_apartPairs_72 c_machines c_wordLong c_queued c_heaped c_letters c_moves x1 x5 x6 (L_X12_apartPairs_63 c_machines c_wordLong c_queued c_heaped c_letters c_moves x1 x2 x5 (L_X12_apartPairs_51 c_machines c_wordLong c_queued c_heaped c_letters c_moves x1 x2 (L_X12_apartPairs_40 c_machines c_wordLong c_queued c_heaped c_letters c_moves x1 x2 Q n_40) n_51) n_63) n_72) x3 x4 x7 c_isJoined → ∀ (H : Heap) (locs : List Loc), va_P g.1 vwCl (cw_X12_apartPairs g h_this h_this_states h_this_letters h_this_moves h_this_light h_this_price h_this_share h_this_word h_this_queue h_this_cameFrom h_this_cameBy h_this_isKnown h_this_isJoined h_this_made h_this_pairWord h_this_bestWord h_this_sum h_this_isSettled h_this_heapSum h_this_heapSet h_this_worth h_this_worthNext h_this_order h_this_hadMoves h_this_row h_this_pairs h_this_pairLong c_machines c_wordLong c_queued c_heaped c_states c_letters c_moves c_isJoined) H → va_D A (cw_X12_apartPairs g h_this h_this_states h_this_letters h_this_moves h_this_light h_this_price h_this_share h_this_word h_this_queue h_this_cameFrom h_this_cameBy h_this_isKnown h_this_isJoined h_this_made h_this_pairWord h_this_bestWord h_this_sum h_this_isSettled h_this_heapSum h_this_heapSet h_this_worth h_this_worthNext h_this_order h_this_hadMoves h_this_row h_this_pairs h_this_pairLong c_machines c_wordLong c_queued c_heaped c_states c_letters c_moves c_isJoined) → va_S A s.heap H locs → ∀ ls : Array Slot, lv_has ls 10 [(0, .ref h_this), (1, .int x1), (2, .int x2), (3, .int x3), (4, .int x4), (5, .int x5), (6, .int x6), (7, .int x7)] → W p l e rm_X12_apartPairs s m args below meth c H locs 0 0 QQ (F0 m 186 ls []) := by
                    intro x3 x4 x7 c_isJoined h H locs hP hD hS ls hl
                    unfold J_X12_apartPairs_186 at h
                    refine lv_iinc (v := (x7 + (nI 1))) (lv' := [(7, .int (x7 + (nI 1))), (0, .ref h_this), (1, .int x1), (2, .int x2), (3, .int x3), (4, .int x4), (5, .int x5), (6, .int x6)]) hx hb dX12_apartPairs_186 hl (k := 7) rfl rfl (by decide) rfl (fun ls hl => ?_)
                    refine lv_goto (tgt := 72) hx hb dX12_apartPairs_189 (by decide) ?_
                    exact ih_72 x3 x4 (x7 + (nI 1)) c_isJoined h _ _ hP hD hS _ (lv_sub hl [1, 2, 3, 4, 5, 6, 7, 0] rfl)
                  refine lv_iload hx hb dX12_apartPairs_72 (lv_at hl 7 rfl) ?_
                  refine lv_aload_n hx hb dX12_apartPairs_74 rfl (lv_at hl 0 rfl) ?_
                  refine va_get (D := g.1) (ci := 11) (v := .ref h_this_letters) (C := RX12) (T := TX12) (N := 30) hx hb hts iX12 hown hK hP 0 rfl rfl 2 (by decide) f13 (fun _ h9 => h9) rfl dX12_apartPairs_75 ?_
                  refine lv_iload_n hx hb dX12_apartPairs_78 rfl (lv_at hl 1 rfl) ?_
                  obtain ⟨hi, h⟩ := h
                  refine va_iald (D := g.1) (n := 6) (f := c_letters) hx hb hK hP 2 0 rfl rfl hi dX12_apartPairs_79 ?_
                  refine lv_icmp_ge (tgt := 192) hx hb dX12_apartPairs_80 (by decide) (fun cq => ?_) (fun cq => ?_)
                  · replace h := h.1 cq
                    exact K_192 x3 x4 x6 c_isJoined h _ _ hP hD hS _ (lv_sub hl [0, 1, 2, 3, 4, 5, 6] rfl)
                  · replace h := h.2 cq
                    refine lv_aload_n hx hb dX12_apartPairs_83 rfl (lv_at hl 0 rfl) ?_
                    refine va_get (D := g.1) (ci := 11) (v := .ref h_this_isJoined) (C := RX12) (T := TX12) (N := 30) hx hb hts iX12 hown hK hP 0 rfl rfl 14 (by decide) f44 (fun _ h9 => h9) rfl dX12_apartPairs_84 ?_
                    refine lv_bipush (v := (nI 12)) hx hb dX12_apartPairs_87 (by decide) ?_
                    refine lv_iload hx hb dX12_apartPairs_89 (lv_at hl 5 rfl) ?_
                    refine lv_imul hx hb dX12_apartPairs_91 ?_
                    refine lv_iload hx hb dX12_apartPairs_92 (lv_at hl 6 rfl) ?_
                    refine lv_iadd hx hb dX12_apartPairs_94 ?_
                    obtain ⟨hi, h⟩ := h
                    refine va_zald (D := g.1) (n := 144) (f := c_isJoined) hx hb hK hP 4 2 rfl rfl hi dX12_apartPairs_95 ?_
                    refine lv_if_ne (tgt := 192) hx hb dX12_apartPairs_96 (by decide) (fun cq => ?_) (fun cq => ?_)
                    · replace h := h.1 cq
                      exact K_192 x3 x4 x6 c_isJoined h _ _ hP hD hS _ (lv_sub hl [0, 1, 2, 3, 4, 5, 6] rfl)
                    · replace h := h.2 cq
                      refine lv_aload_n hx hb dX12_apartPairs_99 rfl (lv_at hl 0 rfl) ?_
                      refine va_get (D := g.1) (ci := 11) (v := .ref h_this_moves) (C := RX12) (T := TX12) (N := 30) hx hb hts iX12 hown hK hP 0 rfl rfl 3 (by decide) f16 (fun _ h9 => h9) rfl dX12_apartPairs_100 ?_
                      refine lv_iload_n hx hb dX12_apartPairs_103 rfl (lv_at hl 1 rfl) ?_
                      refine lv_iload hx hb dX12_apartPairs_104 (lv_at hl 5 rfl) ?_
                      refine lv_iload hx hb dX12_apartPairs_106 (lv_at hl 7 rfl) ?_
                      refine go_I E (run_S E ((k_X12_at l g  (Q := fun r => r = ((((nI 48) * x1) + ((nI 4) * x5)) + x7)) rfl) _) (va_cwS 3 hts gX12_apartPairs_X12_at rfl rfl rfl (by decide +kernel) ⟨Nat.le_of_ble_eq_true rfl, Nat.le_of_ble_eq_true rfl⟩) hP hD hS [] rfl rfl hl rfl rfl (Nat.le_of_ble_eq_true rfl) dX12_apartPairs_108 ⟨Nat.le_of_ble_eq_true rfl, Nat.le_of_ble_eq_true rfl⟩) hP hD hS [] rfl [(true, 0), (true, 1), (true, 2), (true, 3), (true, 4)] rfl (by decide) (fun _ => (cw_X12_apartPairs g h_this h_this_states h_this_letters h_this_moves h_this_light h_this_price h_this_share h_this_word h_this_queue h_this_cameFrom h_this_cameBy h_this_isKnown h_this_isJoined h_this_made h_this_pairWord h_this_bestWord h_this_sum h_this_isSettled h_this_heapSum h_this_heapSet h_this_worth h_this_worthNext h_this_order h_this_hadMoves h_this_row h_this_pairs h_this_pairLong c_machines c_wordLong c_queued c_heaped c_states c_letters c_moves c_isJoined)) (fun _ => rfl) (fun r2 _ H locs hr_ hP hD hS => ?_)
                      have hr_ : ((((nI 48) * x1) + ((nI 4) * x5)) + x7) = r2 := Eq.symm hr_
                      subst hr_
                      have hP : va_P g.1 vwCl (cw_X12_apartPairs g h_this h_this_states h_this_letters h_this_moves h_this_light h_this_price h_this_share h_this_word h_this_queue h_this_cameFrom h_this_cameBy h_this_isKnown h_this_isJoined h_this_made h_this_pairWord h_this_bestWord h_this_sum h_this_isSettled h_this_heapSum h_this_heapSet h_this_worth h_this_worthNext h_this_order h_this_hadMoves h_this_row h_this_pairs h_this_pairLong c_machines c_wordLong c_queued c_heaped c_states c_letters c_moves c_isJoined) H := hP
                      have hD : va_D A (cw_X12_apartPairs g h_this h_this_states h_this_letters h_this_moves h_this_light h_this_price h_this_share h_this_word h_this_queue h_this_cameFrom h_this_cameBy h_this_isKnown h_this_isJoined h_this_made h_this_pairWord h_this_bestWord h_this_sum h_this_isSettled h_this_heapSum h_this_heapSet h_this_worth h_this_worthNext h_this_order h_this_hadMoves h_this_row h_this_pairs h_this_pairLong c_machines c_wordLong c_queued c_heaped c_states c_letters c_moves c_isJoined) := hD
                      obtain ⟨hi, h⟩ := h
                      refine va_iald (D := g.1) (n := 288) (f := c_moves) hx hb hK hP 3 0 rfl rfl hi dX12_apartPairs_111 ?_
                      refine lv_istore (lv' := [(8, .int (c_moves (Int32.toNatClampNeg ((((nI 48) * x1) + ((nI 4) * x5)) + x7)))), (0, .ref h_this), (1, .int x1), (2, .int x2), (3, .int x3), (4, .int x4), (5, .int x5), (6, .int x6), (7, .int x7)]) hx hb dX12_apartPairs_112 hl (by decide) rfl (fun ls hl => ?_)
                      refine lv_aload_n hx hb dX12_apartPairs_114 rfl (lv_at hl 1 rfl) ?_
                      refine va_get (D := g.1) (ci := 11) (v := .ref h_this_moves) (C := RX12) (T := TX12) (N := 30) hx hb hts iX12 hown hK hP 0 rfl rfl 3 (by decide) f16 (fun _ h9 => h9) rfl dX12_apartPairs_115 ?_
                      refine lv_iload_n hx hb dX12_apartPairs_118 rfl (lv_at hl 2 rfl) ?_
                      refine lv_iload hx hb dX12_apartPairs_119 (lv_at hl 7 rfl) ?_
                      refine lv_iload hx hb dX12_apartPairs_121 (lv_at hl 8 rfl) ?_
                      refine go_I E (run_S E ((k_X12_at l g  (Q := fun r => r = ((((nI 48) * x1) + ((nI 4) * x6)) + x7)) rfl) _) (va_cwS 3 hts gX12_apartPairs_X12_at rfl rfl rfl (by decide +kernel) ⟨Nat.le_of_ble_eq_true rfl, Nat.le_of_ble_eq_true rfl⟩) hP hD hS [] rfl rfl hl rfl rfl (Nat.le_of_ble_eq_true rfl) dX12_apartPairs_123 ⟨Nat.le_of_ble_eq_true rfl, Nat.le_of_ble_eq_true rfl⟩) hP hD hS [] rfl [(true, 0), (true, 1), (true, 2), (true, 3), (true, 4)] rfl (by decide) (fun _ => (cw_X12_apartPairs g h_this h_this_states h_this_letters h_this_moves h_this_light h_this_price h_this_share h_this_word h_this_queue h_this_cameFrom h_this_cameBy h_this_isKnown h_this_isJoined h_this_made h_this_pairWord h_this_bestWord h_this_sum h_this_isSettled h_this_heapSum h_this_heapSet h_this_worth h_this_worthNext h_this_order h_this_hadMoves h_this_row h_this_pairs h_this_pairLong c_machines c_wordLong c_queued c_heaped c_states c_letters c_moves c_isJoined)) (fun _ => rfl) (fun r4 _ H locs hr_ hP hD hS => ?_)
                      have hr_ : ((((nI 48) * x1) + ((nI 4) * x6)) + x7) = r4 := Eq.symm hr_
                      subst hr_
                      have hP : va_P g.1 vwCl (cw_X12_apartPairs g h_this h_this_states h_this_letters h_this_moves h_this_light h_this_price h_this_share h_this_word h_this_queue h_this_cameFrom h_this_cameBy h_this_isKnown h_this_isJoined h_this_made h_this_pairWord h_this_bestWord h_this_sum h_this_isSettled h_this_heapSum h_this_heapSet h_this_worth h_this_worthNext h_this_order h_this_hadMoves h_this_row h_this_pairs h_this_pairLong c_machines c_wordLong c_queued c_heaped c_states c_letters c_moves c_isJoined) H := hP
                      have hD : va_D A (cw_X12_apartPairs g h_this h_this_states h_this_letters h_this_moves h_this_light h_this_price h_this_share h_this_word h_this_queue h_this_cameFrom h_this_cameBy h_this_isKnown h_this_isJoined h_this_made h_this_pairWord h_this_bestWord h_this_sum h_this_isSettled h_this_heapSum h_this_heapSet h_this_worth h_this_worthNext h_this_order h_this_hadMoves h_this_row h_this_pairs h_this_pairLong c_machines c_wordLong c_queued c_heaped c_states c_letters c_moves c_isJoined) := hD
                      obtain ⟨hi, h⟩ := h
                      refine va_iald (D := g.1) (n := 288) (f := c_moves) hx hb hK hP 3 0 rfl rfl hi dX12_apartPairs_126 ?_
                      refine lv_istore (lv' := [(9, .int (c_moves (Int32.toNatClampNeg ((((nI 48) * x1) + ((nI 4) * x6)) + x7)))), (8, .int (c_moves (Int32.toNatClampNeg ((((nI 48) * x1) + ((nI 4) * x5)) + x7)))), (0, .ref h_this), (1, .int x1), (2, .int x2), (3, .int x3), (4, .int x4), (5, .int x5), (6, .int x6), (7, .int x7)]) hx hb dX12_apartPairs_127 hl (by decide) rfl (fun ls hl => ?_)
                      refine lv_iload hx hb dX12_apartPairs_129 (lv_at hl 1 rfl) ?_
                      refine lv_iconst (v := (-1)) hx hb dX12_apartPairs_131 (by decide) ?_
                      refine lv_icmp_eq (tgt := 186) hx hb dX12_apartPairs_132 (by decide) (fun cq => ?_) (fun cq => ?_)
                      · replace h := h.1 cq
                        exact K_186 x3 x4 x7 c_isJoined h _ _ hP hD hS _ (lv_sub hl [2, 3, 4, 5, 6, 7, 8, 9] rfl)
                      · replace h := h.2 cq
                        refine lv_iload hx hb dX12_apartPairs_135 (lv_at hl 0 rfl) ?_
                        refine lv_iconst (v := (-1)) hx hb dX12_apartPairs_137 (by decide) ?_
                        refine lv_icmp_eq (tgt := 186) hx hb dX12_apartPairs_138 (by decide) (fun cq => ?_) (fun cq => ?_)
                        · replace h := h.1 cq
                          exact K_186 x3 x4 x7 c_isJoined h _ _ hP hD hS _ (lv_sub hl [2, 3, 4, 5, 6, 7, 8, 9] rfl)
                        · replace h := h.2 cq
                          refine lv_aload_n hx hb dX12_apartPairs_141 rfl (lv_at hl 2 rfl) ?_
                          refine lv_iload hx hb dX12_apartPairs_142 (lv_at hl 1 rfl) ?_
                          refine lv_iload hx hb dX12_apartPairs_144 (lv_at hl 0 rfl) ?_
                          refine go_I E (run_V E ((k_X12_isOne l g h_this h_this_states h_this_letters h_this_moves h_this_light h_this_price h_this_share h_this_word h_this_queue h_this_cameFrom h_this_cameBy h_this_isKnown h_this_isJoined h_this_made h_this_pairWord h_this_bestWord h_this_sum h_this_isSettled h_this_heapSum h_this_heapSet h_this_worth h_this_worthNext h_this_order h_this_hadMoves h_this_row h_this_pairs h_this_pairLong h) _) (cwV 2 hts gX12_apartPairs_X12_isOne rfl rfl rfl (by decide +kernel) ⟨Nat.le_of_ble_eq_true rfl, Nat.le_of_ble_eq_true rfl⟩) hP hD hS [0, 4] rfl rfl 0 11 rfl rfl rfl hl rfl rfl (Nat.le_of_ble_eq_true rfl) dX12_apartPairs_146 ⟨Nat.le_of_ble_eq_true rfl, Nat.le_of_ble_eq_true rfl⟩) hP hD hS [0, 4] rfl [(false, 0), (true, 1), (true, 2), (true, 3), (false, 1)] rfl (by decide) (fun _ => (cw_X12_apartPairs g h_this h_this_states h_this_letters h_this_moves h_this_light h_this_price h_this_share h_this_word h_this_queue h_this_cameFrom h_this_cameBy h_this_isKnown h_this_isJoined h_this_made h_this_pairWord h_this_bestWord h_this_sum h_this_isSettled h_this_heapSum h_this_heapSet h_this_worth h_this_worthNext h_this_order h_this_hadMoves h_this_row h_this_pairs h_this_pairLong c_machines c_wordLong c_queued c_heaped c_states c_letters c_moves c_isJoined)) (fun _ => rfl) (fun r6 _ H locs h hP hD hS => ?_)
                          try dsimp only at h
                          have hP : va_P g.1 vwCl (cw_X12_apartPairs g h_this h_this_states h_this_letters h_this_moves h_this_light h_this_price h_this_share h_this_word h_this_queue h_this_cameFrom h_this_cameBy h_this_isKnown h_this_isJoined h_this_made h_this_pairWord h_this_bestWord h_this_sum h_this_isSettled h_this_heapSum h_this_heapSet h_this_worth h_this_worthNext h_this_order h_this_hadMoves h_this_row h_this_pairs h_this_pairLong c_machines c_wordLong c_queued c_heaped c_states c_letters c_moves c_isJoined) H := hP
                          have hD : va_D A (cw_X12_apartPairs g h_this h_this_states h_this_letters h_this_moves h_this_light h_this_price h_this_share h_this_word h_this_queue h_this_cameFrom h_this_cameBy h_this_isKnown h_this_isJoined h_this_made h_this_pairWord h_this_bestWord h_this_sum h_this_isSettled h_this_heapSum h_this_heapSet h_this_worth h_this_worthNext h_this_order h_this_hadMoves h_this_row h_this_pairs h_this_pairLong c_machines c_wordLong c_queued c_heaped c_states c_letters c_moves c_isJoined) := hD
                          refine lv_if_eq (tgt := 186) hx hb dX12_apartPairs_149 (by decide) (fun cq => ?_) (fun cq => ?_)
                          · replace h := h.1 cq
                            exact K_186 x3 x4 x7 c_isJoined h _ _ hP hD hS _ (lv_sub hl [2, 3, 4, 5, 6, 7, 8, 9] rfl)
                          · replace h := h.2 cq
                            refine lv_aload_n hx hb dX12_apartPairs_152 rfl (lv_at hl 2 rfl) ?_
                            refine va_get (D := g.1) (ci := 11) (v := .ref h_this_isJoined) (C := RX12) (T := TX12) (N := 30) hx hb hts iX12 hown hK hP 0 rfl rfl 14 (by decide) f44 (fun _ h9 => h9) rfl dX12_apartPairs_153 ?_
                            refine lv_bipush (v := (nI 12)) hx hb dX12_apartPairs_156 (by decide) ?_
                            refine lv_iload hx hb dX12_apartPairs_158 (lv_at hl 7 rfl) ?_
                            refine lv_imul hx hb dX12_apartPairs_160 ?_
                            refine lv_iload hx hb dX12_apartPairs_161 (lv_at hl 8 rfl) ?_
                            refine lv_iadd hx hb dX12_apartPairs_163 ?_
                            refine lv_iconst (v := (nI 1)) hx hb dX12_apartPairs_164 (by decide) ?_
                            obtain ⟨hi, h⟩ := h
                            refine va_zast (D := g.1) (n := 144) (f := c_isJoined) hx hb hK hP hD hS 4 2 rfl rfl hi dX12_apartPairs_165 (fun H locs hP hD hS => ?_)
                            have hP : va_P g.1 vwCl (cw_X12_apartPairs g h_this h_this_states h_this_letters h_this_moves h_this_light h_this_price h_this_share h_this_word h_this_queue h_this_cameFrom h_this_cameBy h_this_isKnown h_this_isJoined h_this_made h_this_pairWord h_this_bestWord h_this_sum h_this_isSettled h_this_heapSum h_this_heapSet h_this_worth h_this_worthNext h_this_order h_this_hadMoves h_this_row h_this_pairs h_this_pairLong c_machines c_wordLong c_queued c_heaped c_states c_letters c_moves (upd c_isJoined (Int32.toNatClampNeg (((nI 12) * x5) + x6)) (vp_nar .boolean (nI 1)))) H := hP
                            have hD : va_D A (cw_X12_apartPairs g h_this h_this_states h_this_letters h_this_moves h_this_light h_this_price h_this_share h_this_word h_this_queue h_this_cameFrom h_this_cameBy h_this_isKnown h_this_isJoined h_this_made h_this_pairWord h_this_bestWord h_this_sum h_this_isSettled h_this_heapSum h_this_heapSet h_this_worth h_this_worthNext h_this_order h_this_hadMoves h_this_row h_this_pairs h_this_pairLong c_machines c_wordLong c_queued c_heaped c_states c_letters c_moves (upd c_isJoined (Int32.toNatClampNeg (((nI 12) * x5) + x6)) (vp_nar .boolean (nI 1)))) := hD
                            refine lv_aload_n hx hb dX12_apartPairs_166 rfl (lv_at hl 2 rfl) ?_
                            refine va_get (D := g.1) (ci := 11) (v := .ref h_this_isJoined) (C := RX12) (T := TX12) (N := 30) hx hb hts iX12 hown hK hP 0 rfl rfl 14 (by decide) f44 (fun _ h9 => h9) rfl dX12_apartPairs_167 ?_
                            refine lv_bipush (v := (nI 12)) hx hb dX12_apartPairs_170 (by decide) ?_
                            refine lv_iload hx hb dX12_apartPairs_172 (lv_at hl 8 rfl) ?_
                            refine lv_imul hx hb dX12_apartPairs_174 ?_
                            refine lv_iload hx hb dX12_apartPairs_175 (lv_at hl 7 rfl) ?_
                            refine lv_iadd hx hb dX12_apartPairs_177 ?_
                            refine lv_iconst (v := (nI 1)) hx hb dX12_apartPairs_178 (by decide) ?_
                            obtain ⟨hi, h⟩ := h
                            refine va_zast (D := g.1) (n := 144) (f := (upd c_isJoined (Int32.toNatClampNeg (((nI 12) * x5) + x6)) (vp_nar .boolean (nI 1)))) hx hb hK hP hD hS 4 2 rfl rfl hi dX12_apartPairs_179 (fun H locs hP hD hS => ?_)
                            have hP : va_P g.1 vwCl (cw_X12_apartPairs g h_this h_this_states h_this_letters h_this_moves h_this_light h_this_price h_this_share h_this_word h_this_queue h_this_cameFrom h_this_cameBy h_this_isKnown h_this_isJoined h_this_made h_this_pairWord h_this_bestWord h_this_sum h_this_isSettled h_this_heapSum h_this_heapSet h_this_worth h_this_worthNext h_this_order h_this_hadMoves h_this_row h_this_pairs h_this_pairLong c_machines c_wordLong c_queued c_heaped c_states c_letters c_moves (upd (upd c_isJoined (Int32.toNatClampNeg (((nI 12) * x5) + x6)) (vp_nar .boolean (nI 1))) (Int32.toNatClampNeg (((nI 12) * x6) + x5)) (vp_nar .boolean (nI 1)))) H := hP
                            have hD : va_D A (cw_X12_apartPairs g h_this h_this_states h_this_letters h_this_moves h_this_light h_this_price h_this_share h_this_word h_this_queue h_this_cameFrom h_this_cameBy h_this_isKnown h_this_isJoined h_this_made h_this_pairWord h_this_bestWord h_this_sum h_this_isSettled h_this_heapSum h_this_heapSet h_this_worth h_this_worthNext h_this_order h_this_hadMoves h_this_row h_this_pairs h_this_pairLong c_machines c_wordLong c_queued c_heaped c_states c_letters c_moves (upd (upd c_isJoined (Int32.toNatClampNeg (((nI 12) * x5) + x6)) (vp_nar .boolean (nI 1))) (Int32.toNatClampNeg (((nI 12) * x6) + x5)) (vp_nar .boolean (nI 1)))) := hD
                            refine lv_iinc (v := (x3 + (-1))) (lv' := [(3, .int (x3 + (-1))), (9, .int (c_moves (Int32.toNatClampNeg ((((nI 48) * x1) + ((nI 4) * x6)) + x7)))), (8, .int (c_moves (Int32.toNatClampNeg ((((nI 48) * x1) + ((nI 4) * x5)) + x7)))), (0, .ref h_this), (1, .int x1), (2, .int x2), (4, .int x4), (5, .int x5), (6, .int x6), (7, .int x7)]) hx hb dX12_apartPairs_180 hl (k := 5) rfl rfl (by decide) rfl (fun ls hl => ?_)
                            refine lv_iconst (v := (nI 1)) hx hb dX12_apartPairs_183 (by decide) ?_
                            refine lv_istore (lv' := [(4, .int (nI 1)), (3, .int (x3 + (-1))), (9, .int (c_moves (Int32.toNatClampNeg ((((nI 48) * x1) + ((nI 4) * x6)) + x7)))), (8, .int (c_moves (Int32.toNatClampNeg ((((nI 48) * x1) + ((nI 4) * x5)) + x7)))), (0, .ref h_this), (1, .int x1), (2, .int x2), (5, .int x5), (6, .int x6), (7, .int x7)]) hx hb dX12_apartPairs_184 hl (by decide) rfl (fun ls hl => ?_)
                            exact K_186 (x3 + (-1)) (nI 1) x7 (upd (upd c_isJoined (Int32.toNatClampNeg (((nI 12) * x5) + x6)) (vp_nar .boolean (nI 1))) (Int32.toNatClampNeg (((nI 12) * x6) + x5)) (vp_nar .boolean (nI 1))) h _ _ hP hD hS _ (lv_sub hl [4, 5, 6, 1, 0, 7, 8, 9] rfl)
              refine lv_iload hx hb dX12_apartPairs_63 (lv_at hl 6 rfl) ?_
              refine lv_iload_n hx hb dX12_apartPairs_65 rfl (lv_at hl 2 rfl) ?_
              refine lv_icmp_ge (tgt := 198) hx hb dX12_apartPairs_66 (by decide) (fun cq => ?_) (fun cq => ?_)
              · replace h := h.1 cq
                exact K_198 x3 x4 x5 c_isJoined h _ _ hP hD hS _ (lv_sub hl [0, 1, 2, 3, 4, 5] rfl)
              · replace h := h.2 cq
                refine lv_iconst (v := (nI 0)) hx hb dX12_apartPairs_69 (by decide) ?_
                refine lv_istore (lv' := [(7, .int (nI 0)), (0, .ref h_this), (1, .int x1), (2, .int x2), (3, .int x3), (4, .int x4), (5, .int x5), (6, .int x6)]) hx hb dX12_apartPairs_70 hl (by decide) rfl (fun ls hl => ?_)
                obtain ⟨n, h⟩ := h
                exact K_72 x6 n x3 x4 (nI 0) c_isJoined h _ _ hP hD hS _ (lv_sub hl [1, 2, 3, 4, 5, 6, 7, 0] rfl)
          refine lv_iload hx hb dX12_apartPairs_51 (lv_at hl 5 rfl) ?_
          refine lv_iload_n hx hb dX12_apartPairs_53 rfl (lv_at hl 2 rfl) ?_
          refine lv_icmp_ge (tgt := 204) hx hb dX12_apartPairs_54 (by decide) (fun cq => ?_) (fun cq => ?_)
          · replace h := h.1 cq
            exact K_204 x3 x4 c_isJoined h _ _ hP hD hS _ (lv_sub hl [0, 1, 2, 3, 4] rfl)
          · replace h := h.2 cq
            refine lv_iload hx hb dX12_apartPairs_57 (lv_at hl 5 rfl) ?_
            refine lv_iconst (v := (nI 1)) hx hb dX12_apartPairs_59 (by decide) ?_
            refine lv_iadd hx hb dX12_apartPairs_60 ?_
            refine lv_istore (lv' := [(6, .int (x5 + (nI 1))), (0, .ref h_this), (1, .int x1), (2, .int x2), (3, .int x3), (4, .int x4), (5, .int x5)]) hx hb dX12_apartPairs_61 hl (by decide) rfl (fun ls hl => ?_)
            obtain ⟨n, h⟩ := h
            exact K_63 x5 n x3 x4 (x5 + (nI 1)) c_isJoined h _ _ hP hD hS _ (lv_sub hl [1, 2, 3, 4, 5, 6, 0] rfl)
      refine lv_iload hx hb dX12_apartPairs_40 (lv_at hl 4 rfl) ?_
      refine lv_if_eq (tgt := 207) hx hb dX12_apartPairs_42 (by decide) (fun cq => ?_) (fun cq => ?_)
      · replace h := h.1 cq
        refine lv_iload_n hx hb dX12_apartPairs_207 rfl (lv_at hl 3 rfl) ?_
        exact hret x3 c_isJoined _ _ _ _ rfl h hP hD hS dX12_apartPairs_208
      · replace h := h.2 cq
        refine lv_iconst (v := (nI 0)) hx hb dX12_apartPairs_45 (by decide) ?_
        refine lv_istore (lv' := [(4, .int (nI 0)), (0, .ref h_this), (1, .int x1), (2, .int x2), (3, .int x3)]) hx hb dX12_apartPairs_46 hl (by decide) rfl (fun ls hl => ?_)
        refine lv_iconst (v := (nI 0)) hx hb dX12_apartPairs_48 (by decide) ?_
        refine lv_istore (lv' := [(5, .int (nI 0)), (4, .int (nI 0)), (0, .ref h_this), (1, .int x1), (2, .int x2), (3, .int x3)]) hx hb dX12_apartPairs_49 hl (by decide) rfl (fun ls hl => ?_)
        obtain ⟨n, h⟩ := h
        exact K_51 n x3 (nI 0) (nI 0) c_isJoined h _ _ hP hD hS _ (lv_sub hl [2, 3, 4, 5, 1, 0] rfl)
  have K_29 : ∀ (x2 : Int32) (c_isJoined : Nat → Int32) , J_X12_apartPairs_29 c_machines c_wordLong c_queued c_heaped c_letters c_moves x1 Q x2 c_isJoined → ∀ (H : Heap) (locs : List Loc), va_P g.1 vwCl (cw_X12_apartPairs g h_this h_this_states h_this_letters h_this_moves h_this_light h_this_price h_this_share h_this_word h_this_queue h_this_cameFrom h_this_cameBy h_this_isKnown h_this_isJoined h_this_made h_this_pairWord h_this_bestWord h_this_sum h_this_isSettled h_this_heapSum h_this_heapSet h_this_worth h_this_worthNext h_this_order h_this_hadMoves h_this_row h_this_pairs h_this_pairLong c_machines c_wordLong c_queued c_heaped c_states c_letters c_moves c_isJoined) H → va_D A (cw_X12_apartPairs g h_this h_this_states h_this_letters h_this_moves h_this_light h_this_price h_this_share h_this_word h_this_queue h_this_cameFrom h_this_cameBy h_this_isKnown h_this_isJoined h_this_made h_this_pairWord h_this_bestWord h_this_sum h_this_isSettled h_this_heapSum h_this_heapSet h_this_worth h_this_worthNext h_this_order h_this_hadMoves h_this_row h_this_pairs h_this_pairLong c_machines c_wordLong c_queued c_heaped c_states c_letters c_moves c_isJoined) → va_S A s.heap H locs → ∀ ls : Array Slot, lv_has ls 10 [(0, .ref h_this), (1, .int x1), (2, .int x2)] → W p l e rm_X12_apartPairs s m args below meth c H locs 0 0 QQ (F0 m 29 ls []) := by
    intro x2 c_isJoined h H locs hP hD hS ls hl
    unfold J_X12_apartPairs_29 at h
    refine lv_iload_n hx hb dX12_apartPairs_29 rfl (lv_at hl 2 rfl) ?_
    refine lv_iload_n hx hb dX12_apartPairs_30 rfl (lv_at hl 2 rfl) ?_
    refine lv_iconst (v := (nI 1)) hx hb dX12_apartPairs_31 (by decide) ?_
    refine lv_isub hx hb dX12_apartPairs_32 ?_
    refine lv_imul hx hb dX12_apartPairs_33 ?_
    refine lv_iconst (v := (nI 2)) hx hb dX12_apartPairs_34 (by decide) ?_
    refine lv_idiv hx hb dX12_apartPairs_35 (by decide) ?_
    refine lv_istore_n (lv' := [(3, .int ((x2 * (x2 - (nI 1))) / (nI 2))), (0, .ref h_this), (1, .int x1), (2, .int x2)]) hx hb dX12_apartPairs_36 rfl hl (by decide) rfl (fun ls hl => ?_)
    refine lv_iconst (v := (nI 1)) hx hb dX12_apartPairs_37 (by decide) ?_
    refine lv_istore (lv' := [(4, .int (nI 1)), (3, .int ((x2 * (x2 - (nI 1))) / (nI 2))), (0, .ref h_this), (1, .int x1), (2, .int x2)]) hx hb dX12_apartPairs_38 hl (by decide) rfl (fun ls hl => ?_)
    obtain ⟨n, h⟩ := h
    exact K_40 x2 n ((x2 * (x2 - (nI 1))) / (nI 2)) (nI 1) c_isJoined h _ _ hP hD hS _ (lv_sub hl [2, 3, 4, 1, 0] rfl)
  have K_9 : ∀ (x2 : Int32) (n_9 : Nat) (x3 : Int32) (c_isJoined : Nat → Int32) , L_X12_apartPairs_9 c_machines c_wordLong c_queued c_heaped c_letters c_moves x1 x2 Q n_9 x3 c_isJoined → ∀ (H : Heap) (locs : List Loc), va_P g.1 vwCl (cw_X12_apartPairs g h_this h_this_states h_this_letters h_this_moves h_this_light h_this_price h_this_share h_this_word h_this_queue h_this_cameFrom h_this_cameBy h_this_isKnown h_this_isJoined h_this_made h_this_pairWord h_this_bestWord h_this_sum h_this_isSettled h_this_heapSum h_this_heapSet h_this_worth h_this_worthNext h_this_order h_this_hadMoves h_this_row h_this_pairs h_this_pairLong c_machines c_wordLong c_queued c_heaped c_states c_letters c_moves c_isJoined) H → va_D A (cw_X12_apartPairs g h_this h_this_states h_this_letters h_this_moves h_this_light h_this_price h_this_share h_this_word h_this_queue h_this_cameFrom h_this_cameBy h_this_isKnown h_this_isJoined h_this_made h_this_pairWord h_this_bestWord h_this_sum h_this_isSettled h_this_heapSum h_this_heapSet h_this_worth h_this_worthNext h_this_order h_this_hadMoves h_this_row h_this_pairs h_this_pairLong c_machines c_wordLong c_queued c_heaped c_states c_letters c_moves c_isJoined) → va_S A s.heap H locs → ∀ ls : Array Slot, lv_has ls 10 [(0, .ref h_this), (1, .int x1), (2, .int x2), (3, .int x3)] → W p l e rm_X12_apartPairs s m args below meth c H locs 0 0 QQ (F0 m 9 ls []) := by
    intro x2 n_9
    induction n_9 with
    | zero => intro x3 c_isJoined; exact fun h => False.elim h
    | succ n_9 ih_9 =>
      intro x3 c_isJoined h H locs hP hD hS ls hl
      unfold L_X12_apartPairs_9 at h
      refine lv_iload_n hx hb dX12_apartPairs_9 rfl (lv_at hl 3 rfl) ?_
      refine lv_sipush (v := (nI 144)) hx hb dX12_apartPairs_10 (by decide) ?_
      refine lv_icmp_ge (tgt := 29) hx hb dX12_apartPairs_13 (by decide) (fun cq => ?_) (fun cq => ?_)
      · replace h := h.1 cq
        exact K_29 x2 c_isJoined h _ _ hP hD hS _ (lv_sub hl [0, 1, 2] rfl)
      · replace h := h.2 cq
        refine lv_aload_n hx hb dX12_apartPairs_16 rfl (lv_at hl 0 rfl) ?_
        refine va_get (D := g.1) (ci := 11) (v := .ref h_this_isJoined) (C := RX12) (T := TX12) (N := 30) hx hb hts iX12 hown hK hP 0 rfl rfl 14 (by decide) f44 (fun _ h9 => h9) rfl dX12_apartPairs_17 ?_
        refine lv_iload_n hx hb dX12_apartPairs_20 rfl (lv_at hl 3 rfl) ?_
        refine lv_iconst (v := (nI 0)) hx hb dX12_apartPairs_21 (by decide) ?_
        obtain ⟨hi, h⟩ := h
        refine va_zast (D := g.1) (n := 144) (f := c_isJoined) hx hb hK hP hD hS 4 2 rfl rfl hi dX12_apartPairs_22 (fun H locs hP hD hS => ?_)
        have hP : va_P g.1 vwCl (cw_X12_apartPairs g h_this h_this_states h_this_letters h_this_moves h_this_light h_this_price h_this_share h_this_word h_this_queue h_this_cameFrom h_this_cameBy h_this_isKnown h_this_isJoined h_this_made h_this_pairWord h_this_bestWord h_this_sum h_this_isSettled h_this_heapSum h_this_heapSet h_this_worth h_this_worthNext h_this_order h_this_hadMoves h_this_row h_this_pairs h_this_pairLong c_machines c_wordLong c_queued c_heaped c_states c_letters c_moves (upd c_isJoined (Int32.toNatClampNeg x3) (vp_nar .boolean (nI 0)))) H := hP
        have hD : va_D A (cw_X12_apartPairs g h_this h_this_states h_this_letters h_this_moves h_this_light h_this_price h_this_share h_this_word h_this_queue h_this_cameFrom h_this_cameBy h_this_isKnown h_this_isJoined h_this_made h_this_pairWord h_this_bestWord h_this_sum h_this_isSettled h_this_heapSum h_this_heapSet h_this_worth h_this_worthNext h_this_order h_this_hadMoves h_this_row h_this_pairs h_this_pairLong c_machines c_wordLong c_queued c_heaped c_states c_letters c_moves (upd c_isJoined (Int32.toNatClampNeg x3) (vp_nar .boolean (nI 0)))) := hD
        refine lv_iinc (v := (x3 + (nI 1))) (lv' := [(3, .int (x3 + (nI 1))), (0, .ref h_this), (1, .int x1), (2, .int x2)]) hx hb dX12_apartPairs_23 hl (k := 3) rfl rfl (by decide) rfl (fun ls hl => ?_)
        refine lv_goto (tgt := 9) hx hb dX12_apartPairs_26 (by decide) ?_
        exact ih_9 (x3 + (nI 1)) (upd c_isJoined (Int32.toNatClampNeg x3) (vp_nar .boolean (nI 0))) h _ _ hP hD hS _ (lv_sub hl [1, 2, 3, 0] rfl)
  refine lv_aload_n hx hb dX12_apartPairs_0 rfl (lv_at hl 0 rfl) ?_
  refine va_get (D := g.1) (ci := 11) (v := .ref h_this_states) (C := RX12) (T := TX12) (N := 30) hx hb hts iX12 hown hK hP 0 rfl rfl 1 (by decide) f7 (fun _ h9 => h9) rfl dX12_apartPairs_1 ?_
  refine lv_iload_n hx hb dX12_apartPairs_4 rfl (lv_at hl 1 rfl) ?_
  obtain ⟨hi, h⟩ := h
  refine va_iald (D := g.1) (n := 6) (f := c_states) hx hb hK hP 1 0 rfl rfl hi dX12_apartPairs_5 ?_
  refine lv_istore_n (lv' := [(2, .int (c_states (Int32.toNatClampNeg x1))), (0, .ref h_this), (1, .int x1)]) hx hb dX12_apartPairs_6 rfl hl (by decide) rfl (fun ls hl => ?_)
  refine lv_iconst (v := (nI 0)) hx hb dX12_apartPairs_7 (by decide) ?_
  refine lv_istore_n (lv' := [(3, .int (nI 0)), (2, .int (c_states (Int32.toNatClampNeg x1))), (0, .ref h_this), (1, .int x1)]) hx hb dX12_apartPairs_8 rfl hl (by decide) rfl (fun ls hl => ?_)
  obtain ⟨n, h⟩ := h
  exact K_9 (c_states (Int32.toNatClampNeg x1)) n (nI 0) c_isJoined h _ _ hP hD hS _ (lv_sub hl [2, 3, 1, 0] rfl)
abbrev cw_X12_unmerged (g : GG) (h_this : Nat) (h_this_states : Nat) (h_this_letters : Nat) (h_this_moves : Nat) (h_this_light : Nat) (h_this_price : Nat) (h_this_share : Nat) (h_this_word : Nat) (h_this_queue : Nat) (h_this_cameFrom : Nat) (h_this_cameBy : Nat) (h_this_isKnown : Nat) (h_this_isJoined : Nat) (h_this_made : Nat) (h_this_pairWord : Nat) (h_this_bestWord : Nat) (h_this_sum : Nat) (h_this_isSettled : Nat) (h_this_heapSum : Nat) (h_this_heapSet : Nat) (h_this_worth : Nat) (h_this_worthNext : Nat) (h_this_order : Nat) (h_this_hadMoves : Nat) (h_this_row : Nat) (h_this_pairs : Nat) (h_this_pairLong : Nat) (c_machines : Int32) (c_wordLong : Int32) (c_queued : Int32) (c_heaped : Int32) (c_states : Nat → Int32) (c_letters : Nat → Int32) (c_moves : Nat → Int32) (c_isJoined : Nat → Int32) : va_W := [(h_this, .inr (11, [.int c_machines, .ref h_this_states, .ref h_this_letters, .ref h_this_moves, .ref h_this_light, .ref h_this_price, .ref h_this_share, .int c_wordLong, .ref h_this_word, .int c_queued, .ref h_this_queue, .ref h_this_cameFrom, .ref h_this_cameBy, .ref h_this_isKnown, .ref h_this_isJoined, .ref h_this_made, .ref h_this_pairWord, .ref h_this_bestWord, .ref h_this_sum, .ref h_this_isSettled, .ref h_this_heapSum, .ref h_this_heapSet, .int c_heaped, .ref h_this_worth, .ref h_this_worthNext, .ref h_this_order, .ref h_this_hadMoves, .ref h_this_row, .ref h_this_pairs, .ref h_this_pairLong])), (h_this_states, .inl (g.2.1, 6, .inl c_states)), (h_this_letters, .inl (g.2.1, 6, .inl c_letters)), (h_this_moves, .inl (g.2.1, 288, .inl c_moves)), (h_this_isJoined, .inl (g.2.2.2.1, 144, .inl c_isJoined))]
def wp_X12_unmerged (c_machines : Int32) (c_wordLong : Int32) (c_queued : Int32) (c_heaped : Int32) (c_states : Nat → Int32) (c_letters : Nat → Int32) (c_moves : Nat → Int32) (c_isJoined : Nat → Int32) (x1 : Int32) (Q : Int32 → (Nat → Int32) → Prop) : Prop :=
    wp_X12_isMachine c_machines c_wordLong c_queued c_heaped x1 (fun r2 => ((r2 = (nI 0) → Q (-2) c_isJoined) ∧ (¬ r2 = (nI 0) → wp_X12_apartPairs c_machines c_wordLong c_queued c_heaped c_states c_letters c_moves c_isJoined x1 (fun r4 c_isJoined => Q r4 c_isJoined))))
abbrev rm_X12_unmerged : Room := { frames := 2, cells := 0, slots := 0, locals := 51 }
set_option maxHeartbeats 4000000 in
set_option maxRecDepth 100000 in
theorem k_X12_unmerged (l : Launch) (g : GG) (h_this : Nat) (h_this_states : Nat) (h_this_letters : Nat) (h_this_moves : Nat) (h_this_light : Nat) (h_this_price : Nat) (h_this_share : Nat) (h_this_word : Nat) (h_this_queue : Nat) (h_this_cameFrom : Nat) (h_this_cameBy : Nat) (h_this_isKnown : Nat) (h_this_isJoined : Nat) (h_this_made : Nat) (h_this_pairWord : Nat) (h_this_bestWord : Nat) (h_this_sum : Nat) (h_this_isSettled : Nat) (h_this_heapSum : Nat) (h_this_heapSet : Nat) (h_this_worth : Nat) (h_this_worthNext : Nat) (h_this_order : Nat) (h_this_hadMoves : Nat) (h_this_row : Nat) (h_this_pairs : Nat) (h_this_pairLong : Nat) {c_machines : Int32} {c_wordLong : Int32} {c_queued : Int32} {c_heaped : Int32} {c_states : Nat → Int32} {c_letters : Nat → Int32} {c_moves : Nat → Int32} {c_isJoined : Nat → Int32} {x1 : Int32} {Q : Int32 → (Nat → Int32) → Prop} (h : wp_X12_unmerged c_machines c_wordLong c_queued c_heaped c_states c_letters c_moves c_isJoined x1 Q) : CI l g yX12_unmerged wsX12_unmerged rm_X12_unmerged [.ref h_this, .int x1] (cw_X12_unmerged g h_this h_this_states h_this_letters h_this_moves h_this_light h_this_price h_this_share h_this_word h_this_queue h_this_cameFrom h_this_cameBy h_this_isKnown h_this_isJoined h_this_made h_this_pairWord h_this_bestWord h_this_sum h_this_isSettled h_this_heapSum h_this_heapSet h_this_worth h_this_worthNext h_this_order h_this_hadMoves h_this_row h_this_pairs h_this_pairLong c_machines c_wordLong c_queued c_heaped c_states c_letters c_moves c_isJoined) (S := (Nat → Int32)) (fun u => (cw_X12_unmerged g h_this h_this_states h_this_letters h_this_moves h_this_light h_this_price h_this_share h_this_word h_this_queue h_this_cameFrom h_this_cameBy h_this_isKnown h_this_isJoined h_this_made h_this_pairWord h_this_bestWord h_this_sum h_this_isSettled h_this_heapSum h_this_heapSet h_this_worth h_this_worthNext h_this_order h_this_hadMoves h_this_row h_this_pairs h_this_pairLong c_machines c_wordLong c_queued c_heaped c_states c_letters c_moves u)) (fun r u => Q r u) 0 0 := by
  refine mk_I (cc := cX12_unmerged) (maxL := 2) (own := RX12) (by decide) rfl rfl (Nat.le_of_ble_eq_true rfl) ?_
  intro p e s m args below meth c A QQ E hret hP hD hS ls hl
  have E2 := E
  obtain ⟨hx, hb, hr, hml, hown, hts, hlocks, hA, hZ, hK, hnm⟩ := E2
  have hP : va_P g.1 vwCl (cw_X12_unmerged g h_this h_this_states h_this_letters h_this_moves h_this_light h_this_price h_this_share h_this_word h_this_queue h_this_cameFrom h_this_cameBy h_this_isKnown h_this_isJoined h_this_made h_this_pairWord h_this_bestWord h_this_sum h_this_isSettled h_this_heapSum h_this_heapSet h_this_worth h_this_worthNext h_this_order h_this_hadMoves h_this_row h_this_pairs h_this_pairLong c_machines c_wordLong c_queued c_heaped c_states c_letters c_moves c_isJoined) s.heap := hP
  have hD : va_D A (cw_X12_unmerged g h_this h_this_states h_this_letters h_this_moves h_this_light h_this_price h_this_share h_this_word h_this_queue h_this_cameFrom h_this_cameBy h_this_isKnown h_this_isJoined h_this_made h_this_pairWord h_this_bestWord h_this_sum h_this_isSettled h_this_heapSum h_this_heapSet h_this_worth h_this_worthNext h_this_order h_this_hadMoves h_this_row h_this_pairs h_this_pairLong c_machines c_wordLong c_queued c_heaped c_states c_letters c_moves c_isJoined) := hD
  have hl : lv_has ls 2 [(0, .ref h_this), (1, .int x1)] := hl
  unfold wp_X12_unmerged at h
  refine lv_aload_n hx hb dX12_unmerged_0 rfl (lv_at hl 0 rfl) ?_
  refine lv_iload_n hx hb dX12_unmerged_1 rfl (lv_at hl 1 rfl) ?_
  refine go_I E (run_V E ((k_X12_isMachine l g h_this h_this_states h_this_letters h_this_moves h_this_light h_this_price h_this_share h_this_word h_this_queue h_this_cameFrom h_this_cameBy h_this_isKnown h_this_isJoined h_this_made h_this_pairWord h_this_bestWord h_this_sum h_this_isSettled h_this_heapSum h_this_heapSet h_this_worth h_this_worthNext h_this_order h_this_hadMoves h_this_row h_this_pairs h_this_pairLong h) _) (cwV 1 hts gX12_unmerged_X12_isMachine rfl rfl rfl (by decide +kernel) ⟨Nat.le_of_ble_eq_true rfl, Nat.le_of_ble_eq_true rfl⟩) hP hD hS [0] rfl rfl 0 11 rfl rfl rfl hl rfl rfl (Nat.le_of_ble_eq_true rfl) dX12_unmerged_2 ⟨Nat.le_of_ble_eq_true rfl, Nat.le_of_ble_eq_true rfl⟩) hP hD hS [0] rfl [(false, 0), (true, 1), (true, 2), (true, 3), (true, 4)] rfl (by decide) (fun _ => (cw_X12_unmerged g h_this h_this_states h_this_letters h_this_moves h_this_light h_this_price h_this_share h_this_word h_this_queue h_this_cameFrom h_this_cameBy h_this_isKnown h_this_isJoined h_this_made h_this_pairWord h_this_bestWord h_this_sum h_this_isSettled h_this_heapSum h_this_heapSet h_this_worth h_this_worthNext h_this_order h_this_hadMoves h_this_row h_this_pairs h_this_pairLong c_machines c_wordLong c_queued c_heaped c_states c_letters c_moves c_isJoined)) (fun _ => rfl) (fun r2 _ H locs h hP hD hS => ?_)
  try dsimp only at h
  have hP : va_P g.1 vwCl (cw_X12_unmerged g h_this h_this_states h_this_letters h_this_moves h_this_light h_this_price h_this_share h_this_word h_this_queue h_this_cameFrom h_this_cameBy h_this_isKnown h_this_isJoined h_this_made h_this_pairWord h_this_bestWord h_this_sum h_this_isSettled h_this_heapSum h_this_heapSet h_this_worth h_this_worthNext h_this_order h_this_hadMoves h_this_row h_this_pairs h_this_pairLong c_machines c_wordLong c_queued c_heaped c_states c_letters c_moves c_isJoined) H := hP
  have hD : va_D A (cw_X12_unmerged g h_this h_this_states h_this_letters h_this_moves h_this_light h_this_price h_this_share h_this_word h_this_queue h_this_cameFrom h_this_cameBy h_this_isKnown h_this_isJoined h_this_made h_this_pairWord h_this_bestWord h_this_sum h_this_isSettled h_this_heapSum h_this_heapSet h_this_worth h_this_worthNext h_this_order h_this_hadMoves h_this_row h_this_pairs h_this_pairLong c_machines c_wordLong c_queued c_heaped c_states c_letters c_moves c_isJoined) := hD
  refine lv_if_eq (tgt := 16) hx hb dX12_unmerged_5 (by decide) (fun cq => ?_) (fun cq => ?_)
  · replace h := h.1 cq
    refine lv_bipush (v := (-2)) hx hb dX12_unmerged_16 (by decide) ?_
    exact hret (-2) c_isJoined _ _ _ _ rfl h hP hD hS dX12_unmerged_18
  · replace h := h.2 cq
    refine lv_aload_n hx hb dX12_unmerged_8 rfl (lv_at hl 0 rfl) ?_
    refine lv_iload_n hx hb dX12_unmerged_9 rfl (lv_at hl 1 rfl) ?_
    refine go_I E (run_V E ((k_X12_apartPairs l g h_this h_this_states h_this_letters h_this_moves h_this_light h_this_price h_this_share h_this_word h_this_queue h_this_cameFrom h_this_cameBy h_this_isKnown h_this_isJoined h_this_made h_this_pairWord h_this_bestWord h_this_sum h_this_isSettled h_this_heapSum h_this_heapSet h_this_worth h_this_worthNext h_this_order h_this_hadMoves h_this_row h_this_pairs h_this_pairLong h) _) (cwV 1 hts gX12_unmerged_X12_apartPairs rfl rfl rfl (by decide +kernel) ⟨Nat.le_of_ble_eq_true rfl, Nat.le_of_ble_eq_true rfl⟩) hP hD hS [0, 1, 2, 3, 4] rfl rfl 0 11 rfl rfl rfl hl rfl rfl (Nat.le_of_ble_eq_true rfl) dX12_unmerged_10 ⟨Nat.le_of_ble_eq_true rfl, Nat.le_of_ble_eq_true rfl⟩) hP hD hS [0, 1, 2, 3, 4] rfl [(false, 0), (false, 1), (false, 2), (false, 3), (false, 4)] rfl (by decide) (fun u => (cw_X12_unmerged g h_this h_this_states h_this_letters h_this_moves h_this_light h_this_price h_this_share h_this_word h_this_queue h_this_cameFrom h_this_cameBy h_this_isKnown h_this_isJoined h_this_made h_this_pairWord h_this_bestWord h_this_sum h_this_isSettled h_this_heapSum h_this_heapSet h_this_worth h_this_worthNext h_this_order h_this_hadMoves h_this_row h_this_pairs h_this_pairLong c_machines c_wordLong c_queued c_heaped c_states c_letters c_moves u)) (fun _ => rfl) (fun r4 c_isJoined H locs h hP hD hS => ?_)
    try dsimp only at h
    have hP : va_P g.1 vwCl (cw_X12_unmerged g h_this h_this_states h_this_letters h_this_moves h_this_light h_this_price h_this_share h_this_word h_this_queue h_this_cameFrom h_this_cameBy h_this_isKnown h_this_isJoined h_this_made h_this_pairWord h_this_bestWord h_this_sum h_this_isSettled h_this_heapSum h_this_heapSet h_this_worth h_this_worthNext h_this_order h_this_hadMoves h_this_row h_this_pairs h_this_pairLong c_machines c_wordLong c_queued c_heaped c_states c_letters c_moves c_isJoined) H := hP
    have hD : va_D A (cw_X12_unmerged g h_this h_this_states h_this_letters h_this_moves h_this_light h_this_price h_this_share h_this_word h_this_queue h_this_cameFrom h_this_cameBy h_this_isKnown h_this_isJoined h_this_made h_this_pairWord h_this_bestWord h_this_sum h_this_isSettled h_this_heapSum h_this_heapSet h_this_worth h_this_worthNext h_this_order h_this_hadMoves h_this_row h_this_pairs h_this_pairLong c_machines c_wordLong c_queued c_heaped c_states c_letters c_moves c_isJoined) := hD
    refine lv_goto (tgt := 18) hx hb dX12_unmerged_13 (by decide) ?_
    exact hret r4 c_isJoined _ _ _ _ rfl h hP hD hS dX12_unmerged_18
abbrev cw_X12_readPair (g : GG) (h_this : Nat) (h_this_states : Nat) (h_this_letters : Nat) (h_this_moves : Nat) (h_this_light : Nat) (h_this_price : Nat) (h_this_share : Nat) (h_this_word : Nat) (h_this_queue : Nat) (h_this_cameFrom : Nat) (h_this_cameBy : Nat) (h_this_isKnown : Nat) (h_this_isJoined : Nat) (h_this_made : Nat) (h_this_pairWord : Nat) (h_this_bestWord : Nat) (h_this_sum : Nat) (h_this_isSettled : Nat) (h_this_heapSum : Nat) (h_this_heapSet : Nat) (h_this_worth : Nat) (h_this_worthNext : Nat) (h_this_order : Nat) (h_this_hadMoves : Nat) (h_this_row : Nat) (h_this_pairs : Nat) (h_this_pairLong : Nat) (c_machines : Int32) (c_wordLong : Int32) (c_queued : Int32) (c_heaped : Int32) (c_cameFrom : Nat → Int32) (c_cameBy : Nat → Int32) (c_pairWord : Nat → Int32) : va_W := [(h_this, .inr (11, [.int c_machines, .ref h_this_states, .ref h_this_letters, .ref h_this_moves, .ref h_this_light, .ref h_this_price, .ref h_this_share, .int c_wordLong, .ref h_this_word, .int c_queued, .ref h_this_queue, .ref h_this_cameFrom, .ref h_this_cameBy, .ref h_this_isKnown, .ref h_this_isJoined, .ref h_this_made, .ref h_this_pairWord, .ref h_this_bestWord, .ref h_this_sum, .ref h_this_isSettled, .ref h_this_heapSum, .ref h_this_heapSet, .int c_heaped, .ref h_this_worth, .ref h_this_worthNext, .ref h_this_order, .ref h_this_hadMoves, .ref h_this_row, .ref h_this_pairs, .ref h_this_pairLong])), (h_this_cameFrom, .inl (g.2.1, 4096, .inl c_cameFrom)), (h_this_cameBy, .inl (g.2.1, 4096, .inl c_cameBy)), (h_this_pairWord, .inl (g.2.1, 100, .inl c_pairWord))]
def L_X12_readPair_13 (c_cameFrom : Nat → Int32) (c_cameBy : Nat → Int32) (x2 : Int32) (Q : Int32 → (Nat → Int32) → Prop) : Nat → Int32 → Int32 → (Nat → Int32) → Prop
  | 0, _, _, _ => False
  | n_13 + 1, x3, x4, c_pairWord =>
    ((x4 < (nI 0) → Q x2 c_pairWord) ∧ (¬ x4 < (nI 0) → vp_in x3 4096 ∧ vp_in x4 100 ∧ vp_in x3 4096 ∧ (L_X12_readPair_13 c_cameFrom c_cameBy x2 Q n_13) (c_cameFrom (Int32.toNatClampNeg x3)) (x4 + (-1)) (upd c_pairWord (Int32.toNatClampNeg x4) (c_cameBy (Int32.toNatClampNeg x3)))))
def wp_X12_readPair (c_machines : Int32) (c_wordLong : Int32) (c_queued : Int32) (c_heaped : Int32) (c_cameFrom : Nat → Int32) (c_cameBy : Nat → Int32) (c_pairWord : Nat → Int32) (x1 : Int32) (Q : Int32 → (Nat → Int32) → Prop) : Prop :=
    wp_X12_longTo c_machines c_wordLong c_queued c_heaped c_cameFrom x1 (fun r2 => ∃ n, L_X12_readPair_13 c_cameFrom c_cameBy r2 Q n x1 (r2 - (nI 1)) c_pairWord)
abbrev rm_X12_readPair : Room := { frames := 1, cells := 0, slots := 0, locals := 23 }
set_option maxHeartbeats 4000000 in
set_option maxRecDepth 100000 in
theorem k_X12_readPair (l : Launch) (g : GG) (h_this : Nat) (h_this_states : Nat) (h_this_letters : Nat) (h_this_moves : Nat) (h_this_light : Nat) (h_this_price : Nat) (h_this_share : Nat) (h_this_word : Nat) (h_this_queue : Nat) (h_this_cameFrom : Nat) (h_this_cameBy : Nat) (h_this_isKnown : Nat) (h_this_isJoined : Nat) (h_this_made : Nat) (h_this_pairWord : Nat) (h_this_bestWord : Nat) (h_this_sum : Nat) (h_this_isSettled : Nat) (h_this_heapSum : Nat) (h_this_heapSet : Nat) (h_this_worth : Nat) (h_this_worthNext : Nat) (h_this_order : Nat) (h_this_hadMoves : Nat) (h_this_row : Nat) (h_this_pairs : Nat) (h_this_pairLong : Nat) {c_machines : Int32} {c_wordLong : Int32} {c_queued : Int32} {c_heaped : Int32} {c_cameFrom : Nat → Int32} {c_cameBy : Nat → Int32} {c_pairWord : Nat → Int32} {x1 : Int32} {Q : Int32 → (Nat → Int32) → Prop} (h : wp_X12_readPair c_machines c_wordLong c_queued c_heaped c_cameFrom c_cameBy c_pairWord x1 Q) : CI l g yX12_readPair wsX12_readPair rm_X12_readPair [.ref h_this, .int x1] (cw_X12_readPair g h_this h_this_states h_this_letters h_this_moves h_this_light h_this_price h_this_share h_this_word h_this_queue h_this_cameFrom h_this_cameBy h_this_isKnown h_this_isJoined h_this_made h_this_pairWord h_this_bestWord h_this_sum h_this_isSettled h_this_heapSum h_this_heapSet h_this_worth h_this_worthNext h_this_order h_this_hadMoves h_this_row h_this_pairs h_this_pairLong c_machines c_wordLong c_queued c_heaped c_cameFrom c_cameBy c_pairWord) (S := (Nat → Int32)) (fun u => (cw_X12_readPair g h_this h_this_states h_this_letters h_this_moves h_this_light h_this_price h_this_share h_this_word h_this_queue h_this_cameFrom h_this_cameBy h_this_isKnown h_this_isJoined h_this_made h_this_pairWord h_this_bestWord h_this_sum h_this_isSettled h_this_heapSum h_this_heapSet h_this_worth h_this_worthNext h_this_order h_this_hadMoves h_this_row h_this_pairs h_this_pairLong c_machines c_wordLong c_queued c_heaped c_cameFrom c_cameBy u)) (fun r u => Q r u) 0 0 := by
  refine mk_I (cc := cX12_readPair) (maxL := 5) (own := RX12) (by decide) rfl rfl (Nat.le_of_ble_eq_true rfl) ?_
  intro p e s m args below meth c A QQ E hret hP hD hS ls hl
  have E2 := E
  obtain ⟨hx, hb, hr, hml, hown, hts, hlocks, hA, hZ, hK, hnm⟩ := E2
  have f50 := hts (.fieldLink RX12 50 "WordBenchModel" "pairWord" "[I") (by decide +kernel)
  have f37 := hts (.fieldLink RX12 37 "WordBenchModel" "cameBy" "[I") (by decide +kernel)
  have f34 := hts (.fieldLink RX12 34 "WordBenchModel" "cameFrom" "[I") (by decide +kernel)
  have iX12 : ∀ w ∈ wsX120, w ∈ wsX12_readPair := fun _ h => List.mem_cons_of_mem _ (List.mem_append_right _ h)
  have hP : va_P g.1 vwCl (cw_X12_readPair g h_this h_this_states h_this_letters h_this_moves h_this_light h_this_price h_this_share h_this_word h_this_queue h_this_cameFrom h_this_cameBy h_this_isKnown h_this_isJoined h_this_made h_this_pairWord h_this_bestWord h_this_sum h_this_isSettled h_this_heapSum h_this_heapSet h_this_worth h_this_worthNext h_this_order h_this_hadMoves h_this_row h_this_pairs h_this_pairLong c_machines c_wordLong c_queued c_heaped c_cameFrom c_cameBy c_pairWord) s.heap := hP
  have hD : va_D A (cw_X12_readPair g h_this h_this_states h_this_letters h_this_moves h_this_light h_this_price h_this_share h_this_word h_this_queue h_this_cameFrom h_this_cameBy h_this_isKnown h_this_isJoined h_this_made h_this_pairWord h_this_bestWord h_this_sum h_this_isSettled h_this_heapSum h_this_heapSet h_this_worth h_this_worthNext h_this_order h_this_hadMoves h_this_row h_this_pairs h_this_pairLong c_machines c_wordLong c_queued c_heaped c_cameFrom c_cameBy c_pairWord) := hD
  have hl : lv_has ls 5 [(0, .ref h_this), (1, .int x1)] := hl
  unfold wp_X12_readPair at h
  have K_13 : ∀ (x2 : Int32) (n_13 : Nat) (x3 : Int32) (x4 : Int32) (c_pairWord : Nat → Int32) , L_X12_readPair_13 c_cameFrom c_cameBy x2 Q n_13 x3 x4 c_pairWord → ∀ (H : Heap) (locs : List Loc), va_P g.1 vwCl (cw_X12_readPair g h_this h_this_states h_this_letters h_this_moves h_this_light h_this_price h_this_share h_this_word h_this_queue h_this_cameFrom h_this_cameBy h_this_isKnown h_this_isJoined h_this_made h_this_pairWord h_this_bestWord h_this_sum h_this_isSettled h_this_heapSum h_this_heapSet h_this_worth h_this_worthNext h_this_order h_this_hadMoves h_this_row h_this_pairs h_this_pairLong c_machines c_wordLong c_queued c_heaped c_cameFrom c_cameBy c_pairWord) H → va_D A (cw_X12_readPair g h_this h_this_states h_this_letters h_this_moves h_this_light h_this_price h_this_share h_this_word h_this_queue h_this_cameFrom h_this_cameBy h_this_isKnown h_this_isJoined h_this_made h_this_pairWord h_this_bestWord h_this_sum h_this_isSettled h_this_heapSum h_this_heapSet h_this_worth h_this_worthNext h_this_order h_this_hadMoves h_this_row h_this_pairs h_this_pairLong c_machines c_wordLong c_queued c_heaped c_cameFrom c_cameBy c_pairWord) → va_S A s.heap H locs → ∀ ls : Array Slot, lv_has ls 5 [(0, .ref h_this), (2, .int x2), (3, .int x3), (4, .int x4)] → W p l e rm_X12_readPair s m args below meth c H locs 0 0 QQ (F0 m 13 ls []) := by
    intro x2 n_13
    induction n_13 with
    | zero => intro x3 x4 c_pairWord; exact fun h => False.elim h
    | succ n_13 ih_13 =>
      intro x3 x4 c_pairWord h H locs hP hD hS ls hl
      unfold L_X12_readPair_13 at h
      refine lv_iload hx hb dX12_readPair_13 (lv_at hl 3 rfl) ?_
      refine lv_if_lt (tgt := 44) hx hb dX12_readPair_15 (by decide) (fun cq => ?_) (fun cq => ?_)
      · replace h := h.1 cq
        refine lv_iload_n hx hb dX12_readPair_44 rfl (lv_at hl 1 rfl) ?_
        exact hret x2 c_pairWord _ _ _ _ rfl h hP hD hS dX12_readPair_45
      · replace h := h.2 cq
        refine lv_aload_n hx hb dX12_readPair_18 rfl (lv_at hl 0 rfl) ?_
        refine va_get (D := g.1) (ci := 11) (v := .ref h_this_pairWord) (C := RX12) (T := TX12) (N := 30) hx hb hts iX12 hown hK hP 0 rfl rfl 16 (by decide) f50 (fun _ h9 => h9) rfl dX12_readPair_19 ?_
        refine lv_iload hx hb dX12_readPair_22 (lv_at hl 3 rfl) ?_
        refine lv_aload_n hx hb dX12_readPair_24 rfl (lv_at hl 0 rfl) ?_
        refine va_get (D := g.1) (ci := 11) (v := .ref h_this_cameBy) (C := RX12) (T := TX12) (N := 30) hx hb hts iX12 hown hK hP 0 rfl rfl 12 (by decide) f37 (fun _ h9 => h9) rfl dX12_readPair_25 ?_
        refine lv_iload_n hx hb dX12_readPair_28 rfl (lv_at hl 2 rfl) ?_
        obtain ⟨hi, h⟩ := h
        refine va_iald (D := g.1) (n := 4096) (f := c_cameBy) hx hb hK hP 2 0 rfl rfl hi dX12_readPair_29 ?_
        obtain ⟨hi, h⟩ := h
        refine va_iast (D := g.1) (n := 100) (f := c_pairWord) hx hb hK hP hD hS 3 0 rfl rfl hi dX12_readPair_30 (fun H locs hP hD hS => ?_)
        have hP : va_P g.1 vwCl (cw_X12_readPair g h_this h_this_states h_this_letters h_this_moves h_this_light h_this_price h_this_share h_this_word h_this_queue h_this_cameFrom h_this_cameBy h_this_isKnown h_this_isJoined h_this_made h_this_pairWord h_this_bestWord h_this_sum h_this_isSettled h_this_heapSum h_this_heapSet h_this_worth h_this_worthNext h_this_order h_this_hadMoves h_this_row h_this_pairs h_this_pairLong c_machines c_wordLong c_queued c_heaped c_cameFrom c_cameBy (upd c_pairWord (Int32.toNatClampNeg x4) (c_cameBy (Int32.toNatClampNeg x3)))) H := hP
        have hD : va_D A (cw_X12_readPair g h_this h_this_states h_this_letters h_this_moves h_this_light h_this_price h_this_share h_this_word h_this_queue h_this_cameFrom h_this_cameBy h_this_isKnown h_this_isJoined h_this_made h_this_pairWord h_this_bestWord h_this_sum h_this_isSettled h_this_heapSum h_this_heapSet h_this_worth h_this_worthNext h_this_order h_this_hadMoves h_this_row h_this_pairs h_this_pairLong c_machines c_wordLong c_queued c_heaped c_cameFrom c_cameBy (upd c_pairWord (Int32.toNatClampNeg x4) (c_cameBy (Int32.toNatClampNeg x3)))) := hD
        refine lv_aload_n hx hb dX12_readPair_31 rfl (lv_at hl 0 rfl) ?_
        refine va_get (D := g.1) (ci := 11) (v := .ref h_this_cameFrom) (C := RX12) (T := TX12) (N := 30) hx hb hts iX12 hown hK hP 0 rfl rfl 11 (by decide) f34 (fun _ h9 => h9) rfl dX12_readPair_32 ?_
        refine lv_iload_n hx hb dX12_readPair_35 rfl (lv_at hl 2 rfl) ?_
        obtain ⟨hi, h⟩ := h
        refine va_iald (D := g.1) (n := 4096) (f := c_cameFrom) hx hb hK hP 1 0 rfl rfl hi dX12_readPair_36 ?_
        refine lv_istore_n (lv' := [(3, .int (c_cameFrom (Int32.toNatClampNeg x3))), (0, .ref h_this), (2, .int x2), (4, .int x4)]) hx hb dX12_readPair_37 rfl hl (by decide) rfl (fun ls hl => ?_)
        refine lv_iinc (v := (x4 + (-1))) (lv' := [(4, .int (x4 + (-1))), (3, .int (c_cameFrom (Int32.toNatClampNeg x3))), (0, .ref h_this), (2, .int x2)]) hx hb dX12_readPair_38 hl (k := 3) rfl rfl (by decide) rfl (fun ls hl => ?_)
        refine lv_goto (tgt := 13) hx hb dX12_readPair_41 (by decide) ?_
        exact ih_13 (c_cameFrom (Int32.toNatClampNeg x3)) (x4 + (-1)) (upd c_pairWord (Int32.toNatClampNeg x4) (c_cameBy (Int32.toNatClampNeg x3))) h _ _ hP hD hS _ (lv_sub hl [2, 3, 1, 0] rfl)
  refine lv_aload_n hx hb dX12_readPair_0 rfl (lv_at hl 0 rfl) ?_
  refine lv_iload_n hx hb dX12_readPair_1 rfl (lv_at hl 1 rfl) ?_
  refine go_I E (run_V E ((k_X12_longTo l g h_this h_this_states h_this_letters h_this_moves h_this_light h_this_price h_this_share h_this_word h_this_queue h_this_cameFrom h_this_cameBy h_this_isKnown h_this_isJoined h_this_made h_this_pairWord h_this_bestWord h_this_sum h_this_isSettled h_this_heapSum h_this_heapSet h_this_worth h_this_worthNext h_this_order h_this_hadMoves h_this_row h_this_pairs h_this_pairLong h) _) (cwV 1 hts gX12_readPair_X12_longTo rfl rfl rfl (by decide +kernel) ⟨Nat.le_of_ble_eq_true rfl, Nat.le_of_ble_eq_true rfl⟩) hP hD hS [0, 1] rfl rfl 0 11 rfl rfl rfl hl rfl rfl (Nat.le_of_ble_eq_true rfl) dX12_readPair_2 ⟨Nat.le_of_ble_eq_true rfl, Nat.le_of_ble_eq_true rfl⟩) hP hD hS [0, 1] rfl [(false, 0), (false, 1), (true, 2), (true, 3)] rfl (by decide) (fun _ => (cw_X12_readPair g h_this h_this_states h_this_letters h_this_moves h_this_light h_this_price h_this_share h_this_word h_this_queue h_this_cameFrom h_this_cameBy h_this_isKnown h_this_isJoined h_this_made h_this_pairWord h_this_bestWord h_this_sum h_this_isSettled h_this_heapSum h_this_heapSet h_this_worth h_this_worthNext h_this_order h_this_hadMoves h_this_row h_this_pairs h_this_pairLong c_machines c_wordLong c_queued c_heaped c_cameFrom c_cameBy c_pairWord)) (fun _ => rfl) (fun r2 _ H locs h hP hD hS => ?_)
  try dsimp only at h
  have hP : va_P g.1 vwCl (cw_X12_readPair g h_this h_this_states h_this_letters h_this_moves h_this_light h_this_price h_this_share h_this_word h_this_queue h_this_cameFrom h_this_cameBy h_this_isKnown h_this_isJoined h_this_made h_this_pairWord h_this_bestWord h_this_sum h_this_isSettled h_this_heapSum h_this_heapSet h_this_worth h_this_worthNext h_this_order h_this_hadMoves h_this_row h_this_pairs h_this_pairLong c_machines c_wordLong c_queued c_heaped c_cameFrom c_cameBy c_pairWord) H := hP
  have hD : va_D A (cw_X12_readPair g h_this h_this_states h_this_letters h_this_moves h_this_light h_this_price h_this_share h_this_word h_this_queue h_this_cameFrom h_this_cameBy h_this_isKnown h_this_isJoined h_this_made h_this_pairWord h_this_bestWord h_this_sum h_this_isSettled h_this_heapSum h_this_heapSet h_this_worth h_this_worthNext h_this_order h_this_hadMoves h_this_row h_this_pairs h_this_pairLong c_machines c_wordLong c_queued c_heaped c_cameFrom c_cameBy c_pairWord) := hD
  refine lv_istore_n (lv' := [(2, .int r2), (0, .ref h_this), (1, .int x1)]) hx hb dX12_readPair_5 rfl hl (by decide) rfl (fun ls hl => ?_)
  refine lv_iload_n hx hb dX12_readPair_6 rfl (lv_at hl 2 rfl) ?_
  refine lv_istore_n (lv' := [(3, .int x1), (2, .int r2), (0, .ref h_this), (1, .int x1)]) hx hb dX12_readPair_7 rfl hl (by decide) rfl (fun ls hl => ?_)
  refine lv_iload_n hx hb dX12_readPair_8 rfl (lv_at hl 1 rfl) ?_
  refine lv_iconst (v := (nI 1)) hx hb dX12_readPair_9 (by decide) ?_
  refine lv_isub hx hb dX12_readPair_10 ?_
  refine lv_istore (lv' := [(4, .int (r2 - (nI 1))), (3, .int x1), (2, .int r2), (0, .ref h_this), (1, .int x1)]) hx hb dX12_readPair_11 hl (by decide) rfl (fun ls hl => ?_)
  obtain ⟨n, h⟩ := h
  exact K_13 r2 n x1 (r2 - (nI 1)) c_pairWord h _ _ hP hD hS _ (lv_sub hl [3, 2, 1, 0] rfl)
abbrev cw_X12_goesByPair (g : GG) (h_this : Nat) (h_this_states : Nat) (h_this_letters : Nat) (h_this_moves : Nat) (h_this_light : Nat) (h_this_price : Nat) (h_this_share : Nat) (h_this_word : Nat) (h_this_queue : Nat) (h_this_cameFrom : Nat) (h_this_cameBy : Nat) (h_this_isKnown : Nat) (h_this_isJoined : Nat) (h_this_made : Nat) (h_this_pairWord : Nat) (h_this_bestWord : Nat) (h_this_sum : Nat) (h_this_isSettled : Nat) (h_this_heapSum : Nat) (h_this_heapSet : Nat) (h_this_worth : Nat) (h_this_worthNext : Nat) (h_this_order : Nat) (h_this_hadMoves : Nat) (h_this_row : Nat) (h_this_pairs : Nat) (h_this_pairLong : Nat) (c_machines : Int32) (c_wordLong : Int32) (c_queued : Int32) (c_heaped : Int32) (c_states : Nat → Int32) (c_moves : Nat → Int32) (c_pairWord : Nat → Int32) : va_W := [(h_this, .inr (11, [.int c_machines, .ref h_this_states, .ref h_this_letters, .ref h_this_moves, .ref h_this_light, .ref h_this_price, .ref h_this_share, .int c_wordLong, .ref h_this_word, .int c_queued, .ref h_this_queue, .ref h_this_cameFrom, .ref h_this_cameBy, .ref h_this_isKnown, .ref h_this_isJoined, .ref h_this_made, .ref h_this_pairWord, .ref h_this_bestWord, .ref h_this_sum, .ref h_this_isSettled, .ref h_this_heapSum, .ref h_this_heapSet, .int c_heaped, .ref h_this_worth, .ref h_this_worthNext, .ref h_this_order, .ref h_this_hadMoves, .ref h_this_row, .ref h_this_pairs, .ref h_this_pairLong])), (h_this_states, .inl (g.2.1, 6, .inl c_states)), (h_this_moves, .inl (g.2.1, 288, .inl c_moves)), (h_this_pairWord, .inl (g.2.1, 100, .inl c_pairWord))]
def L_X12_goesByPair_6 (c_machines : Int32) (c_wordLong : Int32) (c_queued : Int32) (c_heaped : Int32) (c_states : Nat → Int32) (c_moves : Nat → Int32) (c_pairWord : Nat → Int32) (x1 : Int32) (x3 : Int32) (Q : Int32 → Prop) : Nat → Int32 → Int32 → Prop
  | 0, _, _ => False
  | n_6 + 1, x4, x5 =>
    ((x3 ≤ x5 → Q x4) ∧ (¬ x3 ≤ x5 → ((x4 ≤ (nI 0) → Q x4) ∧ (¬ x4 ≤ (nI 0) → vp_in x5 100 ∧ wp_X12_next c_machines c_wordLong c_queued c_heaped c_states c_moves x1 x4 (c_pairWord (Int32.toNatClampNeg x5)) (fun r2 => (L_X12_goesByPair_6 c_machines c_wordLong c_queued c_heaped c_states c_moves c_pairWord x1 x3 Q n_6) r2 (x5 + (nI 1)))))))
def wp_X12_goesByPair (c_machines : Int32) (c_wordLong : Int32) (c_queued : Int32) (c_heaped : Int32) (c_states : Nat → Int32) (c_moves : Nat → Int32) (c_pairWord : Nat → Int32) (x1 : Int32) (x2 : Int32) (x3 : Int32) (Q : Int32 → Prop) : Prop :=
    ∃ n, L_X12_goesByPair_6 c_machines c_wordLong c_queued c_heaped c_states c_moves c_pairWord x1 x3 Q n x2 (nI 0)
abbrev rm_X12_goesByPair : Room := { frames := 2, cells := 0, slots := 0, locals := 48 }
set_option maxHeartbeats 4000000 in
set_option maxRecDepth 100000 in
theorem k_X12_goesByPair (l : Launch) (g : GG) (h_this : Nat) (h_this_states : Nat) (h_this_letters : Nat) (h_this_moves : Nat) (h_this_light : Nat) (h_this_price : Nat) (h_this_share : Nat) (h_this_word : Nat) (h_this_queue : Nat) (h_this_cameFrom : Nat) (h_this_cameBy : Nat) (h_this_isKnown : Nat) (h_this_isJoined : Nat) (h_this_made : Nat) (h_this_pairWord : Nat) (h_this_bestWord : Nat) (h_this_sum : Nat) (h_this_isSettled : Nat) (h_this_heapSum : Nat) (h_this_heapSet : Nat) (h_this_worth : Nat) (h_this_worthNext : Nat) (h_this_order : Nat) (h_this_hadMoves : Nat) (h_this_row : Nat) (h_this_pairs : Nat) (h_this_pairLong : Nat) {c_machines : Int32} {c_wordLong : Int32} {c_queued : Int32} {c_heaped : Int32} {c_states : Nat → Int32} {c_moves : Nat → Int32} {c_pairWord : Nat → Int32} {x1 : Int32} {x2 : Int32} {x3 : Int32} {Q : Int32 → Prop} (h : wp_X12_goesByPair c_machines c_wordLong c_queued c_heaped c_states c_moves c_pairWord x1 x2 x3 Q) : CI l g yX12_goesByPair wsX12_goesByPair rm_X12_goesByPair [.ref h_this, .int x1, .int x2, .int x3] (cw_X12_goesByPair g h_this h_this_states h_this_letters h_this_moves h_this_light h_this_price h_this_share h_this_word h_this_queue h_this_cameFrom h_this_cameBy h_this_isKnown h_this_isJoined h_this_made h_this_pairWord h_this_bestWord h_this_sum h_this_isSettled h_this_heapSum h_this_heapSet h_this_worth h_this_worthNext h_this_order h_this_hadMoves h_this_row h_this_pairs h_this_pairLong c_machines c_wordLong c_queued c_heaped c_states c_moves c_pairWord) (S := Unit) (fun _ => (cw_X12_goesByPair g h_this h_this_states h_this_letters h_this_moves h_this_light h_this_price h_this_share h_this_word h_this_queue h_this_cameFrom h_this_cameBy h_this_isKnown h_this_isJoined h_this_made h_this_pairWord h_this_bestWord h_this_sum h_this_isSettled h_this_heapSum h_this_heapSet h_this_worth h_this_worthNext h_this_order h_this_hadMoves h_this_row h_this_pairs h_this_pairLong c_machines c_wordLong c_queued c_heaped c_states c_moves c_pairWord)) (fun r _ => Q r) 0 0 := by
  refine mk_I (cc := cX12_goesByPair) (maxL := 6) (own := RX12) (by decide) rfl rfl (Nat.le_of_ble_eq_true rfl) ?_
  intro p e s m args below meth c A QQ E hret hP hD hS ls hl
  have E2 := E
  obtain ⟨hx, hb, hr, hml, hown, hts, hlocks, hA, hZ, hK, hnm⟩ := E2
  have f50 := hts (.fieldLink RX12 50 "WordBenchModel" "pairWord" "[I") (by decide +kernel)
  have iX12 : ∀ w ∈ wsX120, w ∈ wsX12_goesByPair := fun _ h => List.mem_cons_of_mem _ (List.mem_append_right _ h)
  have hP : va_P g.1 vwCl (cw_X12_goesByPair g h_this h_this_states h_this_letters h_this_moves h_this_light h_this_price h_this_share h_this_word h_this_queue h_this_cameFrom h_this_cameBy h_this_isKnown h_this_isJoined h_this_made h_this_pairWord h_this_bestWord h_this_sum h_this_isSettled h_this_heapSum h_this_heapSet h_this_worth h_this_worthNext h_this_order h_this_hadMoves h_this_row h_this_pairs h_this_pairLong c_machines c_wordLong c_queued c_heaped c_states c_moves c_pairWord) s.heap := hP
  have hD : va_D A (cw_X12_goesByPair g h_this h_this_states h_this_letters h_this_moves h_this_light h_this_price h_this_share h_this_word h_this_queue h_this_cameFrom h_this_cameBy h_this_isKnown h_this_isJoined h_this_made h_this_pairWord h_this_bestWord h_this_sum h_this_isSettled h_this_heapSum h_this_heapSet h_this_worth h_this_worthNext h_this_order h_this_hadMoves h_this_row h_this_pairs h_this_pairLong c_machines c_wordLong c_queued c_heaped c_states c_moves c_pairWord) := hD
  have hl : lv_has ls 6 [(0, .ref h_this), (1, .int x1), (2, .int x2), (3, .int x3)] := hl
  unfold wp_X12_goesByPair at h
  have K_6 : ∀ (n_6 : Nat) (x4 : Int32) (x5 : Int32) , L_X12_goesByPair_6 c_machines c_wordLong c_queued c_heaped c_states c_moves c_pairWord x1 x3 Q n_6 x4 x5 → ∀ (H : Heap) (locs : List Loc), va_P g.1 vwCl (cw_X12_goesByPair g h_this h_this_states h_this_letters h_this_moves h_this_light h_this_price h_this_share h_this_word h_this_queue h_this_cameFrom h_this_cameBy h_this_isKnown h_this_isJoined h_this_made h_this_pairWord h_this_bestWord h_this_sum h_this_isSettled h_this_heapSum h_this_heapSet h_this_worth h_this_worthNext h_this_order h_this_hadMoves h_this_row h_this_pairs h_this_pairLong c_machines c_wordLong c_queued c_heaped c_states c_moves c_pairWord) H → va_D A (cw_X12_goesByPair g h_this h_this_states h_this_letters h_this_moves h_this_light h_this_price h_this_share h_this_word h_this_queue h_this_cameFrom h_this_cameBy h_this_isKnown h_this_isJoined h_this_made h_this_pairWord h_this_bestWord h_this_sum h_this_isSettled h_this_heapSum h_this_heapSet h_this_worth h_this_worthNext h_this_order h_this_hadMoves h_this_row h_this_pairs h_this_pairLong c_machines c_wordLong c_queued c_heaped c_states c_moves c_pairWord) → va_S A s.heap H locs → ∀ ls : Array Slot, lv_has ls 6 [(0, .ref h_this), (1, .int x1), (3, .int x3), (4, .int x4), (5, .int x5)] → W p l e rm_X12_goesByPair s m args below meth c H locs 0 0 QQ (F0 m 6 ls []) := by
    intro n_6
    induction n_6 with
    | zero => intro x4 x5; exact fun h => False.elim h
    | succ n_6 ih_6 =>
      intro x4 x5 h H locs hP hD hS ls hl
      unfold L_X12_goesByPair_6 at h
      refine lv_iload hx hb dX12_goesByPair_6 (lv_at hl 4 rfl) ?_
      refine lv_iload_n hx hb dX12_goesByPair_8 rfl (lv_at hl 2 rfl) ?_
      refine lv_icmp_ge (tgt := 39) hx hb dX12_goesByPair_9 (by decide) (fun cq => ?_) (fun cq => ?_)
      · replace h := h.1 cq
        refine lv_iload hx hb dX12_goesByPair_39 (lv_at hl 3 rfl) ?_
        exact hret x4 () _ _ _ _ rfl h hP hD hS dX12_goesByPair_41
      · replace h := h.2 cq
        refine lv_iload hx hb dX12_goesByPair_12 (lv_at hl 3 rfl) ?_
        refine lv_if_le (tgt := 39) hx hb dX12_goesByPair_14 (by decide) (fun cq => ?_) (fun cq => ?_)
        · replace h := h.1 cq
          refine lv_iload hx hb dX12_goesByPair_39 (lv_at hl 3 rfl) ?_
          exact hret x4 () _ _ _ _ rfl h hP hD hS dX12_goesByPair_41
        · replace h := h.2 cq
          refine lv_aload_n hx hb dX12_goesByPair_17 rfl (lv_at hl 0 rfl) ?_
          refine lv_iload_n hx hb dX12_goesByPair_18 rfl (lv_at hl 1 rfl) ?_
          refine lv_iload hx hb dX12_goesByPair_19 (lv_at hl 3 rfl) ?_
          refine lv_aload_n hx hb dX12_goesByPair_21 rfl (lv_at hl 0 rfl) ?_
          refine va_get (D := g.1) (ci := 11) (v := .ref h_this_pairWord) (C := RX12) (T := TX12) (N := 30) hx hb hts iX12 hown hK hP 0 rfl rfl 16 (by decide) f50 (fun _ h9 => h9) rfl dX12_goesByPair_22 ?_
          refine lv_iload hx hb dX12_goesByPair_25 (lv_at hl 4 rfl) ?_
          obtain ⟨hi, h⟩ := h
          refine va_iald (D := g.1) (n := 100) (f := c_pairWord) hx hb hK hP 3 0 rfl rfl hi dX12_goesByPair_27 ?_
          refine go_I E (run_V E ((k_X12_next l g h_this h_this_states h_this_letters h_this_moves h_this_light h_this_price h_this_share h_this_word h_this_queue h_this_cameFrom h_this_cameBy h_this_isKnown h_this_isJoined h_this_made h_this_pairWord h_this_bestWord h_this_sum h_this_isSettled h_this_heapSum h_this_heapSet h_this_worth h_this_worthNext h_this_order h_this_hadMoves h_this_row h_this_pairs h_this_pairLong h) _) (cwV 3 hts gX12_goesByPair_X12_next rfl rfl rfl (by decide +kernel) ⟨Nat.le_of_ble_eq_true rfl, Nat.le_of_ble_eq_true rfl⟩) hP hD hS [0, 1, 2] rfl rfl 0 11 rfl rfl rfl hl rfl rfl (Nat.le_of_ble_eq_true rfl) dX12_goesByPair_28 ⟨Nat.le_of_ble_eq_true rfl, Nat.le_of_ble_eq_true rfl⟩) hP hD hS [0, 1, 2] rfl [(false, 0), (false, 1), (false, 2), (true, 3)] rfl (by decide) (fun _ => (cw_X12_goesByPair g h_this h_this_states h_this_letters h_this_moves h_this_light h_this_price h_this_share h_this_word h_this_queue h_this_cameFrom h_this_cameBy h_this_isKnown h_this_isJoined h_this_made h_this_pairWord h_this_bestWord h_this_sum h_this_isSettled h_this_heapSum h_this_heapSet h_this_worth h_this_worthNext h_this_order h_this_hadMoves h_this_row h_this_pairs h_this_pairLong c_machines c_wordLong c_queued c_heaped c_states c_moves c_pairWord)) (fun _ => rfl) (fun r2 _ H locs h hP hD hS => ?_)
          try dsimp only at h
          have hP : va_P g.1 vwCl (cw_X12_goesByPair g h_this h_this_states h_this_letters h_this_moves h_this_light h_this_price h_this_share h_this_word h_this_queue h_this_cameFrom h_this_cameBy h_this_isKnown h_this_isJoined h_this_made h_this_pairWord h_this_bestWord h_this_sum h_this_isSettled h_this_heapSum h_this_heapSet h_this_worth h_this_worthNext h_this_order h_this_hadMoves h_this_row h_this_pairs h_this_pairLong c_machines c_wordLong c_queued c_heaped c_states c_moves c_pairWord) H := hP
          have hD : va_D A (cw_X12_goesByPair g h_this h_this_states h_this_letters h_this_moves h_this_light h_this_price h_this_share h_this_word h_this_queue h_this_cameFrom h_this_cameBy h_this_isKnown h_this_isJoined h_this_made h_this_pairWord h_this_bestWord h_this_sum h_this_isSettled h_this_heapSum h_this_heapSet h_this_worth h_this_worthNext h_this_order h_this_hadMoves h_this_row h_this_pairs h_this_pairLong c_machines c_wordLong c_queued c_heaped c_states c_moves c_pairWord) := hD
          refine lv_istore (lv' := [(4, .int r2), (0, .ref h_this), (1, .int x1), (3, .int x3), (5, .int x5)]) hx hb dX12_goesByPair_31 hl (by decide) rfl (fun ls hl => ?_)
          refine lv_iinc (v := (x5 + (nI 1))) (lv' := [(5, .int (x5 + (nI 1))), (4, .int r2), (0, .ref h_this), (1, .int x1), (3, .int x3)]) hx hb dX12_goesByPair_33 hl (k := 4) rfl rfl (by decide) rfl (fun ls hl => ?_)
          refine lv_goto (tgt := 6) hx hb dX12_goesByPair_36 (by decide) ?_
          exact ih_6 r2 (x5 + (nI 1)) h _ _ hP hD hS _ (lv_sub hl [2, 3, 4, 1, 0] rfl)
  refine lv_iload_n hx hb dX12_goesByPair_0 rfl (lv_at hl 2 rfl) ?_
  refine lv_istore (lv' := [(4, .int x2), (0, .ref h_this), (1, .int x1), (2, .int x2), (3, .int x3)]) hx hb dX12_goesByPair_1 hl (by decide) rfl (fun ls hl => ?_)
  refine lv_iconst (v := (nI 0)) hx hb dX12_goesByPair_3 (by decide) ?_
  refine lv_istore (lv' := [(5, .int (nI 0)), (4, .int x2), (0, .ref h_this), (1, .int x1), (2, .int x2), (3, .int x3)]) hx hb dX12_goesByPair_4 hl (by decide) rfl (fun ls hl => ?_)
  obtain ⟨n, h⟩ := h
  exact K_6 n x2 (nI 0) h _ _ hP hD hS _ (lv_sub hl [2, 3, 5, 1, 0] rfl)
abbrev cw_X12_isBetter (g : GG) (h_this : Nat) (h_this_states : Nat) (h_this_letters : Nat) (h_this_moves : Nat) (h_this_light : Nat) (h_this_price : Nat) (h_this_share : Nat) (h_this_word : Nat) (h_this_queue : Nat) (h_this_cameFrom : Nat) (h_this_cameBy : Nat) (h_this_isKnown : Nat) (h_this_isJoined : Nat) (h_this_made : Nat) (h_this_pairWord : Nat) (h_this_bestWord : Nat) (h_this_sum : Nat) (h_this_isSettled : Nat) (h_this_heapSum : Nat) (h_this_heapSet : Nat) (h_this_worth : Nat) (h_this_worthNext : Nat) (h_this_order : Nat) (h_this_hadMoves : Nat) (h_this_row : Nat) (h_this_pairs : Nat) (h_this_pairLong : Nat) (c_machines : Int32) (c_wordLong : Int32) (c_queued : Int32) (c_heaped : Int32) (c_pairWord : Nat → Int32) (c_bestWord : Nat → Int32) : va_W := [(h_this, .inr (11, [.int c_machines, .ref h_this_states, .ref h_this_letters, .ref h_this_moves, .ref h_this_light, .ref h_this_price, .ref h_this_share, .int c_wordLong, .ref h_this_word, .int c_queued, .ref h_this_queue, .ref h_this_cameFrom, .ref h_this_cameBy, .ref h_this_isKnown, .ref h_this_isJoined, .ref h_this_made, .ref h_this_pairWord, .ref h_this_bestWord, .ref h_this_sum, .ref h_this_isSettled, .ref h_this_heapSum, .ref h_this_heapSet, .int c_heaped, .ref h_this_worth, .ref h_this_worthNext, .ref h_this_order, .ref h_this_hadMoves, .ref h_this_row, .ref h_this_pairs, .ref h_this_pairLong])), (h_this_pairWord, .inl (g.2.1, 100, .inl c_pairWord)), (h_this_bestWord, .inl (g.2.1, 100, .inl c_bestWord))]
def J_X12_isBetter_43 (c_pairWord : Nat → Int32) (c_bestWord : Nat → Int32) (Q : Int32 → Prop) (x3 : Int32) : Prop :=
    vp_in x3 100 ∧ vp_in x3 100 ∧ (((c_bestWord (Int32.toNatClampNeg x3)) ≤ (c_pairWord (Int32.toNatClampNeg x3)) → Q (nI 0)) ∧ (¬ (c_bestWord (Int32.toNatClampNeg x3)) ≤ (c_pairWord (Int32.toNatClampNeg x3)) → Q (nI 1)))
def L_X12_isBetter_23 (c_pairWord : Nat → Int32) (c_bestWord : Nat → Int32) (x1 : Int32) (Q : Int32 → Prop) : Nat → Int32 → Prop
  | 0, _ => False
  | n_23 + 1, x3 =>
    ((x1 ≤ x3 → Q (nI 0)) ∧ (¬ x1 ≤ x3 → vp_in x3 100 ∧ vp_in x3 100 ∧ (((c_pairWord (Int32.toNatClampNeg x3)) = (c_bestWord (Int32.toNatClampNeg x3)) → (L_X12_isBetter_23 c_pairWord c_bestWord x1 Q n_23) (x3 + (nI 1))) ∧ (¬ (c_pairWord (Int32.toNatClampNeg x3)) = (c_bestWord (Int32.toNatClampNeg x3)) → J_X12_isBetter_43 c_pairWord c_bestWord Q x3))))
def wp_X12_isBetter (c_machines : Int32) (c_wordLong : Int32) (c_queued : Int32) (c_heaped : Int32) (c_pairWord : Nat → Int32) (c_bestWord : Nat → Int32) (x1 : Int32) (x2 : Int32) (Q : Int32 → Prop) : Prop :=
    ((x1 = x2 → ∃ n, L_X12_isBetter_23 c_pairWord c_bestWord x1 Q n (nI 0)) ∧ (¬ x1 = x2 → ((x2 = (-1) → Q (nI 1)) ∧ (¬ x2 = (-1) → ((x2 ≤ x1 → Q (nI 0)) ∧ (¬ x2 ≤ x1 → Q (nI 1)))))))
abbrev rm_X12_isBetter : Room := { frames := 0, cells := 0, slots := 0, locals := 0 }
set_option maxHeartbeats 4000000 in
set_option maxRecDepth 100000 in
theorem k_X12_isBetter (l : Launch) (g : GG) (h_this : Nat) (h_this_states : Nat) (h_this_letters : Nat) (h_this_moves : Nat) (h_this_light : Nat) (h_this_price : Nat) (h_this_share : Nat) (h_this_word : Nat) (h_this_queue : Nat) (h_this_cameFrom : Nat) (h_this_cameBy : Nat) (h_this_isKnown : Nat) (h_this_isJoined : Nat) (h_this_made : Nat) (h_this_pairWord : Nat) (h_this_bestWord : Nat) (h_this_sum : Nat) (h_this_isSettled : Nat) (h_this_heapSum : Nat) (h_this_heapSet : Nat) (h_this_worth : Nat) (h_this_worthNext : Nat) (h_this_order : Nat) (h_this_hadMoves : Nat) (h_this_row : Nat) (h_this_pairs : Nat) (h_this_pairLong : Nat) {c_machines : Int32} {c_wordLong : Int32} {c_queued : Int32} {c_heaped : Int32} {c_pairWord : Nat → Int32} {c_bestWord : Nat → Int32} {x1 : Int32} {x2 : Int32} {Q : Int32 → Prop} (h : wp_X12_isBetter c_machines c_wordLong c_queued c_heaped c_pairWord c_bestWord x1 x2 Q) : CI l g yX12_isBetter wsX12_isBetter rm_X12_isBetter [.ref h_this, .int x1, .int x2] (cw_X12_isBetter g h_this h_this_states h_this_letters h_this_moves h_this_light h_this_price h_this_share h_this_word h_this_queue h_this_cameFrom h_this_cameBy h_this_isKnown h_this_isJoined h_this_made h_this_pairWord h_this_bestWord h_this_sum h_this_isSettled h_this_heapSum h_this_heapSet h_this_worth h_this_worthNext h_this_order h_this_hadMoves h_this_row h_this_pairs h_this_pairLong c_machines c_wordLong c_queued c_heaped c_pairWord c_bestWord) (S := Unit) (fun _ => (cw_X12_isBetter g h_this h_this_states h_this_letters h_this_moves h_this_light h_this_price h_this_share h_this_word h_this_queue h_this_cameFrom h_this_cameBy h_this_isKnown h_this_isJoined h_this_made h_this_pairWord h_this_bestWord h_this_sum h_this_isSettled h_this_heapSum h_this_heapSet h_this_worth h_this_worthNext h_this_order h_this_hadMoves h_this_row h_this_pairs h_this_pairLong c_machines c_wordLong c_queued c_heaped c_pairWord c_bestWord)) (fun r _ => Q r) 0 0 := by
  refine mk_I (cc := cX12_isBetter) (maxL := 4) (own := RX12) (by decide) rfl rfl (Nat.le_of_ble_eq_true rfl) ?_
  intro p e s m args below meth c A QQ E hret hP hD hS ls hl
  have E2 := E
  obtain ⟨hx, hb, hr, hml, hown, hts, hlocks, hA, hZ, hK, hnm⟩ := E2
  have f50 := hts (.fieldLink RX12 50 "WordBenchModel" "pairWord" "[I") (by decide +kernel)
  have f53 := hts (.fieldLink RX12 53 "WordBenchModel" "bestWord" "[I") (by decide +kernel)
  have iX12 : ∀ w ∈ wsX120, w ∈ wsX12_isBetter := fun _ h => List.mem_cons_of_mem _ (List.mem_append_right _ h)
  have hP : va_P g.1 vwCl (cw_X12_isBetter g h_this h_this_states h_this_letters h_this_moves h_this_light h_this_price h_this_share h_this_word h_this_queue h_this_cameFrom h_this_cameBy h_this_isKnown h_this_isJoined h_this_made h_this_pairWord h_this_bestWord h_this_sum h_this_isSettled h_this_heapSum h_this_heapSet h_this_worth h_this_worthNext h_this_order h_this_hadMoves h_this_row h_this_pairs h_this_pairLong c_machines c_wordLong c_queued c_heaped c_pairWord c_bestWord) s.heap := hP
  have hD : va_D A (cw_X12_isBetter g h_this h_this_states h_this_letters h_this_moves h_this_light h_this_price h_this_share h_this_word h_this_queue h_this_cameFrom h_this_cameBy h_this_isKnown h_this_isJoined h_this_made h_this_pairWord h_this_bestWord h_this_sum h_this_isSettled h_this_heapSum h_this_heapSet h_this_worth h_this_worthNext h_this_order h_this_hadMoves h_this_row h_this_pairs h_this_pairLong c_machines c_wordLong c_queued c_heaped c_pairWord c_bestWord) := hD
  have hl : lv_has ls 4 [(0, .ref h_this), (1, .int x1), (2, .int x2)] := hl
  unfold wp_X12_isBetter at h
  have K_43 : ∀ (x3 : Int32) , J_X12_isBetter_43 c_pairWord c_bestWord Q x3 → ∀ (H : Heap) (locs : List Loc), va_P g.1 vwCl (cw_X12_isBetter g h_this h_this_states h_this_letters h_this_moves h_this_light h_this_price h_this_share h_this_word h_this_queue h_this_cameFrom h_this_cameBy h_this_isKnown h_this_isJoined h_this_made h_this_pairWord h_this_bestWord h_this_sum h_this_isSettled h_this_heapSum h_this_heapSet h_this_worth h_this_worthNext h_this_order h_this_hadMoves h_this_row h_this_pairs h_this_pairLong c_machines c_wordLong c_queued c_heaped c_pairWord c_bestWord) H → va_D A (cw_X12_isBetter g h_this h_this_states h_this_letters h_this_moves h_this_light h_this_price h_this_share h_this_word h_this_queue h_this_cameFrom h_this_cameBy h_this_isKnown h_this_isJoined h_this_made h_this_pairWord h_this_bestWord h_this_sum h_this_isSettled h_this_heapSum h_this_heapSet h_this_worth h_this_worthNext h_this_order h_this_hadMoves h_this_row h_this_pairs h_this_pairLong c_machines c_wordLong c_queued c_heaped c_pairWord c_bestWord) → va_S A s.heap H locs → ∀ ls : Array Slot, lv_has ls 4 [(0, .ref h_this), (3, .int x3)] → W p l e rm_X12_isBetter s m args below meth c H locs 0 0 QQ (F0 m 43 ls []) := by
    intro x3 h H locs hP hD hS ls hl
    unfold J_X12_isBetter_43 at h
    refine lv_aload_n hx hb dX12_isBetter_43 rfl (lv_at hl 0 rfl) ?_
    refine va_get (D := g.1) (ci := 11) (v := .ref h_this_pairWord) (C := RX12) (T := TX12) (N := 30) hx hb hts iX12 hown hK hP 0 rfl rfl 16 (by decide) f50 (fun _ h9 => h9) rfl dX12_isBetter_44 ?_
    refine lv_iload_n hx hb dX12_isBetter_47 rfl (lv_at hl 1 rfl) ?_
    obtain ⟨hi, h⟩ := h
    refine va_iald (D := g.1) (n := 100) (f := c_pairWord) hx hb hK hP 1 0 rfl rfl hi dX12_isBetter_48 ?_
    refine lv_aload_n hx hb dX12_isBetter_49 rfl (lv_at hl 0 rfl) ?_
    refine va_get (D := g.1) (ci := 11) (v := .ref h_this_bestWord) (C := RX12) (T := TX12) (N := 30) hx hb hts iX12 hown hK hP 0 rfl rfl 17 (by decide) f53 (fun _ h9 => h9) rfl dX12_isBetter_50 ?_
    refine lv_iload_n hx hb dX12_isBetter_53 rfl (lv_at hl 1 rfl) ?_
    obtain ⟨hi, h⟩ := h
    refine va_iald (D := g.1) (n := 100) (f := c_bestWord) hx hb hK hP 2 0 rfl rfl hi dX12_isBetter_54 ?_
    refine lv_icmp_ge (tgt := 62) hx hb dX12_isBetter_55 (by decide) (fun cq => ?_) (fun cq => ?_)
    · replace h := h.1 cq
      refine lv_iconst (v := (nI 0)) hx hb dX12_isBetter_62 (by decide) ?_
      exact hret (nI 0) () _ _ _ _ nbz h hP hD hS dX12_isBetter_63
    · replace h := h.2 cq
      refine lv_iconst (v := (nI 1)) hx hb dX12_isBetter_58 (by decide) ?_
      refine lv_goto (tgt := 63) hx hb dX12_isBetter_59 (by decide) ?_
      exact hret (nI 1) () _ _ _ _ nbo h hP hD hS dX12_isBetter_63
  have K_23 : ∀ (n_23 : Nat) (x3 : Int32) , L_X12_isBetter_23 c_pairWord c_bestWord x1 Q n_23 x3 → ∀ (H : Heap) (locs : List Loc), va_P g.1 vwCl (cw_X12_isBetter g h_this h_this_states h_this_letters h_this_moves h_this_light h_this_price h_this_share h_this_word h_this_queue h_this_cameFrom h_this_cameBy h_this_isKnown h_this_isJoined h_this_made h_this_pairWord h_this_bestWord h_this_sum h_this_isSettled h_this_heapSum h_this_heapSet h_this_worth h_this_worthNext h_this_order h_this_hadMoves h_this_row h_this_pairs h_this_pairLong c_machines c_wordLong c_queued c_heaped c_pairWord c_bestWord) H → va_D A (cw_X12_isBetter g h_this h_this_states h_this_letters h_this_moves h_this_light h_this_price h_this_share h_this_word h_this_queue h_this_cameFrom h_this_cameBy h_this_isKnown h_this_isJoined h_this_made h_this_pairWord h_this_bestWord h_this_sum h_this_isSettled h_this_heapSum h_this_heapSet h_this_worth h_this_worthNext h_this_order h_this_hadMoves h_this_row h_this_pairs h_this_pairLong c_machines c_wordLong c_queued c_heaped c_pairWord c_bestWord) → va_S A s.heap H locs → ∀ ls : Array Slot, lv_has ls 4 [(0, .ref h_this), (1, .int x1), (3, .int x3)] → W p l e rm_X12_isBetter s m args below meth c H locs 0 0 QQ (F0 m 23 ls []) := by
    intro n_23
    induction n_23 with
    | zero => intro x3; exact fun h => False.elim h
    | succ n_23 ih_23 =>
      intro x3 h H locs hP hD hS ls hl
      unfold L_X12_isBetter_23 at h
      refine lv_iload_n hx hb dX12_isBetter_23 rfl (lv_at hl 2 rfl) ?_
      refine lv_iload_n hx hb dX12_isBetter_24 rfl (lv_at hl 1 rfl) ?_
      refine lv_icmp_ge (tgt := 70) hx hb dX12_isBetter_25 (by decide) (fun cq => ?_) (fun cq => ?_)
      · replace h := h.1 cq
        refine lv_iconst (v := (nI 0)) hx hb dX12_isBetter_70 (by decide) ?_
        exact hret (nI 0) () _ _ _ _ nbz h hP hD hS dX12_isBetter_71
      · replace h := h.2 cq
        refine lv_aload_n hx hb dX12_isBetter_28 rfl (lv_at hl 0 rfl) ?_
        refine va_get (D := g.1) (ci := 11) (v := .ref h_this_pairWord) (C := RX12) (T := TX12) (N := 30) hx hb hts iX12 hown hK hP 0 rfl rfl 16 (by decide) f50 (fun _ h9 => h9) rfl dX12_isBetter_29 ?_
        refine lv_iload_n hx hb dX12_isBetter_32 rfl (lv_at hl 2 rfl) ?_
        obtain ⟨hi, h⟩ := h
        refine va_iald (D := g.1) (n := 100) (f := c_pairWord) hx hb hK hP 1 0 rfl rfl hi dX12_isBetter_33 ?_
        refine lv_aload_n hx hb dX12_isBetter_34 rfl (lv_at hl 0 rfl) ?_
        refine va_get (D := g.1) (ci := 11) (v := .ref h_this_bestWord) (C := RX12) (T := TX12) (N := 30) hx hb hts iX12 hown hK hP 0 rfl rfl 17 (by decide) f53 (fun _ h9 => h9) rfl dX12_isBetter_35 ?_
        refine lv_iload_n hx hb dX12_isBetter_38 rfl (lv_at hl 2 rfl) ?_
        obtain ⟨hi, h⟩ := h
        refine va_iald (D := g.1) (n := 100) (f := c_bestWord) hx hb hK hP 2 0 rfl rfl hi dX12_isBetter_39 ?_
        refine lv_icmp_eq (tgt := 64) hx hb dX12_isBetter_40 (by decide) (fun cq => ?_) (fun cq => ?_)
        · replace h := h.1 cq
          refine lv_iinc (v := (x3 + (nI 1))) (lv' := [(3, .int (x3 + (nI 1))), (0, .ref h_this), (1, .int x1)]) hx hb dX12_isBetter_64 hl (k := 2) rfl rfl (by decide) rfl (fun ls hl => ?_)
          refine lv_goto (tgt := 23) hx hb dX12_isBetter_67 (by decide) ?_
          exact ih_23 (x3 + (nI 1)) h _ _ hP hD hS _ (lv_sub hl [1, 2, 0] rfl)
        · replace h := h.2 cq
          exact K_43 x3 h _ _ hP hD hS _ (lv_sub hl [0, 2] rfl)
  refine lv_iload_n hx hb dX12_isBetter_0 rfl (lv_at hl 1 rfl) ?_
  refine lv_iload_n hx hb dX12_isBetter_1 rfl (lv_at hl 2 rfl) ?_
  refine lv_icmp_eq (tgt := 21) hx hb dX12_isBetter_2 (by decide) (fun cq => ?_) (fun cq => ?_)
  · replace h := h.1 cq
    refine lv_iconst (v := (nI 0)) hx hb dX12_isBetter_21 (by decide) ?_
    refine lv_istore_n (lv' := [(3, .int (nI 0)), (0, .ref h_this), (1, .int x1), (2, .int x2)]) hx hb dX12_isBetter_22 rfl hl (by decide) rfl (fun ls hl => ?_)
    obtain ⟨n, h⟩ := h
    exact K_23 n (nI 0) h _ _ hP hD hS _ (lv_sub hl [1, 2, 0] rfl)
  · replace h := h.2 cq
    refine lv_iload_n hx hb dX12_isBetter_5 rfl (lv_at hl 2 rfl) ?_
    refine lv_iconst (v := (-1)) hx hb dX12_isBetter_6 (by decide) ?_
    refine lv_icmp_eq (tgt := 15) hx hb dX12_isBetter_7 (by decide) (fun cq => ?_) (fun cq => ?_)
    · replace h := h.1 cq
      refine lv_iconst (v := (nI 1)) hx hb dX12_isBetter_15 (by decide) ?_
      refine lv_goto (tgt := 20) hx hb dX12_isBetter_16 (by decide) ?_
      exact hret (nI 1) () _ _ _ _ nbo h hP hD hS dX12_isBetter_20
    · replace h := h.2 cq
      refine lv_iload_n hx hb dX12_isBetter_10 rfl (lv_at hl 1 rfl) ?_
      refine lv_iload_n hx hb dX12_isBetter_11 rfl (lv_at hl 2 rfl) ?_
      refine lv_icmp_ge (tgt := 19) hx hb dX12_isBetter_12 (by decide) (fun cq => ?_) (fun cq => ?_)
      · replace h := h.1 cq
        refine lv_iconst (v := (nI 0)) hx hb dX12_isBetter_19 (by decide) ?_
        exact hret (nI 0) () _ _ _ _ nbz h hP hD hS dX12_isBetter_20
      · replace h := h.2 cq
        refine lv_iconst (v := (nI 1)) hx hb dX12_isBetter_15 (by decide) ?_
        refine lv_goto (tgt := 20) hx hb dX12_isBetter_16 (by decide) ?_
        exact hret (nI 1) () _ _ _ _ nbo h hP hD hS dX12_isBetter_20
