abbrev cw_X12_apart (g : GG) (h_this : Nat) (h_this_states : Nat) (h_this_letters : Nat) (h_this_moves : Nat) (h_this_light : Nat) (h_this_price : Nat) (h_this_share : Nat) (h_this_word : Nat) (h_this_queue : Nat) (h_this_cameFrom : Nat) (h_this_cameBy : Nat) (h_this_isKnown : Nat) (h_this_isJoined : Nat) (h_this_made : Nat) (h_this_pairWord : Nat) (h_this_bestWord : Nat) (h_this_sum : Nat) (h_this_isSettled : Nat) (h_this_heapSum : Nat) (h_this_heapSet : Nat) (h_this_worth : Nat) (h_this_worthNext : Nat) (h_this_order : Nat) (h_this_hadMoves : Nat) (h_this_row : Nat) (h_this_pairs : Nat) (h_this_pairLong : Nat) (c_machines : Int32) (c_wordLong : Int32) (c_queued : Int32) (c_heaped : Int32) (c_states : Nat → Int32) (c_letters : Nat → Int32) (c_moves : Nat → Int32) (c_light : Nat → Int32) (c_pairs : Nat → Int32) (c_pairLong : Nat → Int32) : va_W := [(h_this, .inr (11, [.int c_machines, .ref h_this_states, .ref h_this_letters, .ref h_this_moves, .ref h_this_light, .ref h_this_price, .ref h_this_share, .int c_wordLong, .ref h_this_word, .int c_queued, .ref h_this_queue, .ref h_this_cameFrom, .ref h_this_cameBy, .ref h_this_isKnown, .ref h_this_isJoined, .ref h_this_made, .ref h_this_pairWord, .ref h_this_bestWord, .ref h_this_sum, .ref h_this_isSettled, .ref h_this_heapSum, .ref h_this_heapSet, .int c_heaped, .ref h_this_worth, .ref h_this_worthNext, .ref h_this_order, .ref h_this_hadMoves, .ref h_this_row, .ref h_this_pairs, .ref h_this_pairLong])), (h_this_states, .inl (g.2.1, 6, .inl c_states)), (h_this_letters, .inl (g.2.1, 6, .inl c_letters)), (h_this_moves, .inl (g.2.1, 288, .inl c_moves)), (h_this_light, .inl (g.2.1, 72, .inl c_light)), (h_this_pairs, .inl (g.2.1, 144, .inl c_pairs)), (h_this_pairLong, .inl (g.2.1, 144, .inl c_pairLong))]
def J_X12_apart_271 (R_76 : Int32 → Int32 → (Nat → Int32) → (Nat → Int32) → Prop) (x4 : Int32) (x5 : Int32) (c_pairs : Nat → Int32) (c_pairLong : Nat → Int32) : Prop :=
    R_76 x4 (x5 + (nI 1)) c_pairs c_pairLong
def J_X12_apart_265 (R_150 : Int32 → Int32 → (Nat → Int32) → (Nat → Int32) → Prop) (x4 : Int32) (x8 : Int32) (c_pairs : Nat → Int32) (c_pairLong : Nat → Int32) : Prop :=
    R_150 x4 (x8 + (nI 1)) c_pairs c_pairLong
def L_X12_apart_150 (c_letters : Nat → Int32) (c_moves : Nat → Int32) (x1 : Int32) (x5 : Int32) (x6 : Int32) (x7 : Int32) (R_76 : Int32 → Int32 → (Nat → Int32) → (Nat → Int32) → Prop) : Nat → Int32 → Int32 → (Nat → Int32) → (Nat → Int32) → Prop
  | 0, _, _, _, _ => False
  | n_150 + 1, x4, x8, c_pairs, c_pairLong =>
    vp_in x1 6 ∧ (((c_letters (Int32.toNatClampNeg x1)) ≤ x8 → J_X12_apart_271 R_76 x4 x5 c_pairs c_pairLong) ∧ (¬ (c_letters (Int32.toNatClampNeg x1)) ≤ x8 → vp_in ((((nI 48) * x1) + ((nI 4) * x6)) + x8) 288 ∧ vp_in ((((nI 48) * x1) + ((nI 4) * x7)) + x8) 288 ∧ (((c_moves (Int32.toNatClampNeg ((((nI 48) * x1) + ((nI 4) * x6)) + x8))) = (-1) → J_X12_apart_265 (L_X12_apart_150 c_letters c_moves x1 x5 x6 x7 R_76 n_150) x4 x8 c_pairs c_pairLong) ∧ (¬ (c_moves (Int32.toNatClampNeg ((((nI 48) * x1) + ((nI 4) * x6)) + x8))) = (-1) → (((c_moves (Int32.toNatClampNeg ((((nI 48) * x1) + ((nI 4) * x7)) + x8))) = (-1) → J_X12_apart_265 (L_X12_apart_150 c_letters c_moves x1 x5 x6 x7 R_76 n_150) x4 x8 c_pairs c_pairLong) ∧ (¬ (c_moves (Int32.toNatClampNeg ((((nI 48) * x1) + ((nI 4) * x7)) + x8))) = (-1) → vp_in (((nI 12) * (c_moves (Int32.toNatClampNeg ((((nI 48) * x1) + ((nI 4) * x6)) + x8)))) + (c_moves (Int32.toNatClampNeg ((((nI 48) * x1) + ((nI 4) * x7)) + x8)))) 144 ∧ ((¬ (c_pairLong (Int32.toNatClampNeg (((nI 12) * (c_moves (Int32.toNatClampNeg ((((nI 48) * x1) + ((nI 4) * x6)) + x8)))) + (c_moves (Int32.toNatClampNeg ((((nI 48) * x1) + ((nI 4) * x7)) + x8)))))) = (-1) → J_X12_apart_265 (L_X12_apart_150 c_letters c_moves x1 x5 x6 x7 R_76 n_150) x4 x8 c_pairs c_pairLong) ∧ ((c_pairLong (Int32.toNatClampNeg (((nI 12) * (c_moves (Int32.toNatClampNeg ((((nI 48) * x1) + ((nI 4) * x6)) + x8)))) + (c_moves (Int32.toNatClampNeg ((((nI 48) * x1) + ((nI 4) * x7)) + x8)))))) = (-1) → vp_in x5 144 ∧ vp_in (c_pairs (Int32.toNatClampNeg x5)) 144 ∧ vp_in (((nI 12) * (c_moves (Int32.toNatClampNeg ((((nI 48) * x1) + ((nI 4) * x6)) + x8)))) + (c_moves (Int32.toNatClampNeg ((((nI 48) * x1) + ((nI 4) * x7)) + x8)))) 144 ∧ vp_in x4 144 ∧ J_X12_apart_265 (L_X12_apart_150 c_letters c_moves x1 x5 x6 x7 R_76 n_150) (x4 + (nI 1)) x8 (upd c_pairs (Int32.toNatClampNeg x4) (((nI 12) * (c_moves (Int32.toNatClampNeg ((((nI 48) * x1) + ((nI 4) * x6)) + x8)))) + (c_moves (Int32.toNatClampNeg ((((nI 48) * x1) + ((nI 4) * x7)) + x8))))) (upd c_pairLong (Int32.toNatClampNeg (((nI 12) * (c_moves (Int32.toNatClampNeg ((((nI 48) * x1) + ((nI 4) * x6)) + x8)))) + (c_moves (Int32.toNatClampNeg ((((nI 48) * x1) + ((nI 4) * x7)) + x8))))) ((c_pairLong (Int32.toNatClampNeg (c_pairs (Int32.toNatClampNeg x5)))) + (nI 1)))))))))))
def J_X12_apart_134 (Q : Int32 → (Nat → Int32) → (Nat → Int32) → Prop) (x5 : Int32) (c_pairs : Nat → Int32) (c_pairLong : Nat → Int32) : Prop :=
    vp_in x5 144 ∧ vp_in (c_pairs (Int32.toNatClampNeg x5)) 144 ∧ Q (c_pairLong (Int32.toNatClampNeg (c_pairs (Int32.toNatClampNeg x5)))) c_pairs c_pairLong
def L_X12_apart_76 (c_letters : Nat → Int32) (c_moves : Nat → Int32) (c_light : Nat → Int32) (x1 : Int32) (Q : Int32 → (Nat → Int32) → (Nat → Int32) → Prop) : Nat → Int32 → Int32 → (Nat → Int32) → (Nat → Int32) → Prop
  | 0, _, _, _, _ => False
  | n_76 + 1, x4, x5, c_pairs, c_pairLong =>
    ((x4 ≤ x5 → Q (-1) c_pairs c_pairLong) ∧ (¬ x4 ≤ x5 → vp_in x5 144 ∧ vp_in x5 144 ∧ vp_in (((nI 12) * x1) + ((c_pairs (Int32.toNatClampNeg x5)) / (nI 12))) 72 ∧ vp_in (((nI 12) * x1) + ((c_pairs (Int32.toNatClampNeg x5)) - (c_pairs (Int32.toNatClampNeg x5)) / (nI 12) * (nI 12))) 72 ∧ (((c_light (Int32.toNatClampNeg (((nI 12) * x1) + ((c_pairs (Int32.toNatClampNeg x5)) / (nI 12))))) = (c_light (Int32.toNatClampNeg (((nI 12) * x1) + ((c_pairs (Int32.toNatClampNeg x5)) - (c_pairs (Int32.toNatClampNeg x5)) / (nI 12) * (nI 12))))) → ∃ n, L_X12_apart_150 c_letters c_moves x1 x5 ((c_pairs (Int32.toNatClampNeg x5)) / (nI 12)) ((c_pairs (Int32.toNatClampNeg x5)) - (c_pairs (Int32.toNatClampNeg x5)) / (nI 12) * (nI 12)) (L_X12_apart_76 c_letters c_moves c_light x1 Q n_76) n x4 (nI 0) c_pairs c_pairLong) ∧ (¬ (c_light (Int32.toNatClampNeg (((nI 12) * x1) + ((c_pairs (Int32.toNatClampNeg x5)) / (nI 12))))) = (c_light (Int32.toNatClampNeg (((nI 12) * x1) + ((c_pairs (Int32.toNatClampNeg x5)) - (c_pairs (Int32.toNatClampNeg x5)) / (nI 12) * (nI 12))))) → J_X12_apart_134 Q x5 c_pairs c_pairLong))))
def J_X12_apart_46 (c_letters : Nat → Int32) (c_moves : Nat → Int32) (c_light : Nat → Int32) (x1 : Int32) (x2 : Int32) (x3 : Int32) (Q : Int32 → (Nat → Int32) → (Nat → Int32) → Prop) (c_pairs : Nat → Int32) (c_pairLong : Nat → Int32) : Prop :=
    vp_in (nI 0) 144 ∧ vp_in (nI 0) 144 ∧ vp_in ((upd c_pairs (Int32.toNatClampNeg (nI 0)) (((nI 12) * x2) + x3)) (Int32.toNatClampNeg (nI 0))) 144 ∧ ∃ n, L_X12_apart_76 c_letters c_moves c_light x1 Q n (nI 1) (nI 0) (upd c_pairs (Int32.toNatClampNeg (nI 0)) (((nI 12) * x2) + x3)) (upd c_pairLong (Int32.toNatClampNeg ((upd c_pairs (Int32.toNatClampNeg (nI 0)) (((nI 12) * x2) + x3)) (Int32.toNatClampNeg (nI 0)))) (nI 0))
def L_X12_apart_24 (c_letters : Nat → Int32) (c_moves : Nat → Int32) (c_light : Nat → Int32) (c_pairs : Nat → Int32) (x1 : Int32) (x2 : Int32) (x3 : Int32) (Q : Int32 → (Nat → Int32) → (Nat → Int32) → Prop) : Nat → Int32 → (Nat → Int32) → Prop
  | 0, _, _ => False
  | n_24 + 1, x4, c_pairLong =>
    (((nI 144) ≤ x4 → J_X12_apart_46 c_letters c_moves c_light x1 x2 x3 Q c_pairs c_pairLong) ∧ (¬ (nI 144) ≤ x4 → vp_in x4 144 ∧ (L_X12_apart_24 c_letters c_moves c_light c_pairs x1 x2 x3 Q n_24) (x4 + (nI 1)) (upd c_pairLong (Int32.toNatClampNeg x4) (-1))))
def wp_X12_apart (c_machines : Int32) (c_wordLong : Int32) (c_queued : Int32) (c_heaped : Int32) (c_states : Nat → Int32) (c_letters : Nat → Int32) (c_moves : Nat → Int32) (c_light : Nat → Int32) (c_pairs : Nat → Int32) (c_pairLong : Nat → Int32) (x1 : Int32) (x2 : Int32) (x3 : Int32) (Q : Int32 → (Nat → Int32) → (Nat → Int32) → Prop) : Prop :=
    wp_X12_isState c_machines c_wordLong c_queued c_heaped c_states x1 x2 (fun r2 => ((r2 = (nI 0) → Q (-2) c_pairs c_pairLong) ∧ (¬ r2 = (nI 0) → wp_X12_isState c_machines c_wordLong c_queued c_heaped c_states x1 x3 (fun r4 => ((¬ r4 = (nI 0) → ∃ n, L_X12_apart_24 c_letters c_moves c_light c_pairs x1 x2 x3 Q n (nI 0) c_pairLong) ∧ (r4 = (nI 0) → Q (-2) c_pairs c_pairLong))))))
abbrev rm_X12_apart : Room := { frames := 3, cells := 0, slots := 0, locals := 65 }
set_option maxHeartbeats 4000000 in
set_option maxRecDepth 100000 in
theorem k_X12_apart (l : Launch) (g : GG) (h_this : Nat) (h_this_states : Nat) (h_this_letters : Nat) (h_this_moves : Nat) (h_this_light : Nat) (h_this_price : Nat) (h_this_share : Nat) (h_this_word : Nat) (h_this_queue : Nat) (h_this_cameFrom : Nat) (h_this_cameBy : Nat) (h_this_isKnown : Nat) (h_this_isJoined : Nat) (h_this_made : Nat) (h_this_pairWord : Nat) (h_this_bestWord : Nat) (h_this_sum : Nat) (h_this_isSettled : Nat) (h_this_heapSum : Nat) (h_this_heapSet : Nat) (h_this_worth : Nat) (h_this_worthNext : Nat) (h_this_order : Nat) (h_this_hadMoves : Nat) (h_this_row : Nat) (h_this_pairs : Nat) (h_this_pairLong : Nat) {c_machines : Int32} {c_wordLong : Int32} {c_queued : Int32} {c_heaped : Int32} {c_states : Nat → Int32} {c_letters : Nat → Int32} {c_moves : Nat → Int32} {c_light : Nat → Int32} {c_pairs : Nat → Int32} {c_pairLong : Nat → Int32} {x1 : Int32} {x2 : Int32} {x3 : Int32} {Q : Int32 → (Nat → Int32) → (Nat → Int32) → Prop} (h : wp_X12_apart c_machines c_wordLong c_queued c_heaped c_states c_letters c_moves c_light c_pairs c_pairLong x1 x2 x3 Q) : CI l g yX12_apart wsX12_apart rm_X12_apart [.ref h_this, .int x1, .int x2, .int x3] (cw_X12_apart g h_this h_this_states h_this_letters h_this_moves h_this_light h_this_price h_this_share h_this_word h_this_queue h_this_cameFrom h_this_cameBy h_this_isKnown h_this_isJoined h_this_made h_this_pairWord h_this_bestWord h_this_sum h_this_isSettled h_this_heapSum h_this_heapSet h_this_worth h_this_worthNext h_this_order h_this_hadMoves h_this_row h_this_pairs h_this_pairLong c_machines c_wordLong c_queued c_heaped c_states c_letters c_moves c_light c_pairs c_pairLong) (S := (Nat → Int32) × (Nat → Int32)) (fun u => (cw_X12_apart g h_this h_this_states h_this_letters h_this_moves h_this_light h_this_price h_this_share h_this_word h_this_queue h_this_cameFrom h_this_cameBy h_this_isKnown h_this_isJoined h_this_made h_this_pairWord h_this_bestWord h_this_sum h_this_isSettled h_this_heapSum h_this_heapSet h_this_worth h_this_worthNext h_this_order h_this_hadMoves h_this_row h_this_pairs h_this_pairLong c_machines c_wordLong c_queued c_heaped c_states c_letters c_moves c_light u.1 u.2)) (fun r u => Q r u.1 u.2) 0 0 := by
  refine mk_I (cc := cX12_apart) (maxL := 11) (own := RX12) (by decide) rfl rfl (Nat.le_of_ble_eq_true rfl) ?_
  intro p e s m args below meth c A QQ E hret hP hD hS ls hl
  have E2 := E
  obtain ⟨hx, hb, hr, hml, hown, hts, hlocks, hA, hZ, hK, hnm⟩ := E2
  have f84 := hts (.fieldLink RX12 84 "WordBenchModel" "pairs" "[I") (by decide +kernel)
  have f87 := hts (.fieldLink RX12 87 "WordBenchModel" "pairLong" "[I") (by decide +kernel)
  have f19 := hts (.fieldLink RX12 19 "WordBenchModel" "light" "[I") (by decide +kernel)
  have f13 := hts (.fieldLink RX12 13 "WordBenchModel" "letters" "[I") (by decide +kernel)
  have f16 := hts (.fieldLink RX12 16 "WordBenchModel" "moves" "[I") (by decide +kernel)
  have iX12 : ∀ w ∈ wsX120, w ∈ wsX12_apart := fun _ h => List.mem_cons_of_mem _ (List.mem_append_right _ h)
  have hP : va_P g.1 vwCl (cw_X12_apart g h_this h_this_states h_this_letters h_this_moves h_this_light h_this_price h_this_share h_this_word h_this_queue h_this_cameFrom h_this_cameBy h_this_isKnown h_this_isJoined h_this_made h_this_pairWord h_this_bestWord h_this_sum h_this_isSettled h_this_heapSum h_this_heapSet h_this_worth h_this_worthNext h_this_order h_this_hadMoves h_this_row h_this_pairs h_this_pairLong c_machines c_wordLong c_queued c_heaped c_states c_letters c_moves c_light c_pairs c_pairLong) s.heap := hP
  have hD : va_D A (cw_X12_apart g h_this h_this_states h_this_letters h_this_moves h_this_light h_this_price h_this_share h_this_word h_this_queue h_this_cameFrom h_this_cameBy h_this_isKnown h_this_isJoined h_this_made h_this_pairWord h_this_bestWord h_this_sum h_this_isSettled h_this_heapSum h_this_heapSet h_this_worth h_this_worthNext h_this_order h_this_hadMoves h_this_row h_this_pairs h_this_pairLong c_machines c_wordLong c_queued c_heaped c_states c_letters c_moves c_light c_pairs c_pairLong) := hD
  have hl : lv_has ls 11 [(0, .ref h_this), (1, .int x1), (2, .int x2), (3, .int x3)] := hl
  unfold wp_X12_apart at h
  have K_134 : ∀ (x5 : Int32) (c_pairs : Nat → Int32) (c_pairLong : Nat → Int32) , J_X12_apart_134 Q x5 c_pairs c_pairLong → ∀ (H : Heap) (locs : List Loc), va_P g.1 vwCl (cw_X12_apart g h_this h_this_states h_this_letters h_this_moves h_this_light h_this_price h_this_share h_this_word h_this_queue h_this_cameFrom h_this_cameBy h_this_isKnown h_this_isJoined h_this_made h_this_pairWord h_this_bestWord h_this_sum h_this_isSettled h_this_heapSum h_this_heapSet h_this_worth h_this_worthNext h_this_order h_this_hadMoves h_this_row h_this_pairs h_this_pairLong c_machines c_wordLong c_queued c_heaped c_states c_letters c_moves c_light c_pairs c_pairLong) H → va_D A (cw_X12_apart g h_this h_this_states h_this_letters h_this_moves h_this_light h_this_price h_this_share h_this_word h_this_queue h_this_cameFrom h_this_cameBy h_this_isKnown h_this_isJoined h_this_made h_this_pairWord h_this_bestWord h_this_sum h_this_isSettled h_this_heapSum h_this_heapSet h_this_worth h_this_worthNext h_this_order h_this_hadMoves h_this_row h_this_pairs h_this_pairLong c_machines c_wordLong c_queued c_heaped c_states c_letters c_moves c_light c_pairs c_pairLong) → va_S A s.heap H locs → ∀ ls : Array Slot, lv_has ls 11 [(0, .ref h_this), (5, .int x5)] → W p l e rm_X12_apart s m args below meth c H locs 0 0 QQ (F0 m 134 ls []) := by
    intro x5 c_pairs c_pairLong h H locs hP hD hS ls hl
    unfold J_X12_apart_134 at h
    refine lv_aload_n hx hb dX12_apart_134 rfl (lv_at hl 0 rfl) ?_
    refine va_get (D := g.1) (ci := 11) (v := .ref h_this_pairLong) (C := RX12) (T := TX12) (N := 30) hx hb hts iX12 hown hK hP 0 rfl rfl 29 (by decide) f87 (fun _ h9 => h9) rfl dX12_apart_135 ?_
    refine lv_aload_n hx hb dX12_apart_138 rfl (lv_at hl 0 rfl) ?_
    refine va_get (D := g.1) (ci := 11) (v := .ref h_this_pairs) (C := RX12) (T := TX12) (N := 30) hx hb hts iX12 hown hK hP 0 rfl rfl 28 (by decide) f84 (fun _ h9 => h9) rfl dX12_apart_139 ?_
    refine lv_iload hx hb dX12_apart_142 (lv_at hl 1 rfl) ?_
    obtain ⟨hi, h⟩ := h
    refine va_iald (D := g.1) (n := 144) (f := c_pairs) hx hb hK hP 5 0 rfl rfl hi dX12_apart_144 ?_
    obtain ⟨hi, h⟩ := h
    refine va_iald (D := g.1) (n := 144) (f := c_pairLong) hx hb hK hP 6 0 rfl rfl hi dX12_apart_145 ?_
    exact hret (c_pairLong (Int32.toNatClampNeg (c_pairs (Int32.toNatClampNeg x5)))) (c_pairs, c_pairLong) _ _ _ _ rfl h hP hD hS dX12_apart_146
  have K_76 : ∀ (n_76 : Nat) (x4 : Int32) (x5 : Int32) (c_pairs : Nat → Int32) (c_pairLong : Nat → Int32) , L_X12_apart_76 c_letters c_moves c_light x1 Q n_76 x4 x5 c_pairs c_pairLong → ∀ (H : Heap) (locs : List Loc), va_P g.1 vwCl (cw_X12_apart g h_this h_this_states h_this_letters h_this_moves h_this_light h_this_price h_this_share h_this_word h_this_queue h_this_cameFrom h_this_cameBy h_this_isKnown h_this_isJoined h_this_made h_this_pairWord h_this_bestWord h_this_sum h_this_isSettled h_this_heapSum h_this_heapSet h_this_worth h_this_worthNext h_this_order h_this_hadMoves h_this_row h_this_pairs h_this_pairLong c_machines c_wordLong c_queued c_heaped c_states c_letters c_moves c_light c_pairs c_pairLong) H → va_D A (cw_X12_apart g h_this h_this_states h_this_letters h_this_moves h_this_light h_this_price h_this_share h_this_word h_this_queue h_this_cameFrom h_this_cameBy h_this_isKnown h_this_isJoined h_this_made h_this_pairWord h_this_bestWord h_this_sum h_this_isSettled h_this_heapSum h_this_heapSet h_this_worth h_this_worthNext h_this_order h_this_hadMoves h_this_row h_this_pairs h_this_pairLong c_machines c_wordLong c_queued c_heaped c_states c_letters c_moves c_light c_pairs c_pairLong) → va_S A s.heap H locs → ∀ ls : Array Slot, lv_has ls 11 [(0, .ref h_this), (1, .int x1), (4, .int x4), (5, .int x5)] → W p l e rm_X12_apart s m args below meth c H locs 0 0 QQ (F0 m 76 ls []) := by
    intro n_76
    induction n_76 with
    | zero => intro x4 x5 c_pairs c_pairLong; exact fun h => False.elim h
    | succ n_76 ih_76 =>
      intro x4 x5 c_pairs c_pairLong h H locs hP hD hS ls hl
      unfold L_X12_apart_76 at h
      have K_271 : ∀ (x4 : Int32) (x5 : Int32) (c_pairs : Nat → Int32) (c_pairLong : Nat → Int32) , J_X12_apart_271 (L_X12_apart_76 c_letters c_moves c_light x1 Q n_76) x4 x5 c_pairs c_pairLong → ∀ (H : Heap) (locs : List Loc), va_P g.1 vwCl (cw_X12_apart g h_this h_this_states h_this_letters h_this_moves h_this_light h_this_price h_this_share h_this_word h_this_queue h_this_cameFrom h_this_cameBy h_this_isKnown h_this_isJoined h_this_made h_this_pairWord h_this_bestWord h_this_sum h_this_isSettled h_this_heapSum h_this_heapSet h_this_worth h_this_worthNext h_this_order h_this_hadMoves h_this_row h_this_pairs h_this_pairLong c_machines c_wordLong c_queued c_heaped c_states c_letters c_moves c_light c_pairs c_pairLong) H → va_D A (cw_X12_apart g h_this h_this_states h_this_letters h_this_moves h_this_light h_this_price h_this_share h_this_word h_this_queue h_this_cameFrom h_this_cameBy h_this_isKnown h_this_isJoined h_this_made h_this_pairWord h_this_bestWord h_this_sum h_this_isSettled h_this_heapSum h_this_heapSet h_this_worth h_this_worthNext h_this_order h_this_hadMoves h_this_row h_this_pairs h_this_pairLong c_machines c_wordLong c_queued c_heaped c_states c_letters c_moves c_light c_pairs c_pairLong) → va_S A s.heap H locs → ∀ ls : Array Slot, lv_has ls 11 [(0, .ref h_this), (1, .int x1), (4, .int x4), (5, .int x5)] → W p l e rm_X12_apart s m args below meth c H locs 0 0 QQ (F0 m 271 ls []) := by
        intro x4 x5 c_pairs c_pairLong h H locs hP hD hS ls hl
        unfold J_X12_apart_271 at h
        refine lv_iinc (v := (x5 + (nI 1))) (lv' := [(5, .int (x5 + (nI 1))), (0, .ref h_this), (1, .int x1), (4, .int x4)]) hx hb dX12_apart_271 hl (k := 3) rfl rfl (by decide) rfl (fun ls hl => ?_)
        refine lv_goto (tgt := 76) hx hb dX12_apart_274 (by decide) ?_
        exact ih_76 x4 (x5 + (nI 1)) c_pairs c_pairLong h _ _ hP hD hS _ (lv_sub hl [1, 2, 3, 0] rfl)
      have K_150 : ∀ (x5 : Int32) (x6 : Int32) (x7 : Int32) (n_150 : Nat) (x4 : Int32) (x8 : Int32) (c_pairs : Nat → Int32) (c_pairLong : Nat → Int32) , L_X12_apart_150 c_letters c_moves x1 x5 x6 x7 (L_X12_apart_76 c_letters c_moves c_light x1 Q n_76) n_150 x4 x8 c_pairs c_pairLong → ∀ (H : Heap) (locs : List Loc), va_P g.1 vwCl (cw_X12_apart g h_this h_this_states h_this_letters h_this_moves h_this_light h_this_price h_this_share h_this_word h_this_queue h_this_cameFrom h_this_cameBy h_this_isKnown h_this_isJoined h_this_made h_this_pairWord h_this_bestWord h_this_sum h_this_isSettled h_this_heapSum h_this_heapSet h_this_worth h_this_worthNext h_this_order h_this_hadMoves h_this_row h_this_pairs h_this_pairLong c_machines c_wordLong c_queued c_heaped c_states c_letters c_moves c_light c_pairs c_pairLong) H → va_D A (cw_X12_apart g h_this h_this_states h_this_letters h_this_moves h_this_light h_this_price h_this_share h_this_word h_this_queue h_this_cameFrom h_this_cameBy h_this_isKnown h_this_isJoined h_this_made h_this_pairWord h_this_bestWord h_this_sum h_this_isSettled h_this_heapSum h_this_heapSet h_this_worth h_this_worthNext h_this_order h_this_hadMoves h_this_row h_this_pairs h_this_pairLong c_machines c_wordLong c_queued c_heaped c_states c_letters c_moves c_light c_pairs c_pairLong) → va_S A s.heap H locs → ∀ ls : Array Slot, lv_has ls 11 [(0, .ref h_this), (1, .int x1), (4, .int x4), (5, .int x5), (6, .int x6), (7, .int x7), (8, .int x8)] → W p l e rm_X12_apart s m args below meth c H locs 0 0 QQ (F0 m 150 ls []) := by
        intro x5 x6 x7 n_150
        induction n_150 with
        | zero => intro x4 x8 c_pairs c_pairLong; exact fun h => False.elim h
        | succ n_150 ih_150 =>
          intro x4 x8 c_pairs c_pairLong h H locs hP hD hS ls hl
          unfold L_X12_apart_150 at h
          have K_265 : ∀ (x4 : Int32) (x8 : Int32) (c_pairs : Nat → Int32) (c_pairLong : Nat → Int32) , J_X12_apart_265 (L_X12_apart_150 c_letters c_moves x1 x5 x6 x7 (L_X12_apart_76 c_letters c_moves c_light x1 Q n_76) n_150) x4 x8 c_pairs c_pairLong → ∀ (H : Heap) (locs : List Loc), va_P g.1 vwCl (cw_X12_apart g h_this h_this_states h_this_letters h_this_moves h_this_light h_this_price h_this_share h_this_word h_this_queue h_this_cameFrom h_this_cameBy h_this_isKnown h_this_isJoined h_this_made h_this_pairWord h_this_bestWord h_this_sum h_this_isSettled h_this_heapSum h_this_heapSet h_this_worth h_this_worthNext h_this_order h_this_hadMoves h_this_row h_this_pairs h_this_pairLong c_machines c_wordLong c_queued c_heaped c_states c_letters c_moves c_light c_pairs c_pairLong) H → va_D A (cw_X12_apart g h_this h_this_states h_this_letters h_this_moves h_this_light h_this_price h_this_share h_this_word h_this_queue h_this_cameFrom h_this_cameBy h_this_isKnown h_this_isJoined h_this_made h_this_pairWord h_this_bestWord h_this_sum h_this_isSettled h_this_heapSum h_this_heapSet h_this_worth h_this_worthNext h_this_order h_this_hadMoves h_this_row h_this_pairs h_this_pairLong c_machines c_wordLong c_queued c_heaped c_states c_letters c_moves c_light c_pairs c_pairLong) → va_S A s.heap H locs → ∀ ls : Array Slot, lv_has ls 11 [(0, .ref h_this), (1, .int x1), (4, .int x4), (5, .int x5), (6, .int x6), (7, .int x7), (8, .int x8)] → W p l e rm_X12_apart s m args below meth c H locs 0 0 QQ (F0 m 265 ls []) := by
            intro x4 x8 c_pairs c_pairLong h H locs hP hD hS ls hl
            unfold J_X12_apart_265 at h
            refine lv_iinc (v := (x8 + (nI 1))) (lv' := [(8, .int (x8 + (nI 1))), (0, .ref h_this), (1, .int x1), (4, .int x4), (5, .int x5), (6, .int x6), (7, .int x7)]) hx hb dX12_apart_265 hl (k := 6) rfl rfl (by decide) rfl (fun ls hl => ?_)
            refine lv_goto (tgt := 150) hx hb dX12_apart_268 (by decide) ?_
            exact ih_150 x4 (x8 + (nI 1)) c_pairs c_pairLong h _ _ hP hD hS _ (lv_sub hl [1, 2, 3, 4, 5, 6, 0] rfl)
          refine lv_iload hx hb dX12_apart_150 (lv_at hl 6 rfl) ?_
          refine lv_aload_n hx hb dX12_apart_152 rfl (lv_at hl 0 rfl) ?_
          refine va_get (D := g.1) (ci := 11) (v := .ref h_this_letters) (C := RX12) (T := TX12) (N := 30) hx hb hts iX12 hown hK hP 0 rfl rfl 2 (by decide) f13 (fun _ h9 => h9) rfl dX12_apart_153 ?_
          refine lv_iload_n hx hb dX12_apart_156 rfl (lv_at hl 1 rfl) ?_
          obtain ⟨hi, h⟩ := h
          refine va_iald (D := g.1) (n := 6) (f := c_letters) hx hb hK hP 2 0 rfl rfl hi dX12_apart_157 ?_
          refine lv_icmp_ge (tgt := 271) hx hb dX12_apart_158 (by decide) (fun cq => ?_) (fun cq => ?_)
          · replace h := h.1 cq
            exact K_271 x4 x5 c_pairs c_pairLong h _ _ hP hD hS _ (lv_sub hl [0, 1, 2, 3] rfl)
          · replace h := h.2 cq
            refine lv_aload_n hx hb dX12_apart_161 rfl (lv_at hl 0 rfl) ?_
            refine va_get (D := g.1) (ci := 11) (v := .ref h_this_moves) (C := RX12) (T := TX12) (N := 30) hx hb hts iX12 hown hK hP 0 rfl rfl 3 (by decide) f16 (fun _ h9 => h9) rfl dX12_apart_162 ?_
            refine lv_iload_n hx hb dX12_apart_165 rfl (lv_at hl 1 rfl) ?_
            refine lv_iload hx hb dX12_apart_166 (lv_at hl 4 rfl) ?_
            refine lv_iload hx hb dX12_apart_168 (lv_at hl 6 rfl) ?_
            refine go_I E (run_S E ((k_X12_at l g  (Q := fun r => r = ((((nI 48) * x1) + ((nI 4) * x6)) + x8)) rfl) _) (va_cwS 3 hts gX12_apart_X12_at rfl rfl rfl (by decide +kernel) ⟨Nat.le_of_ble_eq_true rfl, Nat.le_of_ble_eq_true rfl⟩) hP hD hS [] rfl rfl hl rfl rfl (Nat.le_of_ble_eq_true rfl) dX12_apart_170 ⟨Nat.le_of_ble_eq_true rfl, Nat.le_of_ble_eq_true rfl⟩) hP hD hS [] rfl [(true, 0), (true, 1), (true, 2), (true, 3), (true, 4), (true, 5), (true, 6)] rfl (by decide) (fun _ => (cw_X12_apart g h_this h_this_states h_this_letters h_this_moves h_this_light h_this_price h_this_share h_this_word h_this_queue h_this_cameFrom h_this_cameBy h_this_isKnown h_this_isJoined h_this_made h_this_pairWord h_this_bestWord h_this_sum h_this_isSettled h_this_heapSum h_this_heapSet h_this_worth h_this_worthNext h_this_order h_this_hadMoves h_this_row h_this_pairs h_this_pairLong c_machines c_wordLong c_queued c_heaped c_states c_letters c_moves c_light c_pairs c_pairLong)) (fun _ => rfl) (fun r6 _ H locs hr_ hP hD hS => ?_)
            have hr_ : ((((nI 48) * x1) + ((nI 4) * x6)) + x8) = r6 := Eq.symm hr_
            subst hr_
            have hP : va_P g.1 vwCl (cw_X12_apart g h_this h_this_states h_this_letters h_this_moves h_this_light h_this_price h_this_share h_this_word h_this_queue h_this_cameFrom h_this_cameBy h_this_isKnown h_this_isJoined h_this_made h_this_pairWord h_this_bestWord h_this_sum h_this_isSettled h_this_heapSum h_this_heapSet h_this_worth h_this_worthNext h_this_order h_this_hadMoves h_this_row h_this_pairs h_this_pairLong c_machines c_wordLong c_queued c_heaped c_states c_letters c_moves c_light c_pairs c_pairLong) H := hP
            have hD : va_D A (cw_X12_apart g h_this h_this_states h_this_letters h_this_moves h_this_light h_this_price h_this_share h_this_word h_this_queue h_this_cameFrom h_this_cameBy h_this_isKnown h_this_isJoined h_this_made h_this_pairWord h_this_bestWord h_this_sum h_this_isSettled h_this_heapSum h_this_heapSet h_this_worth h_this_worthNext h_this_order h_this_hadMoves h_this_row h_this_pairs h_this_pairLong c_machines c_wordLong c_queued c_heaped c_states c_letters c_moves c_light c_pairs c_pairLong) := hD
            obtain ⟨hi, h⟩ := h
            refine va_iald (D := g.1) (n := 288) (f := c_moves) hx hb hK hP 3 0 rfl rfl hi dX12_apart_173 ?_
            refine lv_istore (lv' := [(9, .int (c_moves (Int32.toNatClampNeg ((((nI 48) * x1) + ((nI 4) * x6)) + x8)))), (0, .ref h_this), (1, .int x1), (4, .int x4), (5, .int x5), (6, .int x6), (7, .int x7), (8, .int x8)]) hx hb dX12_apart_174 hl (by decide) rfl (fun ls hl => ?_)
            refine lv_aload_n hx hb dX12_apart_176 rfl (lv_at hl 1 rfl) ?_
            refine va_get (D := g.1) (ci := 11) (v := .ref h_this_moves) (C := RX12) (T := TX12) (N := 30) hx hb hts iX12 hown hK hP 0 rfl rfl 3 (by decide) f16 (fun _ h9 => h9) rfl dX12_apart_177 ?_
            refine lv_iload_n hx hb dX12_apart_180 rfl (lv_at hl 2 rfl) ?_
            refine lv_iload hx hb dX12_apart_181 (lv_at hl 6 rfl) ?_
            refine lv_iload hx hb dX12_apart_183 (lv_at hl 7 rfl) ?_
            refine go_I E (run_S E ((k_X12_at l g  (Q := fun r => r = ((((nI 48) * x1) + ((nI 4) * x7)) + x8)) rfl) _) (va_cwS 3 hts gX12_apart_X12_at rfl rfl rfl (by decide +kernel) ⟨Nat.le_of_ble_eq_true rfl, Nat.le_of_ble_eq_true rfl⟩) hP hD hS [] rfl rfl hl rfl rfl (Nat.le_of_ble_eq_true rfl) dX12_apart_185 ⟨Nat.le_of_ble_eq_true rfl, Nat.le_of_ble_eq_true rfl⟩) hP hD hS [] rfl [(true, 0), (true, 1), (true, 2), (true, 3), (true, 4), (true, 5), (true, 6)] rfl (by decide) (fun _ => (cw_X12_apart g h_this h_this_states h_this_letters h_this_moves h_this_light h_this_price h_this_share h_this_word h_this_queue h_this_cameFrom h_this_cameBy h_this_isKnown h_this_isJoined h_this_made h_this_pairWord h_this_bestWord h_this_sum h_this_isSettled h_this_heapSum h_this_heapSet h_this_worth h_this_worthNext h_this_order h_this_hadMoves h_this_row h_this_pairs h_this_pairLong c_machines c_wordLong c_queued c_heaped c_states c_letters c_moves c_light c_pairs c_pairLong)) (fun _ => rfl) (fun r8 _ H locs hr_ hP hD hS => ?_)
            have hr_ : ((((nI 48) * x1) + ((nI 4) * x7)) + x8) = r8 := Eq.symm hr_
            subst hr_
            have hP : va_P g.1 vwCl (cw_X12_apart g h_this h_this_states h_this_letters h_this_moves h_this_light h_this_price h_this_share h_this_word h_this_queue h_this_cameFrom h_this_cameBy h_this_isKnown h_this_isJoined h_this_made h_this_pairWord h_this_bestWord h_this_sum h_this_isSettled h_this_heapSum h_this_heapSet h_this_worth h_this_worthNext h_this_order h_this_hadMoves h_this_row h_this_pairs h_this_pairLong c_machines c_wordLong c_queued c_heaped c_states c_letters c_moves c_light c_pairs c_pairLong) H := hP
            have hD : va_D A (cw_X12_apart g h_this h_this_states h_this_letters h_this_moves h_this_light h_this_price h_this_share h_this_word h_this_queue h_this_cameFrom h_this_cameBy h_this_isKnown h_this_isJoined h_this_made h_this_pairWord h_this_bestWord h_this_sum h_this_isSettled h_this_heapSum h_this_heapSet h_this_worth h_this_worthNext h_this_order h_this_hadMoves h_this_row h_this_pairs h_this_pairLong c_machines c_wordLong c_queued c_heaped c_states c_letters c_moves c_light c_pairs c_pairLong) := hD
            obtain ⟨hi, h⟩ := h
            refine va_iald (D := g.1) (n := 288) (f := c_moves) hx hb hK hP 3 0 rfl rfl hi dX12_apart_188 ?_
            refine lv_istore (lv' := [(10, .int (c_moves (Int32.toNatClampNeg ((((nI 48) * x1) + ((nI 4) * x7)) + x8)))), (9, .int (c_moves (Int32.toNatClampNeg ((((nI 48) * x1) + ((nI 4) * x6)) + x8)))), (0, .ref h_this), (1, .int x1), (4, .int x4), (5, .int x5), (6, .int x6), (7, .int x7), (8, .int x8)]) hx hb dX12_apart_189 hl (by decide) rfl (fun ls hl => ?_)
            refine lv_iload hx hb dX12_apart_191 (lv_at hl 1 rfl) ?_
            refine lv_iconst (v := (-1)) hx hb dX12_apart_193 (by decide) ?_
            refine lv_icmp_eq (tgt := 265) hx hb dX12_apart_194 (by decide) (fun cq => ?_) (fun cq => ?_)
            · replace h := h.1 cq
              exact K_265 x4 x8 c_pairs c_pairLong h _ _ hP hD hS _ (lv_sub hl [2, 3, 4, 5, 6, 7, 8] rfl)
            · replace h := h.2 cq
              refine lv_iload hx hb dX12_apart_197 (lv_at hl 0 rfl) ?_
              refine lv_iconst (v := (-1)) hx hb dX12_apart_199 (by decide) ?_
              refine lv_icmp_eq (tgt := 265) hx hb dX12_apart_200 (by decide) (fun cq => ?_) (fun cq => ?_)
              · replace h := h.1 cq
                exact K_265 x4 x8 c_pairs c_pairLong h _ _ hP hD hS _ (lv_sub hl [2, 3, 4, 5, 6, 7, 8] rfl)
              · replace h := h.2 cq
                refine lv_aload_n hx hb dX12_apart_203 rfl (lv_at hl 2 rfl) ?_
                refine va_get (D := g.1) (ci := 11) (v := .ref h_this_pairLong) (C := RX12) (T := TX12) (N := 30) hx hb hts iX12 hown hK hP 0 rfl rfl 29 (by decide) f87 (fun _ h9 => h9) rfl dX12_apart_204 ?_
                refine lv_bipush (v := (nI 12)) hx hb dX12_apart_207 (by decide) ?_
                refine lv_iload hx hb dX12_apart_209 (lv_at hl 1 rfl) ?_
                refine lv_imul hx hb dX12_apart_211 ?_
                refine lv_iload hx hb dX12_apart_212 (lv_at hl 0 rfl) ?_
                refine lv_iadd hx hb dX12_apart_214 ?_
                obtain ⟨hi, h⟩ := h
                refine va_iald (D := g.1) (n := 144) (f := c_pairLong) hx hb hK hP 6 0 rfl rfl hi dX12_apart_215 ?_
                refine lv_iconst (v := (-1)) hx hb dX12_apart_216 (by decide) ?_
                refine lv_icmp_ne (tgt := 265) hx hb dX12_apart_217 (by decide) (fun cq => ?_) (fun cq => ?_)
                · replace h := h.1 cq
                  exact K_265 x4 x8 c_pairs c_pairLong h _ _ hP hD hS _ (lv_sub hl [2, 3, 4, 5, 6, 7, 8] rfl)
                · replace h := h.2 cq
                  refine lv_aload_n hx hb dX12_apart_220 rfl (lv_at hl 2 rfl) ?_
                  refine va_get (D := g.1) (ci := 11) (v := .ref h_this_pairLong) (C := RX12) (T := TX12) (N := 30) hx hb hts iX12 hown hK hP 0 rfl rfl 29 (by decide) f87 (fun _ h9 => h9) rfl dX12_apart_221 ?_
                  refine lv_bipush (v := (nI 12)) hx hb dX12_apart_224 (by decide) ?_
                  refine lv_iload hx hb dX12_apart_226 (lv_at hl 1 rfl) ?_
                  refine lv_imul hx hb dX12_apart_228 ?_
                  refine lv_iload hx hb dX12_apart_229 (lv_at hl 0 rfl) ?_
                  refine lv_iadd hx hb dX12_apart_231 ?_
                  refine lv_aload_n hx hb dX12_apart_232 rfl (lv_at hl 2 rfl) ?_
                  refine va_get (D := g.1) (ci := 11) (v := .ref h_this_pairLong) (C := RX12) (T := TX12) (N := 30) hx hb hts iX12 hown hK hP 0 rfl rfl 29 (by decide) f87 (fun _ h9 => h9) rfl dX12_apart_233 ?_
                  refine lv_aload_n hx hb dX12_apart_236 rfl (lv_at hl 2 rfl) ?_
                  refine va_get (D := g.1) (ci := 11) (v := .ref h_this_pairs) (C := RX12) (T := TX12) (N := 30) hx hb hts iX12 hown hK hP 0 rfl rfl 28 (by decide) f84 (fun _ h9 => h9) rfl dX12_apart_237 ?_
                  refine lv_iload hx hb dX12_apart_240 (lv_at hl 5 rfl) ?_
                  obtain ⟨hi, h⟩ := h
                  refine va_iald (D := g.1) (n := 144) (f := c_pairs) hx hb hK hP 5 0 rfl rfl hi dX12_apart_242 ?_
                  obtain ⟨hi, h⟩ := h
                  refine va_iald (D := g.1) (n := 144) (f := c_pairLong) hx hb hK hP 6 0 rfl rfl hi dX12_apart_243 ?_
                  refine lv_iconst (v := (nI 1)) hx hb dX12_apart_244 (by decide) ?_
                  refine lv_iadd hx hb dX12_apart_245 ?_
                  obtain ⟨hi, h⟩ := h
                  refine va_iast (D := g.1) (n := 144) (f := c_pairLong) hx hb hK hP hD hS 6 0 rfl rfl hi dX12_apart_246 (fun H locs hP hD hS => ?_)
                  have hP : va_P g.1 vwCl (cw_X12_apart g h_this h_this_states h_this_letters h_this_moves h_this_light h_this_price h_this_share h_this_word h_this_queue h_this_cameFrom h_this_cameBy h_this_isKnown h_this_isJoined h_this_made h_this_pairWord h_this_bestWord h_this_sum h_this_isSettled h_this_heapSum h_this_heapSet h_this_worth h_this_worthNext h_this_order h_this_hadMoves h_this_row h_this_pairs h_this_pairLong c_machines c_wordLong c_queued c_heaped c_states c_letters c_moves c_light c_pairs (upd c_pairLong (Int32.toNatClampNeg (((nI 12) * (c_moves (Int32.toNatClampNeg ((((nI 48) * x1) + ((nI 4) * x6)) + x8)))) + (c_moves (Int32.toNatClampNeg ((((nI 48) * x1) + ((nI 4) * x7)) + x8))))) ((c_pairLong (Int32.toNatClampNeg (c_pairs (Int32.toNatClampNeg x5)))) + (nI 1)))) H := hP
                  have hD : va_D A (cw_X12_apart g h_this h_this_states h_this_letters h_this_moves h_this_light h_this_price h_this_share h_this_word h_this_queue h_this_cameFrom h_this_cameBy h_this_isKnown h_this_isJoined h_this_made h_this_pairWord h_this_bestWord h_this_sum h_this_isSettled h_this_heapSum h_this_heapSet h_this_worth h_this_worthNext h_this_order h_this_hadMoves h_this_row h_this_pairs h_this_pairLong c_machines c_wordLong c_queued c_heaped c_states c_letters c_moves c_light c_pairs (upd c_pairLong (Int32.toNatClampNeg (((nI 12) * (c_moves (Int32.toNatClampNeg ((((nI 48) * x1) + ((nI 4) * x6)) + x8)))) + (c_moves (Int32.toNatClampNeg ((((nI 48) * x1) + ((nI 4) * x7)) + x8))))) ((c_pairLong (Int32.toNatClampNeg (c_pairs (Int32.toNatClampNeg x5)))) + (nI 1)))) := hD
                  refine lv_aload_n hx hb dX12_apart_247 rfl (lv_at hl 2 rfl) ?_
                  refine va_get (D := g.1) (ci := 11) (v := .ref h_this_pairs) (C := RX12) (T := TX12) (N := 30) hx hb hts iX12 hown hK hP 0 rfl rfl 28 (by decide) f84 (fun _ h9 => h9) rfl dX12_apart_248 ?_
                  refine lv_iload hx hb dX12_apart_251 (lv_at hl 4 rfl) ?_
                  refine lv_bipush (v := (nI 12)) hx hb dX12_apart_253 (by decide) ?_
                  refine lv_iload hx hb dX12_apart_255 (lv_at hl 1 rfl) ?_
                  refine lv_imul hx hb dX12_apart_257 ?_
                  refine lv_iload hx hb dX12_apart_258 (lv_at hl 0 rfl) ?_
                  refine lv_iadd hx hb dX12_apart_260 ?_
                  obtain ⟨hi, h⟩ := h
                  refine va_iast (D := g.1) (n := 144) (f := c_pairs) hx hb hK hP hD hS 5 0 rfl rfl hi dX12_apart_261 (fun H locs hP hD hS => ?_)
                  have hP : va_P g.1 vwCl (cw_X12_apart g h_this h_this_states h_this_letters h_this_moves h_this_light h_this_price h_this_share h_this_word h_this_queue h_this_cameFrom h_this_cameBy h_this_isKnown h_this_isJoined h_this_made h_this_pairWord h_this_bestWord h_this_sum h_this_isSettled h_this_heapSum h_this_heapSet h_this_worth h_this_worthNext h_this_order h_this_hadMoves h_this_row h_this_pairs h_this_pairLong c_machines c_wordLong c_queued c_heaped c_states c_letters c_moves c_light (upd c_pairs (Int32.toNatClampNeg x4) (((nI 12) * (c_moves (Int32.toNatClampNeg ((((nI 48) * x1) + ((nI 4) * x6)) + x8)))) + (c_moves (Int32.toNatClampNeg ((((nI 48) * x1) + ((nI 4) * x7)) + x8))))) (upd c_pairLong (Int32.toNatClampNeg (((nI 12) * (c_moves (Int32.toNatClampNeg ((((nI 48) * x1) + ((nI 4) * x6)) + x8)))) + (c_moves (Int32.toNatClampNeg ((((nI 48) * x1) + ((nI 4) * x7)) + x8))))) ((c_pairLong (Int32.toNatClampNeg (c_pairs (Int32.toNatClampNeg x5)))) + (nI 1)))) H := hP
                  have hD : va_D A (cw_X12_apart g h_this h_this_states h_this_letters h_this_moves h_this_light h_this_price h_this_share h_this_word h_this_queue h_this_cameFrom h_this_cameBy h_this_isKnown h_this_isJoined h_this_made h_this_pairWord h_this_bestWord h_this_sum h_this_isSettled h_this_heapSum h_this_heapSet h_this_worth h_this_worthNext h_this_order h_this_hadMoves h_this_row h_this_pairs h_this_pairLong c_machines c_wordLong c_queued c_heaped c_states c_letters c_moves c_light (upd c_pairs (Int32.toNatClampNeg x4) (((nI 12) * (c_moves (Int32.toNatClampNeg ((((nI 48) * x1) + ((nI 4) * x6)) + x8)))) + (c_moves (Int32.toNatClampNeg ((((nI 48) * x1) + ((nI 4) * x7)) + x8))))) (upd c_pairLong (Int32.toNatClampNeg (((nI 12) * (c_moves (Int32.toNatClampNeg ((((nI 48) * x1) + ((nI 4) * x6)) + x8)))) + (c_moves (Int32.toNatClampNeg ((((nI 48) * x1) + ((nI 4) * x7)) + x8))))) ((c_pairLong (Int32.toNatClampNeg (c_pairs (Int32.toNatClampNeg x5)))) + (nI 1)))) := hD
                  refine lv_iinc (v := (x4 + (nI 1))) (lv' := [(4, .int (x4 + (nI 1))), (10, .int (c_moves (Int32.toNatClampNeg ((((nI 48) * x1) + ((nI 4) * x7)) + x8)))), (9, .int (c_moves (Int32.toNatClampNeg ((((nI 48) * x1) + ((nI 4) * x6)) + x8)))), (0, .ref h_this), (1, .int x1), (5, .int x5), (6, .int x6), (7, .int x7), (8, .int x8)]) hx hb dX12_apart_262 hl (k := 4) rfl rfl (by decide) rfl (fun ls hl => ?_)
                  exact K_265 (x4 + (nI 1)) x8 (upd c_pairs (Int32.toNatClampNeg x4) (((nI 12) * (c_moves (Int32.toNatClampNeg ((((nI 48) * x1) + ((nI 4) * x6)) + x8)))) + (c_moves (Int32.toNatClampNeg ((((nI 48) * x1) + ((nI 4) * x7)) + x8))))) (upd c_pairLong (Int32.toNatClampNeg (((nI 12) * (c_moves (Int32.toNatClampNeg ((((nI 48) * x1) + ((nI 4) * x6)) + x8)))) + (c_moves (Int32.toNatClampNeg ((((nI 48) * x1) + ((nI 4) * x7)) + x8))))) ((c_pairLong (Int32.toNatClampNeg (c_pairs (Int32.toNatClampNeg x5)))) + (nI 1))) h _ _ hP hD hS _ (lv_sub hl [3, 4, 0, 5, 6, 7, 8] rfl)
      refine lv_iload hx hb dX12_apart_76 (lv_at hl 3 rfl) ?_
      refine lv_iload hx hb dX12_apart_78 (lv_at hl 2 rfl) ?_
      refine lv_icmp_ge (tgt := 277) hx hb dX12_apart_80 (by decide) (fun cq => ?_) (fun cq => ?_)
      · replace h := h.1 cq
        refine lv_iconst (v := (-1)) hx hb dX12_apart_277 (by decide) ?_
        exact hret (-1) (c_pairs, c_pairLong) _ _ _ _ rfl h hP hD hS dX12_apart_278
      · replace h := h.2 cq
        refine lv_aload_n hx hb dX12_apart_83 rfl (lv_at hl 0 rfl) ?_
        refine va_get (D := g.1) (ci := 11) (v := .ref h_this_pairs) (C := RX12) (T := TX12) (N := 30) hx hb hts iX12 hown hK hP 0 rfl rfl 28 (by decide) f84 (fun _ h9 => h9) rfl dX12_apart_84 ?_
        refine lv_iload hx hb dX12_apart_87 (lv_at hl 3 rfl) ?_
        obtain ⟨hi, h⟩ := h
        refine va_iald (D := g.1) (n := 144) (f := c_pairs) hx hb hK hP 5 0 rfl rfl hi dX12_apart_89 ?_
        refine lv_bipush (v := (nI 12)) hx hb dX12_apart_90 (by decide) ?_
        refine lv_idiv hx hb dX12_apart_92 (by decide) ?_
        refine lv_istore (lv' := [(6, .int ((c_pairs (Int32.toNatClampNeg x5)) / (nI 12))), (0, .ref h_this), (1, .int x1), (4, .int x4), (5, .int x5)]) hx hb dX12_apart_93 hl (by decide) rfl (fun ls hl => ?_)
        refine lv_aload_n hx hb dX12_apart_95 rfl (lv_at hl 1 rfl) ?_
        refine va_get (D := g.1) (ci := 11) (v := .ref h_this_pairs) (C := RX12) (T := TX12) (N := 30) hx hb hts iX12 hown hK hP 0 rfl rfl 28 (by decide) f84 (fun _ h9 => h9) rfl dX12_apart_96 ?_
        refine lv_iload hx hb dX12_apart_99 (lv_at hl 4 rfl) ?_
        obtain ⟨hi, h⟩ := h
        refine va_iald (D := g.1) (n := 144) (f := c_pairs) hx hb hK hP 5 0 rfl rfl hi dX12_apart_101 ?_
        refine lv_bipush (v := (nI 12)) hx hb dX12_apart_102 (by decide) ?_
        refine lv_irem hx hb dX12_apart_104 (by decide) ?_
        refine lv_istore (lv' := [(7, .int ((c_pairs (Int32.toNatClampNeg x5)) - (c_pairs (Int32.toNatClampNeg x5)) / (nI 12) * (nI 12))), (6, .int ((c_pairs (Int32.toNatClampNeg x5)) / (nI 12))), (0, .ref h_this), (1, .int x1), (4, .int x4), (5, .int x5)]) hx hb dX12_apart_105 hl (by decide) rfl (fun ls hl => ?_)
        refine lv_aload_n hx hb dX12_apart_107 rfl (lv_at hl 2 rfl) ?_
        refine va_get (D := g.1) (ci := 11) (v := .ref h_this_light) (C := RX12) (T := TX12) (N := 30) hx hb hts iX12 hown hK hP 0 rfl rfl 4 (by decide) f19 (fun _ h9 => h9) rfl dX12_apart_108 ?_
        refine lv_bipush (v := (nI 12)) hx hb dX12_apart_111 (by decide) ?_
        refine lv_iload_n hx hb dX12_apart_113 rfl (lv_at hl 3 rfl) ?_
        refine lv_imul hx hb dX12_apart_114 ?_
        refine lv_iload hx hb dX12_apart_115 (lv_at hl 1 rfl) ?_
        refine lv_iadd hx hb dX12_apart_117 ?_
        obtain ⟨hi, h⟩ := h
        refine va_iald (D := g.1) (n := 72) (f := c_light) hx hb hK hP 4 0 rfl rfl hi dX12_apart_118 ?_
        refine lv_aload_n hx hb dX12_apart_119 rfl (lv_at hl 2 rfl) ?_
        refine va_get (D := g.1) (ci := 11) (v := .ref h_this_light) (C := RX12) (T := TX12) (N := 30) hx hb hts iX12 hown hK hP 0 rfl rfl 4 (by decide) f19 (fun _ h9 => h9) rfl dX12_apart_120 ?_
        refine lv_bipush (v := (nI 12)) hx hb dX12_apart_123 (by decide) ?_
        refine lv_iload_n hx hb dX12_apart_125 rfl (lv_at hl 3 rfl) ?_
        refine lv_imul hx hb dX12_apart_126 ?_
        refine lv_iload hx hb dX12_apart_127 (lv_at hl 0 rfl) ?_
        refine lv_iadd hx hb dX12_apart_129 ?_
        obtain ⟨hi, h⟩ := h
        refine va_iald (D := g.1) (n := 72) (f := c_light) hx hb hK hP 4 0 rfl rfl hi dX12_apart_130 ?_
        refine lv_icmp_eq (tgt := 147) hx hb dX12_apart_131 (by decide) (fun cq => ?_) (fun cq => ?_)
        · replace h := h.1 cq
          refine lv_iconst (v := (nI 0)) hx hb dX12_apart_147 (by decide) ?_
          refine lv_istore (lv' := [(8, .int (nI 0)), (7, .int ((c_pairs (Int32.toNatClampNeg x5)) - (c_pairs (Int32.toNatClampNeg x5)) / (nI 12) * (nI 12))), (6, .int ((c_pairs (Int32.toNatClampNeg x5)) / (nI 12))), (0, .ref h_this), (1, .int x1), (4, .int x4), (5, .int x5)]) hx hb dX12_apart_148 hl (by decide) rfl (fun ls hl => ?_)
          obtain ⟨n, h⟩ := h
          exact K_150 x5 ((c_pairs (Int32.toNatClampNeg x5)) / (nI 12)) ((c_pairs (Int32.toNatClampNeg x5)) - (c_pairs (Int32.toNatClampNeg x5)) / (nI 12) * (nI 12)) n x4 (nI 0) c_pairs c_pairLong h _ _ hP hD hS _ (lv_sub hl [3, 4, 5, 6, 2, 1, 0] rfl)
        · replace h := h.2 cq
          exact K_134 x5 c_pairs c_pairLong h _ _ hP hD hS _ (lv_sub hl [2, 5] rfl)
  have K_46 : ∀ (c_pairs : Nat → Int32) (c_pairLong : Nat → Int32) , J_X12_apart_46 c_letters c_moves c_light x1 x2 x3 Q c_pairs c_pairLong → ∀ (H : Heap) (locs : List Loc), va_P g.1 vwCl (cw_X12_apart g h_this h_this_states h_this_letters h_this_moves h_this_light h_this_price h_this_share h_this_word h_this_queue h_this_cameFrom h_this_cameBy h_this_isKnown h_this_isJoined h_this_made h_this_pairWord h_this_bestWord h_this_sum h_this_isSettled h_this_heapSum h_this_heapSet h_this_worth h_this_worthNext h_this_order h_this_hadMoves h_this_row h_this_pairs h_this_pairLong c_machines c_wordLong c_queued c_heaped c_states c_letters c_moves c_light c_pairs c_pairLong) H → va_D A (cw_X12_apart g h_this h_this_states h_this_letters h_this_moves h_this_light h_this_price h_this_share h_this_word h_this_queue h_this_cameFrom h_this_cameBy h_this_isKnown h_this_isJoined h_this_made h_this_pairWord h_this_bestWord h_this_sum h_this_isSettled h_this_heapSum h_this_heapSet h_this_worth h_this_worthNext h_this_order h_this_hadMoves h_this_row h_this_pairs h_this_pairLong c_machines c_wordLong c_queued c_heaped c_states c_letters c_moves c_light c_pairs c_pairLong) → va_S A s.heap H locs → ∀ ls : Array Slot, lv_has ls 11 [(0, .ref h_this), (1, .int x1), (2, .int x2), (3, .int x3)] → W p l e rm_X12_apart s m args below meth c H locs 0 0 QQ (F0 m 46 ls []) := by
    intro c_pairs c_pairLong h H locs hP hD hS ls hl
    unfold J_X12_apart_46 at h
    refine lv_iconst (v := (nI 1)) hx hb dX12_apart_46 (by decide) ?_
    refine lv_istore (lv' := [(4, .int (nI 1)), (0, .ref h_this), (1, .int x1), (2, .int x2), (3, .int x3)]) hx hb dX12_apart_47 hl (by decide) rfl (fun ls hl => ?_)
    refine lv_aload_n hx hb dX12_apart_49 rfl (lv_at hl 1 rfl) ?_
    refine va_get (D := g.1) (ci := 11) (v := .ref h_this_pairs) (C := RX12) (T := TX12) (N := 30) hx hb hts iX12 hown hK hP 0 rfl rfl 28 (by decide) f84 (fun _ h9 => h9) rfl dX12_apart_50 ?_
    refine lv_iconst (v := (nI 0)) hx hb dX12_apart_53 (by decide) ?_
    refine lv_bipush (v := (nI 12)) hx hb dX12_apart_54 (by decide) ?_
    refine lv_iload_n hx hb dX12_apart_56 rfl (lv_at hl 3 rfl) ?_
    refine lv_imul hx hb dX12_apart_57 ?_
    refine lv_iload_n hx hb dX12_apart_58 rfl (lv_at hl 4 rfl) ?_
    refine lv_iadd hx hb dX12_apart_59 ?_
    obtain ⟨hi, h⟩ := h
    refine va_iast (D := g.1) (n := 144) (f := c_pairs) hx hb hK hP hD hS 5 0 rfl rfl hi dX12_apart_60 (fun H locs hP hD hS => ?_)
    have hP : va_P g.1 vwCl (cw_X12_apart g h_this h_this_states h_this_letters h_this_moves h_this_light h_this_price h_this_share h_this_word h_this_queue h_this_cameFrom h_this_cameBy h_this_isKnown h_this_isJoined h_this_made h_this_pairWord h_this_bestWord h_this_sum h_this_isSettled h_this_heapSum h_this_heapSet h_this_worth h_this_worthNext h_this_order h_this_hadMoves h_this_row h_this_pairs h_this_pairLong c_machines c_wordLong c_queued c_heaped c_states c_letters c_moves c_light (upd c_pairs (Int32.toNatClampNeg (nI 0)) (((nI 12) * x2) + x3)) c_pairLong) H := hP
    have hD : va_D A (cw_X12_apart g h_this h_this_states h_this_letters h_this_moves h_this_light h_this_price h_this_share h_this_word h_this_queue h_this_cameFrom h_this_cameBy h_this_isKnown h_this_isJoined h_this_made h_this_pairWord h_this_bestWord h_this_sum h_this_isSettled h_this_heapSum h_this_heapSet h_this_worth h_this_worthNext h_this_order h_this_hadMoves h_this_row h_this_pairs h_this_pairLong c_machines c_wordLong c_queued c_heaped c_states c_letters c_moves c_light (upd c_pairs (Int32.toNatClampNeg (nI 0)) (((nI 12) * x2) + x3)) c_pairLong) := hD
    refine lv_aload_n hx hb dX12_apart_61 rfl (lv_at hl 1 rfl) ?_
    refine va_get (D := g.1) (ci := 11) (v := .ref h_this_pairLong) (C := RX12) (T := TX12) (N := 30) hx hb hts iX12 hown hK hP 0 rfl rfl 29 (by decide) f87 (fun _ h9 => h9) rfl dX12_apart_62 ?_
    refine lv_aload_n hx hb dX12_apart_65 rfl (lv_at hl 1 rfl) ?_
    refine va_get (D := g.1) (ci := 11) (v := .ref h_this_pairs) (C := RX12) (T := TX12) (N := 30) hx hb hts iX12 hown hK hP 0 rfl rfl 28 (by decide) f84 (fun _ h9 => h9) rfl dX12_apart_66 ?_
    refine lv_iconst (v := (nI 0)) hx hb dX12_apart_69 (by decide) ?_
    obtain ⟨hi, h⟩ := h
    refine va_iald (D := g.1) (n := 144) (f := (upd c_pairs (Int32.toNatClampNeg (nI 0)) (((nI 12) * x2) + x3))) hx hb hK hP 5 0 rfl rfl hi dX12_apart_70 ?_
    refine lv_iconst (v := (nI 0)) hx hb dX12_apart_71 (by decide) ?_
    obtain ⟨hi, h⟩ := h
    refine va_iast (D := g.1) (n := 144) (f := c_pairLong) hx hb hK hP hD hS 6 0 rfl rfl hi dX12_apart_72 (fun H locs hP hD hS => ?_)
    have hP : va_P g.1 vwCl (cw_X12_apart g h_this h_this_states h_this_letters h_this_moves h_this_light h_this_price h_this_share h_this_word h_this_queue h_this_cameFrom h_this_cameBy h_this_isKnown h_this_isJoined h_this_made h_this_pairWord h_this_bestWord h_this_sum h_this_isSettled h_this_heapSum h_this_heapSet h_this_worth h_this_worthNext h_this_order h_this_hadMoves h_this_row h_this_pairs h_this_pairLong c_machines c_wordLong c_queued c_heaped c_states c_letters c_moves c_light (upd c_pairs (Int32.toNatClampNeg (nI 0)) (((nI 12) * x2) + x3)) (upd c_pairLong (Int32.toNatClampNeg ((upd c_pairs (Int32.toNatClampNeg (nI 0)) (((nI 12) * x2) + x3)) (Int32.toNatClampNeg (nI 0)))) (nI 0))) H := hP
    have hD : va_D A (cw_X12_apart g h_this h_this_states h_this_letters h_this_moves h_this_light h_this_price h_this_share h_this_word h_this_queue h_this_cameFrom h_this_cameBy h_this_isKnown h_this_isJoined h_this_made h_this_pairWord h_this_bestWord h_this_sum h_this_isSettled h_this_heapSum h_this_heapSet h_this_worth h_this_worthNext h_this_order h_this_hadMoves h_this_row h_this_pairs h_this_pairLong c_machines c_wordLong c_queued c_heaped c_states c_letters c_moves c_light (upd c_pairs (Int32.toNatClampNeg (nI 0)) (((nI 12) * x2) + x3)) (upd c_pairLong (Int32.toNatClampNeg ((upd c_pairs (Int32.toNatClampNeg (nI 0)) (((nI 12) * x2) + x3)) (Int32.toNatClampNeg (nI 0)))) (nI 0))) := hD
    refine lv_iconst (v := (nI 0)) hx hb dX12_apart_73 (by decide) ?_
    refine lv_istore (lv' := [(5, .int (nI 0)), (4, .int (nI 1)), (0, .ref h_this), (1, .int x1), (2, .int x2), (3, .int x3)]) hx hb dX12_apart_74 hl (by decide) rfl (fun ls hl => ?_)
    obtain ⟨n, h⟩ := h
    exact K_76 n (nI 1) (nI 0) (upd c_pairs (Int32.toNatClampNeg (nI 0)) (((nI 12) * x2) + x3)) (upd c_pairLong (Int32.toNatClampNeg ((upd c_pairs (Int32.toNatClampNeg (nI 0)) (((nI 12) * x2) + x3)) (Int32.toNatClampNeg (nI 0)))) (nI 0)) h _ _ hP hD hS _ (lv_sub hl [2, 3, 1, 0] rfl)
  have K_24 : ∀ (c_pairs : Nat → Int32) (n_24 : Nat) (x4 : Int32) (c_pairLong : Nat → Int32) , L_X12_apart_24 c_letters c_moves c_light c_pairs x1 x2 x3 Q n_24 x4 c_pairLong → ∀ (H : Heap) (locs : List Loc), va_P g.1 vwCl (cw_X12_apart g h_this h_this_states h_this_letters h_this_moves h_this_light h_this_price h_this_share h_this_word h_this_queue h_this_cameFrom h_this_cameBy h_this_isKnown h_this_isJoined h_this_made h_this_pairWord h_this_bestWord h_this_sum h_this_isSettled h_this_heapSum h_this_heapSet h_this_worth h_this_worthNext h_this_order h_this_hadMoves h_this_row h_this_pairs h_this_pairLong c_machines c_wordLong c_queued c_heaped c_states c_letters c_moves c_light c_pairs c_pairLong) H → va_D A (cw_X12_apart g h_this h_this_states h_this_letters h_this_moves h_this_light h_this_price h_this_share h_this_word h_this_queue h_this_cameFrom h_this_cameBy h_this_isKnown h_this_isJoined h_this_made h_this_pairWord h_this_bestWord h_this_sum h_this_isSettled h_this_heapSum h_this_heapSet h_this_worth h_this_worthNext h_this_order h_this_hadMoves h_this_row h_this_pairs h_this_pairLong c_machines c_wordLong c_queued c_heaped c_states c_letters c_moves c_light c_pairs c_pairLong) → va_S A s.heap H locs → ∀ ls : Array Slot, lv_has ls 11 [(0, .ref h_this), (1, .int x1), (2, .int x2), (3, .int x3), (4, .int x4)] → W p l e rm_X12_apart s m args below meth c H locs 0 0 QQ (F0 m 24 ls []) := by
    intro c_pairs n_24
    induction n_24 with
    | zero => intro x4 c_pairLong; exact fun h => False.elim h
    | succ n_24 ih_24 =>
      intro x4 c_pairLong h H locs hP hD hS ls hl
      unfold L_X12_apart_24 at h
      refine lv_iload hx hb dX12_apart_24 (lv_at hl 4 rfl) ?_
      refine lv_sipush (v := (nI 144)) hx hb dX12_apart_26 (by decide) ?_
      refine lv_icmp_ge (tgt := 46) hx hb dX12_apart_29 (by decide) (fun cq => ?_) (fun cq => ?_)
      · replace h := h.1 cq
        exact K_46 c_pairs c_pairLong h _ _ hP hD hS _ (lv_sub hl [0, 1, 2, 3] rfl)
      · replace h := h.2 cq
        refine lv_aload_n hx hb dX12_apart_32 rfl (lv_at hl 0 rfl) ?_
        refine va_get (D := g.1) (ci := 11) (v := .ref h_this_pairLong) (C := RX12) (T := TX12) (N := 30) hx hb hts iX12 hown hK hP 0 rfl rfl 29 (by decide) f87 (fun _ h9 => h9) rfl dX12_apart_33 ?_
        refine lv_iload hx hb dX12_apart_36 (lv_at hl 4 rfl) ?_
        refine lv_iconst (v := (-1)) hx hb dX12_apart_38 (by decide) ?_
        obtain ⟨hi, h⟩ := h
        refine va_iast (D := g.1) (n := 144) (f := c_pairLong) hx hb hK hP hD hS 6 0 rfl rfl hi dX12_apart_39 (fun H locs hP hD hS => ?_)
        have hP : va_P g.1 vwCl (cw_X12_apart g h_this h_this_states h_this_letters h_this_moves h_this_light h_this_price h_this_share h_this_word h_this_queue h_this_cameFrom h_this_cameBy h_this_isKnown h_this_isJoined h_this_made h_this_pairWord h_this_bestWord h_this_sum h_this_isSettled h_this_heapSum h_this_heapSet h_this_worth h_this_worthNext h_this_order h_this_hadMoves h_this_row h_this_pairs h_this_pairLong c_machines c_wordLong c_queued c_heaped c_states c_letters c_moves c_light c_pairs (upd c_pairLong (Int32.toNatClampNeg x4) (-1))) H := hP
        have hD : va_D A (cw_X12_apart g h_this h_this_states h_this_letters h_this_moves h_this_light h_this_price h_this_share h_this_word h_this_queue h_this_cameFrom h_this_cameBy h_this_isKnown h_this_isJoined h_this_made h_this_pairWord h_this_bestWord h_this_sum h_this_isSettled h_this_heapSum h_this_heapSet h_this_worth h_this_worthNext h_this_order h_this_hadMoves h_this_row h_this_pairs h_this_pairLong c_machines c_wordLong c_queued c_heaped c_states c_letters c_moves c_light c_pairs (upd c_pairLong (Int32.toNatClampNeg x4) (-1))) := hD
        refine lv_iinc (v := (x4 + (nI 1))) (lv' := [(4, .int (x4 + (nI 1))), (0, .ref h_this), (1, .int x1), (2, .int x2), (3, .int x3)]) hx hb dX12_apart_40 hl (k := 4) rfl rfl (by decide) rfl (fun ls hl => ?_)
        refine lv_goto (tgt := 24) hx hb dX12_apart_43 (by decide) ?_
        exact ih_24 (x4 + (nI 1)) (upd c_pairLong (Int32.toNatClampNeg x4) (-1)) h _ _ hP hD hS _ (lv_sub hl [1, 2, 3, 4, 0] rfl)
  refine lv_aload_n hx hb dX12_apart_0 rfl (lv_at hl 0 rfl) ?_
  refine lv_iload_n hx hb dX12_apart_1 rfl (lv_at hl 1 rfl) ?_
  refine lv_iload_n hx hb dX12_apart_2 rfl (lv_at hl 2 rfl) ?_
  refine go_I E (run_V E ((k_X12_isState l g h_this h_this_states h_this_letters h_this_moves h_this_light h_this_price h_this_share h_this_word h_this_queue h_this_cameFrom h_this_cameBy h_this_isKnown h_this_isJoined h_this_made h_this_pairWord h_this_bestWord h_this_sum h_this_isSettled h_this_heapSum h_this_heapSet h_this_worth h_this_worthNext h_this_order h_this_hadMoves h_this_row h_this_pairs h_this_pairLong h) _) (cwV 2 hts gX12_apart_X12_isState rfl rfl rfl (by decide +kernel) ⟨Nat.le_of_ble_eq_true rfl, Nat.le_of_ble_eq_true rfl⟩) hP hD hS [0, 1] rfl rfl 0 11 rfl rfl rfl hl rfl rfl (Nat.le_of_ble_eq_true rfl) dX12_apart_3 ⟨Nat.le_of_ble_eq_true rfl, Nat.le_of_ble_eq_true rfl⟩) hP hD hS [0, 1] rfl [(false, 0), (false, 1), (true, 2), (true, 3), (true, 4), (true, 5), (true, 6)] rfl (by decide) (fun _ => (cw_X12_apart g h_this h_this_states h_this_letters h_this_moves h_this_light h_this_price h_this_share h_this_word h_this_queue h_this_cameFrom h_this_cameBy h_this_isKnown h_this_isJoined h_this_made h_this_pairWord h_this_bestWord h_this_sum h_this_isSettled h_this_heapSum h_this_heapSet h_this_worth h_this_worthNext h_this_order h_this_hadMoves h_this_row h_this_pairs h_this_pairLong c_machines c_wordLong c_queued c_heaped c_states c_letters c_moves c_light c_pairs c_pairLong)) (fun _ => rfl) (fun r2 _ H locs h hP hD hS => ?_)
  try dsimp only at h
  have hP : va_P g.1 vwCl (cw_X12_apart g h_this h_this_states h_this_letters h_this_moves h_this_light h_this_price h_this_share h_this_word h_this_queue h_this_cameFrom h_this_cameBy h_this_isKnown h_this_isJoined h_this_made h_this_pairWord h_this_bestWord h_this_sum h_this_isSettled h_this_heapSum h_this_heapSet h_this_worth h_this_worthNext h_this_order h_this_hadMoves h_this_row h_this_pairs h_this_pairLong c_machines c_wordLong c_queued c_heaped c_states c_letters c_moves c_light c_pairs c_pairLong) H := hP
  have hD : va_D A (cw_X12_apart g h_this h_this_states h_this_letters h_this_moves h_this_light h_this_price h_this_share h_this_word h_this_queue h_this_cameFrom h_this_cameBy h_this_isKnown h_this_isJoined h_this_made h_this_pairWord h_this_bestWord h_this_sum h_this_isSettled h_this_heapSum h_this_heapSet h_this_worth h_this_worthNext h_this_order h_this_hadMoves h_this_row h_this_pairs h_this_pairLong c_machines c_wordLong c_queued c_heaped c_states c_letters c_moves c_light c_pairs c_pairLong) := hD
  refine lv_if_eq (tgt := 18) hx hb dX12_apart_6 (by decide) (fun cq => ?_) (fun cq => ?_)
  · replace h := h.1 cq
    refine lv_bipush (v := (-2)) hx hb dX12_apart_18 (by decide) ?_
    exact hret (-2) (c_pairs, c_pairLong) _ _ _ _ rfl h hP hD hS dX12_apart_20
  · replace h := h.2 cq
    refine lv_aload_n hx hb dX12_apart_9 rfl (lv_at hl 0 rfl) ?_
    refine lv_iload_n hx hb dX12_apart_10 rfl (lv_at hl 1 rfl) ?_
    refine lv_iload_n hx hb dX12_apart_11 rfl (lv_at hl 3 rfl) ?_
    refine go_I E (run_V E ((k_X12_isState l g h_this h_this_states h_this_letters h_this_moves h_this_light h_this_price h_this_share h_this_word h_this_queue h_this_cameFrom h_this_cameBy h_this_isKnown h_this_isJoined h_this_made h_this_pairWord h_this_bestWord h_this_sum h_this_isSettled h_this_heapSum h_this_heapSet h_this_worth h_this_worthNext h_this_order h_this_hadMoves h_this_row h_this_pairs h_this_pairLong h) _) (cwV 2 hts gX12_apart_X12_isState rfl rfl rfl (by decide +kernel) ⟨Nat.le_of_ble_eq_true rfl, Nat.le_of_ble_eq_true rfl⟩) hP hD hS [0, 1] rfl rfl 0 11 rfl rfl rfl hl rfl rfl (Nat.le_of_ble_eq_true rfl) dX12_apart_12 ⟨Nat.le_of_ble_eq_true rfl, Nat.le_of_ble_eq_true rfl⟩) hP hD hS [0, 1] rfl [(false, 0), (false, 1), (true, 2), (true, 3), (true, 4), (true, 5), (true, 6)] rfl (by decide) (fun _ => (cw_X12_apart g h_this h_this_states h_this_letters h_this_moves h_this_light h_this_price h_this_share h_this_word h_this_queue h_this_cameFrom h_this_cameBy h_this_isKnown h_this_isJoined h_this_made h_this_pairWord h_this_bestWord h_this_sum h_this_isSettled h_this_heapSum h_this_heapSet h_this_worth h_this_worthNext h_this_order h_this_hadMoves h_this_row h_this_pairs h_this_pairLong c_machines c_wordLong c_queued c_heaped c_states c_letters c_moves c_light c_pairs c_pairLong)) (fun _ => rfl) (fun r4 _ H locs h hP hD hS => ?_)
    try dsimp only at h
    have hP : va_P g.1 vwCl (cw_X12_apart g h_this h_this_states h_this_letters h_this_moves h_this_light h_this_price h_this_share h_this_word h_this_queue h_this_cameFrom h_this_cameBy h_this_isKnown h_this_isJoined h_this_made h_this_pairWord h_this_bestWord h_this_sum h_this_isSettled h_this_heapSum h_this_heapSet h_this_worth h_this_worthNext h_this_order h_this_hadMoves h_this_row h_this_pairs h_this_pairLong c_machines c_wordLong c_queued c_heaped c_states c_letters c_moves c_light c_pairs c_pairLong) H := hP
    have hD : va_D A (cw_X12_apart g h_this h_this_states h_this_letters h_this_moves h_this_light h_this_price h_this_share h_this_word h_this_queue h_this_cameFrom h_this_cameBy h_this_isKnown h_this_isJoined h_this_made h_this_pairWord h_this_bestWord h_this_sum h_this_isSettled h_this_heapSum h_this_heapSet h_this_worth h_this_worthNext h_this_order h_this_hadMoves h_this_row h_this_pairs h_this_pairLong c_machines c_wordLong c_queued c_heaped c_states c_letters c_moves c_light c_pairs c_pairLong) := hD
    refine lv_if_ne (tgt := 21) hx hb dX12_apart_15 (by decide) (fun cq => ?_) (fun cq => ?_)
    · replace h := h.1 cq
      refine lv_iconst (v := (nI 0)) hx hb dX12_apart_21 (by decide) ?_
      refine lv_istore (lv' := [(4, .int (nI 0)), (0, .ref h_this), (1, .int x1), (2, .int x2), (3, .int x3)]) hx hb dX12_apart_22 hl (by decide) rfl (fun ls hl => ?_)
      obtain ⟨n, h⟩ := h
      exact K_24 c_pairs n (nI 0) c_pairLong h _ _ hP hD hS _ (lv_sub hl [1, 2, 3, 4, 0] rfl)
    · replace h := h.2 cq
      refine lv_bipush (v := (-2)) hx hb dX12_apart_18 (by decide) ?_
      exact hret (-2) (c_pairs, c_pairLong) _ _ _ _ rfl h hP hD hS dX12_apart_20
abbrev cw_X12_count (g : GG) (h_this : Nat) (h_this_states : Nat) (h_this_letters : Nat) (h_this_moves : Nat) (h_this_light : Nat) (h_this_price : Nat) (h_this_share : Nat) (h_this_word : Nat) (h_this_queue : Nat) (h_this_cameFrom : Nat) (h_this_cameBy : Nat) (h_this_isKnown : Nat) (h_this_isJoined : Nat) (h_this_made : Nat) (h_this_pairWord : Nat) (h_this_bestWord : Nat) (h_this_sum : Nat) (h_this_isSettled : Nat) (h_this_heapSum : Nat) (h_this_heapSet : Nat) (h_this_worth : Nat) (h_this_worthNext : Nat) (h_this_order : Nat) (h_this_hadMoves : Nat) (h_this_row : Nat) (h_this_pairs : Nat) (h_this_pairLong : Nat) (c_machines : Int32) (c_wordLong : Int32) (c_queued : Int32) (c_heaped : Int32) : va_W := [(h_this, .inr (11, [.int c_machines, .ref h_this_states, .ref h_this_letters, .ref h_this_moves, .ref h_this_light, .ref h_this_price, .ref h_this_share, .int c_wordLong, .ref h_this_word, .int c_queued, .ref h_this_queue, .ref h_this_cameFrom, .ref h_this_cameBy, .ref h_this_isKnown, .ref h_this_isJoined, .ref h_this_made, .ref h_this_pairWord, .ref h_this_bestWord, .ref h_this_sum, .ref h_this_isSettled, .ref h_this_heapSum, .ref h_this_heapSet, .int c_heaped, .ref h_this_worth, .ref h_this_worthNext, .ref h_this_order, .ref h_this_hadMoves, .ref h_this_row, .ref h_this_pairs, .ref h_this_pairLong]))]
def wp_X12_count (c_machines : Int32) (c_wordLong : Int32) (c_queued : Int32) (c_heaped : Int32) (x1 : Int32) (Q : Int32 → Prop) : Prop :=
    ((¬ x1 = (nI 0) → ((¬ x1 = (nI 1) → Q (-2)) ∧ (x1 = (nI 1) → Q c_wordLong))) ∧ (x1 = (nI 0) → Q c_machines))
abbrev rm_X12_count : Room := { frames := 0, cells := 0, slots := 0, locals := 0 }
set_option maxHeartbeats 4000000 in
set_option maxRecDepth 100000 in
theorem k_X12_count (l : Launch) (g : GG) (h_this : Nat) (h_this_states : Nat) (h_this_letters : Nat) (h_this_moves : Nat) (h_this_light : Nat) (h_this_price : Nat) (h_this_share : Nat) (h_this_word : Nat) (h_this_queue : Nat) (h_this_cameFrom : Nat) (h_this_cameBy : Nat) (h_this_isKnown : Nat) (h_this_isJoined : Nat) (h_this_made : Nat) (h_this_pairWord : Nat) (h_this_bestWord : Nat) (h_this_sum : Nat) (h_this_isSettled : Nat) (h_this_heapSum : Nat) (h_this_heapSet : Nat) (h_this_worth : Nat) (h_this_worthNext : Nat) (h_this_order : Nat) (h_this_hadMoves : Nat) (h_this_row : Nat) (h_this_pairs : Nat) (h_this_pairLong : Nat) {c_machines : Int32} {c_wordLong : Int32} {c_queued : Int32} {c_heaped : Int32} {x1 : Int32} {Q : Int32 → Prop} (h : wp_X12_count c_machines c_wordLong c_queued c_heaped x1 Q) : CI l g yX12_count wsX12_count rm_X12_count [.ref h_this, .int x1] (cw_X12_count g h_this h_this_states h_this_letters h_this_moves h_this_light h_this_price h_this_share h_this_word h_this_queue h_this_cameFrom h_this_cameBy h_this_isKnown h_this_isJoined h_this_made h_this_pairWord h_this_bestWord h_this_sum h_this_isSettled h_this_heapSum h_this_heapSet h_this_worth h_this_worthNext h_this_order h_this_hadMoves h_this_row h_this_pairs h_this_pairLong c_machines c_wordLong c_queued c_heaped) (S := Unit) (fun _ => (cw_X12_count g h_this h_this_states h_this_letters h_this_moves h_this_light h_this_price h_this_share h_this_word h_this_queue h_this_cameFrom h_this_cameBy h_this_isKnown h_this_isJoined h_this_made h_this_pairWord h_this_bestWord h_this_sum h_this_isSettled h_this_heapSum h_this_heapSet h_this_worth h_this_worthNext h_this_order h_this_hadMoves h_this_row h_this_pairs h_this_pairLong c_machines c_wordLong c_queued c_heaped)) (fun r _ => Q r) 0 0 := by
  refine mk_I (cc := cX12_count) (maxL := 2) (own := RX12) (by decide) rfl rfl (Nat.le_of_ble_eq_true rfl) ?_
  intro p e s m args below meth c A QQ E hret hP hD hS ls hl
  have E2 := E
  obtain ⟨hx, hb, hr, hml, hown, hts, hlocks, hA, hZ, hK, hnm⟩ := E2
  have f123 := hts (.fieldLink RX12 123 "WordBenchModel" "wordLong" "I") (by decide +kernel)
  have f90 := hts (.fieldLink RX12 90 "WordBenchModel" "machines" "I") (by decide +kernel)
  have iX12 : ∀ w ∈ wsX120, w ∈ wsX12_count := fun _ h => List.mem_cons_of_mem _ (List.mem_append_right _ h)
  have hP : va_P g.1 vwCl (cw_X12_count g h_this h_this_states h_this_letters h_this_moves h_this_light h_this_price h_this_share h_this_word h_this_queue h_this_cameFrom h_this_cameBy h_this_isKnown h_this_isJoined h_this_made h_this_pairWord h_this_bestWord h_this_sum h_this_isSettled h_this_heapSum h_this_heapSet h_this_worth h_this_worthNext h_this_order h_this_hadMoves h_this_row h_this_pairs h_this_pairLong c_machines c_wordLong c_queued c_heaped) s.heap := hP
  have hD : va_D A (cw_X12_count g h_this h_this_states h_this_letters h_this_moves h_this_light h_this_price h_this_share h_this_word h_this_queue h_this_cameFrom h_this_cameBy h_this_isKnown h_this_isJoined h_this_made h_this_pairWord h_this_bestWord h_this_sum h_this_isSettled h_this_heapSum h_this_heapSet h_this_worth h_this_worthNext h_this_order h_this_hadMoves h_this_row h_this_pairs h_this_pairLong c_machines c_wordLong c_queued c_heaped) := hD
  have hl : lv_has ls 2 [(0, .ref h_this), (1, .int x1)] := hl
  unfold wp_X12_count at h
  refine lv_iload_n hx hb dX12_count_0 rfl (lv_at hl 1 rfl) ?_
  refine lv_if_ne (tgt := 11) hx hb dX12_count_1 (by decide) (fun cq => ?_) (fun cq => ?_)
  · replace h := h.1 cq
    refine lv_iload_n hx hb dX12_count_11 rfl (lv_at hl 1 rfl) ?_
    refine lv_iconst (v := (nI 1)) hx hb dX12_count_12 (by decide) ?_
    refine lv_icmp_ne (tgt := 23) hx hb dX12_count_13 (by decide) (fun cq => ?_) (fun cq => ?_)
    · replace h := h.1 cq
      refine lv_bipush (v := (-2)) hx hb dX12_count_23 (by decide) ?_
      exact hret (-2) () _ _ _ _ rfl h hP hD hS dX12_count_25
    · replace h := h.2 cq
      refine lv_aload_n hx hb dX12_count_16 rfl (lv_at hl 0 rfl) ?_
      refine va_get (D := g.1) (ci := 11) (v := .int c_wordLong) (C := RX12) (T := TX12) (N := 30) hx hb hts iX12 hown hK hP 0 rfl rfl 7 (by decide) f123 (fun _ h9 => h9) rfl dX12_count_17 ?_
      refine lv_goto (tgt := 25) hx hb dX12_count_20 (by decide) ?_
      exact hret c_wordLong () _ _ _ _ rfl h hP hD hS dX12_count_25
  · replace h := h.2 cq
    refine lv_aload_n hx hb dX12_count_4 rfl (lv_at hl 0 rfl) ?_
    refine va_get (D := g.1) (ci := 11) (v := .int c_machines) (C := RX12) (T := TX12) (N := 30) hx hb hts iX12 hown hK hP 0 rfl rfl 0 (by decide) f90 (fun _ h9 => h9) rfl dX12_count_5 ?_
    refine lv_goto (tgt := 25) hx hb dX12_count_8 (by decide) ?_
    exact hret c_machines () _ _ _ _ rfl h hP hD hS dX12_count_25
abbrev cw_X12_digest (g : GG) (h_this : Nat) (h_this_states : Nat) (h_this_letters : Nat) (h_this_moves : Nat) (h_this_light : Nat) (h_this_price : Nat) (h_this_share : Nat) (h_this_word : Nat) (h_this_queue : Nat) (h_this_cameFrom : Nat) (h_this_cameBy : Nat) (h_this_isKnown : Nat) (h_this_isJoined : Nat) (h_this_made : Nat) (h_this_pairWord : Nat) (h_this_bestWord : Nat) (h_this_sum : Nat) (h_this_isSettled : Nat) (h_this_heapSum : Nat) (h_this_heapSet : Nat) (h_this_worth : Nat) (h_this_worthNext : Nat) (h_this_order : Nat) (h_this_hadMoves : Nat) (h_this_row : Nat) (h_this_pairs : Nat) (h_this_pairLong : Nat) (c_machines : Int32) (c_wordLong : Int32) (c_queued : Int32) (c_heaped : Int32) (c_states : Nat → Int32) (c_letters : Nat → Int32) (c_moves : Nat → Int32) (c_light : Nat → Int32) (c_price : Nat → Int32) (c_share : Nat → Int32) (c_word : Nat → Int32) : va_W := [(h_this, .inr (11, [.int c_machines, .ref h_this_states, .ref h_this_letters, .ref h_this_moves, .ref h_this_light, .ref h_this_price, .ref h_this_share, .int c_wordLong, .ref h_this_word, .int c_queued, .ref h_this_queue, .ref h_this_cameFrom, .ref h_this_cameBy, .ref h_this_isKnown, .ref h_this_isJoined, .ref h_this_made, .ref h_this_pairWord, .ref h_this_bestWord, .ref h_this_sum, .ref h_this_isSettled, .ref h_this_heapSum, .ref h_this_heapSet, .int c_heaped, .ref h_this_worth, .ref h_this_worthNext, .ref h_this_order, .ref h_this_hadMoves, .ref h_this_row, .ref h_this_pairs, .ref h_this_pairLong])), (h_this_states, .inl (g.2.1, 6, .inl c_states)), (h_this_letters, .inl (g.2.1, 6, .inl c_letters)), (h_this_moves, .inl (g.2.1, 288, .inl c_moves)), (h_this_light, .inl (g.2.1, 72, .inl c_light)), (h_this_price, .inl (g.2.1, 24, .inl c_price)), (h_this_share, .inl (g.2.1, 24, .inl c_share)), (h_this_word, .inl (g.2.1, 600, .inl c_word))]
def L_X12_digest_201 (c_wordLong : Int32) (c_word : Nat → Int32) (Q : Int64 → Prop) : Nat → Int64 → Int32 → Prop
  | 0, _, _ => False
  | n_201 + 1, x1, x3 =>
    ((c_wordLong ≤ x3 → Q x1) ∧ (¬ c_wordLong ≤ x3 → vp_in x3 600 ∧ (L_X12_digest_201 c_wordLong c_word Q n_201) (((lN 31) * x1) + (Int32.toInt64 (c_word (Int32.toNatClampNeg x3)))) (x3 + (nI 1))))
def J_X12_digest_187 (c_wordLong : Int32) (c_word : Nat → Int32) (Q : Int64 → Prop) (x1 : Int64) : Prop :=
    ∃ n, L_X12_digest_201 c_wordLong c_word Q n (((lN 31) * x1) + (Int32.toInt64 c_wordLong)) (nI 0)
def J_X12_digest_181 (R_6 : Int64 → Int32 → Prop) (x1 : Int64) (x3 : Int32) : Prop :=
    R_6 x1 (x3 + (nI 1))
def L_X12_digest_128 (c_letters : Nat → Int32) (c_price : Nat → Int32) (c_share : Nat → Int32) (x3 : Int32) (R_6 : Int64 → Int32 → Prop) : Nat → Int64 → Int32 → Prop
  | 0, _, _ => False
  | n_128 + 1, x1, x4 =>
    vp_in x3 6 ∧ (((c_letters (Int32.toNatClampNeg x3)) ≤ x4 → J_X12_digest_181 R_6 x1 x3) ∧ (¬ (c_letters (Int32.toNatClampNeg x3)) ≤ x4 → vp_in (((nI 4) * x3) + x4) 24 ∧ vp_in (((nI 4) * x3) + x4) 24 ∧ (L_X12_digest_128 c_letters c_price c_share x3 R_6 n_128) (((lN 31) * (((lN 31) * x1) + (Int32.toInt64 (c_price (Int32.toNatClampNeg (((nI 4) * x3) + x4)))))) + (Int32.toInt64 (c_share (Int32.toNatClampNeg (((nI 4) * x3) + x4))))) (x4 + (nI 1))))
def J_X12_digest_125 (c_letters : Nat → Int32) (c_price : Nat → Int32) (c_share : Nat → Int32) (R_6 : Int64 → Int32 → Prop) (x1 : Int64) (x3 : Int32) : Prop :=
    ∃ n, L_X12_digest_128 c_letters c_price c_share x3 R_6 n x1 (nI 0)
def J_X12_digest_99 (c_light : Nat → Int32) (x3 : Int32) (R_47 : Int64 → Int32 → Prop) (x1 : Int64) (x4 : Int32) : Prop :=
    vp_in (((nI 12) * x3) + x4) 72 ∧ R_47 (((lN 31) * x1) + (Int32.toInt64 (c_light (Int32.toNatClampNeg (((nI 12) * x3) + x4))))) (x4 + (nI 1))
def L_X12_digest_61 (c_letters : Nat → Int32) (c_moves : Nat → Int32) (c_light : Nat → Int32) (x3 : Int32) (x4 : Int32) (R_47 : Int64 → Int32 → Prop) : Nat → Int64 → Int32 → Prop
  | 0, _, _ => False
  | n_61 + 1, x1, x5 =>
    vp_in x3 6 ∧ (((c_letters (Int32.toNatClampNeg x3)) ≤ x5 → J_X12_digest_99 c_light x3 R_47 x1 x4) ∧ (¬ (c_letters (Int32.toNatClampNeg x3)) ≤ x5 → vp_in ((((nI 48) * x3) + ((nI 4) * x4)) + x5) 288 ∧ (L_X12_digest_61 c_letters c_moves c_light x3 x4 R_47 n_61) (((lN 31) * x1) + (Int32.toInt64 (c_moves (Int32.toNatClampNeg ((((nI 48) * x3) + ((nI 4) * x4)) + x5))))) (x5 + (nI 1))))
def L_X12_digest_47 (c_states : Nat → Int32) (c_letters : Nat → Int32) (c_moves : Nat → Int32) (c_light : Nat → Int32) (c_price : Nat → Int32) (c_share : Nat → Int32) (x3 : Int32) (R_6 : Int64 → Int32 → Prop) : Nat → Int64 → Int32 → Prop
  | 0, _, _ => False
  | n_47 + 1, x1, x4 =>
    vp_in x3 6 ∧ (((c_states (Int32.toNatClampNeg x3)) ≤ x4 → J_X12_digest_125 c_letters c_price c_share R_6 x1 x3) ∧ (¬ (c_states (Int32.toNatClampNeg x3)) ≤ x4 → ∃ n, L_X12_digest_61 c_letters c_moves c_light x3 x4 (L_X12_digest_47 c_states c_letters c_moves c_light c_price c_share x3 R_6 n_47) n x1 (nI 0)))
def J_X12_digest_44 (c_states : Nat → Int32) (c_letters : Nat → Int32) (c_moves : Nat → Int32) (c_light : Nat → Int32) (c_price : Nat → Int32) (c_share : Nat → Int32) (R_6 : Int64 → Int32 → Prop) (x1 : Int64) (x3 : Int32) : Prop :=
    ∃ n, L_X12_digest_47 c_states c_letters c_moves c_light c_price c_share x3 R_6 n x1 (nI 0)
def L_X12_digest_17 (c_machines : Int32) (c_wordLong : Int32) (c_queued : Int32) (c_heaped : Int32) (c_states : Nat → Int32) (c_letters : Nat → Int32) (c_moves : Nat → Int32) (c_light : Nat → Int32) (c_price : Nat → Int32) (c_share : Nat → Int32) (x3 : Int32) (R_6 : Int64 → Int32 → Prop) : Nat → Int64 → Int32 → Prop
  | 0, _, _ => False
  | n_17 + 1, x1, x4 =>
    (((nI 3) ≤ x4 → J_X12_digest_44 c_states c_letters c_moves c_light c_price c_share R_6 x1 x3) ∧ (¬ (nI 3) ≤ x4 → wp_X12_aboutOf c_machines c_wordLong c_queued c_heaped c_states c_letters c_moves x3 x4 (fun r4 => (L_X12_digest_17 c_machines c_wordLong c_queued c_heaped c_states c_letters c_moves c_light c_price c_share x3 R_6 n_17) (((lN 31) * x1) + (Int32.toInt64 r4)) (x4 + (nI 1)))))
def L_X12_digest_6 (c_machines : Int32) (c_wordLong : Int32) (c_queued : Int32) (c_heaped : Int32) (c_states : Nat → Int32) (c_letters : Nat → Int32) (c_moves : Nat → Int32) (c_light : Nat → Int32) (c_price : Nat → Int32) (c_share : Nat → Int32) (c_word : Nat → Int32) (Q : Int64 → Prop) : Nat → Int64 → Int32 → Prop
  | 0, _, _ => False
  | n_6 + 1, x1, x3 =>
    ((c_machines ≤ x3 → J_X12_digest_187 c_wordLong c_word Q x1) ∧ (¬ c_machines ≤ x3 → ∃ n, L_X12_digest_17 c_machines c_wordLong c_queued c_heaped c_states c_letters c_moves c_light c_price c_share x3 (L_X12_digest_6 c_machines c_wordLong c_queued c_heaped c_states c_letters c_moves c_light c_price c_share c_word Q n_6) n x1 (nI 0)))
def wp_X12_digest (c_machines : Int32) (c_wordLong : Int32) (c_queued : Int32) (c_heaped : Int32) (c_states : Nat → Int32) (c_letters : Nat → Int32) (c_moves : Nat → Int32) (c_light : Nat → Int32) (c_price : Nat → Int32) (c_share : Nat → Int32) (c_word : Nat → Int32) (Q : Int64 → Prop) : Prop :=
    ∃ n, L_X12_digest_6 c_machines c_wordLong c_queued c_heaped c_states c_letters c_moves c_light c_price c_share c_word Q n (lN 163) (nI 0)
abbrev rm_X12_digest : Room := { frames := 3, cells := 0, slots := 0, locals := 68 }
set_option maxHeartbeats 4000000 in
set_option maxRecDepth 100000 in
theorem k_X12_digest (l : Launch) (g : GG) (h_this : Nat) (h_this_states : Nat) (h_this_letters : Nat) (h_this_moves : Nat) (h_this_light : Nat) (h_this_price : Nat) (h_this_share : Nat) (h_this_word : Nat) (h_this_queue : Nat) (h_this_cameFrom : Nat) (h_this_cameBy : Nat) (h_this_isKnown : Nat) (h_this_isJoined : Nat) (h_this_made : Nat) (h_this_pairWord : Nat) (h_this_bestWord : Nat) (h_this_sum : Nat) (h_this_isSettled : Nat) (h_this_heapSum : Nat) (h_this_heapSet : Nat) (h_this_worth : Nat) (h_this_worthNext : Nat) (h_this_order : Nat) (h_this_hadMoves : Nat) (h_this_row : Nat) (h_this_pairs : Nat) (h_this_pairLong : Nat) {c_machines : Int32} {c_wordLong : Int32} {c_queued : Int32} {c_heaped : Int32} {c_states : Nat → Int32} {c_letters : Nat → Int32} {c_moves : Nat → Int32} {c_light : Nat → Int32} {c_price : Nat → Int32} {c_share : Nat → Int32} {c_word : Nat → Int32} {Q : Int64 → Prop} (h : wp_X12_digest c_machines c_wordLong c_queued c_heaped c_states c_letters c_moves c_light c_price c_share c_word Q) : CL l g yX12_digest wsX12_digest rm_X12_digest [.ref h_this] (cw_X12_digest g h_this h_this_states h_this_letters h_this_moves h_this_light h_this_price h_this_share h_this_word h_this_queue h_this_cameFrom h_this_cameBy h_this_isKnown h_this_isJoined h_this_made h_this_pairWord h_this_bestWord h_this_sum h_this_isSettled h_this_heapSum h_this_heapSet h_this_worth h_this_worthNext h_this_order h_this_hadMoves h_this_row h_this_pairs h_this_pairLong c_machines c_wordLong c_queued c_heaped c_states c_letters c_moves c_light c_price c_share c_word) (S := Unit) (fun _ => (cw_X12_digest g h_this h_this_states h_this_letters h_this_moves h_this_light h_this_price h_this_share h_this_word h_this_queue h_this_cameFrom h_this_cameBy h_this_isKnown h_this_isJoined h_this_made h_this_pairWord h_this_bestWord h_this_sum h_this_isSettled h_this_heapSum h_this_heapSet h_this_worth h_this_worthNext h_this_order h_this_hadMoves h_this_row h_this_pairs h_this_pairLong c_machines c_wordLong c_queued c_heaped c_states c_letters c_moves c_light c_price c_share c_word)) (fun r _ => Q r) 0 0 := by
  refine mk_L (cc := cX12_digest) (maxL := 6) (own := RX12) (by decide) rfl rfl (Nat.le_of_ble_eq_true rfl) ?_
  intro p e s m args below meth c A QQ E hret hP hD hS ls hl
  have E2 := E
  obtain ⟨hx, hb, hr, hml, hown, hts, hlocks, hA, hZ, hK, hnm⟩ := E2
  have f203 := hts (.constantLong RX12 203 (163)) (by decide +kernel)
  have f90 := hts (.fieldLink RX12 90 "WordBenchModel" "machines" "I") (by decide +kernel)
  have f205 := hts (.constantLong RX12 205 (31)) (by decide +kernel)
  have f123 := hts (.fieldLink RX12 123 "WordBenchModel" "wordLong" "I") (by decide +kernel)
  have f28 := hts (.fieldLink RX12 28 "WordBenchModel" "word" "[I") (by decide +kernel)
  have f7 := hts (.fieldLink RX12 7 "WordBenchModel" "states" "[I") (by decide +kernel)
  have f13 := hts (.fieldLink RX12 13 "WordBenchModel" "letters" "[I") (by decide +kernel)
  have f22 := hts (.fieldLink RX12 22 "WordBenchModel" "price" "[I") (by decide +kernel)
  have f25 := hts (.fieldLink RX12 25 "WordBenchModel" "share" "[I") (by decide +kernel)
  have f19 := hts (.fieldLink RX12 19 "WordBenchModel" "light" "[I") (by decide +kernel)
  have f16 := hts (.fieldLink RX12 16 "WordBenchModel" "moves" "[I") (by decide +kernel)
  have iX12 : ∀ w ∈ wsX120, w ∈ wsX12_digest := fun _ h => List.mem_cons_of_mem _ (List.mem_append_right _ h)
  have hP : va_P g.1 vwCl (cw_X12_digest g h_this h_this_states h_this_letters h_this_moves h_this_light h_this_price h_this_share h_this_word h_this_queue h_this_cameFrom h_this_cameBy h_this_isKnown h_this_isJoined h_this_made h_this_pairWord h_this_bestWord h_this_sum h_this_isSettled h_this_heapSum h_this_heapSet h_this_worth h_this_worthNext h_this_order h_this_hadMoves h_this_row h_this_pairs h_this_pairLong c_machines c_wordLong c_queued c_heaped c_states c_letters c_moves c_light c_price c_share c_word) s.heap := hP
  have hD : va_D A (cw_X12_digest g h_this h_this_states h_this_letters h_this_moves h_this_light h_this_price h_this_share h_this_word h_this_queue h_this_cameFrom h_this_cameBy h_this_isKnown h_this_isJoined h_this_made h_this_pairWord h_this_bestWord h_this_sum h_this_isSettled h_this_heapSum h_this_heapSet h_this_worth h_this_worthNext h_this_order h_this_hadMoves h_this_row h_this_pairs h_this_pairLong c_machines c_wordLong c_queued c_heaped c_states c_letters c_moves c_light c_price c_share c_word) := hD
  have hl : lv_has ls 6 [(0, .ref h_this)] := hl
  unfold wp_X12_digest at h
  have K_201 : ∀ (n_201 : Nat) (x1 : Int64) (x3 : Int32) , L_X12_digest_201 c_wordLong c_word Q n_201 x1 x3 → ∀ (H : Heap) (locs : List Loc), va_P g.1 vwCl (cw_X12_digest g h_this h_this_states h_this_letters h_this_moves h_this_light h_this_price h_this_share h_this_word h_this_queue h_this_cameFrom h_this_cameBy h_this_isKnown h_this_isJoined h_this_made h_this_pairWord h_this_bestWord h_this_sum h_this_isSettled h_this_heapSum h_this_heapSet h_this_worth h_this_worthNext h_this_order h_this_hadMoves h_this_row h_this_pairs h_this_pairLong c_machines c_wordLong c_queued c_heaped c_states c_letters c_moves c_light c_price c_share c_word) H → va_D A (cw_X12_digest g h_this h_this_states h_this_letters h_this_moves h_this_light h_this_price h_this_share h_this_word h_this_queue h_this_cameFrom h_this_cameBy h_this_isKnown h_this_isJoined h_this_made h_this_pairWord h_this_bestWord h_this_sum h_this_isSettled h_this_heapSum h_this_heapSet h_this_worth h_this_worthNext h_this_order h_this_hadMoves h_this_row h_this_pairs h_this_pairLong c_machines c_wordLong c_queued c_heaped c_states c_letters c_moves c_light c_price c_share c_word) → va_S A s.heap H locs → ∀ ls : Array Slot, lv_has ls 6 [(0, .ref h_this), (1, .long x1), (3, .int x3)] → W p l e rm_X12_digest s m args below meth c H locs 0 0 QQ (F0 m 201 ls []) := by
    intro n_201
    induction n_201 with
    | zero => intro x1 x3; exact fun h => False.elim h
    | succ n_201 ih_201 =>
      intro x1 x3 h H locs hP hD hS ls hl
      unfold L_X12_digest_201 at h
      refine lv_iload_n hx hb dX12_digest_201 rfl (lv_at hl 2 rfl) ?_
      refine lv_aload_n hx hb dX12_digest_202 rfl (lv_at hl 0 rfl) ?_
      refine va_get (D := g.1) (ci := 11) (v := .int c_wordLong) (C := RX12) (T := TX12) (N := 30) hx hb hts iX12 hown hK hP 0 rfl rfl 7 (by decide) f123 (fun _ h9 => h9) rfl dX12_digest_203 ?_
      refine lv_icmp_ge (tgt := 229) hx hb dX12_digest_206 (by decide) (fun cq => ?_) (fun cq => ?_)
      · replace h := h.1 cq
        refine lv_lload_n hx hb dX12_digest_229 rfl (lv_at hl 1 rfl) ?_
        exact hret x1 () _ _ _ _ h hP hD hS dX12_digest_230
      · replace h := h.2 cq
        refine lv_ldc2 (v := (lN 31)) hx hb hown f205 dX12_digest_209 ?_
        refine lv_lload_n hx hb dX12_digest_212 rfl (lv_at hl 1 rfl) ?_
        refine lv_lmul hx hb dX12_digest_213 ?_
        refine lv_aload_n hx hb dX12_digest_214 rfl (lv_at hl 0 rfl) ?_
        refine va_get (D := g.1) (ci := 11) (v := .ref h_this_word) (C := RX12) (T := TX12) (N := 30) hx hb hts iX12 hown hK hP 0 rfl rfl 8 (by decide) f28 (fun _ h9 => h9) rfl dX12_digest_215 ?_
        refine lv_iload_n hx hb dX12_digest_218 rfl (lv_at hl 2 rfl) ?_
        obtain ⟨hi, h⟩ := h
        refine va_iald (D := g.1) (n := 600) (f := c_word) hx hb hK hP 7 0 rfl rfl hi dX12_digest_219 ?_
        refine lv_i2l (v := (Int32.toInt64 (c_word (Int32.toNatClampNeg x3)))) hx hb dX12_digest_220 rfl ?_
        refine lv_ladd hx hb dX12_digest_221 ?_
        refine lv_lstore_n (lv' := [(1, .long (((lN 31) * x1) + (Int32.toInt64 (c_word (Int32.toNatClampNeg x3))))), (0, .ref h_this), (3, .int x3)]) hx hb dX12_digest_222 rfl hl (by decide) rfl (fun ls hl => ?_)
        refine lv_iinc (v := (x3 + (nI 1))) (lv' := [(3, .int (x3 + (nI 1))), (1, .long (((lN 31) * x1) + (Int32.toInt64 (c_word (Int32.toNatClampNeg x3))))), (0, .ref h_this)]) hx hb dX12_digest_223 hl (k := 2) rfl rfl (by decide) rfl (fun ls hl => ?_)
        refine lv_goto (tgt := 201) hx hb dX12_digest_226 (by decide) ?_
        exact ih_201 (((lN 31) * x1) + (Int32.toInt64 (c_word (Int32.toNatClampNeg x3)))) (x3 + (nI 1)) h _ _ hP hD hS _ (lv_sub hl [2, 1, 0] rfl)
  have K_187 : ∀ (x1 : Int64) , J_X12_digest_187 c_wordLong c_word Q x1 → ∀ (H : Heap) (locs : List Loc), va_P g.1 vwCl (cw_X12_digest g h_this h_this_states h_this_letters h_this_moves h_this_light h_this_price h_this_share h_this_word h_this_queue h_this_cameFrom h_this_cameBy h_this_isKnown h_this_isJoined h_this_made h_this_pairWord h_this_bestWord h_this_sum h_this_isSettled h_this_heapSum h_this_heapSet h_this_worth h_this_worthNext h_this_order h_this_hadMoves h_this_row h_this_pairs h_this_pairLong c_machines c_wordLong c_queued c_heaped c_states c_letters c_moves c_light c_price c_share c_word) H → va_D A (cw_X12_digest g h_this h_this_states h_this_letters h_this_moves h_this_light h_this_price h_this_share h_this_word h_this_queue h_this_cameFrom h_this_cameBy h_this_isKnown h_this_isJoined h_this_made h_this_pairWord h_this_bestWord h_this_sum h_this_isSettled h_this_heapSum h_this_heapSet h_this_worth h_this_worthNext h_this_order h_this_hadMoves h_this_row h_this_pairs h_this_pairLong c_machines c_wordLong c_queued c_heaped c_states c_letters c_moves c_light c_price c_share c_word) → va_S A s.heap H locs → ∀ ls : Array Slot, lv_has ls 6 [(0, .ref h_this), (1, .long x1)] → W p l e rm_X12_digest s m args below meth c H locs 0 0 QQ (F0 m 187 ls []) := by
    intro x1 h H locs hP hD hS ls hl
    unfold J_X12_digest_187 at h
    refine lv_ldc2 (v := (lN 31)) hx hb hown f205 dX12_digest_187 ?_
    refine lv_lload_n hx hb dX12_digest_190 rfl (lv_at hl 1 rfl) ?_
    refine lv_lmul hx hb dX12_digest_191 ?_
    refine lv_aload_n hx hb dX12_digest_192 rfl (lv_at hl 0 rfl) ?_
    refine va_get (D := g.1) (ci := 11) (v := .int c_wordLong) (C := RX12) (T := TX12) (N := 30) hx hb hts iX12 hown hK hP 0 rfl rfl 7 (by decide) f123 (fun _ h9 => h9) rfl dX12_digest_193 ?_
    refine lv_i2l (v := (Int32.toInt64 c_wordLong)) hx hb dX12_digest_196 rfl ?_
    refine lv_ladd hx hb dX12_digest_197 ?_
    refine lv_lstore_n (lv' := [(1, .long (((lN 31) * x1) + (Int32.toInt64 c_wordLong))), (0, .ref h_this)]) hx hb dX12_digest_198 rfl hl (by decide) rfl (fun ls hl => ?_)
    refine lv_iconst (v := (nI 0)) hx hb dX12_digest_199 (by decide) ?_
    refine lv_istore_n (lv' := [(3, .int (nI 0)), (1, .long (((lN 31) * x1) + (Int32.toInt64 c_wordLong))), (0, .ref h_this)]) hx hb dX12_digest_200 rfl hl (by decide) rfl (fun ls hl => ?_)
    obtain ⟨n, h⟩ := h
    exact K_201 n (((lN 31) * x1) + (Int32.toInt64 c_wordLong)) (nI 0) h _ _ hP hD hS _ (lv_sub hl [2, 1, 0] rfl)
  have K_6 : ∀ (n_6 : Nat) (x1 : Int64) (x3 : Int32) , L_X12_digest_6 c_machines c_wordLong c_queued c_heaped c_states c_letters c_moves c_light c_price c_share c_word Q n_6 x1 x3 → ∀ (H : Heap) (locs : List Loc), va_P g.1 vwCl (cw_X12_digest g h_this h_this_states h_this_letters h_this_moves h_this_light h_this_price h_this_share h_this_word h_this_queue h_this_cameFrom h_this_cameBy h_this_isKnown h_this_isJoined h_this_made h_this_pairWord h_this_bestWord h_this_sum h_this_isSettled h_this_heapSum h_this_heapSet h_this_worth h_this_worthNext h_this_order h_this_hadMoves h_this_row h_this_pairs h_this_pairLong c_machines c_wordLong c_queued c_heaped c_states c_letters c_moves c_light c_price c_share c_word) H → va_D A (cw_X12_digest g h_this h_this_states h_this_letters h_this_moves h_this_light h_this_price h_this_share h_this_word h_this_queue h_this_cameFrom h_this_cameBy h_this_isKnown h_this_isJoined h_this_made h_this_pairWord h_this_bestWord h_this_sum h_this_isSettled h_this_heapSum h_this_heapSet h_this_worth h_this_worthNext h_this_order h_this_hadMoves h_this_row h_this_pairs h_this_pairLong c_machines c_wordLong c_queued c_heaped c_states c_letters c_moves c_light c_price c_share c_word) → va_S A s.heap H locs → ∀ ls : Array Slot, lv_has ls 6 [(0, .ref h_this), (1, .long x1), (3, .int x3)] → W p l e rm_X12_digest s m args below meth c H locs 0 0 QQ (F0 m 6 ls []) := by
    intro n_6
    induction n_6 with
    | zero => intro x1 x3; exact fun h => False.elim h
    | succ n_6 ih_6 =>
      intro x1 x3 h H locs hP hD hS ls hl
      unfold L_X12_digest_6 at h
      have K_181 : ∀ (x1 : Int64) (x3 : Int32) , J_X12_digest_181 (L_X12_digest_6 c_machines c_wordLong c_queued c_heaped c_states c_letters c_moves c_light c_price c_share c_word Q n_6) x1 x3 → ∀ (H : Heap) (locs : List Loc), va_P g.1 vwCl (cw_X12_digest g h_this h_this_states h_this_letters h_this_moves h_this_light h_this_price h_this_share h_this_word h_this_queue h_this_cameFrom h_this_cameBy h_this_isKnown h_this_isJoined h_this_made h_this_pairWord h_this_bestWord h_this_sum h_this_isSettled h_this_heapSum h_this_heapSet h_this_worth h_this_worthNext h_this_order h_this_hadMoves h_this_row h_this_pairs h_this_pairLong c_machines c_wordLong c_queued c_heaped c_states c_letters c_moves c_light c_price c_share c_word) H → va_D A (cw_X12_digest g h_this h_this_states h_this_letters h_this_moves h_this_light h_this_price h_this_share h_this_word h_this_queue h_this_cameFrom h_this_cameBy h_this_isKnown h_this_isJoined h_this_made h_this_pairWord h_this_bestWord h_this_sum h_this_isSettled h_this_heapSum h_this_heapSet h_this_worth h_this_worthNext h_this_order h_this_hadMoves h_this_row h_this_pairs h_this_pairLong c_machines c_wordLong c_queued c_heaped c_states c_letters c_moves c_light c_price c_share c_word) → va_S A s.heap H locs → ∀ ls : Array Slot, lv_has ls 6 [(0, .ref h_this), (1, .long x1), (3, .int x3)] → W p l e rm_X12_digest s m args below meth c H locs 0 0 QQ (F0 m 181 ls []) := by
        intro x1 x3 h H locs hP hD hS ls hl
        unfold J_X12_digest_181 at h
        refine lv_iinc (v := (x3 + (nI 1))) (lv' := [(3, .int (x3 + (nI 1))), (0, .ref h_this), (1, .long x1)]) hx hb dX12_digest_181 hl (k := 2) rfl rfl (by decide) rfl (fun ls hl => ?_)
        refine lv_goto (tgt := 6) hx hb dX12_digest_184 (by decide) ?_
        exact ih_6 x1 (x3 + (nI 1)) h _ _ hP hD hS _ (lv_sub hl [1, 2, 0] rfl)
      have K_128 : ∀ (x3 : Int32) (n_128 : Nat) (x1 : Int64) (x4 : Int32) , L_X12_digest_128 c_letters c_price c_share x3 (L_X12_digest_6 c_machines c_wordLong c_queued c_heaped c_states c_letters c_moves c_light c_price c_share c_word Q n_6) n_128 x1 x4 → ∀ (H : Heap) (locs : List Loc), va_P g.1 vwCl (cw_X12_digest g h_this h_this_states h_this_letters h_this_moves h_this_light h_this_price h_this_share h_this_word h_this_queue h_this_cameFrom h_this_cameBy h_this_isKnown h_this_isJoined h_this_made h_this_pairWord h_this_bestWord h_this_sum h_this_isSettled h_this_heapSum h_this_heapSet h_this_worth h_this_worthNext h_this_order h_this_hadMoves h_this_row h_this_pairs h_this_pairLong c_machines c_wordLong c_queued c_heaped c_states c_letters c_moves c_light c_price c_share c_word) H → va_D A (cw_X12_digest g h_this h_this_states h_this_letters h_this_moves h_this_light h_this_price h_this_share h_this_word h_this_queue h_this_cameFrom h_this_cameBy h_this_isKnown h_this_isJoined h_this_made h_this_pairWord h_this_bestWord h_this_sum h_this_isSettled h_this_heapSum h_this_heapSet h_this_worth h_this_worthNext h_this_order h_this_hadMoves h_this_row h_this_pairs h_this_pairLong c_machines c_wordLong c_queued c_heaped c_states c_letters c_moves c_light c_price c_share c_word) → va_S A s.heap H locs → ∀ ls : Array Slot, lv_has ls 6 [(0, .ref h_this), (1, .long x1), (3, .int x3), (4, .int x4)] → W p l e rm_X12_digest s m args below meth c H locs 0 0 QQ (F0 m 128 ls []) := by
        intro x3 n_128
        induction n_128 with
        | zero => intro x1 x4; exact fun h => False.elim h
        | succ n_128 ih_128 =>
          intro x1 x4 h H locs hP hD hS ls hl
          unfold L_X12_digest_128 at h
          refine lv_iload hx hb dX12_digest_128 (lv_at hl 3 rfl) ?_
          refine lv_aload_n hx hb dX12_digest_130 rfl (lv_at hl 0 rfl) ?_
          refine va_get (D := g.1) (ci := 11) (v := .ref h_this_letters) (C := RX12) (T := TX12) (N := 30) hx hb hts iX12 hown hK hP 0 rfl rfl 2 (by decide) f13 (fun _ h9 => h9) rfl dX12_digest_131 ?_
          refine lv_iload_n hx hb dX12_digest_134 rfl (lv_at hl 2 rfl) ?_
          obtain ⟨hi, h⟩ := h
          refine va_iald (D := g.1) (n := 6) (f := c_letters) hx hb hK hP 2 0 rfl rfl hi dX12_digest_135 ?_
          refine lv_icmp_ge (tgt := 181) hx hb dX12_digest_136 (by decide) (fun cq => ?_) (fun cq => ?_)
          · replace h := h.1 cq
            exact K_181 x1 x3 h _ _ hP hD hS _ (lv_sub hl [0, 1, 2] rfl)
          · replace h := h.2 cq
            refine lv_ldc2 (v := (lN 31)) hx hb hown f205 dX12_digest_139 ?_
            refine lv_ldc2 (v := (lN 31)) hx hb hown f205 dX12_digest_142 ?_
            refine lv_lload_n hx hb dX12_digest_145 rfl (lv_at hl 1 rfl) ?_
            refine lv_lmul hx hb dX12_digest_146 ?_
            refine lv_aload_n hx hb dX12_digest_147 rfl (lv_at hl 0 rfl) ?_
            refine va_get (D := g.1) (ci := 11) (v := .ref h_this_price) (C := RX12) (T := TX12) (N := 30) hx hb hts iX12 hown hK hP 0 rfl rfl 5 (by decide) f22 (fun _ h9 => h9) rfl dX12_digest_148 ?_
            refine lv_iconst (v := (nI 4)) hx hb dX12_digest_151 (by decide) ?_
            refine lv_iload_n hx hb dX12_digest_152 rfl (lv_at hl 2 rfl) ?_
            refine lv_imul hx hb dX12_digest_153 ?_
            refine lv_iload hx hb dX12_digest_154 (lv_at hl 3 rfl) ?_
            refine lv_iadd hx hb dX12_digest_156 ?_
            obtain ⟨hi, h⟩ := h
            refine va_iald (D := g.1) (n := 24) (f := c_price) hx hb hK hP 5 0 rfl rfl hi dX12_digest_157 ?_
            refine lv_i2l (v := (Int32.toInt64 (c_price (Int32.toNatClampNeg (((nI 4) * x3) + x4))))) hx hb dX12_digest_158 rfl ?_
            refine lv_ladd hx hb dX12_digest_159 ?_
            refine lv_lmul hx hb dX12_digest_160 ?_
            refine lv_aload_n hx hb dX12_digest_161 rfl (lv_at hl 0 rfl) ?_
            refine va_get (D := g.1) (ci := 11) (v := .ref h_this_share) (C := RX12) (T := TX12) (N := 30) hx hb hts iX12 hown hK hP 0 rfl rfl 6 (by decide) f25 (fun _ h9 => h9) rfl dX12_digest_162 ?_
            refine lv_iconst (v := (nI 4)) hx hb dX12_digest_165 (by decide) ?_
            refine lv_iload_n hx hb dX12_digest_166 rfl (lv_at hl 2 rfl) ?_
            refine lv_imul hx hb dX12_digest_167 ?_
            refine lv_iload hx hb dX12_digest_168 (lv_at hl 3 rfl) ?_
            refine lv_iadd hx hb dX12_digest_170 ?_
            obtain ⟨hi, h⟩ := h
            refine va_iald (D := g.1) (n := 24) (f := c_share) hx hb hK hP 6 0 rfl rfl hi dX12_digest_171 ?_
            refine lv_i2l (v := (Int32.toInt64 (c_share (Int32.toNatClampNeg (((nI 4) * x3) + x4))))) hx hb dX12_digest_172 rfl ?_
            refine lv_ladd hx hb dX12_digest_173 ?_
            refine lv_lstore_n (lv' := [(1, .long (((lN 31) * (((lN 31) * x1) + (Int32.toInt64 (c_price (Int32.toNatClampNeg (((nI 4) * x3) + x4)))))) + (Int32.toInt64 (c_share (Int32.toNatClampNeg (((nI 4) * x3) + x4)))))), (0, .ref h_this), (3, .int x3), (4, .int x4)]) hx hb dX12_digest_174 rfl hl (by decide) rfl (fun ls hl => ?_)
            refine lv_iinc (v := (x4 + (nI 1))) (lv' := [(4, .int (x4 + (nI 1))), (1, .long (((lN 31) * (((lN 31) * x1) + (Int32.toInt64 (c_price (Int32.toNatClampNeg (((nI 4) * x3) + x4)))))) + (Int32.toInt64 (c_share (Int32.toNatClampNeg (((nI 4) * x3) + x4)))))), (0, .ref h_this), (3, .int x3)]) hx hb dX12_digest_175 hl (k := 3) rfl rfl (by decide) rfl (fun ls hl => ?_)
            refine lv_goto (tgt := 128) hx hb dX12_digest_178 (by decide) ?_
            exact ih_128 (((lN 31) * (((lN 31) * x1) + (Int32.toInt64 (c_price (Int32.toNatClampNeg (((nI 4) * x3) + x4)))))) + (Int32.toInt64 (c_share (Int32.toNatClampNeg (((nI 4) * x3) + x4))))) (x4 + (nI 1)) h _ _ hP hD hS _ (lv_sub hl [2, 1, 3, 0] rfl)
      have K_125 : ∀ (x1 : Int64) (x3 : Int32) , J_X12_digest_125 c_letters c_price c_share (L_X12_digest_6 c_machines c_wordLong c_queued c_heaped c_states c_letters c_moves c_light c_price c_share c_word Q n_6) x1 x3 → ∀ (H : Heap) (locs : List Loc), va_P g.1 vwCl (cw_X12_digest g h_this h_this_states h_this_letters h_this_moves h_this_light h_this_price h_this_share h_this_word h_this_queue h_this_cameFrom h_this_cameBy h_this_isKnown h_this_isJoined h_this_made h_this_pairWord h_this_bestWord h_this_sum h_this_isSettled h_this_heapSum h_this_heapSet h_this_worth h_this_worthNext h_this_order h_this_hadMoves h_this_row h_this_pairs h_this_pairLong c_machines c_wordLong c_queued c_heaped c_states c_letters c_moves c_light c_price c_share c_word) H → va_D A (cw_X12_digest g h_this h_this_states h_this_letters h_this_moves h_this_light h_this_price h_this_share h_this_word h_this_queue h_this_cameFrom h_this_cameBy h_this_isKnown h_this_isJoined h_this_made h_this_pairWord h_this_bestWord h_this_sum h_this_isSettled h_this_heapSum h_this_heapSet h_this_worth h_this_worthNext h_this_order h_this_hadMoves h_this_row h_this_pairs h_this_pairLong c_machines c_wordLong c_queued c_heaped c_states c_letters c_moves c_light c_price c_share c_word) → va_S A s.heap H locs → ∀ ls : Array Slot, lv_has ls 6 [(0, .ref h_this), (1, .long x1), (3, .int x3)] → W p l e rm_X12_digest s m args below meth c H locs 0 0 QQ (F0 m 125 ls []) := by
        intro x1 x3 h H locs hP hD hS ls hl
        unfold J_X12_digest_125 at h
        refine lv_iconst (v := (nI 0)) hx hb dX12_digest_125 (by decide) ?_
        refine lv_istore (lv' := [(4, .int (nI 0)), (0, .ref h_this), (1, .long x1), (3, .int x3)]) hx hb dX12_digest_126 hl (by decide) rfl (fun ls hl => ?_)
        obtain ⟨n, h⟩ := h
        exact K_128 x3 n x1 (nI 0) h _ _ hP hD hS _ (lv_sub hl [1, 2, 3, 0] rfl)
      have K_47 : ∀ (x3 : Int32) (n_47 : Nat) (x1 : Int64) (x4 : Int32) , L_X12_digest_47 c_states c_letters c_moves c_light c_price c_share x3 (L_X12_digest_6 c_machines c_wordLong c_queued c_heaped c_states c_letters c_moves c_light c_price c_share c_word Q n_6) n_47 x1 x4 → ∀ (H : Heap) (locs : List Loc), va_P g.1 vwCl (cw_X12_digest g h_this h_this_states h_this_letters h_this_moves h_this_light h_this_price h_this_share h_this_word h_this_queue h_this_cameFrom h_this_cameBy h_this_isKnown h_this_isJoined h_this_made h_this_pairWord h_this_bestWord h_this_sum h_this_isSettled h_this_heapSum h_this_heapSet h_this_worth h_this_worthNext h_this_order h_this_hadMoves h_this_row h_this_pairs h_this_pairLong c_machines c_wordLong c_queued c_heaped c_states c_letters c_moves c_light c_price c_share c_word) H → va_D A (cw_X12_digest g h_this h_this_states h_this_letters h_this_moves h_this_light h_this_price h_this_share h_this_word h_this_queue h_this_cameFrom h_this_cameBy h_this_isKnown h_this_isJoined h_this_made h_this_pairWord h_this_bestWord h_this_sum h_this_isSettled h_this_heapSum h_this_heapSet h_this_worth h_this_worthNext h_this_order h_this_hadMoves h_this_row h_this_pairs h_this_pairLong c_machines c_wordLong c_queued c_heaped c_states c_letters c_moves c_light c_price c_share c_word) → va_S A s.heap H locs → ∀ ls : Array Slot, lv_has ls 6 [(0, .ref h_this), (1, .long x1), (3, .int x3), (4, .int x4)] → W p l e rm_X12_digest s m args below meth c H locs 0 0 QQ (F0 m 47 ls []) := by
        intro x3 n_47
        induction n_47 with
        | zero => intro x1 x4; exact fun h => False.elim h
        | succ n_47 ih_47 =>
          intro x1 x4 h H locs hP hD hS ls hl
          unfold L_X12_digest_47 at h
          have K_99 : ∀ (x1 : Int64) (x4 : Int32) , J_X12_digest_99 c_light x3 (L_X12_digest_47 c_states c_letters c_moves c_light c_price c_share x3 (L_X12_digest_6 c_machines c_wordLong c_queued c_heaped c_states c_letters c_moves c_light c_price c_share c_word Q n_6) n_47) x1 x4 → ∀ (H : Heap) (locs : List Loc), va_P g.1 vwCl (cw_X12_digest g h_this h_this_states h_this_letters h_this_moves h_this_light h_this_price h_this_share h_this_word h_this_queue h_this_cameFrom h_this_cameBy h_this_isKnown h_this_isJoined h_this_made h_this_pairWord h_this_bestWord h_this_sum h_this_isSettled h_this_heapSum h_this_heapSet h_this_worth h_this_worthNext h_this_order h_this_hadMoves h_this_row h_this_pairs h_this_pairLong c_machines c_wordLong c_queued c_heaped c_states c_letters c_moves c_light c_price c_share c_word) H → va_D A (cw_X12_digest g h_this h_this_states h_this_letters h_this_moves h_this_light h_this_price h_this_share h_this_word h_this_queue h_this_cameFrom h_this_cameBy h_this_isKnown h_this_isJoined h_this_made h_this_pairWord h_this_bestWord h_this_sum h_this_isSettled h_this_heapSum h_this_heapSet h_this_worth h_this_worthNext h_this_order h_this_hadMoves h_this_row h_this_pairs h_this_pairLong c_machines c_wordLong c_queued c_heaped c_states c_letters c_moves c_light c_price c_share c_word) → va_S A s.heap H locs → ∀ ls : Array Slot, lv_has ls 6 [(0, .ref h_this), (1, .long x1), (3, .int x3), (4, .int x4)] → W p l e rm_X12_digest s m args below meth c H locs 0 0 QQ (F0 m 99 ls []) := by
            intro x1 x4 h H locs hP hD hS ls hl
            unfold J_X12_digest_99 at h
            refine lv_ldc2 (v := (lN 31)) hx hb hown f205 dX12_digest_99 ?_
            refine lv_lload_n hx hb dX12_digest_102 rfl (lv_at hl 1 rfl) ?_
            refine lv_lmul hx hb dX12_digest_103 ?_
            refine lv_aload_n hx hb dX12_digest_104 rfl (lv_at hl 0 rfl) ?_
            refine va_get (D := g.1) (ci := 11) (v := .ref h_this_light) (C := RX12) (T := TX12) (N := 30) hx hb hts iX12 hown hK hP 0 rfl rfl 4 (by decide) f19 (fun _ h9 => h9) rfl dX12_digest_105 ?_
            refine lv_bipush (v := (nI 12)) hx hb dX12_digest_108 (by decide) ?_
            refine lv_iload_n hx hb dX12_digest_110 rfl (lv_at hl 2 rfl) ?_
            refine lv_imul hx hb dX12_digest_111 ?_
            refine lv_iload hx hb dX12_digest_112 (lv_at hl 3 rfl) ?_
            refine lv_iadd hx hb dX12_digest_114 ?_
            obtain ⟨hi, h⟩ := h
            refine va_iald (D := g.1) (n := 72) (f := c_light) hx hb hK hP 4 0 rfl rfl hi dX12_digest_115 ?_
            refine lv_i2l (v := (Int32.toInt64 (c_light (Int32.toNatClampNeg (((nI 12) * x3) + x4))))) hx hb dX12_digest_116 rfl ?_
            refine lv_ladd hx hb dX12_digest_117 ?_
            refine lv_lstore_n (lv' := [(1, .long (((lN 31) * x1) + (Int32.toInt64 (c_light (Int32.toNatClampNeg (((nI 12) * x3) + x4)))))), (0, .ref h_this), (3, .int x3), (4, .int x4)]) hx hb dX12_digest_118 rfl hl (by decide) rfl (fun ls hl => ?_)
            refine lv_iinc (v := (x4 + (nI 1))) (lv' := [(4, .int (x4 + (nI 1))), (1, .long (((lN 31) * x1) + (Int32.toInt64 (c_light (Int32.toNatClampNeg (((nI 12) * x3) + x4)))))), (0, .ref h_this), (3, .int x3)]) hx hb dX12_digest_119 hl (k := 3) rfl rfl (by decide) rfl (fun ls hl => ?_)
            refine lv_goto (tgt := 47) hx hb dX12_digest_122 (by decide) ?_
            exact ih_47 (((lN 31) * x1) + (Int32.toInt64 (c_light (Int32.toNatClampNeg (((nI 12) * x3) + x4))))) (x4 + (nI 1)) h _ _ hP hD hS _ (lv_sub hl [2, 1, 3, 0] rfl)
          have K_61 : ∀ (x4 : Int32) (n_61 : Nat) (x1 : Int64) (x5 : Int32) , L_X12_digest_61 c_letters c_moves c_light x3 x4 (L_X12_digest_47 c_states c_letters c_moves c_light c_price c_share x3 (L_X12_digest_6 c_machines c_wordLong c_queued c_heaped c_states c_letters c_moves c_light c_price c_share c_word Q n_6) n_47) n_61 x1 x5 → ∀ (H : Heap) (locs : List Loc), va_P g.1 vwCl (cw_X12_digest g h_this h_this_states h_this_letters h_this_moves h_this_light h_this_price h_this_share h_this_word h_this_queue h_this_cameFrom h_this_cameBy h_this_isKnown h_this_isJoined h_this_made h_this_pairWord h_this_bestWord h_this_sum h_this_isSettled h_this_heapSum h_this_heapSet h_this_worth h_this_worthNext h_this_order h_this_hadMoves h_this_row h_this_pairs h_this_pairLong c_machines c_wordLong c_queued c_heaped c_states c_letters c_moves c_light c_price c_share c_word) H → va_D A (cw_X12_digest g h_this h_this_states h_this_letters h_this_moves h_this_light h_this_price h_this_share h_this_word h_this_queue h_this_cameFrom h_this_cameBy h_this_isKnown h_this_isJoined h_this_made h_this_pairWord h_this_bestWord h_this_sum h_this_isSettled h_this_heapSum h_this_heapSet h_this_worth h_this_worthNext h_this_order h_this_hadMoves h_this_row h_this_pairs h_this_pairLong c_machines c_wordLong c_queued c_heaped c_states c_letters c_moves c_light c_price c_share c_word) → va_S A s.heap H locs → ∀ ls : Array Slot, lv_has ls 6 [(0, .ref h_this), (1, .long x1), (3, .int x3), (4, .int x4), (5, .int x5)] → W p l e rm_X12_digest s m args below meth c H locs 0 0 QQ (F0 m 61 ls []) := by
            intro x4 n_61
            induction n_61 with
            | zero => intro x1 x5; exact fun h => False.elim h
            | succ n_61 ih_61 =>
              intro x1 x5 h H locs hP hD hS ls hl
              unfold L_X12_digest_61 at h
              refine lv_iload hx hb dX12_digest_61 (lv_at hl 4 rfl) ?_
              refine lv_aload_n hx hb dX12_digest_63 rfl (lv_at hl 0 rfl) ?_
              refine va_get (D := g.1) (ci := 11) (v := .ref h_this_letters) (C := RX12) (T := TX12) (N := 30) hx hb hts iX12 hown hK hP 0 rfl rfl 2 (by decide) f13 (fun _ h9 => h9) rfl dX12_digest_64 ?_
              refine lv_iload_n hx hb dX12_digest_67 rfl (lv_at hl 2 rfl) ?_
              obtain ⟨hi, h⟩ := h
              refine va_iald (D := g.1) (n := 6) (f := c_letters) hx hb hK hP 2 0 rfl rfl hi dX12_digest_68 ?_
              refine lv_icmp_ge (tgt := 99) hx hb dX12_digest_69 (by decide) (fun cq => ?_) (fun cq => ?_)
              · replace h := h.1 cq
                exact K_99 x1 x4 h _ _ hP hD hS _ (lv_sub hl [0, 1, 2, 3] rfl)
              · replace h := h.2 cq
                refine lv_ldc2 (v := (lN 31)) hx hb hown f205 dX12_digest_72 ?_
                refine lv_lload_n hx hb dX12_digest_75 rfl (lv_at hl 1 rfl) ?_
                refine lv_lmul hx hb dX12_digest_76 ?_
                refine lv_aload_n hx hb dX12_digest_77 rfl (lv_at hl 0 rfl) ?_
                refine va_get (D := g.1) (ci := 11) (v := .ref h_this_moves) (C := RX12) (T := TX12) (N := 30) hx hb hts iX12 hown hK hP 0 rfl rfl 3 (by decide) f16 (fun _ h9 => h9) rfl dX12_digest_78 ?_
                refine lv_iload_n hx hb dX12_digest_81 rfl (lv_at hl 2 rfl) ?_
                refine lv_iload hx hb dX12_digest_82 (lv_at hl 3 rfl) ?_
                refine lv_iload hx hb dX12_digest_84 (lv_at hl 4 rfl) ?_
                refine go_I E (run_S E ((k_X12_at l g  (Q := fun r => r = ((((nI 48) * x3) + ((nI 4) * x4)) + x5)) rfl) _) (va_cwS 3 hts gX12_digest_X12_at rfl rfl rfl (by decide +kernel) ⟨Nat.le_of_ble_eq_true rfl, Nat.le_of_ble_eq_true rfl⟩) hP hD hS [] rfl rfl hl rfl rfl (Nat.le_of_ble_eq_true rfl) dX12_digest_86 ⟨Nat.le_of_ble_eq_true rfl, Nat.le_of_ble_eq_true rfl⟩) hP hD hS [] rfl [(true, 0), (true, 1), (true, 2), (true, 3), (true, 4), (true, 5), (true, 6), (true, 7)] rfl (by decide) (fun _ => (cw_X12_digest g h_this h_this_states h_this_letters h_this_moves h_this_light h_this_price h_this_share h_this_word h_this_queue h_this_cameFrom h_this_cameBy h_this_isKnown h_this_isJoined h_this_made h_this_pairWord h_this_bestWord h_this_sum h_this_isSettled h_this_heapSum h_this_heapSet h_this_worth h_this_worthNext h_this_order h_this_hadMoves h_this_row h_this_pairs h_this_pairLong c_machines c_wordLong c_queued c_heaped c_states c_letters c_moves c_light c_price c_share c_word)) (fun _ => rfl) (fun r2 _ H locs hr_ hP hD hS => ?_)
                have hr_ : ((((nI 48) * x3) + ((nI 4) * x4)) + x5) = r2 := Eq.symm hr_
                subst hr_
                have hP : va_P g.1 vwCl (cw_X12_digest g h_this h_this_states h_this_letters h_this_moves h_this_light h_this_price h_this_share h_this_word h_this_queue h_this_cameFrom h_this_cameBy h_this_isKnown h_this_isJoined h_this_made h_this_pairWord h_this_bestWord h_this_sum h_this_isSettled h_this_heapSum h_this_heapSet h_this_worth h_this_worthNext h_this_order h_this_hadMoves h_this_row h_this_pairs h_this_pairLong c_machines c_wordLong c_queued c_heaped c_states c_letters c_moves c_light c_price c_share c_word) H := hP
                have hD : va_D A (cw_X12_digest g h_this h_this_states h_this_letters h_this_moves h_this_light h_this_price h_this_share h_this_word h_this_queue h_this_cameFrom h_this_cameBy h_this_isKnown h_this_isJoined h_this_made h_this_pairWord h_this_bestWord h_this_sum h_this_isSettled h_this_heapSum h_this_heapSet h_this_worth h_this_worthNext h_this_order h_this_hadMoves h_this_row h_this_pairs h_this_pairLong c_machines c_wordLong c_queued c_heaped c_states c_letters c_moves c_light c_price c_share c_word) := hD
                obtain ⟨hi, h⟩ := h
                refine va_iald (D := g.1) (n := 288) (f := c_moves) hx hb hK hP 3 0 rfl rfl hi dX12_digest_89 ?_
                refine lv_i2l (v := (Int32.toInt64 (c_moves (Int32.toNatClampNeg ((((nI 48) * x3) + ((nI 4) * x4)) + x5))))) hx hb dX12_digest_90 rfl ?_
                refine lv_ladd hx hb dX12_digest_91 ?_
                refine lv_lstore_n (lv' := [(1, .long (((lN 31) * x1) + (Int32.toInt64 (c_moves (Int32.toNatClampNeg ((((nI 48) * x3) + ((nI 4) * x4)) + x5)))))), (0, .ref h_this), (3, .int x3), (4, .int x4), (5, .int x5)]) hx hb dX12_digest_92 rfl hl (by decide) rfl (fun ls hl => ?_)
                refine lv_iinc (v := (x5 + (nI 1))) (lv' := [(5, .int (x5 + (nI 1))), (1, .long (((lN 31) * x1) + (Int32.toInt64 (c_moves (Int32.toNatClampNeg ((((nI 48) * x3) + ((nI 4) * x4)) + x5)))))), (0, .ref h_this), (3, .int x3), (4, .int x4)]) hx hb dX12_digest_93 hl (k := 4) rfl rfl (by decide) rfl (fun ls hl => ?_)
                refine lv_goto (tgt := 61) hx hb dX12_digest_96 (by decide) ?_
                exact ih_61 (((lN 31) * x1) + (Int32.toInt64 (c_moves (Int32.toNatClampNeg ((((nI 48) * x3) + ((nI 4) * x4)) + x5))))) (x5 + (nI 1)) h _ _ hP hD hS _ (lv_sub hl [2, 1, 3, 4, 0] rfl)
          refine lv_iload hx hb dX12_digest_47 (lv_at hl 3 rfl) ?_
          refine lv_aload_n hx hb dX12_digest_49 rfl (lv_at hl 0 rfl) ?_
          refine va_get (D := g.1) (ci := 11) (v := .ref h_this_states) (C := RX12) (T := TX12) (N := 30) hx hb hts iX12 hown hK hP 0 rfl rfl 1 (by decide) f7 (fun _ h9 => h9) rfl dX12_digest_50 ?_
          refine lv_iload_n hx hb dX12_digest_53 rfl (lv_at hl 2 rfl) ?_
          obtain ⟨hi, h⟩ := h
          refine va_iald (D := g.1) (n := 6) (f := c_states) hx hb hK hP 1 0 rfl rfl hi dX12_digest_54 ?_
          refine lv_icmp_ge (tgt := 125) hx hb dX12_digest_55 (by decide) (fun cq => ?_) (fun cq => ?_)
          · replace h := h.1 cq
            exact K_125 x1 x3 h _ _ hP hD hS _ (lv_sub hl [0, 1, 2] rfl)
          · replace h := h.2 cq
            refine lv_iconst (v := (nI 0)) hx hb dX12_digest_58 (by decide) ?_
            refine lv_istore (lv' := [(5, .int (nI 0)), (0, .ref h_this), (1, .long x1), (3, .int x3), (4, .int x4)]) hx hb dX12_digest_59 hl (by decide) rfl (fun ls hl => ?_)
            obtain ⟨n, h⟩ := h
            exact K_61 x4 n x1 (nI 0) h _ _ hP hD hS _ (lv_sub hl [1, 2, 3, 4, 0] rfl)
      have K_44 : ∀ (x1 : Int64) (x3 : Int32) , J_X12_digest_44 c_states c_letters c_moves c_light c_price c_share (L_X12_digest_6 c_machines c_wordLong c_queued c_heaped c_states c_letters c_moves c_light c_price c_share c_word Q n_6) x1 x3 → ∀ (H : Heap) (locs : List Loc), va_P g.1 vwCl (cw_X12_digest g h_this h_this_states h_this_letters h_this_moves h_this_light h_this_price h_this_share h_this_word h_this_queue h_this_cameFrom h_this_cameBy h_this_isKnown h_this_isJoined h_this_made h_this_pairWord h_this_bestWord h_this_sum h_this_isSettled h_this_heapSum h_this_heapSet h_this_worth h_this_worthNext h_this_order h_this_hadMoves h_this_row h_this_pairs h_this_pairLong c_machines c_wordLong c_queued c_heaped c_states c_letters c_moves c_light c_price c_share c_word) H → va_D A (cw_X12_digest g h_this h_this_states h_this_letters h_this_moves h_this_light h_this_price h_this_share h_this_word h_this_queue h_this_cameFrom h_this_cameBy h_this_isKnown h_this_isJoined h_this_made h_this_pairWord h_this_bestWord h_this_sum h_this_isSettled h_this_heapSum h_this_heapSet h_this_worth h_this_worthNext h_this_order h_this_hadMoves h_this_row h_this_pairs h_this_pairLong c_machines c_wordLong c_queued c_heaped c_states c_letters c_moves c_light c_price c_share c_word) → va_S A s.heap H locs → ∀ ls : Array Slot, lv_has ls 6 [(0, .ref h_this), (1, .long x1), (3, .int x3)] → W p l e rm_X12_digest s m args below meth c H locs 0 0 QQ (F0 m 44 ls []) := by
        intro x1 x3 h H locs hP hD hS ls hl
        unfold J_X12_digest_44 at h
        refine lv_iconst (v := (nI 0)) hx hb dX12_digest_44 (by decide) ?_
        refine lv_istore (lv' := [(4, .int (nI 0)), (0, .ref h_this), (1, .long x1), (3, .int x3)]) hx hb dX12_digest_45 hl (by decide) rfl (fun ls hl => ?_)
        obtain ⟨n, h⟩ := h
        exact K_47 x3 n x1 (nI 0) h _ _ hP hD hS _ (lv_sub hl [1, 2, 3, 0] rfl)
      have K_17 : ∀ (x3 : Int32) (n_17 : Nat) (x1 : Int64) (x4 : Int32) , L_X12_digest_17 c_machines c_wordLong c_queued c_heaped c_states c_letters c_moves c_light c_price c_share x3 (L_X12_digest_6 c_machines c_wordLong c_queued c_heaped c_states c_letters c_moves c_light c_price c_share c_word Q n_6) n_17 x1 x4 → ∀ (H : Heap) (locs : List Loc), va_P g.1 vwCl (cw_X12_digest g h_this h_this_states h_this_letters h_this_moves h_this_light h_this_price h_this_share h_this_word h_this_queue h_this_cameFrom h_this_cameBy h_this_isKnown h_this_isJoined h_this_made h_this_pairWord h_this_bestWord h_this_sum h_this_isSettled h_this_heapSum h_this_heapSet h_this_worth h_this_worthNext h_this_order h_this_hadMoves h_this_row h_this_pairs h_this_pairLong c_machines c_wordLong c_queued c_heaped c_states c_letters c_moves c_light c_price c_share c_word) H → va_D A (cw_X12_digest g h_this h_this_states h_this_letters h_this_moves h_this_light h_this_price h_this_share h_this_word h_this_queue h_this_cameFrom h_this_cameBy h_this_isKnown h_this_isJoined h_this_made h_this_pairWord h_this_bestWord h_this_sum h_this_isSettled h_this_heapSum h_this_heapSet h_this_worth h_this_worthNext h_this_order h_this_hadMoves h_this_row h_this_pairs h_this_pairLong c_machines c_wordLong c_queued c_heaped c_states c_letters c_moves c_light c_price c_share c_word) → va_S A s.heap H locs → ∀ ls : Array Slot, lv_has ls 6 [(0, .ref h_this), (1, .long x1), (3, .int x3), (4, .int x4)] → W p l e rm_X12_digest s m args below meth c H locs 0 0 QQ (F0 m 17 ls []) := by
        intro x3 n_17
        induction n_17 with
        | zero => intro x1 x4; exact fun h => False.elim h
        | succ n_17 ih_17 =>
          intro x1 x4 h H locs hP hD hS ls hl
          unfold L_X12_digest_17 at h
          refine lv_iload hx hb dX12_digest_17 (lv_at hl 3 rfl) ?_
          refine lv_iconst (v := (nI 3)) hx hb dX12_digest_19 (by decide) ?_
          refine lv_icmp_ge (tgt := 44) hx hb dX12_digest_20 (by decide) (fun cq => ?_) (fun cq => ?_)
          · replace h := h.1 cq
            exact K_44 x1 x3 h _ _ hP hD hS _ (lv_sub hl [0, 1, 2] rfl)
          · replace h := h.2 cq
            refine lv_ldc2 (v := (lN 31)) hx hb hown f205 dX12_digest_23 ?_
            refine lv_lload_n hx hb dX12_digest_26 rfl (lv_at hl 1 rfl) ?_
            refine lv_lmul hx hb dX12_digest_27 ?_
            refine lv_aload_n hx hb dX12_digest_28 rfl (lv_at hl 0 rfl) ?_
            refine lv_iload_n hx hb dX12_digest_29 rfl (lv_at hl 2 rfl) ?_
            refine lv_iload hx hb dX12_digest_30 (lv_at hl 3 rfl) ?_
            refine go_I E (run_V E ((k_X12_aboutOf l g h_this h_this_states h_this_letters h_this_moves h_this_light h_this_price h_this_share h_this_word h_this_queue h_this_cameFrom h_this_cameBy h_this_isKnown h_this_isJoined h_this_made h_this_pairWord h_this_bestWord h_this_sum h_this_isSettled h_this_heapSum h_this_heapSet h_this_worth h_this_worthNext h_this_order h_this_hadMoves h_this_row h_this_pairs h_this_pairLong h) _) (cwV 2 hts gX12_digest_X12_aboutOf rfl rfl rfl (by decide +kernel) ⟨Nat.le_of_ble_eq_true rfl, Nat.le_of_ble_eq_true rfl⟩) hP hD hS [0, 1, 2, 3] rfl rfl 0 11 rfl rfl rfl hl rfl rfl (Nat.le_of_ble_eq_true rfl) dX12_digest_32 ⟨Nat.le_of_ble_eq_true rfl, Nat.le_of_ble_eq_true rfl⟩) hP hD hS [0, 1, 2, 3] rfl [(false, 0), (false, 1), (false, 2), (false, 3), (true, 4), (true, 5), (true, 6), (true, 7)] rfl (by decide) (fun _ => (cw_X12_digest g h_this h_this_states h_this_letters h_this_moves h_this_light h_this_price h_this_share h_this_word h_this_queue h_this_cameFrom h_this_cameBy h_this_isKnown h_this_isJoined h_this_made h_this_pairWord h_this_bestWord h_this_sum h_this_isSettled h_this_heapSum h_this_heapSet h_this_worth h_this_worthNext h_this_order h_this_hadMoves h_this_row h_this_pairs h_this_pairLong c_machines c_wordLong c_queued c_heaped c_states c_letters c_moves c_light c_price c_share c_word)) (fun _ => rfl) (fun r4 _ H locs h hP hD hS => ?_)
            try dsimp only at h
            have hP : va_P g.1 vwCl (cw_X12_digest g h_this h_this_states h_this_letters h_this_moves h_this_light h_this_price h_this_share h_this_word h_this_queue h_this_cameFrom h_this_cameBy h_this_isKnown h_this_isJoined h_this_made h_this_pairWord h_this_bestWord h_this_sum h_this_isSettled h_this_heapSum h_this_heapSet h_this_worth h_this_worthNext h_this_order h_this_hadMoves h_this_row h_this_pairs h_this_pairLong c_machines c_wordLong c_queued c_heaped c_states c_letters c_moves c_light c_price c_share c_word) H := hP
            have hD : va_D A (cw_X12_digest g h_this h_this_states h_this_letters h_this_moves h_this_light h_this_price h_this_share h_this_word h_this_queue h_this_cameFrom h_this_cameBy h_this_isKnown h_this_isJoined h_this_made h_this_pairWord h_this_bestWord h_this_sum h_this_isSettled h_this_heapSum h_this_heapSet h_this_worth h_this_worthNext h_this_order h_this_hadMoves h_this_row h_this_pairs h_this_pairLong c_machines c_wordLong c_queued c_heaped c_states c_letters c_moves c_light c_price c_share c_word) := hD
            refine lv_i2l (v := (Int32.toInt64 r4)) hx hb dX12_digest_35 rfl ?_
            refine lv_ladd hx hb dX12_digest_36 ?_
            refine lv_lstore_n (lv' := [(1, .long (((lN 31) * x1) + (Int32.toInt64 r4))), (0, .ref h_this), (3, .int x3), (4, .int x4)]) hx hb dX12_digest_37 rfl hl (by decide) rfl (fun ls hl => ?_)
            refine lv_iinc (v := (x4 + (nI 1))) (lv' := [(4, .int (x4 + (nI 1))), (1, .long (((lN 31) * x1) + (Int32.toInt64 r4))), (0, .ref h_this), (3, .int x3)]) hx hb dX12_digest_38 hl (k := 3) rfl rfl (by decide) rfl (fun ls hl => ?_)
            refine lv_goto (tgt := 17) hx hb dX12_digest_41 (by decide) ?_
            exact ih_17 (((lN 31) * x1) + (Int32.toInt64 r4)) (x4 + (nI 1)) h _ _ hP hD hS _ (lv_sub hl [2, 1, 3, 0] rfl)
      refine lv_iload_n hx hb dX12_digest_6 rfl (lv_at hl 2 rfl) ?_
      refine lv_aload_n hx hb dX12_digest_7 rfl (lv_at hl 0 rfl) ?_
      refine va_get (D := g.1) (ci := 11) (v := .int c_machines) (C := RX12) (T := TX12) (N := 30) hx hb hts iX12 hown hK hP 0 rfl rfl 0 (by decide) f90 (fun _ h9 => h9) rfl dX12_digest_8 ?_
      refine lv_icmp_ge (tgt := 187) hx hb dX12_digest_11 (by decide) (fun cq => ?_) (fun cq => ?_)
      · replace h := h.1 cq
        exact K_187 x1 h _ _ hP hD hS _ (lv_sub hl [0, 1] rfl)
      · replace h := h.2 cq
        refine lv_iconst (v := (nI 0)) hx hb dX12_digest_14 (by decide) ?_
        refine lv_istore (lv' := [(4, .int (nI 0)), (0, .ref h_this), (1, .long x1), (3, .int x3)]) hx hb dX12_digest_15 hl (by decide) rfl (fun ls hl => ?_)
        obtain ⟨n, h⟩ := h
        exact K_17 x3 n x1 (nI 0) h _ _ hP hD hS _ (lv_sub hl [1, 2, 3, 0] rfl)
  refine lv_ldc2 (v := (lN 163)) hx hb hown f203 dX12_digest_0 ?_
  refine lv_lstore_n (lv' := [(1, .long (lN 163)), (0, .ref h_this)]) hx hb dX12_digest_3 rfl hl (by decide) rfl (fun ls hl => ?_)
  refine lv_iconst (v := (nI 0)) hx hb dX12_digest_4 (by decide) ?_
  refine lv_istore_n (lv' := [(3, .int (nI 0)), (1, .long (lN 163)), (0, .ref h_this)]) hx hb dX12_digest_5 rfl hl (by decide) rfl (fun ls hl => ?_)
  obtain ⟨n, h⟩ := h
  exact K_6 n (lN 163) (nI 0) h _ _ hP hD hS _ (lv_sub hl [2, 1, 0] rfl)
