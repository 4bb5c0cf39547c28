abbrev cw_X12_kinds (g : GG) (h_this : Nat) (h_this_states : Nat) (h_this_letters : Nat) (h_this_moves : Nat) (h_this_light : Nat) (h_this_price : Nat) (h_this_share : Nat) (h_this_word : Nat) (h_this_queue : Nat) (h_this_cameFrom : Nat) (h_this_cameBy : Nat) (h_this_isKnown : Nat) (h_this_isJoined : Nat) (h_this_made : Nat) (h_this_pairWord : Nat) (h_this_bestWord : Nat) (h_this_sum : Nat) (h_this_isSettled : Nat) (h_this_heapSum : Nat) (h_this_heapSet : Nat) (h_this_worth : Nat) (h_this_worthNext : Nat) (h_this_order : Nat) (h_this_hadMoves : Nat) (h_this_row : Nat) (h_this_pairs : Nat) (h_this_pairLong : Nat) (c_machines : Int32) (c_wordLong : Int32) (c_queued : Int32) (c_heaped : Int32) (c_states : Nat → Int32) (c_letters : Nat → Int32) (c_moves : Nat → Int32) : va_W := [(h_this, .inr (11, [.int c_machines, .ref h_this_states, .ref h_this_letters, .ref h_this_moves, .ref h_this_light, .ref h_this_price, .ref h_this_share, .int c_wordLong, .ref h_this_word, .int c_queued, .ref h_this_queue, .ref h_this_cameFrom, .ref h_this_cameBy, .ref h_this_isKnown, .ref h_this_isJoined, .ref h_this_made, .ref h_this_pairWord, .ref h_this_bestWord, .ref h_this_sum, .ref h_this_isSettled, .ref h_this_heapSum, .ref h_this_heapSet, .int c_heaped, .ref h_this_worth, .ref h_this_worthNext, .ref h_this_order, .ref h_this_hadMoves, .ref h_this_row, .ref h_this_pairs, .ref h_this_pairLong])), (h_this_states, .inl (g.2.1, 6, .inl c_states)), (h_this_letters, .inl (g.2.1, 6, .inl c_letters)), (h_this_moves, .inl (g.2.1, 288, .inl c_moves))]
def J_X12_kinds_301 (Q : Int32 → Prop) (t0 : Int32) (t1 : Int32) : Prop :=
    Q (t1 ||| t0)
def J_X12_kinds_289 (Q : Int32 → Prop) (x8 : Int32) (t0 : Int32) (t1 : Int32) : Prop :=
    ((x8 = (nI 0) → J_X12_kinds_301 Q (nI 0) (t1 ||| t0)) ∧ (¬ x8 = (nI 0) → J_X12_kinds_301 Q (nI 16) (t1 ||| t0)))
def J_X12_kinds_277 (Q : Int32 → Prop) (x7 : Int32) (x8 : Int32) (t0 : Int32) (t1 : Int32) : Prop :=
    ((x7 = (nI 0) → J_X12_kinds_289 Q x8 (nI 0) (t1 ||| t0)) ∧ (¬ x7 = (nI 0) → J_X12_kinds_289 Q x8 (nI 8) (t1 ||| t0)))
def J_X12_kinds_266 (Q : Int32 → Prop) (x6 : Int32) (x7 : Int32) (x8 : Int32) (t0 : Int32) (t1 : Int32) : Prop :=
    ((x6 = (nI 0) → J_X12_kinds_277 Q x7 x8 (nI 0) (t1 ||| t0)) ∧ (¬ x6 = (nI 0) → J_X12_kinds_277 Q x7 x8 (nI 4) (t1 ||| t0)))
def J_X12_kinds_256 (Q : Int32 → Prop) (x5 : Int32) (x6 : Int32) (x7 : Int32) (x8 : Int32) (t0 : Int32) : Prop :=
    ((x5 = (nI 0) → J_X12_kinds_266 Q x6 x7 x8 (nI 0) t0) ∧ (¬ x5 = (nI 0) → J_X12_kinds_266 Q x6 x7 x8 (nI 2) t0))
def J_X12_kinds_246 (Q : Int32 → Prop) (x4 : Int32) (x5 : Int32) (x6 : Int32) (x7 : Int32) (x8 : Int32) : Prop :=
    ((x4 = (nI 0) → J_X12_kinds_256 Q x5 x6 x7 x8 (nI 0)) ∧ (¬ x4 = (nI 0) → J_X12_kinds_256 Q x5 x6 x7 x8 (nI 1)))
def J_X12_kinds_238 (R_212 : Int32 → Int32 → Prop) (x9 : Int32) (t0 : Int32) : Prop :=
    R_212 t0 (x9 + (nI 1))
def J_X12_kinds_233 (R_212 : Int32 → Int32 → Prop) (x9 : Int32) : Prop :=
    J_X12_kinds_238 R_212 x9 (nI 1)
def L_X12_kinds_212 (c_machines : Int32) (c_wordLong : Int32) (c_queued : Int32) (c_heaped : Int32) (c_states : Nat → Int32) (c_letters : Nat → Int32) (c_moves : Nat → Int32) (x1 : Int32) (x2 : Int32) (x4 : Int32) (x6 : Int32) (x7 : Int32) (x8 : Int32) (Q : Int32 → Prop) : Nat → Int32 → Int32 → Prop
  | 0, _, _ => False
  | n_212 + 1, x5, x9 =>
    ((x2 ≤ x9 → J_X12_kinds_246 Q x4 x5 x6 x7 x8) ∧ (¬ x2 ≤ x9 → ((¬ x5 = (nI 0) → J_X12_kinds_233 (L_X12_kinds_212 c_machines c_wordLong c_queued c_heaped c_states c_letters c_moves x1 x2 x4 x6 x7 x8 Q n_212) x9) ∧ (x5 = (nI 0) → wp_X12_isSink c_machines c_wordLong c_queued c_heaped c_states c_letters c_moves x1 x9 (fun r6 => ((r6 = (nI 0) → J_X12_kinds_238 (L_X12_kinds_212 c_machines c_wordLong c_queued c_heaped c_states c_letters c_moves x1 x2 x4 x6 x7 x8 Q n_212) x9 (nI 0)) ∧ (¬ r6 = (nI 0) → J_X12_kinds_233 (L_X12_kinds_212 c_machines c_wordLong c_queued c_heaped c_states c_letters c_moves x1 x2 x4 x6 x7 x8 Q n_212) x9)))))))
def J_X12_kinds_209 (c_machines : Int32) (c_wordLong : Int32) (c_queued : Int32) (c_heaped : Int32) (c_states : Nat → Int32) (c_letters : Nat → Int32) (c_moves : Nat → Int32) (x1 : Int32) (Q : Int32 → Prop) (x2 : Int32) (x4 : Int32) (x5 : Int32) (x6 : Int32) (x7 : Int32) (x8 : Int32) : Prop :=
    ∃ n, L_X12_kinds_212 c_machines c_wordLong c_queued c_heaped c_states c_letters c_moves x1 x2 x4 x6 x7 x8 Q n x5 (nI 0)
def J_X12_kinds_203 (R_53 : Int32 → Int32 → Int32 → Int32 → Int32 → Prop) (x4 : Int32) (x6 : Int32) (x7 : Int32) (x8 : Int32) (x9 : Int32) : Prop :=
    R_53 x4 x6 x7 x8 (x9 + (nI 1))
def J_X12_kinds_195 (R_113 : Int32 → Int32 → Int32 → Prop) (x8 : Int32) (x10 : Int32) (t0 : Int32) : Prop :=
    R_113 t0 x8 (x10 + (nI 1))
def J_X12_kinds_194 (R_113 : Int32 → Int32 → Int32 → Prop) (x8 : Int32) (x10 : Int32) : Prop :=
    J_X12_kinds_195 R_113 x8 x10 (nI 0)
def J_X12_kinds_190 (R_113 : Int32 → Int32 → Int32 → Prop) (x8 : Int32) (x10 : Int32) : Prop :=
    J_X12_kinds_195 R_113 x8 x10 (nI 1)
def J_X12_kinds_147 (c_moves : Nat → Int32) (x1 : Int32) (x9 : Int32) (R_113 : Int32 → Int32 → Int32 → Prop) (x6 : Int32) (x10 : Int32) (t0 : Int32) : Prop :=
    ((x6 = (nI 0) → J_X12_kinds_194 R_113 t0 x10) ∧ (¬ x6 = (nI 0) → ((x10 = (nI 0) → J_X12_kinds_190 R_113 t0 x10) ∧ (¬ x10 = (nI 0) → vp_in ((((nI 48) * x1) + ((nI 4) * (x10 - (nI 1)))) + x9) 288 ∧ vp_in ((((nI 48) * x1) + ((nI 4) * x10)) + x9) 288 ∧ (((c_moves (Int32.toNatClampNeg ((((nI 48) * x1) + ((nI 4) * x10)) + x9))) < (c_moves (Int32.toNatClampNeg ((((nI 48) * x1) + ((nI 4) * (x10 - (nI 1)))) + x9))) → J_X12_kinds_194 R_113 t0 x10) ∧ (¬ (c_moves (Int32.toNatClampNeg ((((nI 48) * x1) + ((nI 4) * x10)) + x9))) < (c_moves (Int32.toNatClampNeg ((((nI 48) * x1) + ((nI 4) * (x10 - (nI 1)))) + x9))) → J_X12_kinds_190 R_113 t0 x10))))))
def J_X12_kinds_142 (c_moves : Nat → Int32) (x1 : Int32) (x9 : Int32) (R_113 : Int32 → Int32 → Int32 → Prop) (x6 : Int32) (x10 : Int32) : Prop :=
    J_X12_kinds_147 c_moves x1 x9 R_113 x6 x10 (nI 1)
def L_X12_kinds_113 (c_moves : Nat → Int32) (x1 : Int32) (x2 : Int32) (x4 : Int32) (x7 : Int32) (x9 : Int32) (R_53 : Int32 → Int32 → Int32 → Int32 → Int32 → Prop) : Nat → Int32 → Int32 → Int32 → Prop
  | 0, _, _, _ => False
  | n_113 + 1, x6, x8, x10 =>
    ((x2 ≤ x10 → J_X12_kinds_203 R_53 x4 x6 x7 x8 x9) ∧ (¬ x2 ≤ x10 → ((¬ x8 = (nI 0) → J_X12_kinds_142 c_moves x1 x9 (L_X12_kinds_113 c_moves x1 x2 x4 x7 x9 R_53 n_113) x6 x10) ∧ (x8 = (nI 0) → vp_in ((((nI 48) * x1) + ((nI 4) * x10)) + x9) 288 ∧ ((¬ (c_moves (Int32.toNatClampNeg ((((nI 48) * x1) + ((nI 4) * x10)) + x9))) = x10 → J_X12_kinds_147 c_moves x1 x9 (L_X12_kinds_113 c_moves x1 x2 x4 x7 x9 R_53 n_113) x6 x10 (nI 0)) ∧ ((c_moves (Int32.toNatClampNeg ((((nI 48) * x1) + ((nI 4) * x10)) + x9))) = x10 → J_X12_kinds_142 c_moves x1 x9 (L_X12_kinds_113 c_moves x1 x2 x4 x7 x9 R_53 n_113) x6 x10))))))
def J_X12_kinds_108 (c_moves : Nat → Int32) (x1 : Int32) (x2 : Int32) (R_53 : Int32 → Int32 → Int32 → Int32 → Int32 → Prop) (x4 : Int32) (x6 : Int32) (x8 : Int32) (x9 : Int32) (t0 : Int32) : Prop :=
    ∃ n, L_X12_kinds_113 c_moves x1 x2 x4 t0 x9 R_53 n x6 x8 (nI 0)
def J_X12_kinds_107 (c_moves : Nat → Int32) (x1 : Int32) (x2 : Int32) (R_53 : Int32 → Int32 → Int32 → Int32 → Int32 → Prop) (x4 : Int32) (x6 : Int32) (x8 : Int32) (x9 : Int32) : Prop :=
    J_X12_kinds_108 c_moves x1 x2 R_53 x4 x6 x8 x9 (nI 0)
def J_X12_kinds_84 (c_machines : Int32) (c_wordLong : Int32) (c_queued : Int32) (c_heaped : Int32) (c_states : Nat → Int32) (c_moves : Nat → Int32) (x1 : Int32) (x2 : Int32) (x3 : Int32) (R_53 : Int32 → Int32 → Int32 → Int32 → Int32 → Prop) (x6 : Int32) (x7 : Int32) (x8 : Int32) (x9 : Int32) (t0 : Int32) : Prop :=
    ((x7 = (nI 0) → J_X12_kinds_107 c_moves x1 x2 R_53 t0 x6 x8 x9) ∧ (¬ x7 = (nI 0) → wp_X12_next c_machines c_wordLong c_queued c_heaped c_states c_moves x1 x3 x9 (fun r14 => ((¬ r14 = x3 → J_X12_kinds_107 c_moves x1 x2 R_53 t0 x6 x8 x9) ∧ (r14 = x3 → J_X12_kinds_108 c_moves x1 x2 R_53 t0 x6 x8 x9 (nI 1))))))
def J_X12_kinds_79 (c_machines : Int32) (c_wordLong : Int32) (c_queued : Int32) (c_heaped : Int32) (c_states : Nat → Int32) (c_moves : Nat → Int32) (x1 : Int32) (x2 : Int32) (x3 : Int32) (R_53 : Int32 → Int32 → Int32 → Int32 → Int32 → Prop) (x6 : Int32) (x7 : Int32) (x8 : Int32) (x9 : Int32) : Prop :=
    J_X12_kinds_84 c_machines c_wordLong c_queued c_heaped c_states c_moves x1 x2 x3 R_53 x6 x7 x8 x9 (nI 1)
def L_X12_kinds_53 (c_machines : Int32) (c_wordLong : Int32) (c_queued : Int32) (c_heaped : Int32) (c_states : Nat → Int32) (c_letters : Nat → Int32) (c_moves : Nat → Int32) (x1 : Int32) (x2 : Int32) (x3 : Int32) (x5 : Int32) (Q : Int32 → Prop) : Nat → Int32 → Int32 → Int32 → Int32 → Int32 → Prop
  | 0, _, _, _, _, _ => False
  | n_53 + 1, x4, x6, x7, x8, x9 =>
    vp_in x1 6 ∧ (((c_letters (Int32.toNatClampNeg x1)) ≤ x9 → J_X12_kinds_209 c_machines c_wordLong c_queued c_heaped c_states c_letters c_moves x1 Q x2 x4 x5 x6 x7 x8) ∧ (¬ (c_letters (Int32.toNatClampNeg x1)) ≤ x9 → ((¬ x4 = (nI 0) → J_X12_kinds_79 c_machines c_wordLong c_queued c_heaped c_states c_moves x1 x2 x3 (L_X12_kinds_53 c_machines c_wordLong c_queued c_heaped c_states c_letters c_moves x1 x2 x3 x5 Q n_53) x6 x7 x8 x9) ∧ (x4 = (nI 0) → wp_X12_isRing c_machines c_wordLong c_queued c_heaped c_states c_moves x1 x9 (fun r16 => ((r16 = (nI 0) → J_X12_kinds_84 c_machines c_wordLong c_queued c_heaped c_states c_moves x1 x2 x3 (L_X12_kinds_53 c_machines c_wordLong c_queued c_heaped c_states c_letters c_moves x1 x2 x3 x5 Q n_53) x6 x7 x8 x9 (nI 0)) ∧ (¬ r16 = (nI 0) → J_X12_kinds_79 c_machines c_wordLong c_queued c_heaped c_states c_moves x1 x2 x3 (L_X12_kinds_53 c_machines c_wordLong c_queued c_heaped c_states c_letters c_moves x1 x2 x3 x5 Q n_53) x6 x7 x8 x9)))))))
def wp_X12_kinds (c_machines : Int32) (c_wordLong : Int32) (c_queued : Int32) (c_heaped : Int32) (c_states : Nat → Int32) (c_letters : Nat → Int32) (c_moves : Nat → Int32) (x1 : Int32) (Q : Int32 → Prop) : Prop :=
    wp_X12_isMachine c_machines c_wordLong c_queued c_heaped x1 (fun r2 => ((¬ r2 = (nI 0) → wp_X12_isWhole c_machines c_wordLong c_queued c_heaped c_states c_letters c_moves x1 (fun r4 => ((¬ r4 = (nI 0) → vp_in x1 6 ∧ ∃ n, L_X12_kinds_53 c_machines c_wordLong c_queued c_heaped c_states c_letters c_moves x1 (c_states (Int32.toNatClampNeg x1)) (((nI 1) <<< ((c_states (Int32.toNatClampNeg x1)) &&& 31)) - (nI 1)) (nI 0) Q n (nI 0) (nI 1) (nI 1) (nI 0) (nI 0)) ∧ (r4 = (nI 0) → Q (-3))))) ∧ (r2 = (nI 0) → Q (-2))))
abbrev rm_X12_kinds : Room := { frames := 2, cells := 0, slots := 0, locals := 49 }
set_option maxHeartbeats 4000000 in
set_option maxRecDepth 100000 in
theorem k_X12_kinds (l : Launch) (g : GG) (h_this : Nat) (h_this_states : Nat) (h_this_letters : Nat) (h_this_moves : Nat) (h_this_light : Nat) (h_this_price : Nat) (h_this_share : Nat) (h_this_word : Nat) (h_this_queue : Nat) (h_this_cameFrom : Nat) (h_this_cameBy : Nat) (h_this_isKnown : Nat) (h_this_isJoined : Nat) (h_this_made : Nat) (h_this_pairWord : Nat) (h_this_bestWord : Nat) (h_this_sum : Nat) (h_this_isSettled : Nat) (h_this_heapSum : Nat) (h_this_heapSet : Nat) (h_this_worth : Nat) (h_this_worthNext : Nat) (h_this_order : Nat) (h_this_hadMoves : Nat) (h_this_row : Nat) (h_this_pairs : Nat) (h_this_pairLong : Nat) {c_machines : Int32} {c_wordLong : Int32} {c_queued : Int32} {c_heaped : Int32} {c_states : Nat → Int32} {c_letters : Nat → Int32} {c_moves : Nat → Int32} {x1 : Int32} {Q : Int32 → Prop} (h : wp_X12_kinds c_machines c_wordLong c_queued c_heaped c_states c_letters c_moves x1 Q) : CI l g yX12_kinds wsX12_kinds rm_X12_kinds [.ref h_this, .int x1] (cw_X12_kinds g h_this h_this_states h_this_letters h_this_moves h_this_light h_this_price h_this_share h_this_word h_this_queue h_this_cameFrom h_this_cameBy h_this_isKnown h_this_isJoined h_this_made h_this_pairWord h_this_bestWord h_this_sum h_this_isSettled h_this_heapSum h_this_heapSet h_this_worth h_this_worthNext h_this_order h_this_hadMoves h_this_row h_this_pairs h_this_pairLong c_machines c_wordLong c_queued c_heaped c_states c_letters c_moves) (S := Unit) (fun _ => (cw_X12_kinds g h_this h_this_states h_this_letters h_this_moves h_this_light h_this_price h_this_share h_this_word h_this_queue h_this_cameFrom h_this_cameBy h_this_isKnown h_this_isJoined h_this_made h_this_pairWord h_this_bestWord h_this_sum h_this_isSettled h_this_heapSum h_this_heapSet h_this_worth h_this_worthNext h_this_order h_this_hadMoves h_this_row h_this_pairs h_this_pairLong c_machines c_wordLong c_queued c_heaped c_states c_letters c_moves)) (fun r _ => Q r) 0 0 := by
  refine mk_I (cc := cX12_kinds) (maxL := 11) (own := RX12) (by decide) rfl rfl (Nat.le_of_ble_eq_true rfl) ?_
  intro p e s m args below meth c A QQ E hret hP hD hS ls hl
  have E2 := E
  obtain ⟨hx, hb, hr, hml, hown, hts, hlocks, hA, hZ, hK, hnm⟩ := E2
  have f7 := hts (.fieldLink RX12 7 "WordBenchModel" "states" "[I") (by decide +kernel)
  have f13 := hts (.fieldLink RX12 13 "WordBenchModel" "letters" "[I") (by decide +kernel)
  have f16 := hts (.fieldLink RX12 16 "WordBenchModel" "moves" "[I") (by decide +kernel)
  have iX12 : ∀ w ∈ wsX120, w ∈ wsX12_kinds := fun _ h => List.mem_cons_of_mem _ (List.mem_append_right _ h)
  have hP : va_P g.1 vwCl (cw_X12_kinds g h_this h_this_states h_this_letters h_this_moves h_this_light h_this_price h_this_share h_this_word h_this_queue h_this_cameFrom h_this_cameBy h_this_isKnown h_this_isJoined h_this_made h_this_pairWord h_this_bestWord h_this_sum h_this_isSettled h_this_heapSum h_this_heapSet h_this_worth h_this_worthNext h_this_order h_this_hadMoves h_this_row h_this_pairs h_this_pairLong c_machines c_wordLong c_queued c_heaped c_states c_letters c_moves) s.heap := hP
  have hD : va_D A (cw_X12_kinds g h_this h_this_states h_this_letters h_this_moves h_this_light h_this_price h_this_share h_this_word h_this_queue h_this_cameFrom h_this_cameBy h_this_isKnown h_this_isJoined h_this_made h_this_pairWord h_this_bestWord h_this_sum h_this_isSettled h_this_heapSum h_this_heapSet h_this_worth h_this_worthNext h_this_order h_this_hadMoves h_this_row h_this_pairs h_this_pairLong c_machines c_wordLong c_queued c_heaped c_states c_letters c_moves) := hD
  have hl : lv_has ls 11 [(0, .ref h_this), (1, .int x1)] := hl
  unfold wp_X12_kinds at h
  have K_301 : ∀ (t0 : Int32) (t1 : Int32) , J_X12_kinds_301 Q t0 t1 → ∀ (H : Heap) (locs : List Loc), va_P g.1 vwCl (cw_X12_kinds g h_this h_this_states h_this_letters h_this_moves h_this_light h_this_price h_this_share h_this_word h_this_queue h_this_cameFrom h_this_cameBy h_this_isKnown h_this_isJoined h_this_made h_this_pairWord h_this_bestWord h_this_sum h_this_isSettled h_this_heapSum h_this_heapSet h_this_worth h_this_worthNext h_this_order h_this_hadMoves h_this_row h_this_pairs h_this_pairLong c_machines c_wordLong c_queued c_heaped c_states c_letters c_moves) H → va_D A (cw_X12_kinds g h_this h_this_states h_this_letters h_this_moves h_this_light h_this_price h_this_share h_this_word h_this_queue h_this_cameFrom h_this_cameBy h_this_isKnown h_this_isJoined h_this_made h_this_pairWord h_this_bestWord h_this_sum h_this_isSettled h_this_heapSum h_this_heapSet h_this_worth h_this_worthNext h_this_order h_this_hadMoves h_this_row h_this_pairs h_this_pairLong c_machines c_wordLong c_queued c_heaped c_states c_letters c_moves) → va_S A s.heap H locs → ∀ ls : Array Slot, lv_has ls 11 [] → W p l e rm_X12_kinds s m args below meth c H locs 0 0 QQ (F0 m 301 ls [.int t0, .int t1]) := by
    intro t0 t1 h H locs hP hD hS ls hl
    unfold J_X12_kinds_301 at h
    refine lv_ior hx hb dX12_kinds_301 ?_
    exact hret (t1 ||| t0) () _ _ _ _ rfl h hP hD hS dX12_kinds_302
  have K_289 : ∀ (x8 : Int32) (t0 : Int32) (t1 : Int32) , J_X12_kinds_289 Q x8 t0 t1 → ∀ (H : Heap) (locs : List Loc), va_P g.1 vwCl (cw_X12_kinds g h_this h_this_states h_this_letters h_this_moves h_this_light h_this_price h_this_share h_this_word h_this_queue h_this_cameFrom h_this_cameBy h_this_isKnown h_this_isJoined h_this_made h_this_pairWord h_this_bestWord h_this_sum h_this_isSettled h_this_heapSum h_this_heapSet h_this_worth h_this_worthNext h_this_order h_this_hadMoves h_this_row h_this_pairs h_this_pairLong c_machines c_wordLong c_queued c_heaped c_states c_letters c_moves) H → va_D A (cw_X12_kinds g h_this h_this_states h_this_letters h_this_moves h_this_light h_this_price h_this_share h_this_word h_this_queue h_this_cameFrom h_this_cameBy h_this_isKnown h_this_isJoined h_this_made h_this_pairWord h_this_bestWord h_this_sum h_this_isSettled h_this_heapSum h_this_heapSet h_this_worth h_this_worthNext h_this_order h_this_hadMoves h_this_row h_this_pairs h_this_pairLong c_machines c_wordLong c_queued c_heaped c_states c_letters c_moves) → va_S A s.heap H locs → ∀ ls : Array Slot, lv_has ls 11 [(8, .int x8)] → W p l e rm_X12_kinds s m args below meth c H locs 0 0 QQ (F0 m 289 ls [.int t0, .int t1]) := by
    intro x8 t0 t1 h H locs hP hD hS ls hl
    unfold J_X12_kinds_289 at h
    refine lv_ior hx hb dX12_kinds_289 ?_
    refine lv_iload hx hb dX12_kinds_290 (lv_at hl 0 rfl) ?_
    refine lv_if_eq (tgt := 300) hx hb dX12_kinds_292 (by decide) (fun cq => ?_) (fun cq => ?_)
    · replace h := h.1 cq
      refine lv_iconst (v := (nI 0)) hx hb dX12_kinds_300 (by decide) ?_
      exact K_301 (nI 0) (t1 ||| t0) h _ _ hP hD hS _ (lv_sub hl [] rfl)
    · replace h := h.2 cq
      refine lv_bipush (v := (nI 16)) hx hb dX12_kinds_295 (by decide) ?_
      refine lv_goto (tgt := 301) hx hb dX12_kinds_297 (by decide) ?_
      exact K_301 (nI 16) (t1 ||| t0) h _ _ hP hD hS _ (lv_sub hl [] rfl)
  have K_277 : ∀ (x7 : Int32) (x8 : Int32) (t0 : Int32) (t1 : Int32) , J_X12_kinds_277 Q x7 x8 t0 t1 → ∀ (H : Heap) (locs : List Loc), va_P g.1 vwCl (cw_X12_kinds g h_this h_this_states h_this_letters h_this_moves h_this_light h_this_price h_this_share h_this_word h_this_queue h_this_cameFrom h_this_cameBy h_this_isKnown h_this_isJoined h_this_made h_this_pairWord h_this_bestWord h_this_sum h_this_isSettled h_this_heapSum h_this_heapSet h_this_worth h_this_worthNext h_this_order h_this_hadMoves h_this_row h_this_pairs h_this_pairLong c_machines c_wordLong c_queued c_heaped c_states c_letters c_moves) H → va_D A (cw_X12_kinds g h_this h_this_states h_this_letters h_this_moves h_this_light h_this_price h_this_share h_this_word h_this_queue h_this_cameFrom h_this_cameBy h_this_isKnown h_this_isJoined h_this_made h_this_pairWord h_this_bestWord h_this_sum h_this_isSettled h_this_heapSum h_this_heapSet h_this_worth h_this_worthNext h_this_order h_this_hadMoves h_this_row h_this_pairs h_this_pairLong c_machines c_wordLong c_queued c_heaped c_states c_letters c_moves) → va_S A s.heap H locs → ∀ ls : Array Slot, lv_has ls 11 [(7, .int x7), (8, .int x8)] → W p l e rm_X12_kinds s m args below meth c H locs 0 0 QQ (F0 m 277 ls [.int t0, .int t1]) := by
    intro x7 x8 t0 t1 h H locs hP hD hS ls hl
    unfold J_X12_kinds_277 at h
    refine lv_ior hx hb dX12_kinds_277 ?_
    refine lv_iload hx hb dX12_kinds_278 (lv_at hl 0 rfl) ?_
    refine lv_if_eq (tgt := 288) hx hb dX12_kinds_280 (by decide) (fun cq => ?_) (fun cq => ?_)
    · replace h := h.1 cq
      refine lv_iconst (v := (nI 0)) hx hb dX12_kinds_288 (by decide) ?_
      exact K_289 x8 (nI 0) (t1 ||| t0) h _ _ hP hD hS _ (lv_sub hl [1] rfl)
    · replace h := h.2 cq
      refine lv_bipush (v := (nI 8)) hx hb dX12_kinds_283 (by decide) ?_
      refine lv_goto (tgt := 289) hx hb dX12_kinds_285 (by decide) ?_
      exact K_289 x8 (nI 8) (t1 ||| t0) h _ _ hP hD hS _ (lv_sub hl [1] rfl)
  have K_266 : ∀ (x6 : Int32) (x7 : Int32) (x8 : Int32) (t0 : Int32) (t1 : Int32) , J_X12_kinds_266 Q x6 x7 x8 t0 t1 → ∀ (H : Heap) (locs : List Loc), va_P g.1 vwCl (cw_X12_kinds g h_this h_this_states h_this_letters h_this_moves h_this_light h_this_price h_this_share h_this_word h_this_queue h_this_cameFrom h_this_cameBy h_this_isKnown h_this_isJoined h_this_made h_this_pairWord h_this_bestWord h_this_sum h_this_isSettled h_this_heapSum h_this_heapSet h_this_worth h_this_worthNext h_this_order h_this_hadMoves h_this_row h_this_pairs h_this_pairLong c_machines c_wordLong c_queued c_heaped c_states c_letters c_moves) H → va_D A (cw_X12_kinds g h_this h_this_states h_this_letters h_this_moves h_this_light h_this_price h_this_share h_this_word h_this_queue h_this_cameFrom h_this_cameBy h_this_isKnown h_this_isJoined h_this_made h_this_pairWord h_this_bestWord h_this_sum h_this_isSettled h_this_heapSum h_this_heapSet h_this_worth h_this_worthNext h_this_order h_this_hadMoves h_this_row h_this_pairs h_this_pairLong c_machines c_wordLong c_queued c_heaped c_states c_letters c_moves) → va_S A s.heap H locs → ∀ ls : Array Slot, lv_has ls 11 [(6, .int x6), (7, .int x7), (8, .int x8)] → W p l e rm_X12_kinds s m args below meth c H locs 0 0 QQ (F0 m 266 ls [.int t0, .int t1]) := by
    intro x6 x7 x8 t0 t1 h H locs hP hD hS ls hl
    unfold J_X12_kinds_266 at h
    refine lv_ior hx hb dX12_kinds_266 ?_
    refine lv_iload hx hb dX12_kinds_267 (lv_at hl 0 rfl) ?_
    refine lv_if_eq (tgt := 276) hx hb dX12_kinds_269 (by decide) (fun cq => ?_) (fun cq => ?_)
    · replace h := h.1 cq
      refine lv_iconst (v := (nI 0)) hx hb dX12_kinds_276 (by decide) ?_
      exact K_277 x7 x8 (nI 0) (t1 ||| t0) h _ _ hP hD hS _ (lv_sub hl [1, 2] rfl)
    · replace h := h.2 cq
      refine lv_iconst (v := (nI 4)) hx hb dX12_kinds_272 (by decide) ?_
      refine lv_goto (tgt := 277) hx hb dX12_kinds_273 (by decide) ?_
      exact K_277 x7 x8 (nI 4) (t1 ||| t0) h _ _ hP hD hS _ (lv_sub hl [1, 2] rfl)
  have K_256 : ∀ (x5 : Int32) (x6 : Int32) (x7 : Int32) (x8 : Int32) (t0 : Int32) , J_X12_kinds_256 Q x5 x6 x7 x8 t0 → ∀ (H : Heap) (locs : List Loc), va_P g.1 vwCl (cw_X12_kinds g h_this h_this_states h_this_letters h_this_moves h_this_light h_this_price h_this_share h_this_word h_this_queue h_this_cameFrom h_this_cameBy h_this_isKnown h_this_isJoined h_this_made h_this_pairWord h_this_bestWord h_this_sum h_this_isSettled h_this_heapSum h_this_heapSet h_this_worth h_this_worthNext h_this_order h_this_hadMoves h_this_row h_this_pairs h_this_pairLong c_machines c_wordLong c_queued c_heaped c_states c_letters c_moves) H → va_D A (cw_X12_kinds g h_this h_this_states h_this_letters h_this_moves h_this_light h_this_price h_this_share h_this_word h_this_queue h_this_cameFrom h_this_cameBy h_this_isKnown h_this_isJoined h_this_made h_this_pairWord h_this_bestWord h_this_sum h_this_isSettled h_this_heapSum h_this_heapSet h_this_worth h_this_worthNext h_this_order h_this_hadMoves h_this_row h_this_pairs h_this_pairLong c_machines c_wordLong c_queued c_heaped c_states c_letters c_moves) → va_S A s.heap H locs → ∀ ls : Array Slot, lv_has ls 11 [(5, .int x5), (6, .int x6), (7, .int x7), (8, .int x8)] → W p l e rm_X12_kinds s m args below meth c H locs 0 0 QQ (F0 m 256 ls [.int t0]) := by
    intro x5 x6 x7 x8 t0 h H locs hP hD hS ls hl
    unfold J_X12_kinds_256 at h
    refine lv_iload hx hb dX12_kinds_256 (lv_at hl 0 rfl) ?_
    refine lv_if_eq (tgt := 265) hx hb dX12_kinds_258 (by decide) (fun cq => ?_) (fun cq => ?_)
    · replace h := h.1 cq
      refine lv_iconst (v := (nI 0)) hx hb dX12_kinds_265 (by decide) ?_
      exact K_266 x6 x7 x8 (nI 0) t0 h _ _ hP hD hS _ (lv_sub hl [1, 2, 3] rfl)
    · replace h := h.2 cq
      refine lv_iconst (v := (nI 2)) hx hb dX12_kinds_261 (by decide) ?_
      refine lv_goto (tgt := 266) hx hb dX12_kinds_262 (by decide) ?_
      exact K_266 x6 x7 x8 (nI 2) t0 h _ _ hP hD hS _ (lv_sub hl [1, 2, 3] rfl)
  have K_246 : ∀ (x4 : Int32) (x5 : Int32) (x6 : Int32) (x7 : Int32) (x8 : Int32) , J_X12_kinds_246 Q x4 x5 x6 x7 x8 → ∀ (H : Heap) (locs : List Loc), va_P g.1 vwCl (cw_X12_kinds g h_this h_this_states h_this_letters h_this_moves h_this_light h_this_price h_this_share h_this_word h_this_queue h_this_cameFrom h_this_cameBy h_this_isKnown h_this_isJoined h_this_made h_this_pairWord h_this_bestWord h_this_sum h_this_isSettled h_this_heapSum h_this_heapSet h_this_worth h_this_worthNext h_this_order h_this_hadMoves h_this_row h_this_pairs h_this_pairLong c_machines c_wordLong c_queued c_heaped c_states c_letters c_moves) H → va_D A (cw_X12_kinds g h_this h_this_states h_this_letters h_this_moves h_this_light h_this_price h_this_share h_this_word h_this_queue h_this_cameFrom h_this_cameBy h_this_isKnown h_this_isJoined h_this_made h_this_pairWord h_this_bestWord h_this_sum h_this_isSettled h_this_heapSum h_this_heapSet h_this_worth h_this_worthNext h_this_order h_this_hadMoves h_this_row h_this_pairs h_this_pairLong c_machines c_wordLong c_queued c_heaped c_states c_letters c_moves) → va_S A s.heap H locs → ∀ ls : Array Slot, lv_has ls 11 [(4, .int x4), (5, .int x5), (6, .int x6), (7, .int x7), (8, .int x8)] → W p l e rm_X12_kinds s m args below meth c H locs 0 0 QQ (F0 m 246 ls []) := by
    intro x4 x5 x6 x7 x8 h H locs hP hD hS ls hl
    unfold J_X12_kinds_246 at h
    refine lv_iload hx hb dX12_kinds_246 (lv_at hl 0 rfl) ?_
    refine lv_if_eq (tgt := 255) hx hb dX12_kinds_248 (by decide) (fun cq => ?_) (fun cq => ?_)
    · replace h := h.1 cq
      refine lv_iconst (v := (nI 0)) hx hb dX12_kinds_255 (by decide) ?_
      exact K_256 x5 x6 x7 x8 (nI 0) h _ _ hP hD hS _ (lv_sub hl [1, 2, 3, 4] rfl)
    · replace h := h.2 cq
      refine lv_iconst (v := (nI 1)) hx hb dX12_kinds_251 (by decide) ?_
      refine lv_goto (tgt := 256) hx hb dX12_kinds_252 (by decide) ?_
      exact K_256 x5 x6 x7 x8 (nI 1) h _ _ hP hD hS _ (lv_sub hl [1, 2, 3, 4] rfl)
  have K_212 : ∀ (x2 : Int32) (x4 : Int32) (x6 : Int32) (x7 : Int32) (x8 : Int32) (n_212 : Nat) (x5 : Int32) (x9 : Int32) , L_X12_kinds_212 c_machines c_wordLong c_queued c_heaped c_states c_letters c_moves x1 x2 x4 x6 x7 x8 Q n_212 x5 x9 → ∀ (H : Heap) (locs : List Loc), va_P g.1 vwCl (cw_X12_kinds g h_this h_this_states h_this_letters h_this_moves h_this_light h_this_price h_this_share h_this_word h_this_queue h_this_cameFrom h_this_cameBy h_this_isKnown h_this_isJoined h_this_made h_this_pairWord h_this_bestWord h_this_sum h_this_isSettled h_this_heapSum h_this_heapSet h_this_worth h_this_worthNext h_this_order h_this_hadMoves h_this_row h_this_pairs h_this_pairLong c_machines c_wordLong c_queued c_heaped c_states c_letters c_moves) H → va_D A (cw_X12_kinds g h_this h_this_states h_this_letters h_this_moves h_this_light h_this_price h_this_share h_this_word h_this_queue h_this_cameFrom h_this_cameBy h_this_isKnown h_this_isJoined h_this_made h_this_pairWord h_this_bestWord h_this_sum h_this_isSettled h_this_heapSum h_this_heapSet h_this_worth h_this_worthNext h_this_order h_this_hadMoves h_this_row h_this_pairs h_this_pairLong c_machines c_wordLong c_queued c_heaped c_states c_letters c_moves) → va_S A s.heap H locs → ∀ ls : Array Slot, lv_has ls 11 [(0, .ref h_this), (1, .int x1), (2, .int x2), (4, .int x4), (5, .int x5), (6, .int x6), (7, .int x7), (8, .int x8), (9, .int x9)] → W p l e rm_X12_kinds s m args below meth c H locs 0 0 QQ (F0 m 212 ls []) := by
    intro x2 x4 x6 x7 x8 n_212
    induction n_212 with
    | zero => intro x5 x9; exact fun h => False.elim h
    | succ n_212 ih_212 =>
      intro x5 x9 h H locs hP hD hS ls hl
      unfold L_X12_kinds_212 at h
      have K_238 : ∀ (x9 : Int32) (t0 : Int32) , J_X12_kinds_238 (L_X12_kinds_212 c_machines c_wordLong c_queued c_heaped c_states c_letters c_moves x1 x2 x4 x6 x7 x8 Q n_212) x9 t0 → ∀ (H : Heap) (locs : List Loc), va_P g.1 vwCl (cw_X12_kinds g h_this h_this_states h_this_letters h_this_moves h_this_light h_this_price h_this_share h_this_word h_this_queue h_this_cameFrom h_this_cameBy h_this_isKnown h_this_isJoined h_this_made h_this_pairWord h_this_bestWord h_this_sum h_this_isSettled h_this_heapSum h_this_heapSet h_this_worth h_this_worthNext h_this_order h_this_hadMoves h_this_row h_this_pairs h_this_pairLong c_machines c_wordLong c_queued c_heaped c_states c_letters c_moves) H → va_D A (cw_X12_kinds g h_this h_this_states h_this_letters h_this_moves h_this_light h_this_price h_this_share h_this_word h_this_queue h_this_cameFrom h_this_cameBy h_this_isKnown h_this_isJoined h_this_made h_this_pairWord h_this_bestWord h_this_sum h_this_isSettled h_this_heapSum h_this_heapSet h_this_worth h_this_worthNext h_this_order h_this_hadMoves h_this_row h_this_pairs h_this_pairLong c_machines c_wordLong c_queued c_heaped c_states c_letters c_moves) → va_S A s.heap H locs → ∀ ls : Array Slot, lv_has ls 11 [(0, .ref h_this), (1, .int x1), (2, .int x2), (4, .int x4), (6, .int x6), (7, .int x7), (8, .int x8), (9, .int x9)] → W p l e rm_X12_kinds s m args below meth c H locs 0 0 QQ (F0 m 238 ls [.int t0]) := by
        intro x9 t0 h H locs hP hD hS ls hl
        unfold J_X12_kinds_238 at h
        refine lv_istore (lv' := [(5, .int t0), (0, .ref h_this), (1, .int x1), (2, .int x2), (4, .int x4), (6, .int x6), (7, .int x7), (8, .int x8), (9, .int x9)]) hx hb dX12_kinds_238 hl (by decide) rfl (fun ls hl => ?_)
        refine lv_iinc (v := (x9 + (nI 1))) (lv' := [(9, .int (x9 + (nI 1))), (5, .int t0), (0, .ref h_this), (1, .int x1), (2, .int x2), (4, .int x4), (6, .int x6), (7, .int x7), (8, .int x8)]) hx hb dX12_kinds_240 hl (k := 8) rfl rfl (by decide) rfl (fun ls hl => ?_)
        refine lv_goto (tgt := 212) hx hb dX12_kinds_243 (by decide) ?_
        exact ih_212 t0 (x9 + (nI 1)) h _ _ hP hD hS _ (lv_sub hl [2, 3, 4, 5, 1, 6, 7, 8, 0] rfl)
      have K_233 : ∀ (x9 : Int32) , J_X12_kinds_233 (L_X12_kinds_212 c_machines c_wordLong c_queued c_heaped c_states c_letters c_moves x1 x2 x4 x6 x7 x8 Q n_212) x9 → ∀ (H : Heap) (locs : List Loc), va_P g.1 vwCl (cw_X12_kinds g h_this h_this_states h_this_letters h_this_moves h_this_light h_this_price h_this_share h_this_word h_this_queue h_this_cameFrom h_this_cameBy h_this_isKnown h_this_isJoined h_this_made h_this_pairWord h_this_bestWord h_this_sum h_this_isSettled h_this_heapSum h_this_heapSet h_this_worth h_this_worthNext h_this_order h_this_hadMoves h_this_row h_this_pairs h_this_pairLong c_machines c_wordLong c_queued c_heaped c_states c_letters c_moves) H → va_D A (cw_X12_kinds g h_this h_this_states h_this_letters h_this_moves h_this_light h_this_price h_this_share h_this_word h_this_queue h_this_cameFrom h_this_cameBy h_this_isKnown h_this_isJoined h_this_made h_this_pairWord h_this_bestWord h_this_sum h_this_isSettled h_this_heapSum h_this_heapSet h_this_worth h_this_worthNext h_this_order h_this_hadMoves h_this_row h_this_pairs h_this_pairLong c_machines c_wordLong c_queued c_heaped c_states c_letters c_moves) → va_S A s.heap H locs → ∀ ls : Array Slot, lv_has ls 11 [(0, .ref h_this), (1, .int x1), (2, .int x2), (4, .int x4), (6, .int x6), (7, .int x7), (8, .int x8), (9, .int x9)] → W p l e rm_X12_kinds s m args below meth c H locs 0 0 QQ (F0 m 233 ls []) := by
        intro x9 h H locs hP hD hS ls hl
        unfold J_X12_kinds_233 at h
        refine lv_iconst (v := (nI 1)) hx hb dX12_kinds_233 (by decide) ?_
        refine lv_goto (tgt := 238) hx hb dX12_kinds_234 (by decide) ?_
        exact K_238 x9 (nI 1) h _ _ hP hD hS _ (lv_sub hl [0, 1, 2, 3, 4, 5, 6, 7] rfl)
      refine lv_iload hx hb dX12_kinds_212 (lv_at hl 8 rfl) ?_
      refine lv_iload_n hx hb dX12_kinds_214 rfl (lv_at hl 2 rfl) ?_
      refine lv_icmp_ge (tgt := 246) hx hb dX12_kinds_215 (by decide) (fun cq => ?_) (fun cq => ?_)
      · replace h := h.1 cq
        exact K_246 x4 x5 x6 x7 x8 h _ _ hP hD hS _ (lv_sub hl [3, 4, 5, 6, 7] rfl)
      · replace h := h.2 cq
        refine lv_iload hx hb dX12_kinds_218 (lv_at hl 4 rfl) ?_
        refine lv_if_ne (tgt := 233) hx hb dX12_kinds_220 (by decide) (fun cq => ?_) (fun cq => ?_)
        · replace h := h.1 cq
          exact K_233 x9 h _ _ hP hD hS _ (lv_sub hl [0, 1, 2, 3, 5, 6, 7, 8] rfl)
        · replace h := h.2 cq
          refine lv_aload_n hx hb dX12_kinds_223 rfl (lv_at hl 0 rfl) ?_
          refine lv_iload_n hx hb dX12_kinds_224 rfl (lv_at hl 1 rfl) ?_
          refine lv_iload hx hb dX12_kinds_225 (lv_at hl 8 rfl) ?_
          refine go_I E (run_V E ((k_X12_isSink l g h_this h_this_states h_this_letters h_this_moves h_this_light h_this_price h_this_share h_this_word h_this_queue h_this_cameFrom h_this_cameBy h_this_isKnown h_this_isJoined h_this_made h_this_pairWord h_this_bestWord h_this_sum h_this_isSettled h_this_heapSum h_this_heapSet h_this_worth h_this_worthNext h_this_order h_this_hadMoves h_this_row h_this_pairs h_this_pairLong h) _) (cwV 2 hts gX12_kinds_X12_isSink rfl rfl rfl (by decide +kernel) ⟨Nat.le_of_ble_eq_true rfl, Nat.le_of_ble_eq_true rfl⟩) hP hD hS [0, 1, 2, 3] rfl rfl 0 11 rfl rfl rfl hl rfl rfl (Nat.le_of_ble_eq_true rfl) dX12_kinds_227 ⟨Nat.le_of_ble_eq_true rfl, Nat.le_of_ble_eq_true rfl⟩) hP hD hS [0, 1, 2, 3] rfl [(false, 0), (false, 1), (false, 2), (false, 3)] rfl (by decide) (fun _ => (cw_X12_kinds g h_this h_this_states h_this_letters h_this_moves h_this_light h_this_price h_this_share h_this_word h_this_queue h_this_cameFrom h_this_cameBy h_this_isKnown h_this_isJoined h_this_made h_this_pairWord h_this_bestWord h_this_sum h_this_isSettled h_this_heapSum h_this_heapSet h_this_worth h_this_worthNext h_this_order h_this_hadMoves h_this_row h_this_pairs h_this_pairLong c_machines c_wordLong c_queued c_heaped c_states c_letters c_moves)) (fun _ => rfl) (fun r6 _ H locs h hP hD hS => ?_)
          try dsimp only at h
          have hP : va_P g.1 vwCl (cw_X12_kinds g h_this h_this_states h_this_letters h_this_moves h_this_light h_this_price h_this_share h_this_word h_this_queue h_this_cameFrom h_this_cameBy h_this_isKnown h_this_isJoined h_this_made h_this_pairWord h_this_bestWord h_this_sum h_this_isSettled h_this_heapSum h_this_heapSet h_this_worth h_this_worthNext h_this_order h_this_hadMoves h_this_row h_this_pairs h_this_pairLong c_machines c_wordLong c_queued c_heaped c_states c_letters c_moves) H := hP
          have hD : va_D A (cw_X12_kinds g h_this h_this_states h_this_letters h_this_moves h_this_light h_this_price h_this_share h_this_word h_this_queue h_this_cameFrom h_this_cameBy h_this_isKnown h_this_isJoined h_this_made h_this_pairWord h_this_bestWord h_this_sum h_this_isSettled h_this_heapSum h_this_heapSet h_this_worth h_this_worthNext h_this_order h_this_hadMoves h_this_row h_this_pairs h_this_pairLong c_machines c_wordLong c_queued c_heaped c_states c_letters c_moves) := hD
          refine lv_if_eq (tgt := 237) hx hb dX12_kinds_230 (by decide) (fun cq => ?_) (fun cq => ?_)
          · replace h := h.1 cq
            refine lv_iconst (v := (nI 0)) hx hb dX12_kinds_237 (by decide) ?_
            exact K_238 x9 (nI 0) h _ _ hP hD hS _ (lv_sub hl [0, 1, 2, 3, 5, 6, 7, 8] rfl)
          · replace h := h.2 cq
            exact K_233 x9 h _ _ hP hD hS _ (lv_sub hl [0, 1, 2, 3, 5, 6, 7, 8] rfl)
  have K_209 : ∀ (x2 : Int32) (x4 : Int32) (x5 : Int32) (x6 : Int32) (x7 : Int32) (x8 : Int32) , J_X12_kinds_209 c_machines c_wordLong c_queued c_heaped c_states c_letters c_moves x1 Q x2 x4 x5 x6 x7 x8 → ∀ (H : Heap) (locs : List Loc), va_P g.1 vwCl (cw_X12_kinds g h_this h_this_states h_this_letters h_this_moves h_this_light h_this_price h_this_share h_this_word h_this_queue h_this_cameFrom h_this_cameBy h_this_isKnown h_this_isJoined h_this_made h_this_pairWord h_this_bestWord h_this_sum h_this_isSettled h_this_heapSum h_this_heapSet h_this_worth h_this_worthNext h_this_order h_this_hadMoves h_this_row h_this_pairs h_this_pairLong c_machines c_wordLong c_queued c_heaped c_states c_letters c_moves) H → va_D A (cw_X12_kinds g h_this h_this_states h_this_letters h_this_moves h_this_light h_this_price h_this_share h_this_word h_this_queue h_this_cameFrom h_this_cameBy h_this_isKnown h_this_isJoined h_this_made h_this_pairWord h_this_bestWord h_this_sum h_this_isSettled h_this_heapSum h_this_heapSet h_this_worth h_this_worthNext h_this_order h_this_hadMoves h_this_row h_this_pairs h_this_pairLong c_machines c_wordLong c_queued c_heaped c_states c_letters c_moves) → va_S A s.heap H locs → ∀ ls : Array Slot, lv_has ls 11 [(0, .ref h_this), (1, .int x1), (2, .int x2), (4, .int x4), (5, .int x5), (6, .int x6), (7, .int x7), (8, .int x8)] → W p l e rm_X12_kinds s m args below meth c H locs 0 0 QQ (F0 m 209 ls []) := by
    intro x2 x4 x5 x6 x7 x8 h H locs hP hD hS ls hl
    unfold J_X12_kinds_209 at h
    refine lv_iconst (v := (nI 0)) hx hb dX12_kinds_209 (by decide) ?_
    refine lv_istore (lv' := [(9, .int (nI 0)), (0, .ref h_this), (1, .int x1), (2, .int x2), (4, .int x4), (5, .int x5), (6, .int x6), (7, .int x7), (8, .int x8)]) hx hb dX12_kinds_210 hl (by decide) rfl (fun ls hl => ?_)
    obtain ⟨n, h⟩ := h
    exact K_212 x2 x4 x6 x7 x8 n x5 (nI 0) h _ _ hP hD hS _ (lv_sub hl [1, 2, 3, 4, 5, 6, 7, 8, 0] rfl)
  have K_53 : ∀ (x2 : Int32) (x3 : Int32) (x5 : Int32) (n_53 : Nat) (x4 : Int32) (x6 : Int32) (x7 : Int32) (x8 : Int32) (x9 : Int32) , L_X12_kinds_53 c_machines c_wordLong c_queued c_heaped c_states c_letters c_moves x1 x2 x3 x5 Q n_53 x4 x6 x7 x8 x9 → ∀ (H : Heap) (locs : List Loc), va_P g.1 vwCl (cw_X12_kinds g h_this h_this_states h_this_letters h_this_moves h_this_light h_this_price h_this_share h_this_word h_this_queue h_this_cameFrom h_this_cameBy h_this_isKnown h_this_isJoined h_this_made h_this_pairWord h_this_bestWord h_this_sum h_this_isSettled h_this_heapSum h_this_heapSet h_this_worth h_this_worthNext h_this_order h_this_hadMoves h_this_row h_this_pairs h_this_pairLong c_machines c_wordLong c_queued c_heaped c_states c_letters c_moves) H → va_D A (cw_X12_kinds g h_this h_this_states h_this_letters h_this_moves h_this_light h_this_price h_this_share h_this_word h_this_queue h_this_cameFrom h_this_cameBy h_this_isKnown h_this_isJoined h_this_made h_this_pairWord h_this_bestWord h_this_sum h_this_isSettled h_this_heapSum h_this_heapSet h_this_worth h_this_worthNext h_this_order h_this_hadMoves h_this_row h_this_pairs h_this_pairLong c_machines c_wordLong c_queued c_heaped c_states c_letters c_moves) → va_S A s.heap H locs → ∀ ls : Array Slot, lv_has ls 11 [(0, .ref h_this), (1, .int x1), (2, .int x2), (3, .int x3), (4, .int x4), (5, .int x5), (6, .int x6), (7, .int x7), (8, .int x8), (9, .int x9)] → W p l e rm_X12_kinds s m args below meth c H locs 0 0 QQ (F0 m 53 ls []) := by
    intro x2 x3 x5 n_53
    induction n_53 with
    | zero => intro x4 x6 x7 x8 x9; exact fun h => False.elim h
    | succ n_53 ih_53 =>
      intro x4 x6 x7 x8 x9 h H locs hP hD hS ls hl
      unfold L_X12_kinds_53 at h
      have K_203 : ∀ (x4 : Int32) (x6 : Int32) (x7 : Int32) (x8 : Int32) (x9 : Int32) , J_X12_kinds_203 (L_X12_kinds_53 c_machines c_wordLong c_queued c_heaped c_states c_letters c_moves x1 x2 x3 x5 Q n_53) x4 x6 x7 x8 x9 → ∀ (H : Heap) (locs : List Loc), va_P g.1 vwCl (cw_X12_kinds g h_this h_this_states h_this_letters h_this_moves h_this_light h_this_price h_this_share h_this_word h_this_queue h_this_cameFrom h_this_cameBy h_this_isKnown h_this_isJoined h_this_made h_this_pairWord h_this_bestWord h_this_sum h_this_isSettled h_this_heapSum h_this_heapSet h_this_worth h_this_worthNext h_this_order h_this_hadMoves h_this_row h_this_pairs h_this_pairLong c_machines c_wordLong c_queued c_heaped c_states c_letters c_moves) H → va_D A (cw_X12_kinds g h_this h_this_states h_this_letters h_this_moves h_this_light h_this_price h_this_share h_this_word h_this_queue h_this_cameFrom h_this_cameBy h_this_isKnown h_this_isJoined h_this_made h_this_pairWord h_this_bestWord h_this_sum h_this_isSettled h_this_heapSum h_this_heapSet h_this_worth h_this_worthNext h_this_order h_this_hadMoves h_this_row h_this_pairs h_this_pairLong c_machines c_wordLong c_queued c_heaped c_states c_letters c_moves) → va_S A s.heap H locs → ∀ ls : Array Slot, lv_has ls 11 [(0, .ref h_this), (1, .int x1), (2, .int x2), (3, .int x3), (4, .int x4), (5, .int x5), (6, .int x6), (7, .int x7), (8, .int x8), (9, .int x9)] → W p l e rm_X12_kinds s m args below meth c H locs 0 0 QQ (F0 m 203 ls []) := by
        intro x4 x6 x7 x8 x9 h H locs hP hD hS ls hl
        unfold J_X12_kinds_203 at h
        refine lv_iinc (v := (x9 + (nI 1))) (lv' := [(9, .int (x9 + (nI 1))), (0, .ref h_this), (1, .int x1), (2, .int x2), (3, .int x3), (4, .int x4), (5, .int x5), (6, .int x6), (7, .int x7), (8, .int x8)]) hx hb dX12_kinds_203 hl (k := 9) rfl rfl (by decide) rfl (fun ls hl => ?_)
        refine lv_goto (tgt := 53) hx hb dX12_kinds_206 (by decide) ?_
        exact ih_53 x4 x6 x7 x8 (x9 + (nI 1)) h _ _ hP hD hS _ (lv_sub hl [1, 2, 3, 4, 5, 6, 7, 8, 9, 0] rfl)
      have K_113 : ∀ (x4 : Int32) (x7 : Int32) (x9 : Int32) (n_113 : Nat) (x6 : Int32) (x8 : Int32) (x10 : Int32) , L_X12_kinds_113 c_moves x1 x2 x4 x7 x9 (L_X12_kinds_53 c_machines c_wordLong c_queued c_heaped c_states c_letters c_moves x1 x2 x3 x5 Q n_53) n_113 x6 x8 x10 → ∀ (H : Heap) (locs : List Loc), va_P g.1 vwCl (cw_X12_kinds g h_this h_this_states h_this_letters h_this_moves h_this_light h_this_price h_this_share h_this_word h_this_queue h_this_cameFrom h_this_cameBy h_this_isKnown h_this_isJoined h_this_made h_this_pairWord h_this_bestWord h_this_sum h_this_isSettled h_this_heapSum h_this_heapSet h_this_worth h_this_worthNext h_this_order h_this_hadMoves h_this_row h_this_pairs h_this_pairLong c_machines c_wordLong c_queued c_heaped c_states c_letters c_moves) H → va_D A (cw_X12_kinds g h_this h_this_states h_this_letters h_this_moves h_this_light h_this_price h_this_share h_this_word h_this_queue h_this_cameFrom h_this_cameBy h_this_isKnown h_this_isJoined h_this_made h_this_pairWord h_this_bestWord h_this_sum h_this_isSettled h_this_heapSum h_this_heapSet h_this_worth h_this_worthNext h_this_order h_this_hadMoves h_this_row h_this_pairs h_this_pairLong c_machines c_wordLong c_queued c_heaped c_states c_letters c_moves) → va_S A s.heap H locs → ∀ ls : Array Slot, lv_has ls 11 [(0, .ref h_this), (1, .int x1), (2, .int x2), (3, .int x3), (4, .int x4), (5, .int x5), (6, .int x6), (7, .int x7), (8, .int x8), (9, .int x9), (10, .int x10)] → W p l e rm_X12_kinds s m args below meth c H locs 0 0 QQ (F0 m 113 ls []) := by
        intro x4 x7 x9 n_113
        induction n_113 with
        | zero => intro x6 x8 x10; exact fun h => False.elim h
        | succ n_113 ih_113 =>
          intro x6 x8 x10 h H locs hP hD hS ls hl
          unfold L_X12_kinds_113 at h
          have K_195 : ∀ (x8 : Int32) (x10 : Int32) (t0 : Int32) , J_X12_kinds_195 (L_X12_kinds_113 c_moves x1 x2 x4 x7 x9 (L_X12_kinds_53 c_machines c_wordLong c_queued c_heaped c_states c_letters c_moves x1 x2 x3 x5 Q n_53) n_113) x8 x10 t0 → ∀ (H : Heap) (locs : List Loc), va_P g.1 vwCl (cw_X12_kinds g h_this h_this_states h_this_letters h_this_moves h_this_light h_this_price h_this_share h_this_word h_this_queue h_this_cameFrom h_this_cameBy h_this_isKnown h_this_isJoined h_this_made h_this_pairWord h_this_bestWord h_this_sum h_this_isSettled h_this_heapSum h_this_heapSet h_this_worth h_this_worthNext h_this_order h_this_hadMoves h_this_row h_this_pairs h_this_pairLong c_machines c_wordLong c_queued c_heaped c_states c_letters c_moves) H → va_D A (cw_X12_kinds g h_this h_this_states h_this_letters h_this_moves h_this_light h_this_price h_this_share h_this_word h_this_queue h_this_cameFrom h_this_cameBy h_this_isKnown h_this_isJoined h_this_made h_this_pairWord h_this_bestWord h_this_sum h_this_isSettled h_this_heapSum h_this_heapSet h_this_worth h_this_worthNext h_this_order h_this_hadMoves h_this_row h_this_pairs h_this_pairLong c_machines c_wordLong c_queued c_heaped c_states c_letters c_moves) → va_S A s.heap H locs → ∀ ls : Array Slot, lv_has ls 11 [(0, .ref h_this), (1, .int x1), (2, .int x2), (3, .int x3), (4, .int x4), (5, .int x5), (7, .int x7), (8, .int x8), (9, .int x9), (10, .int x10)] → W p l e rm_X12_kinds s m args below meth c H locs 0 0 QQ (F0 m 195 ls [.int t0]) := by
            intro x8 x10 t0 h H locs hP hD hS ls hl
            unfold J_X12_kinds_195 at h
            refine lv_istore (lv' := [(6, .int t0), (0, .ref h_this), (1, .int x1), (2, .int x2), (3, .int x3), (4, .int x4), (5, .int x5), (7, .int x7), (8, .int x8), (9, .int x9), (10, .int x10)]) hx hb dX12_kinds_195 hl (by decide) rfl (fun ls hl => ?_)
            refine lv_iinc (v := (x10 + (nI 1))) (lv' := [(10, .int (x10 + (nI 1))), (6, .int t0), (0, .ref h_this), (1, .int x1), (2, .int x2), (3, .int x3), (4, .int x4), (5, .int x5), (7, .int x7), (8, .int x8), (9, .int x9)]) hx hb dX12_kinds_197 hl (k := 10) rfl rfl (by decide) rfl (fun ls hl => ?_)
            refine lv_goto (tgt := 113) hx hb dX12_kinds_200 (by decide) ?_
            exact ih_113 t0 x8 (x10 + (nI 1)) h _ _ hP hD hS _ (lv_sub hl [2, 3, 4, 5, 6, 7, 1, 8, 9, 10, 0] rfl)
          have K_194 : ∀ (x8 : Int32) (x10 : Int32) , J_X12_kinds_194 (L_X12_kinds_113 c_moves x1 x2 x4 x7 x9 (L_X12_kinds_53 c_machines c_wordLong c_queued c_heaped c_states c_letters c_moves x1 x2 x3 x5 Q n_53) n_113) x8 x10 → ∀ (H : Heap) (locs : List Loc), va_P g.1 vwCl (cw_X12_kinds g h_this h_this_states h_this_letters h_this_moves h_this_light h_this_price h_this_share h_this_word h_this_queue h_this_cameFrom h_this_cameBy h_this_isKnown h_this_isJoined h_this_made h_this_pairWord h_this_bestWord h_this_sum h_this_isSettled h_this_heapSum h_this_heapSet h_this_worth h_this_worthNext h_this_order h_this_hadMoves h_this_row h_this_pairs h_this_pairLong c_machines c_wordLong c_queued c_heaped c_states c_letters c_moves) H → va_D A (cw_X12_kinds g h_this h_this_states h_this_letters h_this_moves h_this_light h_this_price h_this_share h_this_word h_this_queue h_this_cameFrom h_this_cameBy h_this_isKnown h_this_isJoined h_this_made h_this_pairWord h_this_bestWord h_this_sum h_this_isSettled h_this_heapSum h_this_heapSet h_this_worth h_this_worthNext h_this_order h_this_hadMoves h_this_row h_this_pairs h_this_pairLong c_machines c_wordLong c_queued c_heaped c_states c_letters c_moves) → va_S A s.heap H locs → ∀ ls : Array Slot, lv_has ls 11 [(0, .ref h_this), (1, .int x1), (2, .int x2), (3, .int x3), (4, .int x4), (5, .int x5), (7, .int x7), (8, .int x8), (9, .int x9), (10, .int x10)] → W p l e rm_X12_kinds s m args below meth c H locs 0 0 QQ (F0 m 194 ls []) := by
            intro x8 x10 h H locs hP hD hS ls hl
            unfold J_X12_kinds_194 at h
            refine lv_iconst (v := (nI 0)) hx hb dX12_kinds_194 (by decide) ?_
            exact K_195 x8 x10 (nI 0) h _ _ hP hD hS _ (lv_sub hl [0, 1, 2, 3, 4, 5, 6, 7, 8, 9] rfl)
          have K_190 : ∀ (x8 : Int32) (x10 : Int32) , J_X12_kinds_190 (L_X12_kinds_113 c_moves x1 x2 x4 x7 x9 (L_X12_kinds_53 c_machines c_wordLong c_queued c_heaped c_states c_letters c_moves x1 x2 x3 x5 Q n_53) n_113) x8 x10 → ∀ (H : Heap) (locs : List Loc), va_P g.1 vwCl (cw_X12_kinds g h_this h_this_states h_this_letters h_this_moves h_this_light h_this_price h_this_share h_this_word h_this_queue h_this_cameFrom h_this_cameBy h_this_isKnown h_this_isJoined h_this_made h_this_pairWord h_this_bestWord h_this_sum h_this_isSettled h_this_heapSum h_this_heapSet h_this_worth h_this_worthNext h_this_order h_this_hadMoves h_this_row h_this_pairs h_this_pairLong c_machines c_wordLong c_queued c_heaped c_states c_letters c_moves) H → va_D A (cw_X12_kinds g h_this h_this_states h_this_letters h_this_moves h_this_light h_this_price h_this_share h_this_word h_this_queue h_this_cameFrom h_this_cameBy h_this_isKnown h_this_isJoined h_this_made h_this_pairWord h_this_bestWord h_this_sum h_this_isSettled h_this_heapSum h_this_heapSet h_this_worth h_this_worthNext h_this_order h_this_hadMoves h_this_row h_this_pairs h_this_pairLong c_machines c_wordLong c_queued c_heaped c_states c_letters c_moves) → va_S A s.heap H locs → ∀ ls : Array Slot, lv_has ls 11 [(0, .ref h_this), (1, .int x1), (2, .int x2), (3, .int x3), (4, .int x4), (5, .int x5), (7, .int x7), (8, .int x8), (9, .int x9), (10, .int x10)] → W p l e rm_X12_kinds s m args below meth c H locs 0 0 QQ (F0 m 190 ls []) := by
            intro x8 x10 h H locs hP hD hS ls hl
            unfold J_X12_kinds_190 at h
            refine lv_iconst (v := (nI 1)) hx hb dX12_kinds_190 (by decide) ?_
            refine lv_goto (tgt := 195) hx hb dX12_kinds_191 (by decide) ?_
            exact K_195 x8 x10 (nI 1) h _ _ hP hD hS _ (lv_sub hl [0, 1, 2, 3, 4, 5, 6, 7, 8, 9] rfl)
          have K_147 : ∀ (x6 : Int32) (x10 : Int32) (t0 : Int32) , J_X12_kinds_147 c_moves x1 x9 (L_X12_kinds_113 c_moves x1 x2 x4 x7 x9 (L_X12_kinds_53 c_machines c_wordLong c_queued c_heaped c_states c_letters c_moves x1 x2 x3 x5 Q n_53) n_113) x6 x10 t0 → ∀ (H : Heap) (locs : List Loc), va_P g.1 vwCl (cw_X12_kinds g h_this h_this_states h_this_letters h_this_moves h_this_light h_this_price h_this_share h_this_word h_this_queue h_this_cameFrom h_this_cameBy h_this_isKnown h_this_isJoined h_this_made h_this_pairWord h_this_bestWord h_this_sum h_this_isSettled h_this_heapSum h_this_heapSet h_this_worth h_this_worthNext h_this_order h_this_hadMoves h_this_row h_this_pairs h_this_pairLong c_machines c_wordLong c_queued c_heaped c_states c_letters c_moves) H → va_D A (cw_X12_kinds g h_this h_this_states h_this_letters h_this_moves h_this_light h_this_price h_this_share h_this_word h_this_queue h_this_cameFrom h_this_cameBy h_this_isKnown h_this_isJoined h_this_made h_this_pairWord h_this_bestWord h_this_sum h_this_isSettled h_this_heapSum h_this_heapSet h_this_worth h_this_worthNext h_this_order h_this_hadMoves h_this_row h_this_pairs h_this_pairLong c_machines c_wordLong c_queued c_heaped c_states c_letters c_moves) → va_S A s.heap H locs → ∀ ls : Array Slot, lv_has ls 11 [(0, .ref h_this), (1, .int x1), (2, .int x2), (3, .int x3), (4, .int x4), (5, .int x5), (6, .int x6), (7, .int x7), (9, .int x9), (10, .int x10)] → W p l e rm_X12_kinds s m args below meth c H locs 0 0 QQ (F0 m 147 ls [.int t0]) := by
            intro x6 x10 t0 h H locs hP hD hS ls hl
            unfold J_X12_kinds_147 at h
            refine lv_istore (lv' := [(8, .int t0), (0, .ref h_this), (1, .int x1), (2, .int x2), (3, .int x3), (4, .int x4), (5, .int x5), (6, .int x6), (7, .int x7), (9, .int x9), (10, .int x10)]) hx hb dX12_kinds_147 hl (by decide) rfl (fun ls hl => ?_)
            refine lv_iload hx hb dX12_kinds_149 (lv_at hl 7 rfl) ?_
            refine lv_if_eq (tgt := 194) hx hb dX12_kinds_151 (by decide) (fun cq => ?_) (fun cq => ?_)
            · replace h := h.1 cq
              exact K_194 t0 x10 h _ _ hP hD hS _ (lv_sub hl [1, 2, 3, 4, 5, 6, 8, 0, 9, 10] rfl)
            · replace h := h.2 cq
              refine lv_iload hx hb dX12_kinds_154 (lv_at hl 10 rfl) ?_
              refine lv_if_eq (tgt := 190) hx hb dX12_kinds_156 (by decide) (fun cq => ?_) (fun cq => ?_)
              · replace h := h.1 cq
                exact K_190 t0 x10 h _ _ hP hD hS _ (lv_sub hl [1, 2, 3, 4, 5, 6, 8, 0, 9, 10] rfl)
              · replace h := h.2 cq
                refine lv_aload_n hx hb dX12_kinds_159 rfl (lv_at hl 1 rfl) ?_
                refine va_get (D := g.1) (ci := 11) (v := .ref h_this_moves) (C := RX12) (T := TX12) (N := 30) hx hb hts iX12 hown hK hP 0 rfl rfl 3 (by decide) f16 (fun _ h9 => h9) rfl dX12_kinds_160 ?_
                refine lv_iload_n hx hb dX12_kinds_163 rfl (lv_at hl 2 rfl) ?_
                refine lv_iload hx hb dX12_kinds_164 (lv_at hl 10 rfl) ?_
                refine lv_iconst (v := (nI 1)) hx hb dX12_kinds_166 (by decide) ?_
                refine lv_isub hx hb dX12_kinds_167 ?_
                refine lv_iload hx hb dX12_kinds_168 (lv_at hl 9 rfl) ?_
                refine go_I E (run_S E ((k_X12_at l g  (Q := fun r => r = ((((nI 48) * x1) + ((nI 4) * (x10 - (nI 1)))) + x9)) rfl) _) (va_cwS 3 hts gX12_kinds_X12_at rfl rfl rfl (by decide +kernel) ⟨Nat.le_of_ble_eq_true rfl, Nat.le_of_ble_eq_true rfl⟩) hP hD hS [] rfl rfl hl rfl rfl (Nat.le_of_ble_eq_true rfl) dX12_kinds_170 ⟨Nat.le_of_ble_eq_true rfl, Nat.le_of_ble_eq_true rfl⟩) hP hD hS [] rfl [(true, 0), (true, 1), (true, 2), (true, 3)] rfl (by decide) (fun _ => (cw_X12_kinds g h_this h_this_states h_this_letters h_this_moves h_this_light h_this_price h_this_share h_this_word h_this_queue h_this_cameFrom h_this_cameBy h_this_isKnown h_this_isJoined h_this_made h_this_pairWord h_this_bestWord h_this_sum h_this_isSettled h_this_heapSum h_this_heapSet h_this_worth h_this_worthNext h_this_order h_this_hadMoves h_this_row h_this_pairs h_this_pairLong c_machines c_wordLong c_queued c_heaped c_states c_letters c_moves)) (fun _ => rfl) (fun r8 _ H locs hr_ hP hD hS => ?_)
                have hr_ : ((((nI 48) * x1) + ((nI 4) * (x10 - (nI 1)))) + x9) = r8 := Eq.symm hr_
                subst hr_
                have hP : va_P g.1 vwCl (cw_X12_kinds g h_this h_this_states h_this_letters h_this_moves h_this_light h_this_price h_this_share h_this_word h_this_queue h_this_cameFrom h_this_cameBy h_this_isKnown h_this_isJoined h_this_made h_this_pairWord h_this_bestWord h_this_sum h_this_isSettled h_this_heapSum h_this_heapSet h_this_worth h_this_worthNext h_this_order h_this_hadMoves h_this_row h_this_pairs h_this_pairLong c_machines c_wordLong c_queued c_heaped c_states c_letters c_moves) H := hP
                have hD : va_D A (cw_X12_kinds g h_this h_this_states h_this_letters h_this_moves h_this_light h_this_price h_this_share h_this_word h_this_queue h_this_cameFrom h_this_cameBy h_this_isKnown h_this_isJoined h_this_made h_this_pairWord h_this_bestWord h_this_sum h_this_isSettled h_this_heapSum h_this_heapSet h_this_worth h_this_worthNext h_this_order h_this_hadMoves h_this_row h_this_pairs h_this_pairLong c_machines c_wordLong c_queued c_heaped c_states c_letters c_moves) := hD
                obtain ⟨hi, h⟩ := h
                refine va_iald (D := g.1) (n := 288) (f := c_moves) hx hb hK hP 3 0 rfl rfl hi dX12_kinds_173 ?_
                refine lv_aload_n hx hb dX12_kinds_174 rfl (lv_at hl 1 rfl) ?_
                refine va_get (D := g.1) (ci := 11) (v := .ref h_this_moves) (C := RX12) (T := TX12) (N := 30) hx hb hts iX12 hown hK hP 0 rfl rfl 3 (by decide) f16 (fun _ h9 => h9) rfl dX12_kinds_175 ?_
                refine lv_iload_n hx hb dX12_kinds_178 rfl (lv_at hl 2 rfl) ?_
                refine lv_iload hx hb dX12_kinds_179 (lv_at hl 10 rfl) ?_
                refine lv_iload hx hb dX12_kinds_181 (lv_at hl 9 rfl) ?_
                refine go_I E (run_S E ((k_X12_at l g  (Q := fun r => r = ((((nI 48) * x1) + ((nI 4) * x10)) + x9)) rfl) _) (va_cwS 3 hts gX12_kinds_X12_at rfl rfl rfl (by decide +kernel) ⟨Nat.le_of_ble_eq_true rfl, Nat.le_of_ble_eq_true rfl⟩) hP hD hS [] rfl rfl hl rfl rfl (Nat.le_of_ble_eq_true rfl) dX12_kinds_183 ⟨Nat.le_of_ble_eq_true rfl, Nat.le_of_ble_eq_true rfl⟩) hP hD hS [] rfl [(true, 0), (true, 1), (true, 2), (true, 3)] rfl (by decide) (fun _ => (cw_X12_kinds g h_this h_this_states h_this_letters h_this_moves h_this_light h_this_price h_this_share h_this_word h_this_queue h_this_cameFrom h_this_cameBy h_this_isKnown h_this_isJoined h_this_made h_this_pairWord h_this_bestWord h_this_sum h_this_isSettled h_this_heapSum h_this_heapSet h_this_worth h_this_worthNext h_this_order h_this_hadMoves h_this_row h_this_pairs h_this_pairLong c_machines c_wordLong c_queued c_heaped c_states c_letters c_moves)) (fun _ => rfl) (fun r10 _ H locs hr_ hP hD hS => ?_)
                have hr_ : ((((nI 48) * x1) + ((nI 4) * x10)) + x9) = r10 := Eq.symm hr_
                subst hr_
                have hP : va_P g.1 vwCl (cw_X12_kinds g h_this h_this_states h_this_letters h_this_moves h_this_light h_this_price h_this_share h_this_word h_this_queue h_this_cameFrom h_this_cameBy h_this_isKnown h_this_isJoined h_this_made h_this_pairWord h_this_bestWord h_this_sum h_this_isSettled h_this_heapSum h_this_heapSet h_this_worth h_this_worthNext h_this_order h_this_hadMoves h_this_row h_this_pairs h_this_pairLong c_machines c_wordLong c_queued c_heaped c_states c_letters c_moves) H := hP
                have hD : va_D A (cw_X12_kinds g h_this h_this_states h_this_letters h_this_moves h_this_light h_this_price h_this_share h_this_word h_this_queue h_this_cameFrom h_this_cameBy h_this_isKnown h_this_isJoined h_this_made h_this_pairWord h_this_bestWord h_this_sum h_this_isSettled h_this_heapSum h_this_heapSet h_this_worth h_this_worthNext h_this_order h_this_hadMoves h_this_row h_this_pairs h_this_pairLong c_machines c_wordLong c_queued c_heaped c_states c_letters c_moves) := hD
                obtain ⟨hi, h⟩ := h
                refine va_iald (D := g.1) (n := 288) (f := c_moves) hx hb hK hP 3 0 rfl rfl hi dX12_kinds_186 ?_
                refine lv_icmp_gt (tgt := 194) hx hb dX12_kinds_187 (by decide) (fun cq => ?_) (fun cq => ?_)
                · replace h := h.1 cq
                  exact K_194 t0 x10 h _ _ hP hD hS _ (lv_sub hl [1, 2, 3, 4, 5, 6, 8, 0, 9, 10] rfl)
                · replace h := h.2 cq
                  exact K_190 t0 x10 h _ _ hP hD hS _ (lv_sub hl [1, 2, 3, 4, 5, 6, 8, 0, 9, 10] rfl)
          have K_142 : ∀ (x6 : Int32) (x10 : Int32) , J_X12_kinds_142 c_moves x1 x9 (L_X12_kinds_113 c_moves x1 x2 x4 x7 x9 (L_X12_kinds_53 c_machines c_wordLong c_queued c_heaped c_states c_letters c_moves x1 x2 x3 x5 Q n_53) n_113) x6 x10 → ∀ (H : Heap) (locs : List Loc), va_P g.1 vwCl (cw_X12_kinds g h_this h_this_states h_this_letters h_this_moves h_this_light h_this_price h_this_share h_this_word h_this_queue h_this_cameFrom h_this_cameBy h_this_isKnown h_this_isJoined h_this_made h_this_pairWord h_this_bestWord h_this_sum h_this_isSettled h_this_heapSum h_this_heapSet h_this_worth h_this_worthNext h_this_order h_this_hadMoves h_this_row h_this_pairs h_this_pairLong c_machines c_wordLong c_queued c_heaped c_states c_letters c_moves) H → va_D A (cw_X12_kinds g h_this h_this_states h_this_letters h_this_moves h_this_light h_this_price h_this_share h_this_word h_this_queue h_this_cameFrom h_this_cameBy h_this_isKnown h_this_isJoined h_this_made h_this_pairWord h_this_bestWord h_this_sum h_this_isSettled h_this_heapSum h_this_heapSet h_this_worth h_this_worthNext h_this_order h_this_hadMoves h_this_row h_this_pairs h_this_pairLong c_machines c_wordLong c_queued c_heaped c_states c_letters c_moves) → va_S A s.heap H locs → ∀ ls : Array Slot, lv_has ls 11 [(0, .ref h_this), (1, .int x1), (2, .int x2), (3, .int x3), (4, .int x4), (5, .int x5), (6, .int x6), (7, .int x7), (9, .int x9), (10, .int x10)] → W p l e rm_X12_kinds s m args below meth c H locs 0 0 QQ (F0 m 142 ls []) := by
            intro x6 x10 h H locs hP hD hS ls hl
            unfold J_X12_kinds_142 at h
            refine lv_iconst (v := (nI 1)) hx hb dX12_kinds_142 (by decide) ?_
            refine lv_goto (tgt := 147) hx hb dX12_kinds_143 (by decide) ?_
            exact K_147 x6 x10 (nI 1) h _ _ hP hD hS _ (lv_sub hl [0, 1, 2, 3, 4, 5, 6, 7, 8, 9] rfl)
          refine lv_iload hx hb dX12_kinds_113 (lv_at hl 10 rfl) ?_
          refine lv_iload_n hx hb dX12_kinds_115 rfl (lv_at hl 2 rfl) ?_
          refine lv_icmp_ge (tgt := 203) hx hb dX12_kinds_116 (by decide) (fun cq => ?_) (fun cq => ?_)
          · replace h := h.1 cq
            exact K_203 x4 x6 x7 x8 x9 h _ _ hP hD hS _ (lv_sub hl [0, 1, 2, 3, 4, 5, 6, 7, 8, 9] rfl)
          · replace h := h.2 cq
            refine lv_iload hx hb dX12_kinds_119 (lv_at hl 8 rfl) ?_
            refine lv_if_ne (tgt := 142) hx hb dX12_kinds_121 (by decide) (fun cq => ?_) (fun cq => ?_)
            · replace h := h.1 cq
              exact K_142 x6 x10 h _ _ hP hD hS _ (lv_sub hl [0, 1, 2, 3, 4, 5, 6, 7, 9, 10] rfl)
            · replace h := h.2 cq
              refine lv_aload_n hx hb dX12_kinds_124 rfl (lv_at hl 0 rfl) ?_
              refine va_get (D := g.1) (ci := 11) (v := .ref h_this_moves) (C := RX12) (T := TX12) (N := 30) hx hb hts iX12 hown hK hP 0 rfl rfl 3 (by decide) f16 (fun _ h9 => h9) rfl dX12_kinds_125 ?_
              refine lv_iload_n hx hb dX12_kinds_128 rfl (lv_at hl 1 rfl) ?_
              refine lv_iload hx hb dX12_kinds_129 (lv_at hl 10 rfl) ?_
              refine lv_iload hx hb dX12_kinds_131 (lv_at hl 9 rfl) ?_
              refine go_I E (run_S E ((k_X12_at l g  (Q := fun r => r = ((((nI 48) * x1) + ((nI 4) * x10)) + x9)) rfl) _) (va_cwS 3 hts gX12_kinds_X12_at rfl rfl rfl (by decide +kernel) ⟨Nat.le_of_ble_eq_true rfl, Nat.le_of_ble_eq_true rfl⟩) hP hD hS [] rfl rfl hl rfl rfl (Nat.le_of_ble_eq_true rfl) dX12_kinds_133 ⟨Nat.le_of_ble_eq_true rfl, Nat.le_of_ble_eq_true rfl⟩) hP hD hS [] rfl [(true, 0), (true, 1), (true, 2), (true, 3)] rfl (by decide) (fun _ => (cw_X12_kinds g h_this h_this_states h_this_letters h_this_moves h_this_light h_this_price h_this_share h_this_word h_this_queue h_this_cameFrom h_this_cameBy h_this_isKnown h_this_isJoined h_this_made h_this_pairWord h_this_bestWord h_this_sum h_this_isSettled h_this_heapSum h_this_heapSet h_this_worth h_this_worthNext h_this_order h_this_hadMoves h_this_row h_this_pairs h_this_pairLong c_machines c_wordLong c_queued c_heaped c_states c_letters c_moves)) (fun _ => rfl) (fun r12 _ H locs hr_ hP hD hS => ?_)
              have hr_ : ((((nI 48) * x1) + ((nI 4) * x10)) + x9) = r12 := Eq.symm hr_
              subst hr_
              have hP : va_P g.1 vwCl (cw_X12_kinds g h_this h_this_states h_this_letters h_this_moves h_this_light h_this_price h_this_share h_this_word h_this_queue h_this_cameFrom h_this_cameBy h_this_isKnown h_this_isJoined h_this_made h_this_pairWord h_this_bestWord h_this_sum h_this_isSettled h_this_heapSum h_this_heapSet h_this_worth h_this_worthNext h_this_order h_this_hadMoves h_this_row h_this_pairs h_this_pairLong c_machines c_wordLong c_queued c_heaped c_states c_letters c_moves) H := hP
              have hD : va_D A (cw_X12_kinds g h_this h_this_states h_this_letters h_this_moves h_this_light h_this_price h_this_share h_this_word h_this_queue h_this_cameFrom h_this_cameBy h_this_isKnown h_this_isJoined h_this_made h_this_pairWord h_this_bestWord h_this_sum h_this_isSettled h_this_heapSum h_this_heapSet h_this_worth h_this_worthNext h_this_order h_this_hadMoves h_this_row h_this_pairs h_this_pairLong c_machines c_wordLong c_queued c_heaped c_states c_letters c_moves) := hD
              obtain ⟨hi, h⟩ := h
              refine va_iald (D := g.1) (n := 288) (f := c_moves) hx hb hK hP 3 0 rfl rfl hi dX12_kinds_136 ?_
              refine lv_iload hx hb dX12_kinds_137 (lv_at hl 10 rfl) ?_
              refine lv_icmp_ne (tgt := 146) hx hb dX12_kinds_139 (by decide) (fun cq => ?_) (fun cq => ?_)
              · replace h := h.1 cq
                refine lv_iconst (v := (nI 0)) hx hb dX12_kinds_146 (by decide) ?_
                exact K_147 x6 x10 (nI 0) h _ _ hP hD hS _ (lv_sub hl [0, 1, 2, 3, 4, 5, 6, 7, 9, 10] rfl)
              · replace h := h.2 cq
                exact K_142 x6 x10 h _ _ hP hD hS _ (lv_sub hl [0, 1, 2, 3, 4, 5, 6, 7, 9, 10] rfl)
      have K_108 : ∀ (x4 : Int32) (x6 : Int32) (x8 : Int32) (x9 : Int32) (t0 : Int32) , J_X12_kinds_108 c_moves x1 x2 (L_X12_kinds_53 c_machines c_wordLong c_queued c_heaped c_states c_letters c_moves x1 x2 x3 x5 Q n_53) x4 x6 x8 x9 t0 → ∀ (H : Heap) (locs : List Loc), va_P g.1 vwCl (cw_X12_kinds g h_this h_this_states h_this_letters h_this_moves h_this_light h_this_price h_this_share h_this_word h_this_queue h_this_cameFrom h_this_cameBy h_this_isKnown h_this_isJoined h_this_made h_this_pairWord h_this_bestWord h_this_sum h_this_isSettled h_this_heapSum h_this_heapSet h_this_worth h_this_worthNext h_this_order h_this_hadMoves h_this_row h_this_pairs h_this_pairLong c_machines c_wordLong c_queued c_heaped c_states c_letters c_moves) H → va_D A (cw_X12_kinds g h_this h_this_states h_this_letters h_this_moves h_this_light h_this_price h_this_share h_this_word h_this_queue h_this_cameFrom h_this_cameBy h_this_isKnown h_this_isJoined h_this_made h_this_pairWord h_this_bestWord h_this_sum h_this_isSettled h_this_heapSum h_this_heapSet h_this_worth h_this_worthNext h_this_order h_this_hadMoves h_this_row h_this_pairs h_this_pairLong c_machines c_wordLong c_queued c_heaped c_states c_letters c_moves) → va_S A s.heap H locs → ∀ ls : Array Slot, lv_has ls 11 [(0, .ref h_this), (1, .int x1), (2, .int x2), (3, .int x3), (4, .int x4), (5, .int x5), (6, .int x6), (8, .int x8), (9, .int x9)] → W p l e rm_X12_kinds s m args below meth c H locs 0 0 QQ (F0 m 108 ls [.int t0]) := by
        intro x4 x6 x8 x9 t0 h H locs hP hD hS ls hl
        unfold J_X12_kinds_108 at h
        refine lv_istore (lv' := [(7, .int t0), (0, .ref h_this), (1, .int x1), (2, .int x2), (3, .int x3), (4, .int x4), (5, .int x5), (6, .int x6), (8, .int x8), (9, .int x9)]) hx hb dX12_kinds_108 hl (by decide) rfl (fun ls hl => ?_)
        refine lv_iconst (v := (nI 0)) hx hb dX12_kinds_110 (by decide) ?_
        refine lv_istore (lv' := [(10, .int (nI 0)), (7, .int t0), (0, .ref h_this), (1, .int x1), (2, .int x2), (3, .int x3), (4, .int x4), (5, .int x5), (6, .int x6), (8, .int x8), (9, .int x9)]) hx hb dX12_kinds_111 hl (by decide) rfl (fun ls hl => ?_)
        obtain ⟨n, h⟩ := h
        exact K_113 x4 t0 x9 n x6 x8 (nI 0) h _ _ hP hD hS _ (lv_sub hl [2, 3, 4, 5, 6, 7, 8, 1, 9, 10, 0] rfl)
      have K_107 : ∀ (x4 : Int32) (x6 : Int32) (x8 : Int32) (x9 : Int32) , J_X12_kinds_107 c_moves x1 x2 (L_X12_kinds_53 c_machines c_wordLong c_queued c_heaped c_states c_letters c_moves x1 x2 x3 x5 Q n_53) x4 x6 x8 x9 → ∀ (H : Heap) (locs : List Loc), va_P g.1 vwCl (cw_X12_kinds g h_this h_this_states h_this_letters h_this_moves h_this_light h_this_price h_this_share h_this_word h_this_queue h_this_cameFrom h_this_cameBy h_this_isKnown h_this_isJoined h_this_made h_this_pairWord h_this_bestWord h_this_sum h_this_isSettled h_this_heapSum h_this_heapSet h_this_worth h_this_worthNext h_this_order h_this_hadMoves h_this_row h_this_pairs h_this_pairLong c_machines c_wordLong c_queued c_heaped c_states c_letters c_moves) H → va_D A (cw_X12_kinds g h_this h_this_states h_this_letters h_this_moves h_this_light h_this_price h_this_share h_this_word h_this_queue h_this_cameFrom h_this_cameBy h_this_isKnown h_this_isJoined h_this_made h_this_pairWord h_this_bestWord h_this_sum h_this_isSettled h_this_heapSum h_this_heapSet h_this_worth h_this_worthNext h_this_order h_this_hadMoves h_this_row h_this_pairs h_this_pairLong c_machines c_wordLong c_queued c_heaped c_states c_letters c_moves) → va_S A s.heap H locs → ∀ ls : Array Slot, lv_has ls 11 [(0, .ref h_this), (1, .int x1), (2, .int x2), (3, .int x3), (4, .int x4), (5, .int x5), (6, .int x6), (8, .int x8), (9, .int x9)] → W p l e rm_X12_kinds s m args below meth c H locs 0 0 QQ (F0 m 107 ls []) := by
        intro x4 x6 x8 x9 h H locs hP hD hS ls hl
        unfold J_X12_kinds_107 at h
        refine lv_iconst (v := (nI 0)) hx hb dX12_kinds_107 (by decide) ?_
        exact K_108 x4 x6 x8 x9 (nI 0) h _ _ hP hD hS _ (lv_sub hl [0, 1, 2, 3, 4, 5, 6, 7, 8] rfl)
      have K_84 : ∀ (x6 : Int32) (x7 : Int32) (x8 : Int32) (x9 : Int32) (t0 : Int32) , J_X12_kinds_84 c_machines c_wordLong c_queued c_heaped c_states c_moves x1 x2 x3 (L_X12_kinds_53 c_machines c_wordLong c_queued c_heaped c_states c_letters c_moves x1 x2 x3 x5 Q n_53) x6 x7 x8 x9 t0 → ∀ (H : Heap) (locs : List Loc), va_P g.1 vwCl (cw_X12_kinds g h_this h_this_states h_this_letters h_this_moves h_this_light h_this_price h_this_share h_this_word h_this_queue h_this_cameFrom h_this_cameBy h_this_isKnown h_this_isJoined h_this_made h_this_pairWord h_this_bestWord h_this_sum h_this_isSettled h_this_heapSum h_this_heapSet h_this_worth h_this_worthNext h_this_order h_this_hadMoves h_this_row h_this_pairs h_this_pairLong c_machines c_wordLong c_queued c_heaped c_states c_letters c_moves) H → va_D A (cw_X12_kinds g h_this h_this_states h_this_letters h_this_moves h_this_light h_this_price h_this_share h_this_word h_this_queue h_this_cameFrom h_this_cameBy h_this_isKnown h_this_isJoined h_this_made h_this_pairWord h_this_bestWord h_this_sum h_this_isSettled h_this_heapSum h_this_heapSet h_this_worth h_this_worthNext h_this_order h_this_hadMoves h_this_row h_this_pairs h_this_pairLong c_machines c_wordLong c_queued c_heaped c_states c_letters c_moves) → va_S A s.heap H locs → ∀ ls : Array Slot, lv_has ls 11 [(0, .ref h_this), (1, .int x1), (2, .int x2), (3, .int x3), (5, .int x5), (6, .int x6), (7, .int x7), (8, .int x8), (9, .int x9)] → W p l e rm_X12_kinds s m args below meth c H locs 0 0 QQ (F0 m 84 ls [.int t0]) := by
        intro x6 x7 x8 x9 t0 h H locs hP hD hS ls hl
        unfold J_X12_kinds_84 at h
        refine lv_istore (lv' := [(4, .int t0), (0, .ref h_this), (1, .int x1), (2, .int x2), (3, .int x3), (5, .int x5), (6, .int x6), (7, .int x7), (8, .int x8), (9, .int x9)]) hx hb dX12_kinds_84 hl (by decide) rfl (fun ls hl => ?_)
        refine lv_iload hx hb dX12_kinds_86 (lv_at hl 7 rfl) ?_
        refine lv_if_eq (tgt := 107) hx hb dX12_kinds_88 (by decide) (fun cq => ?_) (fun cq => ?_)
        · replace h := h.1 cq
          exact K_107 t0 x6 x8 x9 h _ _ hP hD hS _ (lv_sub hl [1, 2, 3, 4, 0, 5, 6, 8, 9] rfl)
        · replace h := h.2 cq
          refine lv_aload_n hx hb dX12_kinds_91 rfl (lv_at hl 1 rfl) ?_
          refine lv_iload_n hx hb dX12_kinds_92 rfl (lv_at hl 2 rfl) ?_
          refine lv_iload_n hx hb dX12_kinds_93 rfl (lv_at hl 4 rfl) ?_
          refine lv_iload hx hb dX12_kinds_94 (lv_at hl 9 rfl) ?_
          refine go_I E (run_V E ((k_X12_next l g h_this h_this_states h_this_letters h_this_moves h_this_light h_this_price h_this_share h_this_word h_this_queue h_this_cameFrom h_this_cameBy h_this_isKnown h_this_isJoined h_this_made h_this_pairWord h_this_bestWord h_this_sum h_this_isSettled h_this_heapSum h_this_heapSet h_this_worth h_this_worthNext h_this_order h_this_hadMoves h_this_row h_this_pairs h_this_pairLong h) _) (cwV 3 hts gX12_kinds_X12_next rfl rfl rfl (by decide +kernel) ⟨Nat.le_of_ble_eq_true rfl, Nat.le_of_ble_eq_true rfl⟩) hP hD hS [0, 1, 3] rfl rfl 0 11 rfl rfl rfl hl rfl rfl (Nat.le_of_ble_eq_true rfl) dX12_kinds_96 ⟨Nat.le_of_ble_eq_true rfl, Nat.le_of_ble_eq_true rfl⟩) hP hD hS [0, 1, 3] rfl [(false, 0), (false, 1), (true, 2), (false, 2)] rfl (by decide) (fun _ => (cw_X12_kinds g h_this h_this_states h_this_letters h_this_moves h_this_light h_this_price h_this_share h_this_word h_this_queue h_this_cameFrom h_this_cameBy h_this_isKnown h_this_isJoined h_this_made h_this_pairWord h_this_bestWord h_this_sum h_this_isSettled h_this_heapSum h_this_heapSet h_this_worth h_this_worthNext h_this_order h_this_hadMoves h_this_row h_this_pairs h_this_pairLong c_machines c_wordLong c_queued c_heaped c_states c_letters c_moves)) (fun _ => rfl) (fun r14 _ H locs h hP hD hS => ?_)
          try dsimp only at h
          have hP : va_P g.1 vwCl (cw_X12_kinds g h_this h_this_states h_this_letters h_this_moves h_this_light h_this_price h_this_share h_this_word h_this_queue h_this_cameFrom h_this_cameBy h_this_isKnown h_this_isJoined h_this_made h_this_pairWord h_this_bestWord h_this_sum h_this_isSettled h_this_heapSum h_this_heapSet h_this_worth h_this_worthNext h_this_order h_this_hadMoves h_this_row h_this_pairs h_this_pairLong c_machines c_wordLong c_queued c_heaped c_states c_letters c_moves) H := hP
          have hD : va_D A (cw_X12_kinds g h_this h_this_states h_this_letters h_this_moves h_this_light h_this_price h_this_share h_this_word h_this_queue h_this_cameFrom h_this_cameBy h_this_isKnown h_this_isJoined h_this_made h_this_pairWord h_this_bestWord h_this_sum h_this_isSettled h_this_heapSum h_this_heapSet h_this_worth h_this_worthNext h_this_order h_this_hadMoves h_this_row h_this_pairs h_this_pairLong c_machines c_wordLong c_queued c_heaped c_states c_letters c_moves) := hD
          refine lv_iload_n hx hb dX12_kinds_99 rfl (lv_at hl 4 rfl) ?_
          refine lv_icmp_ne (tgt := 107) hx hb dX12_kinds_100 (by decide) (fun cq => ?_) (fun cq => ?_)
          · replace h := h.1 cq
            exact K_107 t0 x6 x8 x9 h _ _ hP hD hS _ (lv_sub hl [1, 2, 3, 4, 0, 5, 6, 8, 9] rfl)
          · replace h := h.2 cq
            refine lv_iconst (v := (nI 1)) hx hb dX12_kinds_103 (by decide) ?_
            refine lv_goto (tgt := 108) hx hb dX12_kinds_104 (by decide) ?_
            exact K_108 t0 x6 x8 x9 (nI 1) h _ _ hP hD hS _ (lv_sub hl [1, 2, 3, 4, 0, 5, 6, 8, 9] rfl)
      have K_79 : ∀ (x6 : Int32) (x7 : Int32) (x8 : Int32) (x9 : Int32) , J_X12_kinds_79 c_machines c_wordLong c_queued c_heaped c_states c_moves x1 x2 x3 (L_X12_kinds_53 c_machines c_wordLong c_queued c_heaped c_states c_letters c_moves x1 x2 x3 x5 Q n_53) x6 x7 x8 x9 → ∀ (H : Heap) (locs : List Loc), va_P g.1 vwCl (cw_X12_kinds g h_this h_this_states h_this_letters h_this_moves h_this_light h_this_price h_this_share h_this_word h_this_queue h_this_cameFrom h_this_cameBy h_this_isKnown h_this_isJoined h_this_made h_this_pairWord h_this_bestWord h_this_sum h_this_isSettled h_this_heapSum h_this_heapSet h_this_worth h_this_worthNext h_this_order h_this_hadMoves h_this_row h_this_pairs h_this_pairLong c_machines c_wordLong c_queued c_heaped c_states c_letters c_moves) H → va_D A (cw_X12_kinds g h_this h_this_states h_this_letters h_this_moves h_this_light h_this_price h_this_share h_this_word h_this_queue h_this_cameFrom h_this_cameBy h_this_isKnown h_this_isJoined h_this_made h_this_pairWord h_this_bestWord h_this_sum h_this_isSettled h_this_heapSum h_this_heapSet h_this_worth h_this_worthNext h_this_order h_this_hadMoves h_this_row h_this_pairs h_this_pairLong c_machines c_wordLong c_queued c_heaped c_states c_letters c_moves) → va_S A s.heap H locs → ∀ ls : Array Slot, lv_has ls 11 [(0, .ref h_this), (1, .int x1), (2, .int x2), (3, .int x3), (5, .int x5), (6, .int x6), (7, .int x7), (8, .int x8), (9, .int x9)] → W p l e rm_X12_kinds s m args below meth c H locs 0 0 QQ (F0 m 79 ls []) := by
        intro x6 x7 x8 x9 h H locs hP hD hS ls hl
        unfold J_X12_kinds_79 at h
        refine lv_iconst (v := (nI 1)) hx hb dX12_kinds_79 (by decide) ?_
        refine lv_goto (tgt := 84) hx hb dX12_kinds_80 (by decide) ?_
        exact K_84 x6 x7 x8 x9 (nI 1) h _ _ hP hD hS _ (lv_sub hl [0, 1, 2, 3, 4, 5, 6, 7, 8] rfl)
      refine lv_iload hx hb dX12_kinds_53 (lv_at hl 9 rfl) ?_
      refine lv_aload_n hx hb dX12_kinds_55 rfl (lv_at hl 0 rfl) ?_
      refine va_get (D := g.1) (ci := 11) (v := .ref h_this_letters) (C := RX12) (T := TX12) (N := 30) hx hb hts iX12 hown hK hP 0 rfl rfl 2 (by decide) f13 (fun _ h9 => h9) rfl dX12_kinds_56 ?_
      refine lv_iload_n hx hb dX12_kinds_59 rfl (lv_at hl 1 rfl) ?_
      obtain ⟨hi, h⟩ := h
      refine va_iald (D := g.1) (n := 6) (f := c_letters) hx hb hK hP 2 0 rfl rfl hi dX12_kinds_60 ?_
      refine lv_icmp_ge (tgt := 209) hx hb dX12_kinds_61 (by decide) (fun cq => ?_) (fun cq => ?_)
      · replace h := h.1 cq
        exact K_209 x2 x4 x5 x6 x7 x8 h _ _ hP hD hS _ (lv_sub hl [0, 1, 2, 4, 5, 6, 7, 8] rfl)
      · replace h := h.2 cq
        refine lv_iload hx hb dX12_kinds_64 (lv_at hl 4 rfl) ?_
        refine lv_if_ne (tgt := 79) hx hb dX12_kinds_66 (by decide) (fun cq => ?_) (fun cq => ?_)
        · replace h := h.1 cq
          exact K_79 x6 x7 x8 x9 h _ _ hP hD hS _ (lv_sub hl [0, 1, 2, 3, 5, 6, 7, 8, 9] rfl)
        · replace h := h.2 cq
          refine lv_aload_n hx hb dX12_kinds_69 rfl (lv_at hl 0 rfl) ?_
          refine lv_iload_n hx hb dX12_kinds_70 rfl (lv_at hl 1 rfl) ?_
          refine lv_iload hx hb dX12_kinds_71 (lv_at hl 9 rfl) ?_
          refine go_I E (run_V E ((k_X12_isRing l g h_this h_this_states h_this_letters h_this_moves h_this_light h_this_price h_this_share h_this_word h_this_queue h_this_cameFrom h_this_cameBy h_this_isKnown h_this_isJoined h_this_made h_this_pairWord h_this_bestWord h_this_sum h_this_isSettled h_this_heapSum h_this_heapSet h_this_worth h_this_worthNext h_this_order h_this_hadMoves h_this_row h_this_pairs h_this_pairLong h) _) (cwV 2 hts gX12_kinds_X12_isRing rfl rfl rfl (by decide +kernel) ⟨Nat.le_of_ble_eq_true rfl, Nat.le_of_ble_eq_true rfl⟩) hP hD hS [0, 1, 3] rfl rfl 0 11 rfl rfl rfl hl rfl rfl (Nat.le_of_ble_eq_true rfl) dX12_kinds_73 ⟨Nat.le_of_ble_eq_true rfl, Nat.le_of_ble_eq_true rfl⟩) hP hD hS [0, 1, 3] rfl [(false, 0), (false, 1), (true, 2), (false, 2)] rfl (by decide) (fun _ => (cw_X12_kinds g h_this h_this_states h_this_letters h_this_moves h_this_light h_this_price h_this_share h_this_word h_this_queue h_this_cameFrom h_this_cameBy h_this_isKnown h_this_isJoined h_this_made h_this_pairWord h_this_bestWord h_this_sum h_this_isSettled h_this_heapSum h_this_heapSet h_this_worth h_this_worthNext h_this_order h_this_hadMoves h_this_row h_this_pairs h_this_pairLong c_machines c_wordLong c_queued c_heaped c_states c_letters c_moves)) (fun _ => rfl) (fun r16 _ H locs h hP hD hS => ?_)
          try dsimp only at h
          have hP : va_P g.1 vwCl (cw_X12_kinds g h_this h_this_states h_this_letters h_this_moves h_this_light h_this_price h_this_share h_this_word h_this_queue h_this_cameFrom h_this_cameBy h_this_isKnown h_this_isJoined h_this_made h_this_pairWord h_this_bestWord h_this_sum h_this_isSettled h_this_heapSum h_this_heapSet h_this_worth h_this_worthNext h_this_order h_this_hadMoves h_this_row h_this_pairs h_this_pairLong c_machines c_wordLong c_queued c_heaped c_states c_letters c_moves) H := hP
          have hD : va_D A (cw_X12_kinds g h_this h_this_states h_this_letters h_this_moves h_this_light h_this_price h_this_share h_this_word h_this_queue h_this_cameFrom h_this_cameBy h_this_isKnown h_this_isJoined h_this_made h_this_pairWord h_this_bestWord h_this_sum h_this_isSettled h_this_heapSum h_this_heapSet h_this_worth h_this_worthNext h_this_order h_this_hadMoves h_this_row h_this_pairs h_this_pairLong c_machines c_wordLong c_queued c_heaped c_states c_letters c_moves) := hD
          refine lv_if_eq (tgt := 83) hx hb dX12_kinds_76 (by decide) (fun cq => ?_) (fun cq => ?_)
          · replace h := h.1 cq
            refine lv_iconst (v := (nI 0)) hx hb dX12_kinds_83 (by decide) ?_
            exact K_84 x6 x7 x8 x9 (nI 0) h _ _ hP hD hS _ (lv_sub hl [0, 1, 2, 3, 5, 6, 7, 8, 9] rfl)
          · replace h := h.2 cq
            exact K_79 x6 x7 x8 x9 h _ _ hP hD hS _ (lv_sub hl [0, 1, 2, 3, 5, 6, 7, 8, 9] rfl)
  refine lv_aload_n hx hb dX12_kinds_0 rfl (lv_at hl 0 rfl) ?_
  refine lv_iload_n hx hb dX12_kinds_1 rfl (lv_at hl 1 rfl) ?_
  refine go_I E (run_V E ((k_X12_isMachine l g h_this h_this_states h_this_letters h_this_moves h_this_light h_this_price h_this_share h_this_word h_this_queue h_this_cameFrom h_this_cameBy h_this_isKnown h_this_isJoined h_this_made h_this_pairWord h_this_bestWord h_this_sum h_this_isSettled h_this_heapSum h_this_heapSet h_this_worth h_this_worthNext h_this_order h_this_hadMoves h_this_row h_this_pairs h_this_pairLong h) _) (cwV 1 hts gX12_kinds_X12_isMachine rfl rfl rfl (by decide +kernel) ⟨Nat.le_of_ble_eq_true rfl, Nat.le_of_ble_eq_true rfl⟩) hP hD hS [0] rfl rfl 0 11 rfl rfl rfl hl rfl rfl (Nat.le_of_ble_eq_true rfl) dX12_kinds_2 ⟨Nat.le_of_ble_eq_true rfl, Nat.le_of_ble_eq_true rfl⟩) hP hD hS [0] rfl [(false, 0), (true, 1), (true, 2), (true, 3)] rfl (by decide) (fun _ => (cw_X12_kinds g h_this h_this_states h_this_letters h_this_moves h_this_light h_this_price h_this_share h_this_word h_this_queue h_this_cameFrom h_this_cameBy h_this_isKnown h_this_isJoined h_this_made h_this_pairWord h_this_bestWord h_this_sum h_this_isSettled h_this_heapSum h_this_heapSet h_this_worth h_this_worthNext h_this_order h_this_hadMoves h_this_row h_this_pairs h_this_pairLong c_machines c_wordLong c_queued c_heaped c_states c_letters c_moves)) (fun _ => rfl) (fun r2 _ H locs h hP hD hS => ?_)
  try dsimp only at h
  have hP : va_P g.1 vwCl (cw_X12_kinds g h_this h_this_states h_this_letters h_this_moves h_this_light h_this_price h_this_share h_this_word h_this_queue h_this_cameFrom h_this_cameBy h_this_isKnown h_this_isJoined h_this_made h_this_pairWord h_this_bestWord h_this_sum h_this_isSettled h_this_heapSum h_this_heapSet h_this_worth h_this_worthNext h_this_order h_this_hadMoves h_this_row h_this_pairs h_this_pairLong c_machines c_wordLong c_queued c_heaped c_states c_letters c_moves) H := hP
  have hD : va_D A (cw_X12_kinds g h_this h_this_states h_this_letters h_this_moves h_this_light h_this_price h_this_share h_this_word h_this_queue h_this_cameFrom h_this_cameBy h_this_isKnown h_this_isJoined h_this_made h_this_pairWord h_this_bestWord h_this_sum h_this_isSettled h_this_heapSum h_this_heapSet h_this_worth h_this_worthNext h_this_order h_this_hadMoves h_this_row h_this_pairs h_this_pairLong c_machines c_wordLong c_queued c_heaped c_states c_letters c_moves) := hD
  refine lv_if_ne (tgt := 11) hx hb dX12_kinds_5 (by decide) (fun cq => ?_) (fun cq => ?_)
  · replace h := h.1 cq
    refine lv_aload_n hx hb dX12_kinds_11 rfl (lv_at hl 0 rfl) ?_
    refine lv_iload_n hx hb dX12_kinds_12 rfl (lv_at hl 1 rfl) ?_
    refine go_I E (run_V E ((k_X12_isWhole l g h_this h_this_states h_this_letters h_this_moves h_this_light h_this_price h_this_share h_this_word h_this_queue h_this_cameFrom h_this_cameBy h_this_isKnown h_this_isJoined h_this_made h_this_pairWord h_this_bestWord h_this_sum h_this_isSettled h_this_heapSum h_this_heapSet h_this_worth h_this_worthNext h_this_order h_this_hadMoves h_this_row h_this_pairs h_this_pairLong h) _) (cwV 1 hts gX12_kinds_X12_isWhole rfl rfl rfl (by decide +kernel) ⟨Nat.le_of_ble_eq_true rfl, Nat.le_of_ble_eq_true rfl⟩) hP hD hS [0, 1, 2, 3] rfl rfl 0 11 rfl rfl rfl hl rfl rfl (Nat.le_of_ble_eq_true rfl) dX12_kinds_13 ⟨Nat.le_of_ble_eq_true rfl, Nat.le_of_ble_eq_true rfl⟩) hP hD hS [0, 1, 2, 3] rfl [(false, 0), (false, 1), (false, 2), (false, 3)] rfl (by decide) (fun _ => (cw_X12_kinds g h_this h_this_states h_this_letters h_this_moves h_this_light h_this_price h_this_share h_this_word h_this_queue h_this_cameFrom h_this_cameBy h_this_isKnown h_this_isJoined h_this_made h_this_pairWord h_this_bestWord h_this_sum h_this_isSettled h_this_heapSum h_this_heapSet h_this_worth h_this_worthNext h_this_order h_this_hadMoves h_this_row h_this_pairs h_this_pairLong c_machines c_wordLong c_queued c_heaped c_states c_letters c_moves)) (fun _ => rfl) (fun r4 _ H locs h hP hD hS => ?_)
    try dsimp only at h
    have hP : va_P g.1 vwCl (cw_X12_kinds g h_this h_this_states h_this_letters h_this_moves h_this_light h_this_price h_this_share h_this_word h_this_queue h_this_cameFrom h_this_cameBy h_this_isKnown h_this_isJoined h_this_made h_this_pairWord h_this_bestWord h_this_sum h_this_isSettled h_this_heapSum h_this_heapSet h_this_worth h_this_worthNext h_this_order h_this_hadMoves h_this_row h_this_pairs h_this_pairLong c_machines c_wordLong c_queued c_heaped c_states c_letters c_moves) H := hP
    have hD : va_D A (cw_X12_kinds g h_this h_this_states h_this_letters h_this_moves h_this_light h_this_price h_this_share h_this_word h_this_queue h_this_cameFrom h_this_cameBy h_this_isKnown h_this_isJoined h_this_made h_this_pairWord h_this_bestWord h_this_sum h_this_isSettled h_this_heapSum h_this_heapSet h_this_worth h_this_worthNext h_this_order h_this_hadMoves h_this_row h_this_pairs h_this_pairLong c_machines c_wordLong c_queued c_heaped c_states c_letters c_moves) := hD
    refine lv_if_ne (tgt := 22) hx hb dX12_kinds_16 (by decide) (fun cq => ?_) (fun cq => ?_)
    · replace h := h.1 cq
      refine lv_aload_n hx hb dX12_kinds_22 rfl (lv_at hl 0 rfl) ?_
      refine va_get (D := g.1) (ci := 11) (v := .ref h_this_states) (C := RX12) (T := TX12) (N := 30) hx hb hts iX12 hown hK hP 0 rfl rfl 1 (by decide) f7 (fun _ h9 => h9) rfl dX12_kinds_23 ?_
      refine lv_iload_n hx hb dX12_kinds_26 rfl (lv_at hl 1 rfl) ?_
      obtain ⟨hi, h⟩ := h
      refine va_iald (D := g.1) (n := 6) (f := c_states) hx hb hK hP 1 0 rfl rfl hi dX12_kinds_27 ?_
      refine lv_istore_n (lv' := [(2, .int (c_states (Int32.toNatClampNeg x1))), (0, .ref h_this), (1, .int x1)]) hx hb dX12_kinds_28 rfl hl (by decide) rfl (fun ls hl => ?_)
      refine lv_iconst (v := (nI 1)) hx hb dX12_kinds_29 (by decide) ?_
      refine lv_iload_n hx hb dX12_kinds_30 rfl (lv_at hl 0 rfl) ?_
      refine lv_ishl hx hb dX12_kinds_31 ?_
      refine lv_iconst (v := (nI 1)) hx hb dX12_kinds_32 (by decide) ?_
      refine lv_isub hx hb dX12_kinds_33 ?_
      refine lv_istore_n (lv' := [(3, .int (((nI 1) <<< ((c_states (Int32.toNatClampNeg x1)) &&& 31)) - (nI 1))), (2, .int (c_states (Int32.toNatClampNeg x1))), (0, .ref h_this), (1, .int x1)]) hx hb dX12_kinds_34 rfl hl (by decide) rfl (fun ls hl => ?_)
      refine lv_iconst (v := (nI 0)) hx hb dX12_kinds_35 (by decide) ?_
      refine lv_istore (lv' := [(4, .int (nI 0)), (3, .int (((nI 1) <<< ((c_states (Int32.toNatClampNeg x1)) &&& 31)) - (nI 1))), (2, .int (c_states (Int32.toNatClampNeg x1))), (0, .ref h_this), (1, .int x1)]) hx hb dX12_kinds_36 hl (by decide) rfl (fun ls hl => ?_)
      refine lv_iconst (v := (nI 0)) hx hb dX12_kinds_38 (by decide) ?_
      refine lv_istore (lv' := [(5, .int (nI 0)), (4, .int (nI 0)), (3, .int (((nI 1) <<< ((c_states (Int32.toNatClampNeg x1)) &&& 31)) - (nI 1))), (2, .int (c_states (Int32.toNatClampNeg x1))), (0, .ref h_this), (1, .int x1)]) hx hb dX12_kinds_39 hl (by decide) rfl (fun ls hl => ?_)
      refine lv_iconst (v := (nI 1)) hx hb dX12_kinds_41 (by decide) ?_
      refine lv_istore (lv' := [(6, .int (nI 1)), (5, .int (nI 0)), (4, .int (nI 0)), (3, .int (((nI 1) <<< ((c_states (Int32.toNatClampNeg x1)) &&& 31)) - (nI 1))), (2, .int (c_states (Int32.toNatClampNeg x1))), (0, .ref h_this), (1, .int x1)]) hx hb dX12_kinds_42 hl (by decide) rfl (fun ls hl => ?_)
      refine lv_iconst (v := (nI 1)) hx hb dX12_kinds_44 (by decide) ?_
      refine lv_istore (lv' := [(7, .int (nI 1)), (6, .int (nI 1)), (5, .int (nI 0)), (4, .int (nI 0)), (3, .int (((nI 1) <<< ((c_states (Int32.toNatClampNeg x1)) &&& 31)) - (nI 1))), (2, .int (c_states (Int32.toNatClampNeg x1))), (0, .ref h_this), (1, .int x1)]) hx hb dX12_kinds_45 hl (by decide) rfl (fun ls hl => ?_)
      refine lv_iconst (v := (nI 0)) hx hb dX12_kinds_47 (by decide) ?_
      refine lv_istore (lv' := [(8, .int (nI 0)), (7, .int (nI 1)), (6, .int (nI 1)), (5, .int (nI 0)), (4, .int (nI 0)), (3, .int (((nI 1) <<< ((c_states (Int32.toNatClampNeg x1)) &&& 31)) - (nI 1))), (2, .int (c_states (Int32.toNatClampNeg x1))), (0, .ref h_this), (1, .int x1)]) hx hb dX12_kinds_48 hl (by decide) rfl (fun ls hl => ?_)
      refine lv_iconst (v := (nI 0)) hx hb dX12_kinds_50 (by decide) ?_
      refine lv_istore (lv' := [(9, .int (nI 0)), (8, .int (nI 0)), (7, .int (nI 1)), (6, .int (nI 1)), (5, .int (nI 0)), (4, .int (nI 0)), (3, .int (((nI 1) <<< ((c_states (Int32.toNatClampNeg x1)) &&& 31)) - (nI 1))), (2, .int (c_states (Int32.toNatClampNeg x1))), (0, .ref h_this), (1, .int x1)]) hx hb dX12_kinds_51 hl (by decide) rfl (fun ls hl => ?_)
      obtain ⟨n, h⟩ := h
      exact K_53 (c_states (Int32.toNatClampNeg x1)) (((nI 1) <<< ((c_states (Int32.toNatClampNeg x1)) &&& 31)) - (nI 1)) (nI 0) n (nI 0) (nI 1) (nI 1) (nI 0) (nI 0) h _ _ hP hD hS _ (lv_sub hl [8, 9, 7, 6, 5, 4, 3, 2, 1, 0] rfl)
    · replace h := h.2 cq
      refine lv_bipush (v := (-3)) hx hb dX12_kinds_19 (by decide) ?_
      exact hret (-3) () _ _ _ _ rfl h hP hD hS dX12_kinds_21
  · replace h := h.2 cq
    refine lv_bipush (v := (-2)) hx hb dX12_kinds_8 (by decide) ?_
    exact hret (-2) () _ _ _ _ rfl h hP hD hS dX12_kinds_10
abbrev cw_X12_findRow (g : GG) (h_this : Nat) (h_this_states : Nat) (h_this_letters : Nat) (h_this_moves : Nat) (h_this_light : Nat) (h_this_price : Nat) (h_this_share : Nat) (h_this_word : Nat) (h_this_queue : Nat) (h_this_cameFrom : Nat) (h_this_cameBy : Nat) (h_this_isKnown : Nat) (h_this_isJoined : Nat) (h_this_made : Nat) (h_this_pairWord : Nat) (h_this_bestWord : Nat) (h_this_sum : Nat) (h_this_isSettled : Nat) (h_this_heapSum : Nat) (h_this_heapSet : Nat) (h_this_worth : Nat) (h_this_worthNext : Nat) (h_this_order : Nat) (h_this_hadMoves : Nat) (h_this_row : Nat) (h_this_pairs : Nat) (h_this_pairLong : Nat) (c_machines : Int32) (c_wordLong : Int32) (c_queued : Int32) (c_heaped : Int32) (c_row : Nat → Int32) : va_W := [(h_this, .inr (11, [.int c_machines, .ref h_this_states, .ref h_this_letters, .ref h_this_moves, .ref h_this_light, .ref h_this_price, .ref h_this_share, .int c_wordLong, .ref h_this_word, .int c_queued, .ref h_this_queue, .ref h_this_cameFrom, .ref h_this_cameBy, .ref h_this_isKnown, .ref h_this_isJoined, .ref h_this_made, .ref h_this_pairWord, .ref h_this_bestWord, .ref h_this_sum, .ref h_this_isSettled, .ref h_this_heapSum, .ref h_this_heapSet, .int c_heaped, .ref h_this_worth, .ref h_this_worthNext, .ref h_this_order, .ref h_this_hadMoves, .ref h_this_row, .ref h_this_pairs, .ref h_this_pairLong])), (h_this_row, .inl (g.2.1, 4, .inl c_row))]
def J_X12_findRow_87 (R_53 : Int32 → Int32 → Prop) (x8 : Int32) (t0 : Int32) (t1 : Int32) : Prop :=
    R_53 (t1 - t0) (x8 + (nI 1))
def J_X12_findRow_69 (x4 : Int32) (R_53 : Int32 → Int32 → Prop) (x7 : Int32) (x8 : Int32) : Prop :=
    ((¬ ((x4 >>> (x8 &&& 31)) &&& (nI 1)) = (nI 1) → J_X12_findRow_87 R_53 x8 (nI 1) x7) ∧ (((x4 >>> (x8 &&& 31)) &&& (nI 1)) = (nI 1) → J_X12_findRow_87 R_53 x8 (nI 0) x7))
def J_X12_findRow_135 (R_33 : Int32 → Int32 → Int32 → Int32 → (Nat → Int32) → Prop) (x3 : Int32) (x4 : Int32) (x6 : Int32) (c_row : Nat → Int32) (t0 : Int32) : Prop :=
    R_33 x3 x4 t0 (x6 + (nI 1)) c_row
def J_X12_findRow_96 (x1 : Int32) (R_33 : Int32 → Int32 → Int32 → Int32 → (Nat → Int32) → Prop) (x3 : Int32) (x4 : Int32) (x5 : Int32) (x6 : Int32) (x8 : Int32) (c_row : Nat → Int32) : Prop :=
    vp_in x6 4 ∧ (((x1 - (nI 1)) ≤ x6 → J_X12_findRow_135 R_33 x3 (x4 ||| ((nI 1) <<< (x8 &&& 31))) x6 (upd c_row (Int32.toNatClampNeg x6) x8) (nI 1)) ∧ (¬ (x1 - (nI 1)) ≤ x6 → ¬ ((x1 - (nI 1)) - x6) = 0 ∧ J_X12_findRow_135 R_33 x3 (x4 ||| ((nI 1) <<< (x8 &&& 31))) x6 (upd c_row (Int32.toNatClampNeg x6) x8) (x5 / ((x1 - (nI 1)) - x6))))
def L_X12_findRow_53 (c_row : Nat → Int32) (x1 : Int32) (x3 : Int32) (x4 : Int32) (x5 : Int32) (x6 : Int32) (R_33 : Int32 → Int32 → Int32 → Int32 → (Nat → Int32) → Prop) : Nat → Int32 → Int32 → Prop
  | 0, _, _ => False
  | n_53 + 1, x7, x8 =>
    ((((x4 >>> (x8 &&& 31)) &&& (nI 1)) = (nI 1) → J_X12_findRow_69 x4 (L_X12_findRow_53 c_row x1 x3 x4 x5 x6 R_33 n_53) x7 x8) ∧ (¬ ((x4 >>> (x8 &&& 31)) &&& (nI 1)) = (nI 1) → ((x7 ≤ (nI 0) → J_X12_findRow_96 x1 R_33 x3 x4 x5 x6 x8 c_row) ∧ (¬ x7 ≤ (nI 0) → J_X12_findRow_69 x4 (L_X12_findRow_53 c_row x1 x3 x4 x5 x6 R_33 n_53) x7 x8))))
def L_X12_findRow_33 (x1 : Int32) (Q : (Nat → Int32) → Prop) : Nat → Int32 → Int32 → Int32 → Int32 → (Nat → Int32) → Prop
  | 0, _, _, _, _, _ => False
  | n_33 + 1, x3, x4, x5, x6, c_row =>
    ((x1 ≤ x6 → Q c_row) ∧ (¬ x1 ≤ x6 → ¬ x5 = 0 ∧ ¬ x5 = 0 ∧ ∃ n, L_X12_findRow_53 c_row x1 (x3 - x3 / x5 * x5) x4 x5 x6 (L_X12_findRow_33 x1 Q n_33) n (x3 / x5) (nI 0)))
def J_X12_findRow_30 (x1 : Int32) (Q : (Nat → Int32) → Prop) (x3 : Int32) (x4 : Int32) (x5 : Int32) (c_row : Nat → Int32) : Prop :=
    ∃ n, L_X12_findRow_33 x1 Q n x3 x4 x5 (nI 0) c_row
def L_X12_findRow_11 (c_row : Nat → Int32) (x1 : Int32) (x3 : Int32) (x4 : Int32) (Q : (Nat → Int32) → Prop) : Nat → Int32 → Int32 → Prop
  | 0, _, _ => False
  | n_11 + 1, x5, x6 =>
    ((x1 ≤ x6 → J_X12_findRow_30 x1 Q x3 x4 x5 c_row) ∧ (¬ x1 ≤ x6 → (L_X12_findRow_11 c_row x1 x3 x4 Q n_11) (x5 * x6) (x6 + (nI 1))))
def wp_X12_findRow (c_machines : Int32) (c_wordLong : Int32) (c_queued : Int32) (c_heaped : Int32) (c_row : Nat → Int32) (x1 : Int32) (x2 : Int32) (Q : (Nat → Int32) → Prop) : Prop :=
    ∃ n, L_X12_findRow_11 c_row x1 x2 (nI 0) Q n (nI 1) (nI 2)
abbrev rm_X12_findRow : Room := { frames := 0, cells := 0, slots := 0, locals := 0 }
set_option maxHeartbeats 4000000 in
set_option maxRecDepth 100000 in
theorem k_X12_findRow (l : Launch) (g : GG) (h_this : Nat) (h_this_states : Nat) (h_this_letters : Nat) (h_this_moves : Nat) (h_this_light : Nat) (h_this_price : Nat) (h_this_share : Nat) (h_this_word : Nat) (h_this_queue : Nat) (h_this_cameFrom : Nat) (h_this_cameBy : Nat) (h_this_isKnown : Nat) (h_this_isJoined : Nat) (h_this_made : Nat) (h_this_pairWord : Nat) (h_this_bestWord : Nat) (h_this_sum : Nat) (h_this_isSettled : Nat) (h_this_heapSum : Nat) (h_this_heapSet : Nat) (h_this_worth : Nat) (h_this_worthNext : Nat) (h_this_order : Nat) (h_this_hadMoves : Nat) (h_this_row : Nat) (h_this_pairs : Nat) (h_this_pairLong : Nat) {c_machines : Int32} {c_wordLong : Int32} {c_queued : Int32} {c_heaped : Int32} {c_row : Nat → Int32} {x1 : Int32} {x2 : Int32} {Q : (Nat → Int32) → Prop} (h : wp_X12_findRow c_machines c_wordLong c_queued c_heaped c_row x1 x2 Q) : CV l g yX12_findRow wsX12_findRow rm_X12_findRow [.ref h_this, .int x1, .int x2] (cw_X12_findRow g h_this h_this_states h_this_letters h_this_moves h_this_light h_this_price h_this_share h_this_word h_this_queue h_this_cameFrom h_this_cameBy h_this_isKnown h_this_isJoined h_this_made h_this_pairWord h_this_bestWord h_this_sum h_this_isSettled h_this_heapSum h_this_heapSet h_this_worth h_this_worthNext h_this_order h_this_hadMoves h_this_row h_this_pairs h_this_pairLong c_machines c_wordLong c_queued c_heaped c_row) (S := (Nat → Int32)) (fun u => (cw_X12_findRow g h_this h_this_states h_this_letters h_this_moves h_this_light h_this_price h_this_share h_this_word h_this_queue h_this_cameFrom h_this_cameBy h_this_isKnown h_this_isJoined h_this_made h_this_pairWord h_this_bestWord h_this_sum h_this_isSettled h_this_heapSum h_this_heapSet h_this_worth h_this_worthNext h_this_order h_this_hadMoves h_this_row h_this_pairs h_this_pairLong c_machines c_wordLong c_queued c_heaped u)) (fun u => Q u) 0 0 := by
  refine mk_V (cc := cX12_findRow) (maxL := 9) (own := RX12) (by decide) rfl rfl (Nat.le_of_ble_eq_true rfl) ?_
  intro p e s m args below meth c A QQ E hret hP hD hS ls hl
  have E2 := E
  obtain ⟨hx, hb, hr, hml, hown, hts, hlocks, hA, hZ, hK, hnm⟩ := E2
  have f81 := hts (.fieldLink RX12 81 "WordBenchModel" "row" "[I") (by decide +kernel)
  have iX12 : ∀ w ∈ wsX120, w ∈ wsX12_findRow := fun _ h => List.mem_cons_of_mem _ (List.mem_append_right _ h)
  have hP : va_P g.1 vwCl (cw_X12_findRow g h_this h_this_states h_this_letters h_this_moves h_this_light h_this_price h_this_share h_this_word h_this_queue h_this_cameFrom h_this_cameBy h_this_isKnown h_this_isJoined h_this_made h_this_pairWord h_this_bestWord h_this_sum h_this_isSettled h_this_heapSum h_this_heapSet h_this_worth h_this_worthNext h_this_order h_this_hadMoves h_this_row h_this_pairs h_this_pairLong c_machines c_wordLong c_queued c_heaped c_row) s.heap := hP
  have hD : va_D A (cw_X12_findRow g h_this h_this_states h_this_letters h_this_moves h_this_light h_this_price h_this_share h_this_word h_this_queue h_this_cameFrom h_this_cameBy h_this_isKnown h_this_isJoined h_this_made h_this_pairWord h_this_bestWord h_this_sum h_this_isSettled h_this_heapSum h_this_heapSet h_this_worth h_this_worthNext h_this_order h_this_hadMoves h_this_row h_this_pairs h_this_pairLong c_machines c_wordLong c_queued c_heaped c_row) := hD
  have hl : lv_has ls 9 [(0, .ref h_this), (1, .int x1), (2, .int x2)] := hl
  unfold wp_X12_findRow at h
  have K_33 : ∀ (n_33 : Nat) (x3 : Int32) (x4 : Int32) (x5 : Int32) (x6 : Int32) (c_row : Nat → Int32) , L_X12_findRow_33 x1 Q n_33 x3 x4 x5 x6 c_row → ∀ (H : Heap) (locs : List Loc), va_P g.1 vwCl (cw_X12_findRow g h_this h_this_states h_this_letters h_this_moves h_this_light h_this_price h_this_share h_this_word h_this_queue h_this_cameFrom h_this_cameBy h_this_isKnown h_this_isJoined h_this_made h_this_pairWord h_this_bestWord h_this_sum h_this_isSettled h_this_heapSum h_this_heapSet h_this_worth h_this_worthNext h_this_order h_this_hadMoves h_this_row h_this_pairs h_this_pairLong c_machines c_wordLong c_queued c_heaped c_row) H → va_D A (cw_X12_findRow g h_this h_this_states h_this_letters h_this_moves h_this_light h_this_price h_this_share h_this_word h_this_queue h_this_cameFrom h_this_cameBy h_this_isKnown h_this_isJoined h_this_made h_this_pairWord h_this_bestWord h_this_sum h_this_isSettled h_this_heapSum h_this_heapSet h_this_worth h_this_worthNext h_this_order h_this_hadMoves h_this_row h_this_pairs h_this_pairLong c_machines c_wordLong c_queued c_heaped c_row) → va_S A s.heap H locs → ∀ ls : Array Slot, lv_has ls 9 [(0, .ref h_this), (1, .int x1), (3, .int x3), (4, .int x4), (5, .int x5), (6, .int x6)] → W p l e rm_X12_findRow s m args below meth c H locs 0 0 QQ (F0 m 33 ls []) := by
    intro n_33
    induction n_33 with
    | zero => intro x3 x4 x5 x6 c_row; exact fun h => False.elim h
    | succ n_33 ih_33 =>
      intro x3 x4 x5 x6 c_row h H locs hP hD hS ls hl
      unfold L_X12_findRow_33 at h
      have K_135 : ∀ (x3 : Int32) (x4 : Int32) (x6 : Int32) (c_row : Nat → Int32) (t0 : Int32) , J_X12_findRow_135 (L_X12_findRow_33 x1 Q n_33) x3 x4 x6 c_row t0 → ∀ (H : Heap) (locs : List Loc), va_P g.1 vwCl (cw_X12_findRow g h_this h_this_states h_this_letters h_this_moves h_this_light h_this_price h_this_share h_this_word h_this_queue h_this_cameFrom h_this_cameBy h_this_isKnown h_this_isJoined h_this_made h_this_pairWord h_this_bestWord h_this_sum h_this_isSettled h_this_heapSum h_this_heapSet h_this_worth h_this_worthNext h_this_order h_this_hadMoves h_this_row h_this_pairs h_this_pairLong c_machines c_wordLong c_queued c_heaped c_row) H → va_D A (cw_X12_findRow g h_this h_this_states h_this_letters h_this_moves h_this_light h_this_price h_this_share h_this_word h_this_queue h_this_cameFrom h_this_cameBy h_this_isKnown h_this_isJoined h_this_made h_this_pairWord h_this_bestWord h_this_sum h_this_isSettled h_this_heapSum h_this_heapSet h_this_worth h_this_worthNext h_this_order h_this_hadMoves h_this_row h_this_pairs h_this_pairLong c_machines c_wordLong c_queued c_heaped c_row) → va_S A s.heap H locs → ∀ ls : Array Slot, lv_has ls 9 [(0, .ref h_this), (1, .int x1), (3, .int x3), (4, .int x4), (6, .int x6)] → W p l e rm_X12_findRow s m args below meth c H locs 0 0 QQ (F0 m 135 ls [.int t0]) := by
        intro x3 x4 x6 c_row t0 h H locs hP hD hS ls hl
        unfold J_X12_findRow_135 at h
        refine lv_istore (lv' := [(5, .int t0), (0, .ref h_this), (1, .int x1), (3, .int x3), (4, .int x4), (6, .int x6)]) hx hb dX12_findRow_135 hl (by decide) rfl (fun ls hl => ?_)
        refine lv_iinc (v := (x6 + (nI 1))) (lv' := [(6, .int (x6 + (nI 1))), (5, .int t0), (0, .ref h_this), (1, .int x1), (3, .int x3), (4, .int x4)]) hx hb dX12_findRow_137 hl (k := 5) rfl rfl (by decide) rfl (fun ls hl => ?_)
        refine lv_goto (tgt := 33) hx hb dX12_findRow_140 (by decide) ?_
        exact ih_33 x3 x4 t0 (x6 + (nI 1)) c_row h _ _ hP hD hS _ (lv_sub hl [2, 3, 4, 5, 1, 0] rfl)
      have K_96 : ∀ (x3 : Int32) (x4 : Int32) (x5 : Int32) (x6 : Int32) (x8 : Int32) (c_row : Nat → Int32) , J_X12_findRow_96 x1 (L_X12_findRow_33 x1 Q n_33) x3 x4 x5 x6 x8 c_row → ∀ (H : Heap) (locs : List Loc), va_P g.1 vwCl (cw_X12_findRow g h_this h_this_states h_this_letters h_this_moves h_this_light h_this_price h_this_share h_this_word h_this_queue h_this_cameFrom h_this_cameBy h_this_isKnown h_this_isJoined h_this_made h_this_pairWord h_this_bestWord h_this_sum h_this_isSettled h_this_heapSum h_this_heapSet h_this_worth h_this_worthNext h_this_order h_this_hadMoves h_this_row h_this_pairs h_this_pairLong c_machines c_wordLong c_queued c_heaped c_row) H → va_D A (cw_X12_findRow g h_this h_this_states h_this_letters h_this_moves h_this_light h_this_price h_this_share h_this_word h_this_queue h_this_cameFrom h_this_cameBy h_this_isKnown h_this_isJoined h_this_made h_this_pairWord h_this_bestWord h_this_sum h_this_isSettled h_this_heapSum h_this_heapSet h_this_worth h_this_worthNext h_this_order h_this_hadMoves h_this_row h_this_pairs h_this_pairLong c_machines c_wordLong c_queued c_heaped c_row) → va_S A s.heap H locs → ∀ ls : Array Slot, lv_has ls 9 [(0, .ref h_this), (1, .int x1), (3, .int x3), (4, .int x4), (5, .int x5), (6, .int x6), (8, .int x8)] → W p l e rm_X12_findRow s m args below meth c H locs 0 0 QQ (F0 m 96 ls []) := by
        intro x3 x4 x5 x6 x8 c_row h H locs hP hD hS ls hl
        unfold J_X12_findRow_96 at h
        refine lv_aload_n hx hb dX12_findRow_96 rfl (lv_at hl 0 rfl) ?_
        refine va_get (D := g.1) (ci := 11) (v := .ref h_this_row) (C := RX12) (T := TX12) (N := 30) hx hb hts iX12 hown hK hP 0 rfl rfl 27 (by decide) f81 (fun _ h9 => h9) rfl dX12_findRow_97 ?_
        refine lv_iload hx hb dX12_findRow_100 (lv_at hl 5 rfl) ?_
        refine lv_iload hx hb dX12_findRow_102 (lv_at hl 6 rfl) ?_
        obtain ⟨hi, h⟩ := h
        refine va_iast (D := g.1) (n := 4) (f := c_row) hx hb hK hP hD hS 1 0 rfl rfl hi dX12_findRow_104 (fun H locs hP hD hS => ?_)
        have hP : va_P g.1 vwCl (cw_X12_findRow g h_this h_this_states h_this_letters h_this_moves h_this_light h_this_price h_this_share h_this_word h_this_queue h_this_cameFrom h_this_cameBy h_this_isKnown h_this_isJoined h_this_made h_this_pairWord h_this_bestWord h_this_sum h_this_isSettled h_this_heapSum h_this_heapSet h_this_worth h_this_worthNext h_this_order h_this_hadMoves h_this_row h_this_pairs h_this_pairLong c_machines c_wordLong c_queued c_heaped (upd c_row (Int32.toNatClampNeg x6) x8)) H := hP
        have hD : va_D A (cw_X12_findRow g h_this h_this_states h_this_letters h_this_moves h_this_light h_this_price h_this_share h_this_word h_this_queue h_this_cameFrom h_this_cameBy h_this_isKnown h_this_isJoined h_this_made h_this_pairWord h_this_bestWord h_this_sum h_this_isSettled h_this_heapSum h_this_heapSet h_this_worth h_this_worthNext h_this_order h_this_hadMoves h_this_row h_this_pairs h_this_pairLong c_machines c_wordLong c_queued c_heaped (upd c_row (Int32.toNatClampNeg x6) x8)) := hD
        refine lv_iload hx hb dX12_findRow_105 (lv_at hl 3 rfl) ?_
        refine lv_iconst (v := (nI 1)) hx hb dX12_findRow_107 (by decide) ?_
        refine lv_iload hx hb dX12_findRow_108 (lv_at hl 6 rfl) ?_
        refine lv_ishl hx hb dX12_findRow_110 ?_
        refine lv_ior hx hb dX12_findRow_111 ?_
        refine lv_istore (lv' := [(4, .int (x4 ||| ((nI 1) <<< (x8 &&& 31)))), (0, .ref h_this), (1, .int x1), (3, .int x3), (5, .int x5), (6, .int x6), (8, .int x8)]) hx hb dX12_findRow_112 hl (by decide) rfl (fun ls hl => ?_)
        refine lv_iload hx hb dX12_findRow_114 (lv_at hl 5 rfl) ?_
        refine lv_iload_n hx hb dX12_findRow_116 rfl (lv_at hl 2 rfl) ?_
        refine lv_iconst (v := (nI 1)) hx hb dX12_findRow_117 (by decide) ?_
        refine lv_isub hx hb dX12_findRow_118 ?_
        refine lv_icmp_ge (tgt := 134) hx hb dX12_findRow_119 (by decide) (fun cq => ?_) (fun cq => ?_)
        · replace h := h.1 cq
          refine lv_iconst (v := (nI 1)) hx hb dX12_findRow_134 (by decide) ?_
          exact K_135 x3 (x4 ||| ((nI 1) <<< (x8 &&& 31))) x6 (upd c_row (Int32.toNatClampNeg x6) x8) (nI 1) h _ _ hP hD hS _ (lv_sub hl [1, 2, 3, 0, 5] rfl)
        · replace h := h.2 cq
          refine lv_iload hx hb dX12_findRow_122 (lv_at hl 4 rfl) ?_
          refine lv_iload_n hx hb dX12_findRow_124 rfl (lv_at hl 2 rfl) ?_
          refine lv_iconst (v := (nI 1)) hx hb dX12_findRow_125 (by decide) ?_
          refine lv_isub hx hb dX12_findRow_126 ?_
          refine lv_iload hx hb dX12_findRow_127 (lv_at hl 5 rfl) ?_
          refine lv_isub hx hb dX12_findRow_129 ?_
          obtain ⟨hi, h⟩ := h
          refine lv_idiv hx hb dX12_findRow_130 hi ?_
          refine lv_goto (tgt := 135) hx hb dX12_findRow_131 (by decide) ?_
          exact K_135 x3 (x4 ||| ((nI 1) <<< (x8 &&& 31))) x6 (upd c_row (Int32.toNatClampNeg x6) x8) (x5 / ((x1 - (nI 1)) - x6)) h _ _ hP hD hS _ (lv_sub hl [1, 2, 3, 0, 5] rfl)
      have K_53 : ∀ (x3 : Int32) (x4 : Int32) (x5 : Int32) (x6 : Int32) (c_row : Nat → Int32) (n_53 : Nat) (x7 : Int32) (x8 : Int32) , L_X12_findRow_53 c_row x1 x3 x4 x5 x6 (L_X12_findRow_33 x1 Q n_33) n_53 x7 x8 → ∀ (H : Heap) (locs : List Loc), va_P g.1 vwCl (cw_X12_findRow g h_this h_this_states h_this_letters h_this_moves h_this_light h_this_price h_this_share h_this_word h_this_queue h_this_cameFrom h_this_cameBy h_this_isKnown h_this_isJoined h_this_made h_this_pairWord h_this_bestWord h_this_sum h_this_isSettled h_this_heapSum h_this_heapSet h_this_worth h_this_worthNext h_this_order h_this_hadMoves h_this_row h_this_pairs h_this_pairLong c_machines c_wordLong c_queued c_heaped c_row) H → va_D A (cw_X12_findRow g h_this h_this_states h_this_letters h_this_moves h_this_light h_this_price h_this_share h_this_word h_this_queue h_this_cameFrom h_this_cameBy h_this_isKnown h_this_isJoined h_this_made h_this_pairWord h_this_bestWord h_this_sum h_this_isSettled h_this_heapSum h_this_heapSet h_this_worth h_this_worthNext h_this_order h_this_hadMoves h_this_row h_this_pairs h_this_pairLong c_machines c_wordLong c_queued c_heaped c_row) → va_S A s.heap H locs → ∀ ls : Array Slot, lv_has ls 9 [(0, .ref h_this), (1, .int x1), (3, .int x3), (4, .int x4), (5, .int x5), (6, .int x6), (7, .int x7), (8, .int x8)] → W p l e rm_X12_findRow s m args below meth c H locs 0 0 QQ (F0 m 53 ls []) := by
        intro x3 x4 x5 x6 c_row n_53
        induction n_53 with
        | zero => intro x7 x8; exact fun h => False.elim h
        | succ n_53 ih_53 =>
          intro x7 x8 h H locs hP hD hS ls hl
          unfold L_X12_findRow_53 at h
          have K_87 : ∀ (x8 : Int32) (t0 : Int32) (t1 : Int32) , J_X12_findRow_87 (L_X12_findRow_53 c_row x1 x3 x4 x5 x6 (L_X12_findRow_33 x1 Q n_33) n_53) x8 t0 t1 → ∀ (H : Heap) (locs : List Loc), va_P g.1 vwCl (cw_X12_findRow g h_this h_this_states h_this_letters h_this_moves h_this_light h_this_price h_this_share h_this_word h_this_queue h_this_cameFrom h_this_cameBy h_this_isKnown h_this_isJoined h_this_made h_this_pairWord h_this_bestWord h_this_sum h_this_isSettled h_this_heapSum h_this_heapSet h_this_worth h_this_worthNext h_this_order h_this_hadMoves h_this_row h_this_pairs h_this_pairLong c_machines c_wordLong c_queued c_heaped c_row) H → va_D A (cw_X12_findRow g h_this h_this_states h_this_letters h_this_moves h_this_light h_this_price h_this_share h_this_word h_this_queue h_this_cameFrom h_this_cameBy h_this_isKnown h_this_isJoined h_this_made h_this_pairWord h_this_bestWord h_this_sum h_this_isSettled h_this_heapSum h_this_heapSet h_this_worth h_this_worthNext h_this_order h_this_hadMoves h_this_row h_this_pairs h_this_pairLong c_machines c_wordLong c_queued c_heaped c_row) → va_S A s.heap H locs → ∀ ls : Array Slot, lv_has ls 9 [(0, .ref h_this), (1, .int x1), (3, .int x3), (4, .int x4), (5, .int x5), (6, .int x6), (8, .int x8)] → W p l e rm_X12_findRow s m args below meth c H locs 0 0 QQ (F0 m 87 ls [.int t0, .int t1]) := by
            intro x8 t0 t1 h H locs hP hD hS ls hl
            unfold J_X12_findRow_87 at h
            refine lv_isub hx hb dX12_findRow_87 ?_
            refine lv_istore (lv' := [(7, .int (t1 - t0)), (0, .ref h_this), (1, .int x1), (3, .int x3), (4, .int x4), (5, .int x5), (6, .int x6), (8, .int x8)]) hx hb dX12_findRow_88 hl (by decide) rfl (fun ls hl => ?_)
            refine lv_iinc (v := (x8 + (nI 1))) (lv' := [(8, .int (x8 + (nI 1))), (7, .int (t1 - t0)), (0, .ref h_this), (1, .int x1), (3, .int x3), (4, .int x4), (5, .int x5), (6, .int x6)]) hx hb dX12_findRow_90 hl (k := 7) rfl rfl (by decide) rfl (fun ls hl => ?_)
            refine lv_goto (tgt := 53) hx hb dX12_findRow_93 (by decide) ?_
            exact ih_53 (t1 - t0) (x8 + (nI 1)) h _ _ hP hD hS _ (lv_sub hl [2, 3, 4, 5, 6, 7, 1, 0] rfl)
          have K_69 : ∀ (x7 : Int32) (x8 : Int32) , J_X12_findRow_69 x4 (L_X12_findRow_53 c_row x1 x3 x4 x5 x6 (L_X12_findRow_33 x1 Q n_33) n_53) x7 x8 → ∀ (H : Heap) (locs : List Loc), va_P g.1 vwCl (cw_X12_findRow g h_this h_this_states h_this_letters h_this_moves h_this_light h_this_price h_this_share h_this_word h_this_queue h_this_cameFrom h_this_cameBy h_this_isKnown h_this_isJoined h_this_made h_this_pairWord h_this_bestWord h_this_sum h_this_isSettled h_this_heapSum h_this_heapSet h_this_worth h_this_worthNext h_this_order h_this_hadMoves h_this_row h_this_pairs h_this_pairLong c_machines c_wordLong c_queued c_heaped c_row) H → va_D A (cw_X12_findRow g h_this h_this_states h_this_letters h_this_moves h_this_light h_this_price h_this_share h_this_word h_this_queue h_this_cameFrom h_this_cameBy h_this_isKnown h_this_isJoined h_this_made h_this_pairWord h_this_bestWord h_this_sum h_this_isSettled h_this_heapSum h_this_heapSet h_this_worth h_this_worthNext h_this_order h_this_hadMoves h_this_row h_this_pairs h_this_pairLong c_machines c_wordLong c_queued c_heaped c_row) → va_S A s.heap H locs → ∀ ls : Array Slot, lv_has ls 9 [(0, .ref h_this), (1, .int x1), (3, .int x3), (4, .int x4), (5, .int x5), (6, .int x6), (7, .int x7), (8, .int x8)] → W p l e rm_X12_findRow s m args below meth c H locs 0 0 QQ (F0 m 69 ls []) := by
            intro x7 x8 h H locs hP hD hS ls hl
            unfold J_X12_findRow_69 at h
            refine lv_iload hx hb dX12_findRow_69 (lv_at hl 6 rfl) ?_
            refine lv_iload hx hb dX12_findRow_71 (lv_at hl 3 rfl) ?_
            refine lv_iload hx hb dX12_findRow_73 (lv_at hl 7 rfl) ?_
            refine lv_ishr hx hb dX12_findRow_75 ?_
            refine lv_iconst (v := (nI 1)) hx hb dX12_findRow_76 (by decide) ?_
            refine lv_iand hx hb dX12_findRow_77 ?_
            refine lv_iconst (v := (nI 1)) hx hb dX12_findRow_78 (by decide) ?_
            refine lv_icmp_ne (tgt := 86) hx hb dX12_findRow_79 (by decide) (fun cq => ?_) (fun cq => ?_)
            · replace h := h.1 cq
              refine lv_iconst (v := (nI 1)) hx hb dX12_findRow_86 (by decide) ?_
              exact K_87 x8 (nI 1) x7 h _ _ hP hD hS _ (lv_sub hl [0, 1, 2, 3, 4, 5, 7] rfl)
            · replace h := h.2 cq
              refine lv_iconst (v := (nI 0)) hx hb dX12_findRow_82 (by decide) ?_
              refine lv_goto (tgt := 87) hx hb dX12_findRow_83 (by decide) ?_
              exact K_87 x8 (nI 0) x7 h _ _ hP hD hS _ (lv_sub hl [0, 1, 2, 3, 4, 5, 7] rfl)
          refine lv_iload hx hb dX12_findRow_53 (lv_at hl 3 rfl) ?_
          refine lv_iload hx hb dX12_findRow_55 (lv_at hl 7 rfl) ?_
          refine lv_ishr hx hb dX12_findRow_57 ?_
          refine lv_iconst (v := (nI 1)) hx hb dX12_findRow_58 (by decide) ?_
          refine lv_iand hx hb dX12_findRow_59 ?_
          refine lv_iconst (v := (nI 1)) hx hb dX12_findRow_60 (by decide) ?_
          refine lv_icmp_eq (tgt := 69) hx hb dX12_findRow_61 (by decide) (fun cq => ?_) (fun cq => ?_)
          · replace h := h.1 cq
            exact K_69 x7 x8 h _ _ hP hD hS _ (lv_sub hl [0, 1, 2, 3, 4, 5, 6, 7] rfl)
          · replace h := h.2 cq
            refine lv_iload hx hb dX12_findRow_64 (lv_at hl 6 rfl) ?_
            refine lv_if_le (tgt := 96) hx hb dX12_findRow_66 (by decide) (fun cq => ?_) (fun cq => ?_)
            · replace h := h.1 cq
              exact K_96 x3 x4 x5 x6 x8 c_row h _ _ hP hD hS _ (lv_sub hl [0, 1, 2, 3, 4, 5, 7] rfl)
            · replace h := h.2 cq
              exact K_69 x7 x8 h _ _ hP hD hS _ (lv_sub hl [0, 1, 2, 3, 4, 5, 6, 7] rfl)
      refine lv_iload hx hb dX12_findRow_33 (lv_at hl 5 rfl) ?_
      refine lv_iload_n hx hb dX12_findRow_35 rfl (lv_at hl 1 rfl) ?_
      refine lv_icmp_ge (tgt := 143) hx hb dX12_findRow_36 (by decide) (fun cq => ?_) (fun cq => ?_)
      · replace h := h.1 cq
        exact hret c_row _ _ _ _ h hP hD hS dX12_findRow_143
      · replace h := h.2 cq
        refine lv_iload_n hx hb dX12_findRow_39 rfl (lv_at hl 2 rfl) ?_
        refine lv_iload hx hb dX12_findRow_40 (lv_at hl 4 rfl) ?_
        obtain ⟨hi, h⟩ := h
        refine lv_idiv hx hb dX12_findRow_42 hi ?_
        refine lv_istore (lv' := [(7, .int (x3 / x5)), (0, .ref h_this), (1, .int x1), (3, .int x3), (4, .int x4), (5, .int x5), (6, .int x6)]) hx hb dX12_findRow_43 hl (by decide) rfl (fun ls hl => ?_)
        refine lv_iload_n hx hb dX12_findRow_45 rfl (lv_at hl 3 rfl) ?_
        refine lv_iload hx hb dX12_findRow_46 (lv_at hl 5 rfl) ?_
        obtain ⟨hi, h⟩ := h
        refine lv_irem hx hb dX12_findRow_48 hi ?_
        refine lv_istore_n (lv' := [(3, .int (x3 - x3 / x5 * x5)), (7, .int (x3 / x5)), (0, .ref h_this), (1, .int x1), (4, .int x4), (5, .int x5), (6, .int x6)]) hx hb dX12_findRow_49 rfl hl (by decide) rfl (fun ls hl => ?_)
        refine lv_iconst (v := (nI 0)) hx hb dX12_findRow_50 (by decide) ?_
        refine lv_istore (lv' := [(8, .int (nI 0)), (3, .int (x3 - x3 / x5 * x5)), (7, .int (x3 / x5)), (0, .ref h_this), (1, .int x1), (4, .int x4), (5, .int x5), (6, .int x6)]) hx hb dX12_findRow_51 hl (by decide) rfl (fun ls hl => ?_)
        obtain ⟨n, h⟩ := h
        exact K_53 (x3 - x3 / x5 * x5) x4 x5 x6 c_row n (x3 / x5) (nI 0) h _ _ hP hD hS _ (lv_sub hl [3, 4, 1, 5, 6, 7, 2, 0] rfl)
  have K_30 : ∀ (x3 : Int32) (x4 : Int32) (x5 : Int32) (c_row : Nat → Int32) , J_X12_findRow_30 x1 Q x3 x4 x5 c_row → ∀ (H : Heap) (locs : List Loc), va_P g.1 vwCl (cw_X12_findRow g h_this h_this_states h_this_letters h_this_moves h_this_light h_this_price h_this_share h_this_word h_this_queue h_this_cameFrom h_this_cameBy h_this_isKnown h_this_isJoined h_this_made h_this_pairWord h_this_bestWord h_this_sum h_this_isSettled h_this_heapSum h_this_heapSet h_this_worth h_this_worthNext h_this_order h_this_hadMoves h_this_row h_this_pairs h_this_pairLong c_machines c_wordLong c_queued c_heaped c_row) H → va_D A (cw_X12_findRow g h_this h_this_states h_this_letters h_this_moves h_this_light h_this_price h_this_share h_this_word h_this_queue h_this_cameFrom h_this_cameBy h_this_isKnown h_this_isJoined h_this_made h_this_pairWord h_this_bestWord h_this_sum h_this_isSettled h_this_heapSum h_this_heapSet h_this_worth h_this_worthNext h_this_order h_this_hadMoves h_this_row h_this_pairs h_this_pairLong c_machines c_wordLong c_queued c_heaped c_row) → va_S A s.heap H locs → ∀ ls : Array Slot, lv_has ls 9 [(0, .ref h_this), (1, .int x1), (3, .int x3), (4, .int x4), (5, .int x5)] → W p l e rm_X12_findRow s m args below meth c H locs 0 0 QQ (F0 m 30 ls []) := by
    intro x3 x4 x5 c_row h H locs hP hD hS ls hl
    unfold J_X12_findRow_30 at h
    refine lv_iconst (v := (nI 0)) hx hb dX12_findRow_30 (by decide) ?_
    refine lv_istore (lv' := [(6, .int (nI 0)), (0, .ref h_this), (1, .int x1), (3, .int x3), (4, .int x4), (5, .int x5)]) hx hb dX12_findRow_31 hl (by decide) rfl (fun ls hl => ?_)
    obtain ⟨n, h⟩ := h
    exact K_33 n x3 x4 x5 (nI 0) c_row h _ _ hP hD hS _ (lv_sub hl [1, 2, 3, 4, 5, 0] rfl)
  have K_11 : ∀ (x3 : Int32) (x4 : Int32) (c_row : Nat → Int32) (n_11 : Nat) (x5 : Int32) (x6 : Int32) , L_X12_findRow_11 c_row x1 x3 x4 Q n_11 x5 x6 → ∀ (H : Heap) (locs : List Loc), va_P g.1 vwCl (cw_X12_findRow g h_this h_this_states h_this_letters h_this_moves h_this_light h_this_price h_this_share h_this_word h_this_queue h_this_cameFrom h_this_cameBy h_this_isKnown h_this_isJoined h_this_made h_this_pairWord h_this_bestWord h_this_sum h_this_isSettled h_this_heapSum h_this_heapSet h_this_worth h_this_worthNext h_this_order h_this_hadMoves h_this_row h_this_pairs h_this_pairLong c_machines c_wordLong c_queued c_heaped c_row) H → va_D A (cw_X12_findRow g h_this h_this_states h_this_letters h_this_moves h_this_light h_this_price h_this_share h_this_word h_this_queue h_this_cameFrom h_this_cameBy h_this_isKnown h_this_isJoined h_this_made h_this_pairWord h_this_bestWord h_this_sum h_this_isSettled h_this_heapSum h_this_heapSet h_this_worth h_this_worthNext h_this_order h_this_hadMoves h_this_row h_this_pairs h_this_pairLong c_machines c_wordLong c_queued c_heaped c_row) → va_S A s.heap H locs → ∀ ls : Array Slot, lv_has ls 9 [(0, .ref h_this), (1, .int x1), (3, .int x3), (4, .int x4), (5, .int x5), (6, .int x6)] → W p l e rm_X12_findRow s m args below meth c H locs 0 0 QQ (F0 m 11 ls []) := by
    intro x3 x4 c_row n_11
    induction n_11 with
    | zero => intro x5 x6; exact fun h => False.elim h
    | succ n_11 ih_11 =>
      intro x5 x6 h H locs hP hD hS ls hl
      unfold L_X12_findRow_11 at h
      refine lv_iload hx hb dX12_findRow_11 (lv_at hl 5 rfl) ?_
      refine lv_iload_n hx hb dX12_findRow_13 rfl (lv_at hl 1 rfl) ?_
      refine lv_icmp_ge (tgt := 30) hx hb dX12_findRow_14 (by decide) (fun cq => ?_) (fun cq => ?_)
      · replace h := h.1 cq
        exact K_30 x3 x4 x5 c_row h _ _ hP hD hS _ (lv_sub hl [0, 1, 2, 3, 4] rfl)
      · replace h := h.2 cq
        refine lv_iload hx hb dX12_findRow_17 (lv_at hl 4 rfl) ?_
        refine lv_iload hx hb dX12_findRow_19 (lv_at hl 5 rfl) ?_
        refine lv_imul hx hb dX12_findRow_21 ?_
        refine lv_istore (lv' := [(5, .int (x5 * x6)), (0, .ref h_this), (1, .int x1), (3, .int x3), (4, .int x4), (6, .int x6)]) hx hb dX12_findRow_22 hl (by decide) rfl (fun ls hl => ?_)
        refine lv_iinc (v := (x6 + (nI 1))) (lv' := [(6, .int (x6 + (nI 1))), (5, .int (x5 * x6)), (0, .ref h_this), (1, .int x1), (3, .int x3), (4, .int x4)]) hx hb dX12_findRow_24 hl (k := 5) rfl rfl (by decide) rfl (fun ls hl => ?_)
        refine lv_goto (tgt := 11) hx hb dX12_findRow_27 (by decide) ?_
        exact ih_11 (x5 * x6) (x6 + (nI 1)) h _ _ hP hD hS _ (lv_sub hl [2, 3, 4, 5, 1, 0] rfl)
  refine lv_iload_n hx hb dX12_findRow_0 rfl (lv_at hl 2 rfl) ?_
  refine lv_istore_n (lv' := [(3, .int x2), (0, .ref h_this), (1, .int x1), (2, .int x2)]) hx hb dX12_findRow_1 rfl hl (by decide) rfl (fun ls hl => ?_)
  refine lv_iconst (v := (nI 0)) hx hb dX12_findRow_2 (by decide) ?_
  refine lv_istore (lv' := [(4, .int (nI 0)), (3, .int x2), (0, .ref h_this), (1, .int x1), (2, .int x2)]) hx hb dX12_findRow_3 hl (by decide) rfl (fun ls hl => ?_)
  refine lv_iconst (v := (nI 1)) hx hb dX12_findRow_5 (by decide) ?_
  refine lv_istore (lv' := [(5, .int (nI 1)), (4, .int (nI 0)), (3, .int x2), (0, .ref h_this), (1, .int x1), (2, .int x2)]) hx hb dX12_findRow_6 hl (by decide) rfl (fun ls hl => ?_)
  refine lv_iconst (v := (nI 2)) hx hb dX12_findRow_8 (by decide) ?_
  refine lv_istore (lv' := [(6, .int (nI 2)), (5, .int (nI 1)), (4, .int (nI 0)), (3, .int x2), (0, .ref h_this), (1, .int x1), (2, .int x2)]) hx hb dX12_findRow_9 hl (by decide) rfl (fun ls hl => ?_)
  obtain ⟨n, h⟩ := h
  exact K_11 x2 (nI 0) c_row n (nI 1) (nI 2) h _ _ hP hD hS _ (lv_sub hl [4, 5, 3, 2, 1, 0] rfl)
