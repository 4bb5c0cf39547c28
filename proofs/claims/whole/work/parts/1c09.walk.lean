abbrev cw_X12_chance (g : GG) (h_this : Nat) (h_this_states : Nat) (h_this_letters : Nat) (h_this_moves : Nat) (h_this_light : Nat) (h_this_price : Nat) (h_this_share : Nat) (h_this_word : Nat) (h_this_queue : Nat) (h_this_cameFrom : Nat) (h_this_cameBy : Nat) (h_this_isKnown : Nat) (h_this_isJoined : Nat) (h_this_made : Nat) (h_this_pairWord : Nat) (h_this_bestWord : Nat) (h_this_sum : Nat) (h_this_isSettled : Nat) (h_this_heapSum : Nat) (h_this_heapSet : Nat) (h_this_worth : Nat) (h_this_worthNext : Nat) (h_this_order : Nat) (h_this_hadMoves : Nat) (h_this_row : Nat) (h_this_pairs : Nat) (h_this_pairLong : Nat) (c_machines : Int32) (c_wordLong : Int32) (c_queued : Int32) (c_heaped : Int32) (c_states : Nat → Int32) (c_letters : Nat → Int32) (c_moves : Nat → Int32) (c_share : Nat → Int32) (c_worth : Nat → Int64) (c_worthNext : Nat → Int64) : va_W := [(h_this, .inr (11, [.int c_machines, .ref h_this_states, .ref h_this_letters, .ref h_this_moves, .ref h_this_light, .ref h_this_price, .ref h_this_share, .int c_wordLong, .ref h_this_word, .int c_queued, .ref h_this_queue, .ref h_this_cameFrom, .ref h_this_cameBy, .ref h_this_isKnown, .ref h_this_isJoined, .ref h_this_made, .ref h_this_pairWord, .ref h_this_bestWord, .ref h_this_sum, .ref h_this_isSettled, .ref h_this_heapSum, .ref h_this_heapSet, .int c_heaped, .ref h_this_worth, .ref h_this_worthNext, .ref h_this_order, .ref h_this_hadMoves, .ref h_this_row, .ref h_this_pairs, .ref h_this_pairLong])), (h_this_states, .inl (g.2.1, 6, .inl c_states)), (h_this_letters, .inl (g.2.1, 6, .inl c_letters)), (h_this_moves, .inl (g.2.1, 288, .inl c_moves)), (h_this_share, .inl (g.2.1, 24, .inl c_share)), (h_this_worth, .inl (g.2.2.1, 4096, .inr (.inl c_worth))), (h_this_worthNext, .inl (g.2.2.1, 4096, .inr (.inl c_worthNext)))]
def L_X12_chance_233 (c_states : Nat → Int32) (c_worth : Nat → Int64) (c_worthNext : Nat → Int64) (x1 : Int32) (Q : Int64 → (Nat → Int64) → (Nat → Int64) → Prop) : Nat → Int64 → Int32 → Prop
  | 0, _, _ => False
  | n_233 + 1, x5, x7 =>
    vp_in x1 6 ∧ (((c_states (Int32.toNatClampNeg x1)) ≤ x7 → Q x5 c_worth c_worthNext) ∧ (¬ (c_states (Int32.toNatClampNeg x1)) ≤ x7 → vp_in ((nI 1) <<< (x7 &&& 31)) 4096 ∧ (L_X12_chance_233 c_states c_worth c_worthNext x1 Q n_233) (x5 + (c_worth (Int32.toNatClampNeg ((nI 1) <<< (x7 &&& 31))))) (x7 + (nI 1))))
def J_X12_chance_227 (c_states : Nat → Int32) (x1 : Int32) (Q : Int64 → (Nat → Int64) → (Nat → Int64) → Prop) (c_worth : Nat → Int64) (c_worthNext : Nat → Int64) : Prop :=
    ∃ n, L_X12_chance_233 c_states c_worth c_worthNext x1 Q n (lN 0) (nI 0)
def J_X12_chance_221 (R_67 : Int32 → (Nat → Int64) → (Nat → Int64) → Prop) (x5 : Int32) (c_worth : Nat → Int64) (c_worthNext : Nat → Int64) : Prop :=
    R_67 (x5 + (nI 1)) c_worth c_worthNext
def J_X12_chance_214 (R_185 : Int32 → (Nat → Int64) → Prop) (x6 : Int32) (c_worth : Nat → Int64) (t0 : Int64) (t1 : Int32) : Prop :=
    vp_in t1 4096 ∧ R_185 (x6 + (nI 1)) (vp_updL c_worth (Int32.toNatClampNeg t1) t0)
def L_X12_chance_185 (c_worthNext : Nat → Int64) (x4 : Int32) (x5 : Int32) (R_67 : Int32 → (Nat → Int64) → (Nat → Int64) → Prop) : Nat → Int32 → (Nat → Int64) → Prop
  | 0, _, _ => False
  | n_185 + 1, x6, c_worth =>
    ((x4 ≤ x6 → J_X12_chance_221 R_67 x5 c_worth c_worthNext) ∧ (¬ x4 ≤ x6 → ((¬ x6 = (nI 0) → vp_in x6 4096 ∧ J_X12_chance_214 (L_X12_chance_185 c_worthNext x4 x5 R_67 n_185) x6 c_worth (c_worthNext (Int32.toNatClampNeg x6)) x6) ∧ (x6 = (nI 0) → J_X12_chance_214 (L_X12_chance_185 c_worthNext x4 x5 R_67 n_185) x6 c_worth (lN 0) x6))))
def J_X12_chance_182 (x4 : Int32) (R_67 : Int32 → (Nat → Int64) → (Nat → Int64) → Prop) (x5 : Int32) (c_worth : Nat → Int64) (c_worthNext : Nat → Int64) : Prop :=
    ∃ n, L_X12_chance_185 c_worthNext x4 x5 R_67 n (nI 0) c_worth
def J_X12_chance_176 (R_100 : Int32 → (Nat → Int64) → Prop) (x6 : Int32) (c_worthNext : Nat → Int64) : Prop :=
    R_100 (x6 + (nI 1)) c_worthNext
def L_X12_chance_110 (c_machines : Int32) (c_wordLong : Int32) (c_queued : Int32) (c_heaped : Int32) (c_states : Nat → Int32) (c_letters : Nat → Int32) (c_moves : Nat → Int32) (c_share : Nat → Int32) (c_worth : Nat → Int64) (x1 : Int32) (x6 : Int32) (R_100 : Int32 → (Nat → Int64) → Prop) : Nat → Int32 → (Nat → Int64) → Prop
  | 0, _, _ => False
  | n_110 + 1, x7, c_worthNext =>
    vp_in x1 6 ∧ (((c_letters (Int32.toNatClampNeg x1)) ≤ x7 → J_X12_chance_176 R_100 x6 c_worthNext) ∧ (¬ (c_letters (Int32.toNatClampNeg x1)) ≤ x7 → vp_in x6 4096 ∧ (((lg_cmp (c_worth (Int32.toNatClampNeg x6)) (lN 0)) ≤ (nI 0) → J_X12_chance_176 R_100 x6 c_worthNext) ∧ (¬ (lg_cmp (c_worth (Int32.toNatClampNeg x6)) (lN 0)) ≤ (nI 0) → wp_X12_next c_machines c_wordLong c_queued c_heaped c_states c_moves x1 x6 x7 (fun r6 => vp_in r6 4096 ∧ vp_in x6 4096 ∧ vp_in (((nI 4) * x1) + x7) 24 ∧ vp_in r6 4096 ∧ (L_X12_chance_110 c_machines c_wordLong c_queued c_heaped c_states c_letters c_moves c_share c_worth x1 x6 R_100 n_110) (x7 + (nI 1)) (vp_updL c_worthNext (Int32.toNatClampNeg r6) ((c_worthNext (Int32.toNatClampNeg r6)) + ((c_worth (Int32.toNatClampNeg x6)) * (Int32.toInt64 (c_share (Int32.toNatClampNeg (((nI 4) * x1) + x7))))))))))))
def L_X12_chance_100 (c_machines : Int32) (c_wordLong : Int32) (c_queued : Int32) (c_heaped : Int32) (c_states : Nat → Int32) (c_letters : Nat → Int32) (c_moves : Nat → Int32) (c_share : Nat → Int32) (c_worth : Nat → Int64) (x1 : Int32) (x4 : Int32) (x5 : Int32) (R_67 : Int32 → (Nat → Int64) → (Nat → Int64) → Prop) : Nat → Int32 → (Nat → Int64) → Prop
  | 0, _, _ => False
  | n_100 + 1, x6, c_worthNext =>
    ((x4 ≤ x6 → J_X12_chance_182 x4 R_67 x5 c_worth c_worthNext) ∧ (¬ x4 ≤ x6 → ∃ n, L_X12_chance_110 c_machines c_wordLong c_queued c_heaped c_states c_letters c_moves c_share c_worth x1 x6 (L_X12_chance_100 c_machines c_wordLong c_queued c_heaped c_states c_letters c_moves c_share c_worth x1 x4 x5 R_67 n_100) n (nI 0) c_worthNext))
def J_X12_chance_97 (c_machines : Int32) (c_wordLong : Int32) (c_queued : Int32) (c_heaped : Int32) (c_states : Nat → Int32) (c_letters : Nat → Int32) (c_moves : Nat → Int32) (c_share : Nat → Int32) (x1 : Int32) (x4 : Int32) (R_67 : Int32 → (Nat → Int64) → (Nat → Int64) → Prop) (x5 : Int32) (c_worth : Nat → Int64) (c_worthNext : Nat → Int64) : Prop :=
    ∃ n, L_X12_chance_100 c_machines c_wordLong c_queued c_heaped c_states c_letters c_moves c_share c_worth x1 x4 x5 R_67 n (nI 1) c_worthNext
def L_X12_chance_76 (c_machines : Int32) (c_wordLong : Int32) (c_queued : Int32) (c_heaped : Int32) (c_states : Nat → Int32) (c_letters : Nat → Int32) (c_moves : Nat → Int32) (c_share : Nat → Int32) (c_worth : Nat → Int64) (x1 : Int32) (x4 : Int32) (x5 : Int32) (R_67 : Int32 → (Nat → Int64) → (Nat → Int64) → Prop) : Nat → Int32 → (Nat → Int64) → Prop
  | 0, _, _ => False
  | n_76 + 1, x6, c_worthNext =>
    ((x4 ≤ x6 → J_X12_chance_97 c_machines c_wordLong c_queued c_heaped c_states c_letters c_moves c_share x1 x4 R_67 x5 c_worth c_worthNext) ∧ (¬ x4 ≤ x6 → vp_in x6 4096 ∧ (L_X12_chance_76 c_machines c_wordLong c_queued c_heaped c_states c_letters c_moves c_share c_worth x1 x4 x5 R_67 n_76) (x6 + (nI 1)) (vp_updL c_worthNext (Int32.toNatClampNeg x6) (lN 0))))
def L_X12_chance_67 (c_machines : Int32) (c_wordLong : Int32) (c_queued : Int32) (c_heaped : Int32) (c_states : Nat → Int32) (c_letters : Nat → Int32) (c_moves : Nat → Int32) (c_share : Nat → Int32) (x1 : Int32) (x3 : Int32) (x4 : Int32) (Q : Int64 → (Nat → Int64) → (Nat → Int64) → Prop) : Nat → Int32 → (Nat → Int64) → (Nat → Int64) → Prop
  | 0, _, _, _ => False
  | n_67 + 1, x5, c_worth, c_worthNext =>
    ((x3 ≤ x5 → J_X12_chance_227 c_states x1 Q c_worth c_worthNext) ∧ (¬ x3 ≤ x5 → ∃ n, L_X12_chance_76 c_machines c_wordLong c_queued c_heaped c_states c_letters c_moves c_share c_worth x1 x4 x5 (L_X12_chance_67 c_machines c_wordLong c_queued c_heaped c_states c_letters c_moves c_share x1 x3 x4 Q n_67) n (nI 0) c_worthNext))
def J_X12_chance_64 (c_machines : Int32) (c_wordLong : Int32) (c_queued : Int32) (c_heaped : Int32) (c_states : Nat → Int32) (c_letters : Nat → Int32) (c_moves : Nat → Int32) (c_share : Nat → Int32) (x1 : Int32) (x3 : Int32) (Q : Int64 → (Nat → Int64) → (Nat → Int64) → Prop) (x4 : Int32) (c_worth : Nat → Int64) (c_worthNext : Nat → Int64) : Prop :=
    ∃ n, L_X12_chance_67 c_machines c_wordLong c_queued c_heaped c_states c_letters c_moves c_share x1 x3 x4 Q n (nI 0) c_worth c_worthNext
def J_X12_chance_57 (R_33 : Int32 → (Nat → Int64) → Prop) (x5 : Int32) (c_worth : Nat → Int64) (t0 : Int64) (t1 : Int32) : Prop :=
    vp_in t1 4096 ∧ R_33 (x5 + (nI 1)) (vp_updL c_worth (Int32.toNatClampNeg t1) t0)
def L_X12_chance_33 (c_machines : Int32) (c_wordLong : Int32) (c_queued : Int32) (c_heaped : Int32) (c_states : Nat → Int32) (c_letters : Nat → Int32) (c_moves : Nat → Int32) (c_share : Nat → Int32) (c_worthNext : Nat → Int64) (x1 : Int32) (x2 : Int32) (x3 : Int32) (x4 : Int32) (Q : Int64 → (Nat → Int64) → (Nat → Int64) → Prop) : Nat → Int32 → (Nat → Int64) → Prop
  | 0, _, _ => False
  | n_33 + 1, x5, c_worth =>
    ((x4 ≤ x5 → J_X12_chance_64 c_machines c_wordLong c_queued c_heaped c_states c_letters c_moves c_share x1 x3 Q x4 c_worth c_worthNext) ∧ (¬ x4 ≤ x5 → ((¬ x5 = x2 → J_X12_chance_57 (L_X12_chance_33 c_machines c_wordLong c_queued c_heaped c_states c_letters c_moves c_share c_worthNext x1 x2 x3 x4 Q n_33) x5 c_worth (lN 0) x5) ∧ (x5 = x2 → J_X12_chance_57 (L_X12_chance_33 c_machines c_wordLong c_queued c_heaped c_states c_letters c_moves c_share c_worthNext x1 x2 x3 x4 Q n_33) x5 c_worth (lN 1) x5))))
def wp_X12_chance (c_machines : Int32) (c_wordLong : Int32) (c_queued : Int32) (c_heaped : Int32) (c_states : Nat → Int32) (c_letters : Nat → Int32) (c_moves : Nat → Int32) (c_share : Nat → Int32) (c_worth : Nat → Int64) (c_worthNext : Nat → Int64) (x1 : Int32) (x2 : Int32) (x3 : Int32) (Q : Int64 → (Nat → Int64) → (Nat → Int64) → Prop) : Prop :=
    wp_X12_isSet c_machines c_wordLong c_queued c_heaped c_states x1 x2 (fun r2 => ((r2 = (nI 0) → Q (-2) c_worth c_worthNext) ∧ (¬ r2 = (nI 0) → wp_X12_isTime x3 (fun r4 => ((¬ r4 = (nI 0) → vp_in x1 6 ∧ ∃ n, L_X12_chance_33 c_machines c_wordLong c_queued c_heaped c_states c_letters c_moves c_share c_worthNext x1 x2 x3 ((nI 1) <<< ((c_states (Int32.toNatClampNeg x1)) &&& 31)) Q n (nI 0) c_worth) ∧ (r4 = (nI 0) → Q (-2) c_worth c_worthNext))))))
abbrev rm_X12_chance : Room := { frames := 3, cells := 0, slots := 0, locals := 65 }
set_option maxHeartbeats 4000000 in
set_option maxRecDepth 100000 in
theorem k_X12_chance (l : Launch) (g : GG) (h_this : Nat) (h_this_states : Nat) (h_this_letters : Nat) (h_this_moves : Nat) (h_this_light : Nat) (h_this_price : Nat) (h_this_share : Nat) (h_this_word : Nat) (h_this_queue : Nat) (h_this_cameFrom : Nat) (h_this_cameBy : Nat) (h_this_isKnown : Nat) (h_this_isJoined : Nat) (h_this_made : Nat) (h_this_pairWord : Nat) (h_this_bestWord : Nat) (h_this_sum : Nat) (h_this_isSettled : Nat) (h_this_heapSum : Nat) (h_this_heapSet : Nat) (h_this_worth : Nat) (h_this_worthNext : Nat) (h_this_order : Nat) (h_this_hadMoves : Nat) (h_this_row : Nat) (h_this_pairs : Nat) (h_this_pairLong : Nat) {c_machines : Int32} {c_wordLong : Int32} {c_queued : Int32} {c_heaped : Int32} {c_states : Nat → Int32} {c_letters : Nat → Int32} {c_moves : Nat → Int32} {c_share : Nat → Int32} {c_worth : Nat → Int64} {c_worthNext : Nat → Int64} {x1 : Int32} {x2 : Int32} {x3 : Int32} {Q : Int64 → (Nat → Int64) → (Nat → Int64) → Prop} (h : wp_X12_chance c_machines c_wordLong c_queued c_heaped c_states c_letters c_moves c_share c_worth c_worthNext x1 x2 x3 Q) : CL l g yX12_chance wsX12_chance rm_X12_chance [.ref h_this, .int x1, .int x2, .int x3] (cw_X12_chance g h_this h_this_states h_this_letters h_this_moves h_this_light h_this_price h_this_share h_this_word h_this_queue h_this_cameFrom h_this_cameBy h_this_isKnown h_this_isJoined h_this_made h_this_pairWord h_this_bestWord h_this_sum h_this_isSettled h_this_heapSum h_this_heapSet h_this_worth h_this_worthNext h_this_order h_this_hadMoves h_this_row h_this_pairs h_this_pairLong c_machines c_wordLong c_queued c_heaped c_states c_letters c_moves c_share c_worth c_worthNext) (S := (Nat → Int64) × (Nat → Int64)) (fun u => (cw_X12_chance g h_this h_this_states h_this_letters h_this_moves h_this_light h_this_price h_this_share h_this_word h_this_queue h_this_cameFrom h_this_cameBy h_this_isKnown h_this_isJoined h_this_made h_this_pairWord h_this_bestWord h_this_sum h_this_isSettled h_this_heapSum h_this_heapSet h_this_worth h_this_worthNext h_this_order h_this_hadMoves h_this_row h_this_pairs h_this_pairLong c_machines c_wordLong c_queued c_heaped c_states c_letters c_moves c_share u.1 u.2)) (fun r u => Q r u.1 u.2) 0 0 := by
  refine mk_L (cc := cX12_chance) (maxL := 8) (own := RX12) (by decide) rfl rfl (Nat.le_of_ble_eq_true rfl) ?_
  intro p e s m args below meth c A QQ E hret hP hD hS ls hl
  have E2 := E
  obtain ⟨hx, hb, hr, hml, hown, hts, hlocks, hA, hZ, hK, hnm⟩ := E2
  have f189 := hts (.constantLong RX12 189 (-2)) (by decide +kernel)
  have f7 := hts (.fieldLink RX12 7 "WordBenchModel" "states" "[I") (by decide +kernel)
  have f68 := hts (.fieldLink RX12 68 "WordBenchModel" "worth" "[J") (by decide +kernel)
  have f72 := hts (.fieldLink RX12 72 "WordBenchModel" "worthNext" "[J") (by decide +kernel)
  have f13 := hts (.fieldLink RX12 13 "WordBenchModel" "letters" "[I") (by decide +kernel)
  have f25 := hts (.fieldLink RX12 25 "WordBenchModel" "share" "[I") (by decide +kernel)
  have iX12 : ∀ w ∈ wsX120, w ∈ wsX12_chance := fun _ h => List.mem_cons_of_mem _ (List.mem_append_right _ h)
  have hP : va_P g.1 vwCl (cw_X12_chance g h_this h_this_states h_this_letters h_this_moves h_this_light h_this_price h_this_share h_this_word h_this_queue h_this_cameFrom h_this_cameBy h_this_isKnown h_this_isJoined h_this_made h_this_pairWord h_this_bestWord h_this_sum h_this_isSettled h_this_heapSum h_this_heapSet h_this_worth h_this_worthNext h_this_order h_this_hadMoves h_this_row h_this_pairs h_this_pairLong c_machines c_wordLong c_queued c_heaped c_states c_letters c_moves c_share c_worth c_worthNext) s.heap := hP
  have hD : va_D A (cw_X12_chance g h_this h_this_states h_this_letters h_this_moves h_this_light h_this_price h_this_share h_this_word h_this_queue h_this_cameFrom h_this_cameBy h_this_isKnown h_this_isJoined h_this_made h_this_pairWord h_this_bestWord h_this_sum h_this_isSettled h_this_heapSum h_this_heapSet h_this_worth h_this_worthNext h_this_order h_this_hadMoves h_this_row h_this_pairs h_this_pairLong c_machines c_wordLong c_queued c_heaped c_states c_letters c_moves c_share c_worth c_worthNext) := hD
  have hl : lv_has ls 8 [(0, .ref h_this), (1, .int x1), (2, .int x2), (3, .int x3)] := hl
  unfold wp_X12_chance at h
  have K_233 : ∀ (c_worth : Nat → Int64) (c_worthNext : Nat → Int64) (n_233 : Nat) (x5 : Int64) (x7 : Int32) , L_X12_chance_233 c_states c_worth c_worthNext x1 Q n_233 x5 x7 → ∀ (H : Heap) (locs : List Loc), va_P g.1 vwCl (cw_X12_chance g h_this h_this_states h_this_letters h_this_moves h_this_light h_this_price h_this_share h_this_word h_this_queue h_this_cameFrom h_this_cameBy h_this_isKnown h_this_isJoined h_this_made h_this_pairWord h_this_bestWord h_this_sum h_this_isSettled h_this_heapSum h_this_heapSet h_this_worth h_this_worthNext h_this_order h_this_hadMoves h_this_row h_this_pairs h_this_pairLong c_machines c_wordLong c_queued c_heaped c_states c_letters c_moves c_share c_worth c_worthNext) H → va_D A (cw_X12_chance g h_this h_this_states h_this_letters h_this_moves h_this_light h_this_price h_this_share h_this_word h_this_queue h_this_cameFrom h_this_cameBy h_this_isKnown h_this_isJoined h_this_made h_this_pairWord h_this_bestWord h_this_sum h_this_isSettled h_this_heapSum h_this_heapSet h_this_worth h_this_worthNext h_this_order h_this_hadMoves h_this_row h_this_pairs h_this_pairLong c_machines c_wordLong c_queued c_heaped c_states c_letters c_moves c_share c_worth c_worthNext) → va_S A s.heap H locs → ∀ ls : Array Slot, lv_has ls 8 [(0, .ref h_this), (1, .int x1), (5, .long x5), (7, .int x7)] → W p l e rm_X12_chance s m args below meth c H locs 0 0 QQ (F0 m 233 ls []) := by
    intro c_worth c_worthNext n_233
    induction n_233 with
    | zero => intro x5 x7; exact fun h => False.elim h
    | succ n_233 ih_233 =>
      intro x5 x7 h H locs hP hD hS ls hl
      unfold L_X12_chance_233 at h
      refine lv_iload hx hb dX12_chance_233 (lv_at hl 3 rfl) ?_
      refine lv_aload_n hx hb dX12_chance_235 rfl (lv_at hl 0 rfl) ?_
      refine va_get (D := g.1) (ci := 11) (v := .ref h_this_states) (C := RX12) (T := TX12) (N := 30) hx hb hts iX12 hown hK hP 0 rfl rfl 1 (by decide) f7 (fun _ h9 => h9) rfl dX12_chance_236 ?_
      refine lv_iload_n hx hb dX12_chance_239 rfl (lv_at hl 1 rfl) ?_
      obtain ⟨hi, h⟩ := h
      refine va_iald (D := g.1) (n := 6) (f := c_states) hx hb hK hP 1 0 rfl rfl hi dX12_chance_240 ?_
      refine lv_icmp_ge (tgt := 264) hx hb dX12_chance_241 (by decide) (fun cq => ?_) (fun cq => ?_)
      · replace h := h.1 cq
        refine lv_lload hx hb dX12_chance_264 (lv_at hl 2 rfl) ?_
        exact hret x5 (c_worth, c_worthNext) _ _ _ _ h hP hD hS dX12_chance_266
      · replace h := h.2 cq
        refine lv_lload hx hb dX12_chance_244 (lv_at hl 2 rfl) ?_
        refine lv_aload_n hx hb dX12_chance_246 rfl (lv_at hl 0 rfl) ?_
        refine va_get (D := g.1) (ci := 11) (v := .ref h_this_worth) (C := RX12) (T := TX12) (N := 30) hx hb hts iX12 hown hK hP 0 rfl rfl 23 (by decide) f68 (fun _ h9 => h9) rfl dX12_chance_247 ?_
        refine lv_iconst (v := (nI 1)) hx hb dX12_chance_250 (by decide) ?_
        refine lv_iload hx hb dX12_chance_251 (lv_at hl 3 rfl) ?_
        refine lv_ishl hx hb dX12_chance_253 ?_
        obtain ⟨hi, h⟩ := h
        refine va_lald (D := g.1) (n := 4096) (f := c_worth) hx hb hK hP 5 1 rfl rfl hi dX12_chance_254 ?_
        refine lv_ladd hx hb dX12_chance_255 ?_
        refine lv_lstore (lv' := [(5, .long (x5 + (c_worth (Int32.toNatClampNeg ((nI 1) <<< (x7 &&& 31)))))), (0, .ref h_this), (1, .int x1), (7, .int x7)]) hx hb dX12_chance_256 hl (by decide) rfl (fun ls hl => ?_)
        refine lv_iinc (v := (x7 + (nI 1))) (lv' := [(7, .int (x7 + (nI 1))), (5, .long (x5 + (c_worth (Int32.toNatClampNeg ((nI 1) <<< (x7 &&& 31)))))), (0, .ref h_this), (1, .int x1)]) hx hb dX12_chance_258 hl (k := 3) rfl rfl (by decide) rfl (fun ls hl => ?_)
        refine lv_goto (tgt := 233) hx hb dX12_chance_261 (by decide) ?_
        exact ih_233 (x5 + (c_worth (Int32.toNatClampNeg ((nI 1) <<< (x7 &&& 31))))) (x7 + (nI 1)) h _ _ hP hD hS _ (lv_sub hl [2, 3, 1, 0] rfl)
  have K_227 : ∀ (c_worth : Nat → Int64) (c_worthNext : Nat → Int64) , J_X12_chance_227 c_states x1 Q c_worth c_worthNext → ∀ (H : Heap) (locs : List Loc), va_P g.1 vwCl (cw_X12_chance g h_this h_this_states h_this_letters h_this_moves h_this_light h_this_price h_this_share h_this_word h_this_queue h_this_cameFrom h_this_cameBy h_this_isKnown h_this_isJoined h_this_made h_this_pairWord h_this_bestWord h_this_sum h_this_isSettled h_this_heapSum h_this_heapSet h_this_worth h_this_worthNext h_this_order h_this_hadMoves h_this_row h_this_pairs h_this_pairLong c_machines c_wordLong c_queued c_heaped c_states c_letters c_moves c_share c_worth c_worthNext) H → va_D A (cw_X12_chance g h_this h_this_states h_this_letters h_this_moves h_this_light h_this_price h_this_share h_this_word h_this_queue h_this_cameFrom h_this_cameBy h_this_isKnown h_this_isJoined h_this_made h_this_pairWord h_this_bestWord h_this_sum h_this_isSettled h_this_heapSum h_this_heapSet h_this_worth h_this_worthNext h_this_order h_this_hadMoves h_this_row h_this_pairs h_this_pairLong c_machines c_wordLong c_queued c_heaped c_states c_letters c_moves c_share c_worth c_worthNext) → va_S A s.heap H locs → ∀ ls : Array Slot, lv_has ls 8 [(0, .ref h_this), (1, .int x1)] → W p l e rm_X12_chance s m args below meth c H locs 0 0 QQ (F0 m 227 ls []) := by
    intro c_worth c_worthNext h H locs hP hD hS ls hl
    unfold J_X12_chance_227 at h
    refine lv_lconst (v := lN 0) hx hb dX12_chance_227 (by decide) ?_
    refine lv_lstore (lv' := [(5, .long (lN 0)), (0, .ref h_this), (1, .int x1)]) hx hb dX12_chance_228 hl (by decide) rfl (fun ls hl => ?_)
    refine lv_iconst (v := (nI 0)) hx hb dX12_chance_230 (by decide) ?_
    refine lv_istore (lv' := [(7, .int (nI 0)), (5, .long (lN 0)), (0, .ref h_this), (1, .int x1)]) hx hb dX12_chance_231 hl (by decide) rfl (fun ls hl => ?_)
    obtain ⟨n, h⟩ := h
    exact K_233 c_worth c_worthNext n (lN 0) (nI 0) h _ _ hP hD hS _ (lv_sub hl [2, 3, 1, 0] rfl)
  have K_67 : ∀ (x4 : Int32) (n_67 : Nat) (x5 : Int32) (c_worth : Nat → Int64) (c_worthNext : Nat → Int64) , L_X12_chance_67 c_machines c_wordLong c_queued c_heaped c_states c_letters c_moves c_share x1 x3 x4 Q n_67 x5 c_worth c_worthNext → ∀ (H : Heap) (locs : List Loc), va_P g.1 vwCl (cw_X12_chance g h_this h_this_states h_this_letters h_this_moves h_this_light h_this_price h_this_share h_this_word h_this_queue h_this_cameFrom h_this_cameBy h_this_isKnown h_this_isJoined h_this_made h_this_pairWord h_this_bestWord h_this_sum h_this_isSettled h_this_heapSum h_this_heapSet h_this_worth h_this_worthNext h_this_order h_this_hadMoves h_this_row h_this_pairs h_this_pairLong c_machines c_wordLong c_queued c_heaped c_states c_letters c_moves c_share c_worth c_worthNext) H → va_D A (cw_X12_chance g h_this h_this_states h_this_letters h_this_moves h_this_light h_this_price h_this_share h_this_word h_this_queue h_this_cameFrom h_this_cameBy h_this_isKnown h_this_isJoined h_this_made h_this_pairWord h_this_bestWord h_this_sum h_this_isSettled h_this_heapSum h_this_heapSet h_this_worth h_this_worthNext h_this_order h_this_hadMoves h_this_row h_this_pairs h_this_pairLong c_machines c_wordLong c_queued c_heaped c_states c_letters c_moves c_share c_worth c_worthNext) → va_S A s.heap H locs → ∀ ls : Array Slot, lv_has ls 8 [(0, .ref h_this), (1, .int x1), (3, .int x3), (4, .int x4), (5, .int x5)] → W p l e rm_X12_chance s m args below meth c H locs 0 0 QQ (F0 m 67 ls []) := by
    intro x4 n_67
    induction n_67 with
    | zero => intro x5 c_worth c_worthNext; exact fun h => False.elim h
    | succ n_67 ih_67 =>
      intro x5 c_worth c_worthNext h H locs hP hD hS ls hl
      unfold L_X12_chance_67 at h
      have K_221 : ∀ (x5 : Int32) (c_worth : Nat → Int64) (c_worthNext : Nat → Int64) , J_X12_chance_221 (L_X12_chance_67 c_machines c_wordLong c_queued c_heaped c_states c_letters c_moves c_share x1 x3 x4 Q n_67) x5 c_worth c_worthNext → ∀ (H : Heap) (locs : List Loc), va_P g.1 vwCl (cw_X12_chance g h_this h_this_states h_this_letters h_this_moves h_this_light h_this_price h_this_share h_this_word h_this_queue h_this_cameFrom h_this_cameBy h_this_isKnown h_this_isJoined h_this_made h_this_pairWord h_this_bestWord h_this_sum h_this_isSettled h_this_heapSum h_this_heapSet h_this_worth h_this_worthNext h_this_order h_this_hadMoves h_this_row h_this_pairs h_this_pairLong c_machines c_wordLong c_queued c_heaped c_states c_letters c_moves c_share c_worth c_worthNext) H → va_D A (cw_X12_chance g h_this h_this_states h_this_letters h_this_moves h_this_light h_this_price h_this_share h_this_word h_this_queue h_this_cameFrom h_this_cameBy h_this_isKnown h_this_isJoined h_this_made h_this_pairWord h_this_bestWord h_this_sum h_this_isSettled h_this_heapSum h_this_heapSet h_this_worth h_this_worthNext h_this_order h_this_hadMoves h_this_row h_this_pairs h_this_pairLong c_machines c_wordLong c_queued c_heaped c_states c_letters c_moves c_share c_worth c_worthNext) → va_S A s.heap H locs → ∀ ls : Array Slot, lv_has ls 8 [(0, .ref h_this), (1, .int x1), (3, .int x3), (4, .int x4), (5, .int x5)] → W p l e rm_X12_chance s m args below meth c H locs 0 0 QQ (F0 m 221 ls []) := by
        intro x5 c_worth c_worthNext h H locs hP hD hS ls hl
        unfold J_X12_chance_221 at h
        refine lv_iinc (v := (x5 + (nI 1))) (lv' := [(5, .int (x5 + (nI 1))), (0, .ref h_this), (1, .int x1), (3, .int x3), (4, .int x4)]) hx hb dX12_chance_221 hl (k := 4) rfl rfl (by decide) rfl (fun ls hl => ?_)
        refine lv_goto (tgt := 67) hx hb dX12_chance_224 (by decide) ?_
        exact ih_67 (x5 + (nI 1)) c_worth c_worthNext h _ _ hP hD hS _ (lv_sub hl [1, 2, 3, 4, 0] rfl)
      have K_185 : ∀ (x5 : Int32) (c_worthNext : Nat → Int64) (n_185 : Nat) (x6 : Int32) (c_worth : Nat → Int64) , L_X12_chance_185 c_worthNext x4 x5 (L_X12_chance_67 c_machines c_wordLong c_queued c_heaped c_states c_letters c_moves c_share x1 x3 x4 Q n_67) n_185 x6 c_worth → ∀ (H : Heap) (locs : List Loc), va_P g.1 vwCl (cw_X12_chance g h_this h_this_states h_this_letters h_this_moves h_this_light h_this_price h_this_share h_this_word h_this_queue h_this_cameFrom h_this_cameBy h_this_isKnown h_this_isJoined h_this_made h_this_pairWord h_this_bestWord h_this_sum h_this_isSettled h_this_heapSum h_this_heapSet h_this_worth h_this_worthNext h_this_order h_this_hadMoves h_this_row h_this_pairs h_this_pairLong c_machines c_wordLong c_queued c_heaped c_states c_letters c_moves c_share c_worth c_worthNext) H → va_D A (cw_X12_chance g h_this h_this_states h_this_letters h_this_moves h_this_light h_this_price h_this_share h_this_word h_this_queue h_this_cameFrom h_this_cameBy h_this_isKnown h_this_isJoined h_this_made h_this_pairWord h_this_bestWord h_this_sum h_this_isSettled h_this_heapSum h_this_heapSet h_this_worth h_this_worthNext h_this_order h_this_hadMoves h_this_row h_this_pairs h_this_pairLong c_machines c_wordLong c_queued c_heaped c_states c_letters c_moves c_share c_worth c_worthNext) → va_S A s.heap H locs → ∀ ls : Array Slot, lv_has ls 8 [(0, .ref h_this), (1, .int x1), (3, .int x3), (4, .int x4), (5, .int x5), (6, .int x6)] → W p l e rm_X12_chance s m args below meth c H locs 0 0 QQ (F0 m 185 ls []) := by
        intro x5 c_worthNext n_185
        induction n_185 with
        | zero => intro x6 c_worth; exact fun h => False.elim h
        | succ n_185 ih_185 =>
          intro x6 c_worth h H locs hP hD hS ls hl
          unfold L_X12_chance_185 at h
          have K_214 : ∀ (x6 : Int32) (c_worth : Nat → Int64) (t0 : Int64) (t1 : Int32) , J_X12_chance_214 (L_X12_chance_185 c_worthNext x4 x5 (L_X12_chance_67 c_machines c_wordLong c_queued c_heaped c_states c_letters c_moves c_share x1 x3 x4 Q n_67) n_185) x6 c_worth t0 t1 → ∀ (H : Heap) (locs : List Loc), va_P g.1 vwCl (cw_X12_chance g h_this h_this_states h_this_letters h_this_moves h_this_light h_this_price h_this_share h_this_word h_this_queue h_this_cameFrom h_this_cameBy h_this_isKnown h_this_isJoined h_this_made h_this_pairWord h_this_bestWord h_this_sum h_this_isSettled h_this_heapSum h_this_heapSet h_this_worth h_this_worthNext h_this_order h_this_hadMoves h_this_row h_this_pairs h_this_pairLong c_machines c_wordLong c_queued c_heaped c_states c_letters c_moves c_share c_worth c_worthNext) H → va_D A (cw_X12_chance g h_this h_this_states h_this_letters h_this_moves h_this_light h_this_price h_this_share h_this_word h_this_queue h_this_cameFrom h_this_cameBy h_this_isKnown h_this_isJoined h_this_made h_this_pairWord h_this_bestWord h_this_sum h_this_isSettled h_this_heapSum h_this_heapSet h_this_worth h_this_worthNext h_this_order h_this_hadMoves h_this_row h_this_pairs h_this_pairLong c_machines c_wordLong c_queued c_heaped c_states c_letters c_moves c_share c_worth c_worthNext) → va_S A s.heap H locs → ∀ ls : Array Slot, lv_has ls 8 [(0, .ref h_this), (1, .int x1), (3, .int x3), (4, .int x4), (5, .int x5), (6, .int x6)] → W p l e rm_X12_chance s m args below meth c H locs 0 0 QQ (F0 m 214 ls [.long t0, .int t1, .ref h_this_worth]) := by
            intro x6 c_worth t0 t1 h H locs hP hD hS ls hl
            unfold J_X12_chance_214 at h
            obtain ⟨hi, h⟩ := h
            refine va_last (D := g.1) (n := 4096) (f := c_worth) hx hb hK hP hD hS 5 1 rfl rfl hi dX12_chance_214 (fun H locs hP hD hS => ?_)
            have hP : va_P g.1 vwCl (cw_X12_chance g h_this h_this_states h_this_letters h_this_moves h_this_light h_this_price h_this_share h_this_word h_this_queue h_this_cameFrom h_this_cameBy h_this_isKnown h_this_isJoined h_this_made h_this_pairWord h_this_bestWord h_this_sum h_this_isSettled h_this_heapSum h_this_heapSet h_this_worth h_this_worthNext h_this_order h_this_hadMoves h_this_row h_this_pairs h_this_pairLong c_machines c_wordLong c_queued c_heaped c_states c_letters c_moves c_share (vp_updL c_worth (Int32.toNatClampNeg t1) t0) c_worthNext) H := hP
            have hD : va_D A (cw_X12_chance g h_this h_this_states h_this_letters h_this_moves h_this_light h_this_price h_this_share h_this_word h_this_queue h_this_cameFrom h_this_cameBy h_this_isKnown h_this_isJoined h_this_made h_this_pairWord h_this_bestWord h_this_sum h_this_isSettled h_this_heapSum h_this_heapSet h_this_worth h_this_worthNext h_this_order h_this_hadMoves h_this_row h_this_pairs h_this_pairLong c_machines c_wordLong c_queued c_heaped c_states c_letters c_moves c_share (vp_updL c_worth (Int32.toNatClampNeg t1) t0) c_worthNext) := hD
            refine lv_iinc (v := (x6 + (nI 1))) (lv' := [(6, .int (x6 + (nI 1))), (0, .ref h_this), (1, .int x1), (3, .int x3), (4, .int x4), (5, .int x5)]) hx hb dX12_chance_215 hl (k := 5) rfl rfl (by decide) rfl (fun ls hl => ?_)
            refine lv_goto (tgt := 185) hx hb dX12_chance_218 (by decide) ?_
            exact ih_185 (x6 + (nI 1)) (vp_updL c_worth (Int32.toNatClampNeg t1) t0) h _ _ hP hD hS _ (lv_sub hl [1, 2, 3, 4, 5, 0] rfl)
          refine lv_iload hx hb dX12_chance_185 (lv_at hl 5 rfl) ?_
          refine lv_iload hx hb dX12_chance_187 (lv_at hl 3 rfl) ?_
          refine lv_icmp_ge (tgt := 221) hx hb dX12_chance_189 (by decide) (fun cq => ?_) (fun cq => ?_)
          · replace h := h.1 cq
            exact K_221 x5 c_worth c_worthNext h _ _ hP hD hS _ (lv_sub hl [0, 1, 2, 3, 4] rfl)
          · replace h := h.2 cq
            refine lv_aload_n hx hb dX12_chance_192 rfl (lv_at hl 0 rfl) ?_
            refine va_get (D := g.1) (ci := 11) (v := .ref h_this_worth) (C := RX12) (T := TX12) (N := 30) hx hb hts iX12 hown hK hP 0 rfl rfl 23 (by decide) f68 (fun _ h9 => h9) rfl dX12_chance_193 ?_
            refine lv_iload hx hb dX12_chance_196 (lv_at hl 5 rfl) ?_
            refine lv_iload hx hb dX12_chance_198 (lv_at hl 5 rfl) ?_
            refine lv_if_ne (tgt := 207) hx hb dX12_chance_200 (by decide) (fun cq => ?_) (fun cq => ?_)
            · replace h := h.1 cq
              refine lv_aload_n hx hb dX12_chance_207 rfl (lv_at hl 0 rfl) ?_
              refine va_get (D := g.1) (ci := 11) (v := .ref h_this_worthNext) (C := RX12) (T := TX12) (N := 30) hx hb hts iX12 hown hK hP 0 rfl rfl 24 (by decide) f72 (fun _ h9 => h9) rfl dX12_chance_208 ?_
              refine lv_iload hx hb dX12_chance_211 (lv_at hl 5 rfl) ?_
              obtain ⟨hi, h⟩ := h
              refine va_lald (D := g.1) (n := 4096) (f := c_worthNext) hx hb hK hP 6 1 rfl rfl hi dX12_chance_213 ?_
              exact K_214 x6 c_worth (c_worthNext (Int32.toNatClampNeg x6)) x6 h _ _ hP hD hS _ (lv_sub hl [0, 1, 2, 3, 4, 5] rfl)
            · replace h := h.2 cq
              refine lv_lconst (v := lN 0) hx hb dX12_chance_203 (by decide) ?_
              refine lv_goto (tgt := 214) hx hb dX12_chance_204 (by decide) ?_
              exact K_214 x6 c_worth (lN 0) x6 h _ _ hP hD hS _ (lv_sub hl [0, 1, 2, 3, 4, 5] rfl)
      have K_182 : ∀ (x5 : Int32) (c_worth : Nat → Int64) (c_worthNext : Nat → Int64) , J_X12_chance_182 x4 (L_X12_chance_67 c_machines c_wordLong c_queued c_heaped c_states c_letters c_moves c_share x1 x3 x4 Q n_67) x5 c_worth c_worthNext → ∀ (H : Heap) (locs : List Loc), va_P g.1 vwCl (cw_X12_chance g h_this h_this_states h_this_letters h_this_moves h_this_light h_this_price h_this_share h_this_word h_this_queue h_this_cameFrom h_this_cameBy h_this_isKnown h_this_isJoined h_this_made h_this_pairWord h_this_bestWord h_this_sum h_this_isSettled h_this_heapSum h_this_heapSet h_this_worth h_this_worthNext h_this_order h_this_hadMoves h_this_row h_this_pairs h_this_pairLong c_machines c_wordLong c_queued c_heaped c_states c_letters c_moves c_share c_worth c_worthNext) H → va_D A (cw_X12_chance g h_this h_this_states h_this_letters h_this_moves h_this_light h_this_price h_this_share h_this_word h_this_queue h_this_cameFrom h_this_cameBy h_this_isKnown h_this_isJoined h_this_made h_this_pairWord h_this_bestWord h_this_sum h_this_isSettled h_this_heapSum h_this_heapSet h_this_worth h_this_worthNext h_this_order h_this_hadMoves h_this_row h_this_pairs h_this_pairLong c_machines c_wordLong c_queued c_heaped c_states c_letters c_moves c_share c_worth c_worthNext) → va_S A s.heap H locs → ∀ ls : Array Slot, lv_has ls 8 [(0, .ref h_this), (1, .int x1), (3, .int x3), (4, .int x4), (5, .int x5)] → W p l e rm_X12_chance s m args below meth c H locs 0 0 QQ (F0 m 182 ls []) := by
        intro x5 c_worth c_worthNext h H locs hP hD hS ls hl
        unfold J_X12_chance_182 at h
        refine lv_iconst (v := (nI 0)) hx hb dX12_chance_182 (by decide) ?_
        refine lv_istore (lv' := [(6, .int (nI 0)), (0, .ref h_this), (1, .int x1), (3, .int x3), (4, .int x4), (5, .int x5)]) hx hb dX12_chance_183 hl (by decide) rfl (fun ls hl => ?_)
        obtain ⟨n, h⟩ := h
        exact K_185 x5 c_worthNext n (nI 0) c_worth h _ _ hP hD hS _ (lv_sub hl [1, 2, 3, 4, 5, 0] rfl)
      have K_100 : ∀ (x5 : Int32) (c_worth : Nat → Int64) (n_100 : Nat) (x6 : Int32) (c_worthNext : Nat → Int64) , L_X12_chance_100 c_machines c_wordLong c_queued c_heaped c_states c_letters c_moves c_share c_worth x1 x4 x5 (L_X12_chance_67 c_machines c_wordLong c_queued c_heaped c_states c_letters c_moves c_share x1 x3 x4 Q n_67) n_100 x6 c_worthNext → ∀ (H : Heap) (locs : List Loc), va_P g.1 vwCl (cw_X12_chance g h_this h_this_states h_this_letters h_this_moves h_this_light h_this_price h_this_share h_this_word h_this_queue h_this_cameFrom h_this_cameBy h_this_isKnown h_this_isJoined h_this_made h_this_pairWord h_this_bestWord h_this_sum h_this_isSettled h_this_heapSum h_this_heapSet h_this_worth h_this_worthNext h_this_order h_this_hadMoves h_this_row h_this_pairs h_this_pairLong c_machines c_wordLong c_queued c_heaped c_states c_letters c_moves c_share c_worth c_worthNext) H → va_D A (cw_X12_chance g h_this h_this_states h_this_letters h_this_moves h_this_light h_this_price h_this_share h_this_word h_this_queue h_this_cameFrom h_this_cameBy h_this_isKnown h_this_isJoined h_this_made h_this_pairWord h_this_bestWord h_this_sum h_this_isSettled h_this_heapSum h_this_heapSet h_this_worth h_this_worthNext h_this_order h_this_hadMoves h_this_row h_this_pairs h_this_pairLong c_machines c_wordLong c_queued c_heaped c_states c_letters c_moves c_share c_worth c_worthNext) → va_S A s.heap H locs → ∀ ls : Array Slot, lv_has ls 8 [(0, .ref h_this), (1, .int x1), (3, .int x3), (4, .int x4), (5, .int x5), (6, .int x6)] → W p l e rm_X12_chance s m args below meth c H locs 0 0 QQ (F0 m 100 ls []) := by
        intro x5 c_worth n_100
        induction n_100 with
        | zero => intro x6 c_worthNext; exact fun h => False.elim h
        | succ n_100 ih_100 =>
          intro x6 c_worthNext h H locs hP hD hS ls hl
          unfold L_X12_chance_100 at h
          have K_176 : ∀ (x6 : Int32) (c_worthNext : Nat → Int64) , J_X12_chance_176 (L_X12_chance_100 c_machines c_wordLong c_queued c_heaped c_states c_letters c_moves c_share c_worth x1 x4 x5 (L_X12_chance_67 c_machines c_wordLong c_queued c_heaped c_states c_letters c_moves c_share x1 x3 x4 Q n_67) n_100) x6 c_worthNext → ∀ (H : Heap) (locs : List Loc), va_P g.1 vwCl (cw_X12_chance g h_this h_this_states h_this_letters h_this_moves h_this_light h_this_price h_this_share h_this_word h_this_queue h_this_cameFrom h_this_cameBy h_this_isKnown h_this_isJoined h_this_made h_this_pairWord h_this_bestWord h_this_sum h_this_isSettled h_this_heapSum h_this_heapSet h_this_worth h_this_worthNext h_this_order h_this_hadMoves h_this_row h_this_pairs h_this_pairLong c_machines c_wordLong c_queued c_heaped c_states c_letters c_moves c_share c_worth c_worthNext) H → va_D A (cw_X12_chance g h_this h_this_states h_this_letters h_this_moves h_this_light h_this_price h_this_share h_this_word h_this_queue h_this_cameFrom h_this_cameBy h_this_isKnown h_this_isJoined h_this_made h_this_pairWord h_this_bestWord h_this_sum h_this_isSettled h_this_heapSum h_this_heapSet h_this_worth h_this_worthNext h_this_order h_this_hadMoves h_this_row h_this_pairs h_this_pairLong c_machines c_wordLong c_queued c_heaped c_states c_letters c_moves c_share c_worth c_worthNext) → va_S A s.heap H locs → ∀ ls : Array Slot, lv_has ls 8 [(0, .ref h_this), (1, .int x1), (3, .int x3), (4, .int x4), (5, .int x5), (6, .int x6)] → W p l e rm_X12_chance s m args below meth c H locs 0 0 QQ (F0 m 176 ls []) := by
            intro x6 c_worthNext h H locs hP hD hS ls hl
            unfold J_X12_chance_176 at h
            refine lv_iinc (v := (x6 + (nI 1))) (lv' := [(6, .int (x6 + (nI 1))), (0, .ref h_this), (1, .int x1), (3, .int x3), (4, .int x4), (5, .int x5)]) hx hb dX12_chance_176 hl (k := 5) rfl rfl (by decide) rfl (fun ls hl => ?_)
            refine lv_goto (tgt := 100) hx hb dX12_chance_179 (by decide) ?_
            exact ih_100 (x6 + (nI 1)) c_worthNext h _ _ hP hD hS _ (lv_sub hl [1, 2, 3, 4, 5, 0] rfl)
          have K_110 : ∀ (x6 : Int32) (n_110 : Nat) (x7 : Int32) (c_worthNext : Nat → Int64) , L_X12_chance_110 c_machines c_wordLong c_queued c_heaped c_states c_letters c_moves c_share c_worth x1 x6 (L_X12_chance_100 c_machines c_wordLong c_queued c_heaped c_states c_letters c_moves c_share c_worth x1 x4 x5 (L_X12_chance_67 c_machines c_wordLong c_queued c_heaped c_states c_letters c_moves c_share x1 x3 x4 Q n_67) n_100) n_110 x7 c_worthNext → ∀ (H : Heap) (locs : List Loc), va_P g.1 vwCl (cw_X12_chance g h_this h_this_states h_this_letters h_this_moves h_this_light h_this_price h_this_share h_this_word h_this_queue h_this_cameFrom h_this_cameBy h_this_isKnown h_this_isJoined h_this_made h_this_pairWord h_this_bestWord h_this_sum h_this_isSettled h_this_heapSum h_this_heapSet h_this_worth h_this_worthNext h_this_order h_this_hadMoves h_this_row h_this_pairs h_this_pairLong c_machines c_wordLong c_queued c_heaped c_states c_letters c_moves c_share c_worth c_worthNext) H → va_D A (cw_X12_chance g h_this h_this_states h_this_letters h_this_moves h_this_light h_this_price h_this_share h_this_word h_this_queue h_this_cameFrom h_this_cameBy h_this_isKnown h_this_isJoined h_this_made h_this_pairWord h_this_bestWord h_this_sum h_this_isSettled h_this_heapSum h_this_heapSet h_this_worth h_this_worthNext h_this_order h_this_hadMoves h_this_row h_this_pairs h_this_pairLong c_machines c_wordLong c_queued c_heaped c_states c_letters c_moves c_share c_worth c_worthNext) → va_S A s.heap H locs → ∀ ls : Array Slot, lv_has ls 8 [(0, .ref h_this), (1, .int x1), (3, .int x3), (4, .int x4), (5, .int x5), (6, .int x6), (7, .int x7)] → W p l e rm_X12_chance s m args below meth c H locs 0 0 QQ (F0 m 110 ls []) := by
            intro x6 n_110
            induction n_110 with
            | zero => intro x7 c_worthNext; exact fun h => False.elim h
            | succ n_110 ih_110 =>
              intro x7 c_worthNext h H locs hP hD hS ls hl
              unfold L_X12_chance_110 at h
              refine lv_iload hx hb dX12_chance_110 (lv_at hl 6 rfl) ?_
              refine lv_aload_n hx hb dX12_chance_112 rfl (lv_at hl 0 rfl) ?_
              refine va_get (D := g.1) (ci := 11) (v := .ref h_this_letters) (C := RX12) (T := TX12) (N := 30) hx hb hts iX12 hown hK hP 0 rfl rfl 2 (by decide) f13 (fun _ h9 => h9) rfl dX12_chance_113 ?_
              refine lv_iload_n hx hb dX12_chance_116 rfl (lv_at hl 1 rfl) ?_
              obtain ⟨hi, h⟩ := h
              refine va_iald (D := g.1) (n := 6) (f := c_letters) hx hb hK hP 2 0 rfl rfl hi dX12_chance_117 ?_
              refine lv_icmp_ge (tgt := 176) hx hb dX12_chance_118 (by decide) (fun cq => ?_) (fun cq => ?_)
              · replace h := h.1 cq
                exact K_176 x6 c_worthNext h _ _ hP hD hS _ (lv_sub hl [0, 1, 2, 3, 4, 5] rfl)
              · replace h := h.2 cq
                refine lv_aload_n hx hb dX12_chance_121 rfl (lv_at hl 0 rfl) ?_
                refine va_get (D := g.1) (ci := 11) (v := .ref h_this_worth) (C := RX12) (T := TX12) (N := 30) hx hb hts iX12 hown hK hP 0 rfl rfl 23 (by decide) f68 (fun _ h9 => h9) rfl dX12_chance_122 ?_
                refine lv_iload hx hb dX12_chance_125 (lv_at hl 5 rfl) ?_
                obtain ⟨hi, h⟩ := h
                refine va_lald (D := g.1) (n := 4096) (f := c_worth) hx hb hK hP 5 1 rfl rfl hi dX12_chance_127 ?_
                refine lv_lconst (v := lN 0) hx hb dX12_chance_128 (by decide) ?_
                refine W.lcmp hx hb dX12_chance_129 ?_
                refine lv_if_le (tgt := 176) hx hb dX12_chance_130 (by decide) (fun cq => ?_) (fun cq => ?_)
                · replace h := h.1 cq
                  exact K_176 x6 c_worthNext h _ _ hP hD hS _ (lv_sub hl [0, 1, 2, 3, 4, 5] rfl)
                · replace h := h.2 cq
                  refine lv_aload_n hx hb dX12_chance_133 rfl (lv_at hl 0 rfl) ?_
                  refine va_get (D := g.1) (ci := 11) (v := .ref h_this_worthNext) (C := RX12) (T := TX12) (N := 30) hx hb hts iX12 hown hK hP 0 rfl rfl 24 (by decide) f72 (fun _ h9 => h9) rfl dX12_chance_134 ?_
                  refine lv_aload_n hx hb dX12_chance_137 rfl (lv_at hl 0 rfl) ?_
                  refine lv_iload_n hx hb dX12_chance_138 rfl (lv_at hl 1 rfl) ?_
                  refine lv_iload hx hb dX12_chance_139 (lv_at hl 5 rfl) ?_
                  refine lv_iload hx hb dX12_chance_141 (lv_at hl 6 rfl) ?_
                  refine go_I E (run_V E ((k_X12_next l g h_this h_this_states h_this_letters h_this_moves h_this_light h_this_price h_this_share h_this_word h_this_queue h_this_cameFrom h_this_cameBy h_this_isKnown h_this_isJoined h_this_made h_this_pairWord h_this_bestWord h_this_sum h_this_isSettled h_this_heapSum h_this_heapSet h_this_worth h_this_worthNext h_this_order h_this_hadMoves h_this_row h_this_pairs h_this_pairLong h) _) (cwV 3 hts gX12_chance_X12_next rfl rfl rfl (by decide +kernel) ⟨Nat.le_of_ble_eq_true rfl, Nat.le_of_ble_eq_true rfl⟩) hP hD hS [0, 1, 3] rfl rfl 0 11 rfl rfl rfl hl rfl rfl (Nat.le_of_ble_eq_true rfl) dX12_chance_143 ⟨Nat.le_of_ble_eq_true rfl, Nat.le_of_ble_eq_true rfl⟩) hP hD hS [0, 1, 3] rfl [(false, 0), (false, 1), (true, 2), (false, 2), (true, 4), (true, 5), (true, 6)] rfl (by decide) (fun _ => (cw_X12_chance g h_this h_this_states h_this_letters h_this_moves h_this_light h_this_price h_this_share h_this_word h_this_queue h_this_cameFrom h_this_cameBy h_this_isKnown h_this_isJoined h_this_made h_this_pairWord h_this_bestWord h_this_sum h_this_isSettled h_this_heapSum h_this_heapSet h_this_worth h_this_worthNext h_this_order h_this_hadMoves h_this_row h_this_pairs h_this_pairLong c_machines c_wordLong c_queued c_heaped c_states c_letters c_moves c_share c_worth c_worthNext)) (fun _ => rfl) (fun r6 _ H locs h hP hD hS => ?_)
                  try dsimp only at h
                  have hP : va_P g.1 vwCl (cw_X12_chance g h_this h_this_states h_this_letters h_this_moves h_this_light h_this_price h_this_share h_this_word h_this_queue h_this_cameFrom h_this_cameBy h_this_isKnown h_this_isJoined h_this_made h_this_pairWord h_this_bestWord h_this_sum h_this_isSettled h_this_heapSum h_this_heapSet h_this_worth h_this_worthNext h_this_order h_this_hadMoves h_this_row h_this_pairs h_this_pairLong c_machines c_wordLong c_queued c_heaped c_states c_letters c_moves c_share c_worth c_worthNext) H := hP
                  have hD : va_D A (cw_X12_chance g h_this h_this_states h_this_letters h_this_moves h_this_light h_this_price h_this_share h_this_word h_this_queue h_this_cameFrom h_this_cameBy h_this_isKnown h_this_isJoined h_this_made h_this_pairWord h_this_bestWord h_this_sum h_this_isSettled h_this_heapSum h_this_heapSet h_this_worth h_this_worthNext h_this_order h_this_hadMoves h_this_row h_this_pairs h_this_pairLong c_machines c_wordLong c_queued c_heaped c_states c_letters c_moves c_share c_worth c_worthNext) := hD
                  refine lv_dup2_11 hx hb dX12_chance_146 rfl rfl ?_
                  obtain ⟨hi, h⟩ := h
                  refine va_lald (D := g.1) (n := 4096) (f := c_worthNext) hx hb hK hP 6 1 rfl rfl hi dX12_chance_147 ?_
                  refine lv_aload_n hx hb dX12_chance_148 rfl (lv_at hl 0 rfl) ?_
                  refine va_get (D := g.1) (ci := 11) (v := .ref h_this_worth) (C := RX12) (T := TX12) (N := 30) hx hb hts iX12 hown hK hP 0 rfl rfl 23 (by decide) f68 (fun _ h9 => h9) rfl dX12_chance_149 ?_
                  refine lv_iload hx hb dX12_chance_152 (lv_at hl 5 rfl) ?_
                  obtain ⟨hi, h⟩ := h
                  refine va_lald (D := g.1) (n := 4096) (f := c_worth) hx hb hK hP 5 1 rfl rfl hi dX12_chance_154 ?_
                  refine lv_aload_n hx hb dX12_chance_155 rfl (lv_at hl 0 rfl) ?_
                  refine va_get (D := g.1) (ci := 11) (v := .ref h_this_share) (C := RX12) (T := TX12) (N := 30) hx hb hts iX12 hown hK hP 0 rfl rfl 6 (by decide) f25 (fun _ h9 => h9) rfl dX12_chance_156 ?_
                  refine lv_iconst (v := (nI 4)) hx hb dX12_chance_159 (by decide) ?_
                  refine lv_iload_n hx hb dX12_chance_160 rfl (lv_at hl 1 rfl) ?_
                  refine lv_imul hx hb dX12_chance_161 ?_
                  refine lv_iload hx hb dX12_chance_162 (lv_at hl 6 rfl) ?_
                  refine lv_iadd hx hb dX12_chance_164 ?_
                  obtain ⟨hi, h⟩ := h
                  refine va_iald (D := g.1) (n := 24) (f := c_share) hx hb hK hP 4 0 rfl rfl hi dX12_chance_165 ?_
                  refine lv_i2l (v := (Int32.toInt64 (c_share (Int32.toNatClampNeg (((nI 4) * x1) + x7))))) hx hb dX12_chance_166 rfl ?_
                  refine lv_lmul hx hb dX12_chance_167 ?_
                  refine lv_ladd hx hb dX12_chance_168 ?_
                  obtain ⟨hi, h⟩ := h
                  refine va_last (D := g.1) (n := 4096) (f := c_worthNext) hx hb hK hP hD hS 6 1 rfl rfl hi dX12_chance_169 (fun H locs hP hD hS => ?_)
                  have hP : va_P g.1 vwCl (cw_X12_chance g h_this h_this_states h_this_letters h_this_moves h_this_light h_this_price h_this_share h_this_word h_this_queue h_this_cameFrom h_this_cameBy h_this_isKnown h_this_isJoined h_this_made h_this_pairWord h_this_bestWord h_this_sum h_this_isSettled h_this_heapSum h_this_heapSet h_this_worth h_this_worthNext h_this_order h_this_hadMoves h_this_row h_this_pairs h_this_pairLong c_machines c_wordLong c_queued c_heaped c_states c_letters c_moves c_share c_worth (vp_updL c_worthNext (Int32.toNatClampNeg r6) ((c_worthNext (Int32.toNatClampNeg r6)) + ((c_worth (Int32.toNatClampNeg x6)) * (Int32.toInt64 (c_share (Int32.toNatClampNeg (((nI 4) * x1) + x7)))))))) H := hP
                  have hD : va_D A (cw_X12_chance g h_this h_this_states h_this_letters h_this_moves h_this_light h_this_price h_this_share h_this_word h_this_queue h_this_cameFrom h_this_cameBy h_this_isKnown h_this_isJoined h_this_made h_this_pairWord h_this_bestWord h_this_sum h_this_isSettled h_this_heapSum h_this_heapSet h_this_worth h_this_worthNext h_this_order h_this_hadMoves h_this_row h_this_pairs h_this_pairLong c_machines c_wordLong c_queued c_heaped c_states c_letters c_moves c_share c_worth (vp_updL c_worthNext (Int32.toNatClampNeg r6) ((c_worthNext (Int32.toNatClampNeg r6)) + ((c_worth (Int32.toNatClampNeg x6)) * (Int32.toInt64 (c_share (Int32.toNatClampNeg (((nI 4) * x1) + x7)))))))) := hD
                  refine lv_iinc (v := (x7 + (nI 1))) (lv' := [(7, .int (x7 + (nI 1))), (0, .ref h_this), (1, .int x1), (3, .int x3), (4, .int x4), (5, .int x5), (6, .int x6)]) hx hb dX12_chance_170 hl (k := 6) rfl rfl (by decide) rfl (fun ls hl => ?_)
                  refine lv_goto (tgt := 110) hx hb dX12_chance_173 (by decide) ?_
                  exact ih_110 (x7 + (nI 1)) (vp_updL c_worthNext (Int32.toNatClampNeg r6) ((c_worthNext (Int32.toNatClampNeg r6)) + ((c_worth (Int32.toNatClampNeg x6)) * (Int32.toInt64 (c_share (Int32.toNatClampNeg (((nI 4) * x1) + x7))))))) h _ _ hP hD hS _ (lv_sub hl [1, 2, 3, 4, 5, 6, 0] rfl)
          refine lv_iload hx hb dX12_chance_100 (lv_at hl 5 rfl) ?_
          refine lv_iload hx hb dX12_chance_102 (lv_at hl 3 rfl) ?_
          refine lv_icmp_ge (tgt := 182) hx hb dX12_chance_104 (by decide) (fun cq => ?_) (fun cq => ?_)
          · replace h := h.1 cq
            exact K_182 x5 c_worth c_worthNext h _ _ hP hD hS _ (lv_sub hl [0, 1, 2, 3, 4] rfl)
          · replace h := h.2 cq
            refine lv_iconst (v := (nI 0)) hx hb dX12_chance_107 (by decide) ?_
            refine lv_istore (lv' := [(7, .int (nI 0)), (0, .ref h_this), (1, .int x1), (3, .int x3), (4, .int x4), (5, .int x5), (6, .int x6)]) hx hb dX12_chance_108 hl (by decide) rfl (fun ls hl => ?_)
            obtain ⟨n, h⟩ := h
            exact K_110 x6 n (nI 0) c_worthNext h _ _ hP hD hS _ (lv_sub hl [1, 2, 3, 4, 5, 6, 0] rfl)
      have K_97 : ∀ (x5 : Int32) (c_worth : Nat → Int64) (c_worthNext : Nat → Int64) , J_X12_chance_97 c_machines c_wordLong c_queued c_heaped c_states c_letters c_moves c_share x1 x4 (L_X12_chance_67 c_machines c_wordLong c_queued c_heaped c_states c_letters c_moves c_share x1 x3 x4 Q n_67) x5 c_worth c_worthNext → ∀ (H : Heap) (locs : List Loc), va_P g.1 vwCl (cw_X12_chance g h_this h_this_states h_this_letters h_this_moves h_this_light h_this_price h_this_share h_this_word h_this_queue h_this_cameFrom h_this_cameBy h_this_isKnown h_this_isJoined h_this_made h_this_pairWord h_this_bestWord h_this_sum h_this_isSettled h_this_heapSum h_this_heapSet h_this_worth h_this_worthNext h_this_order h_this_hadMoves h_this_row h_this_pairs h_this_pairLong c_machines c_wordLong c_queued c_heaped c_states c_letters c_moves c_share c_worth c_worthNext) H → va_D A (cw_X12_chance g h_this h_this_states h_this_letters h_this_moves h_this_light h_this_price h_this_share h_this_word h_this_queue h_this_cameFrom h_this_cameBy h_this_isKnown h_this_isJoined h_this_made h_this_pairWord h_this_bestWord h_this_sum h_this_isSettled h_this_heapSum h_this_heapSet h_this_worth h_this_worthNext h_this_order h_this_hadMoves h_this_row h_this_pairs h_this_pairLong c_machines c_wordLong c_queued c_heaped c_states c_letters c_moves c_share c_worth c_worthNext) → va_S A s.heap H locs → ∀ ls : Array Slot, lv_has ls 8 [(0, .ref h_this), (1, .int x1), (3, .int x3), (4, .int x4), (5, .int x5)] → W p l e rm_X12_chance s m args below meth c H locs 0 0 QQ (F0 m 97 ls []) := by
        intro x5 c_worth c_worthNext h H locs hP hD hS ls hl
        unfold J_X12_chance_97 at h
        refine lv_iconst (v := (nI 1)) hx hb dX12_chance_97 (by decide) ?_
        refine lv_istore (lv' := [(6, .int (nI 1)), (0, .ref h_this), (1, .int x1), (3, .int x3), (4, .int x4), (5, .int x5)]) hx hb dX12_chance_98 hl (by decide) rfl (fun ls hl => ?_)
        obtain ⟨n, h⟩ := h
        exact K_100 x5 c_worth n (nI 1) c_worthNext h _ _ hP hD hS _ (lv_sub hl [1, 2, 3, 4, 5, 0] rfl)
      have K_76 : ∀ (x5 : Int32) (c_worth : Nat → Int64) (n_76 : Nat) (x6 : Int32) (c_worthNext : Nat → Int64) , L_X12_chance_76 c_machines c_wordLong c_queued c_heaped c_states c_letters c_moves c_share c_worth x1 x4 x5 (L_X12_chance_67 c_machines c_wordLong c_queued c_heaped c_states c_letters c_moves c_share x1 x3 x4 Q n_67) n_76 x6 c_worthNext → ∀ (H : Heap) (locs : List Loc), va_P g.1 vwCl (cw_X12_chance g h_this h_this_states h_this_letters h_this_moves h_this_light h_this_price h_this_share h_this_word h_this_queue h_this_cameFrom h_this_cameBy h_this_isKnown h_this_isJoined h_this_made h_this_pairWord h_this_bestWord h_this_sum h_this_isSettled h_this_heapSum h_this_heapSet h_this_worth h_this_worthNext h_this_order h_this_hadMoves h_this_row h_this_pairs h_this_pairLong c_machines c_wordLong c_queued c_heaped c_states c_letters c_moves c_share c_worth c_worthNext) H → va_D A (cw_X12_chance g h_this h_this_states h_this_letters h_this_moves h_this_light h_this_price h_this_share h_this_word h_this_queue h_this_cameFrom h_this_cameBy h_this_isKnown h_this_isJoined h_this_made h_this_pairWord h_this_bestWord h_this_sum h_this_isSettled h_this_heapSum h_this_heapSet h_this_worth h_this_worthNext h_this_order h_this_hadMoves h_this_row h_this_pairs h_this_pairLong c_machines c_wordLong c_queued c_heaped c_states c_letters c_moves c_share c_worth c_worthNext) → va_S A s.heap H locs → ∀ ls : Array Slot, lv_has ls 8 [(0, .ref h_this), (1, .int x1), (3, .int x3), (4, .int x4), (5, .int x5), (6, .int x6)] → W p l e rm_X12_chance s m args below meth c H locs 0 0 QQ (F0 m 76 ls []) := by
        intro x5 c_worth n_76
        induction n_76 with
        | zero => intro x6 c_worthNext; exact fun h => False.elim h
        | succ n_76 ih_76 =>
          intro x6 c_worthNext h H locs hP hD hS ls hl
          unfold L_X12_chance_76 at h
          refine lv_iload hx hb dX12_chance_76 (lv_at hl 5 rfl) ?_
          refine lv_iload hx hb dX12_chance_78 (lv_at hl 3 rfl) ?_
          refine lv_icmp_ge (tgt := 97) hx hb dX12_chance_80 (by decide) (fun cq => ?_) (fun cq => ?_)
          · replace h := h.1 cq
            exact K_97 x5 c_worth c_worthNext h _ _ hP hD hS _ (lv_sub hl [0, 1, 2, 3, 4] rfl)
          · replace h := h.2 cq
            refine lv_aload_n hx hb dX12_chance_83 rfl (lv_at hl 0 rfl) ?_
            refine va_get (D := g.1) (ci := 11) (v := .ref h_this_worthNext) (C := RX12) (T := TX12) (N := 30) hx hb hts iX12 hown hK hP 0 rfl rfl 24 (by decide) f72 (fun _ h9 => h9) rfl dX12_chance_84 ?_
            refine lv_iload hx hb dX12_chance_87 (lv_at hl 5 rfl) ?_
            refine lv_lconst (v := lN 0) hx hb dX12_chance_89 (by decide) ?_
            obtain ⟨hi, h⟩ := h
            refine va_last (D := g.1) (n := 4096) (f := c_worthNext) hx hb hK hP hD hS 6 1 rfl rfl hi dX12_chance_90 (fun H locs hP hD hS => ?_)
            have hP : va_P g.1 vwCl (cw_X12_chance g h_this h_this_states h_this_letters h_this_moves h_this_light h_this_price h_this_share h_this_word h_this_queue h_this_cameFrom h_this_cameBy h_this_isKnown h_this_isJoined h_this_made h_this_pairWord h_this_bestWord h_this_sum h_this_isSettled h_this_heapSum h_this_heapSet h_this_worth h_this_worthNext h_this_order h_this_hadMoves h_this_row h_this_pairs h_this_pairLong c_machines c_wordLong c_queued c_heaped c_states c_letters c_moves c_share c_worth (vp_updL c_worthNext (Int32.toNatClampNeg x6) (lN 0))) H := hP
            have hD : va_D A (cw_X12_chance g h_this h_this_states h_this_letters h_this_moves h_this_light h_this_price h_this_share h_this_word h_this_queue h_this_cameFrom h_this_cameBy h_this_isKnown h_this_isJoined h_this_made h_this_pairWord h_this_bestWord h_this_sum h_this_isSettled h_this_heapSum h_this_heapSet h_this_worth h_this_worthNext h_this_order h_this_hadMoves h_this_row h_this_pairs h_this_pairLong c_machines c_wordLong c_queued c_heaped c_states c_letters c_moves c_share c_worth (vp_updL c_worthNext (Int32.toNatClampNeg x6) (lN 0))) := hD
            refine lv_iinc (v := (x6 + (nI 1))) (lv' := [(6, .int (x6 + (nI 1))), (0, .ref h_this), (1, .int x1), (3, .int x3), (4, .int x4), (5, .int x5)]) hx hb dX12_chance_91 hl (k := 5) rfl rfl (by decide) rfl (fun ls hl => ?_)
            refine lv_goto (tgt := 76) hx hb dX12_chance_94 (by decide) ?_
            exact ih_76 (x6 + (nI 1)) (vp_updL c_worthNext (Int32.toNatClampNeg x6) (lN 0)) h _ _ hP hD hS _ (lv_sub hl [1, 2, 3, 4, 5, 0] rfl)
      refine lv_iload hx hb dX12_chance_67 (lv_at hl 4 rfl) ?_
      refine lv_iload_n hx hb dX12_chance_69 rfl (lv_at hl 2 rfl) ?_
      refine lv_icmp_ge (tgt := 227) hx hb dX12_chance_70 (by decide) (fun cq => ?_) (fun cq => ?_)
      · replace h := h.1 cq
        exact K_227 c_worth c_worthNext h _ _ hP hD hS _ (lv_sub hl [0, 1] rfl)
      · replace h := h.2 cq
        refine lv_iconst (v := (nI 0)) hx hb dX12_chance_73 (by decide) ?_
        refine lv_istore (lv' := [(6, .int (nI 0)), (0, .ref h_this), (1, .int x1), (3, .int x3), (4, .int x4), (5, .int x5)]) hx hb dX12_chance_74 hl (by decide) rfl (fun ls hl => ?_)
        obtain ⟨n, h⟩ := h
        exact K_76 x5 c_worth n (nI 0) c_worthNext h _ _ hP hD hS _ (lv_sub hl [1, 2, 3, 4, 5, 0] rfl)
  have K_64 : ∀ (x4 : Int32) (c_worth : Nat → Int64) (c_worthNext : Nat → Int64) , J_X12_chance_64 c_machines c_wordLong c_queued c_heaped c_states c_letters c_moves c_share x1 x3 Q x4 c_worth c_worthNext → ∀ (H : Heap) (locs : List Loc), va_P g.1 vwCl (cw_X12_chance g h_this h_this_states h_this_letters h_this_moves h_this_light h_this_price h_this_share h_this_word h_this_queue h_this_cameFrom h_this_cameBy h_this_isKnown h_this_isJoined h_this_made h_this_pairWord h_this_bestWord h_this_sum h_this_isSettled h_this_heapSum h_this_heapSet h_this_worth h_this_worthNext h_this_order h_this_hadMoves h_this_row h_this_pairs h_this_pairLong c_machines c_wordLong c_queued c_heaped c_states c_letters c_moves c_share c_worth c_worthNext) H → va_D A (cw_X12_chance g h_this h_this_states h_this_letters h_this_moves h_this_light h_this_price h_this_share h_this_word h_this_queue h_this_cameFrom h_this_cameBy h_this_isKnown h_this_isJoined h_this_made h_this_pairWord h_this_bestWord h_this_sum h_this_isSettled h_this_heapSum h_this_heapSet h_this_worth h_this_worthNext h_this_order h_this_hadMoves h_this_row h_this_pairs h_this_pairLong c_machines c_wordLong c_queued c_heaped c_states c_letters c_moves c_share c_worth c_worthNext) → va_S A s.heap H locs → ∀ ls : Array Slot, lv_has ls 8 [(0, .ref h_this), (1, .int x1), (3, .int x3), (4, .int x4)] → W p l e rm_X12_chance s m args below meth c H locs 0 0 QQ (F0 m 64 ls []) := by
    intro x4 c_worth c_worthNext h H locs hP hD hS ls hl
    unfold J_X12_chance_64 at h
    refine lv_iconst (v := (nI 0)) hx hb dX12_chance_64 (by decide) ?_
    refine lv_istore (lv' := [(5, .int (nI 0)), (0, .ref h_this), (1, .int x1), (3, .int x3), (4, .int x4)]) hx hb dX12_chance_65 hl (by decide) rfl (fun ls hl => ?_)
    obtain ⟨n, h⟩ := h
    exact K_67 x4 n (nI 0) c_worth c_worthNext h _ _ hP hD hS _ (lv_sub hl [1, 2, 3, 4, 0] rfl)
  have K_33 : ∀ (x4 : Int32) (c_worthNext : Nat → Int64) (n_33 : Nat) (x5 : Int32) (c_worth : Nat → Int64) , L_X12_chance_33 c_machines c_wordLong c_queued c_heaped c_states c_letters c_moves c_share c_worthNext x1 x2 x3 x4 Q n_33 x5 c_worth → ∀ (H : Heap) (locs : List Loc), va_P g.1 vwCl (cw_X12_chance g h_this h_this_states h_this_letters h_this_moves h_this_light h_this_price h_this_share h_this_word h_this_queue h_this_cameFrom h_this_cameBy h_this_isKnown h_this_isJoined h_this_made h_this_pairWord h_this_bestWord h_this_sum h_this_isSettled h_this_heapSum h_this_heapSet h_this_worth h_this_worthNext h_this_order h_this_hadMoves h_this_row h_this_pairs h_this_pairLong c_machines c_wordLong c_queued c_heaped c_states c_letters c_moves c_share c_worth c_worthNext) H → va_D A (cw_X12_chance g h_this h_this_states h_this_letters h_this_moves h_this_light h_this_price h_this_share h_this_word h_this_queue h_this_cameFrom h_this_cameBy h_this_isKnown h_this_isJoined h_this_made h_this_pairWord h_this_bestWord h_this_sum h_this_isSettled h_this_heapSum h_this_heapSet h_this_worth h_this_worthNext h_this_order h_this_hadMoves h_this_row h_this_pairs h_this_pairLong c_machines c_wordLong c_queued c_heaped c_states c_letters c_moves c_share c_worth c_worthNext) → va_S A s.heap H locs → ∀ ls : Array Slot, lv_has ls 8 [(0, .ref h_this), (1, .int x1), (2, .int x2), (3, .int x3), (4, .int x4), (5, .int x5)] → W p l e rm_X12_chance s m args below meth c H locs 0 0 QQ (F0 m 33 ls []) := by
    intro x4 c_worthNext n_33
    induction n_33 with
    | zero => intro x5 c_worth; exact fun h => False.elim h
    | succ n_33 ih_33 =>
      intro x5 c_worth h H locs hP hD hS ls hl
      unfold L_X12_chance_33 at h
      have K_57 : ∀ (x5 : Int32) (c_worth : Nat → Int64) (t0 : Int64) (t1 : Int32) , J_X12_chance_57 (L_X12_chance_33 c_machines c_wordLong c_queued c_heaped c_states c_letters c_moves c_share c_worthNext x1 x2 x3 x4 Q n_33) x5 c_worth t0 t1 → ∀ (H : Heap) (locs : List Loc), va_P g.1 vwCl (cw_X12_chance g h_this h_this_states h_this_letters h_this_moves h_this_light h_this_price h_this_share h_this_word h_this_queue h_this_cameFrom h_this_cameBy h_this_isKnown h_this_isJoined h_this_made h_this_pairWord h_this_bestWord h_this_sum h_this_isSettled h_this_heapSum h_this_heapSet h_this_worth h_this_worthNext h_this_order h_this_hadMoves h_this_row h_this_pairs h_this_pairLong c_machines c_wordLong c_queued c_heaped c_states c_letters c_moves c_share c_worth c_worthNext) H → va_D A (cw_X12_chance g h_this h_this_states h_this_letters h_this_moves h_this_light h_this_price h_this_share h_this_word h_this_queue h_this_cameFrom h_this_cameBy h_this_isKnown h_this_isJoined h_this_made h_this_pairWord h_this_bestWord h_this_sum h_this_isSettled h_this_heapSum h_this_heapSet h_this_worth h_this_worthNext h_this_order h_this_hadMoves h_this_row h_this_pairs h_this_pairLong c_machines c_wordLong c_queued c_heaped c_states c_letters c_moves c_share c_worth c_worthNext) → va_S A s.heap H locs → ∀ ls : Array Slot, lv_has ls 8 [(0, .ref h_this), (1, .int x1), (2, .int x2), (3, .int x3), (4, .int x4), (5, .int x5)] → W p l e rm_X12_chance s m args below meth c H locs 0 0 QQ (F0 m 57 ls [.long t0, .int t1, .ref h_this_worth]) := by
        intro x5 c_worth t0 t1 h H locs hP hD hS ls hl
        unfold J_X12_chance_57 at h
        obtain ⟨hi, h⟩ := h
        refine va_last (D := g.1) (n := 4096) (f := c_worth) hx hb hK hP hD hS 5 1 rfl rfl hi dX12_chance_57 (fun H locs hP hD hS => ?_)
        have hP : va_P g.1 vwCl (cw_X12_chance g h_this h_this_states h_this_letters h_this_moves h_this_light h_this_price h_this_share h_this_word h_this_queue h_this_cameFrom h_this_cameBy h_this_isKnown h_this_isJoined h_this_made h_this_pairWord h_this_bestWord h_this_sum h_this_isSettled h_this_heapSum h_this_heapSet h_this_worth h_this_worthNext h_this_order h_this_hadMoves h_this_row h_this_pairs h_this_pairLong c_machines c_wordLong c_queued c_heaped c_states c_letters c_moves c_share (vp_updL c_worth (Int32.toNatClampNeg t1) t0) c_worthNext) H := hP
        have hD : va_D A (cw_X12_chance g h_this h_this_states h_this_letters h_this_moves h_this_light h_this_price h_this_share h_this_word h_this_queue h_this_cameFrom h_this_cameBy h_this_isKnown h_this_isJoined h_this_made h_this_pairWord h_this_bestWord h_this_sum h_this_isSettled h_this_heapSum h_this_heapSet h_this_worth h_this_worthNext h_this_order h_this_hadMoves h_this_row h_this_pairs h_this_pairLong c_machines c_wordLong c_queued c_heaped c_states c_letters c_moves c_share (vp_updL c_worth (Int32.toNatClampNeg t1) t0) c_worthNext) := hD
        refine lv_iinc (v := (x5 + (nI 1))) (lv' := [(5, .int (x5 + (nI 1))), (0, .ref h_this), (1, .int x1), (2, .int x2), (3, .int x3), (4, .int x4)]) hx hb dX12_chance_58 hl (k := 5) rfl rfl (by decide) rfl (fun ls hl => ?_)
        refine lv_goto (tgt := 33) hx hb dX12_chance_61 (by decide) ?_
        exact ih_33 (x5 + (nI 1)) (vp_updL c_worth (Int32.toNatClampNeg t1) t0) h _ _ hP hD hS _ (lv_sub hl [1, 2, 3, 4, 5, 0] rfl)
      refine lv_iload hx hb dX12_chance_33 (lv_at hl 5 rfl) ?_
      refine lv_iload hx hb dX12_chance_35 (lv_at hl 4 rfl) ?_
      refine lv_icmp_ge (tgt := 64) hx hb dX12_chance_37 (by decide) (fun cq => ?_) (fun cq => ?_)
      · replace h := h.1 cq
        exact K_64 x4 c_worth c_worthNext h _ _ hP hD hS _ (lv_sub hl [0, 1, 3, 4] rfl)
      · replace h := h.2 cq
        refine lv_aload_n hx hb dX12_chance_40 rfl (lv_at hl 0 rfl) ?_
        refine va_get (D := g.1) (ci := 11) (v := .ref h_this_worth) (C := RX12) (T := TX12) (N := 30) hx hb hts iX12 hown hK hP 0 rfl rfl 23 (by decide) f68 (fun _ h9 => h9) rfl dX12_chance_41 ?_
        refine lv_iload hx hb dX12_chance_44 (lv_at hl 5 rfl) ?_
        refine lv_iload hx hb dX12_chance_46 (lv_at hl 5 rfl) ?_
        refine lv_iload_n hx hb dX12_chance_48 rfl (lv_at hl 2 rfl) ?_
        refine lv_icmp_ne (tgt := 56) hx hb dX12_chance_49 (by decide) (fun cq => ?_) (fun cq => ?_)
        · replace h := h.1 cq
          refine lv_lconst (v := lN 0) hx hb dX12_chance_56 (by decide) ?_
          exact K_57 x5 c_worth (lN 0) x5 h _ _ hP hD hS _ (lv_sub hl [0, 1, 2, 3, 4, 5] rfl)
        · replace h := h.2 cq
          refine lv_lconst (v := lN 1) hx hb dX12_chance_52 (by decide) ?_
          refine lv_goto (tgt := 57) hx hb dX12_chance_53 (by decide) ?_
          exact K_57 x5 c_worth (lN 1) x5 h _ _ hP hD hS _ (lv_sub hl [0, 1, 2, 3, 4, 5] rfl)
  refine lv_aload_n hx hb dX12_chance_0 rfl (lv_at hl 0 rfl) ?_
  refine lv_iload_n hx hb dX12_chance_1 rfl (lv_at hl 1 rfl) ?_
  refine lv_iload_n hx hb dX12_chance_2 rfl (lv_at hl 2 rfl) ?_
  refine go_I E (run_V E ((k_X12_isSet l g h_this h_this_states h_this_letters h_this_moves h_this_light h_this_price h_this_share h_this_word h_this_queue h_this_cameFrom h_this_cameBy h_this_isKnown h_this_isJoined h_this_made h_this_pairWord h_this_bestWord h_this_sum h_this_isSettled h_this_heapSum h_this_heapSet h_this_worth h_this_worthNext h_this_order h_this_hadMoves h_this_row h_this_pairs h_this_pairLong h) _) (cwV 2 hts gX12_chance_X12_isSet rfl rfl rfl (by decide +kernel) ⟨Nat.le_of_ble_eq_true rfl, Nat.le_of_ble_eq_true rfl⟩) hP hD hS [0, 1] rfl rfl 0 11 rfl rfl rfl hl rfl rfl (Nat.le_of_ble_eq_true rfl) dX12_chance_3 ⟨Nat.le_of_ble_eq_true rfl, Nat.le_of_ble_eq_true rfl⟩) hP hD hS [0, 1] rfl [(false, 0), (false, 1), (true, 2), (true, 3), (true, 4), (true, 5), (true, 6)] rfl (by decide) (fun _ => (cw_X12_chance g h_this h_this_states h_this_letters h_this_moves h_this_light h_this_price h_this_share h_this_word h_this_queue h_this_cameFrom h_this_cameBy h_this_isKnown h_this_isJoined h_this_made h_this_pairWord h_this_bestWord h_this_sum h_this_isSettled h_this_heapSum h_this_heapSet h_this_worth h_this_worthNext h_this_order h_this_hadMoves h_this_row h_this_pairs h_this_pairLong c_machines c_wordLong c_queued c_heaped c_states c_letters c_moves c_share c_worth c_worthNext)) (fun _ => rfl) (fun r2 _ H locs h hP hD hS => ?_)
  try dsimp only at h
  have hP : va_P g.1 vwCl (cw_X12_chance g h_this h_this_states h_this_letters h_this_moves h_this_light h_this_price h_this_share h_this_word h_this_queue h_this_cameFrom h_this_cameBy h_this_isKnown h_this_isJoined h_this_made h_this_pairWord h_this_bestWord h_this_sum h_this_isSettled h_this_heapSum h_this_heapSet h_this_worth h_this_worthNext h_this_order h_this_hadMoves h_this_row h_this_pairs h_this_pairLong c_machines c_wordLong c_queued c_heaped c_states c_letters c_moves c_share c_worth c_worthNext) H := hP
  have hD : va_D A (cw_X12_chance g h_this h_this_states h_this_letters h_this_moves h_this_light h_this_price h_this_share h_this_word h_this_queue h_this_cameFrom h_this_cameBy h_this_isKnown h_this_isJoined h_this_made h_this_pairWord h_this_bestWord h_this_sum h_this_isSettled h_this_heapSum h_this_heapSet h_this_worth h_this_worthNext h_this_order h_this_hadMoves h_this_row h_this_pairs h_this_pairLong c_machines c_wordLong c_queued c_heaped c_states c_letters c_moves c_share c_worth c_worthNext) := hD
  refine lv_if_eq (tgt := 16) hx hb dX12_chance_6 (by decide) (fun cq => ?_) (fun cq => ?_)
  · replace h := h.1 cq
    refine lv_ldc2 (v := (-2)) hx hb hown f189 dX12_chance_16 ?_
    exact hret (-2) (c_worth, c_worthNext) _ _ _ _ h hP hD hS dX12_chance_19
  · replace h := h.2 cq
    refine lv_iload_n hx hb dX12_chance_9 rfl (lv_at hl 3 rfl) ?_
    refine go_I E (run_S E ((k_X12_isTime l g  h) _) (va_cwS 1 hts gX12_chance_X12_isTime rfl rfl rfl (by decide +kernel) ⟨Nat.le_of_ble_eq_true rfl, Nat.le_of_ble_eq_true rfl⟩) hP hD hS [] rfl rfl hl rfl rfl (Nat.le_of_ble_eq_true rfl) dX12_chance_10 ⟨Nat.le_of_ble_eq_true rfl, Nat.le_of_ble_eq_true rfl⟩) hP hD hS [] rfl [(true, 0), (true, 1), (true, 2), (true, 3), (true, 4), (true, 5), (true, 6)] rfl (by decide) (fun _ => (cw_X12_chance g h_this h_this_states h_this_letters h_this_moves h_this_light h_this_price h_this_share h_this_word h_this_queue h_this_cameFrom h_this_cameBy h_this_isKnown h_this_isJoined h_this_made h_this_pairWord h_this_bestWord h_this_sum h_this_isSettled h_this_heapSum h_this_heapSet h_this_worth h_this_worthNext h_this_order h_this_hadMoves h_this_row h_this_pairs h_this_pairLong c_machines c_wordLong c_queued c_heaped c_states c_letters c_moves c_share c_worth c_worthNext)) (fun _ => rfl) (fun r4 _ H locs h hP hD hS => ?_)
    try dsimp only at h
    have hP : va_P g.1 vwCl (cw_X12_chance g h_this h_this_states h_this_letters h_this_moves h_this_light h_this_price h_this_share h_this_word h_this_queue h_this_cameFrom h_this_cameBy h_this_isKnown h_this_isJoined h_this_made h_this_pairWord h_this_bestWord h_this_sum h_this_isSettled h_this_heapSum h_this_heapSet h_this_worth h_this_worthNext h_this_order h_this_hadMoves h_this_row h_this_pairs h_this_pairLong c_machines c_wordLong c_queued c_heaped c_states c_letters c_moves c_share c_worth c_worthNext) H := hP
    have hD : va_D A (cw_X12_chance g h_this h_this_states h_this_letters h_this_moves h_this_light h_this_price h_this_share h_this_word h_this_queue h_this_cameFrom h_this_cameBy h_this_isKnown h_this_isJoined h_this_made h_this_pairWord h_this_bestWord h_this_sum h_this_isSettled h_this_heapSum h_this_heapSet h_this_worth h_this_worthNext h_this_order h_this_hadMoves h_this_row h_this_pairs h_this_pairLong c_machines c_wordLong c_queued c_heaped c_states c_letters c_moves c_share c_worth c_worthNext) := hD
    refine lv_if_ne (tgt := 20) hx hb dX12_chance_13 (by decide) (fun cq => ?_) (fun cq => ?_)
    · replace h := h.1 cq
      refine lv_iconst (v := (nI 1)) hx hb dX12_chance_20 (by decide) ?_
      refine lv_aload_n hx hb dX12_chance_21 rfl (lv_at hl 0 rfl) ?_
      refine va_get (D := g.1) (ci := 11) (v := .ref h_this_states) (C := RX12) (T := TX12) (N := 30) hx hb hts iX12 hown hK hP 0 rfl rfl 1 (by decide) f7 (fun _ h9 => h9) rfl dX12_chance_22 ?_
      refine lv_iload_n hx hb dX12_chance_25 rfl (lv_at hl 1 rfl) ?_
      obtain ⟨hi, h⟩ := h
      refine va_iald (D := g.1) (n := 6) (f := c_states) hx hb hK hP 1 0 rfl rfl hi dX12_chance_26 ?_
      refine lv_ishl hx hb dX12_chance_27 ?_
      refine lv_istore (lv' := [(4, .int ((nI 1) <<< ((c_states (Int32.toNatClampNeg x1)) &&& 31))), (0, .ref h_this), (1, .int x1), (2, .int x2), (3, .int x3)]) hx hb dX12_chance_28 hl (by decide) rfl (fun ls hl => ?_)
      refine lv_iconst (v := (nI 0)) hx hb dX12_chance_30 (by decide) ?_
      refine lv_istore (lv' := [(5, .int (nI 0)), (4, .int ((nI 1) <<< ((c_states (Int32.toNatClampNeg x1)) &&& 31))), (0, .ref h_this), (1, .int x1), (2, .int x2), (3, .int x3)]) hx hb dX12_chance_31 hl (by decide) rfl (fun ls hl => ?_)
      obtain ⟨n, h⟩ := h
      exact K_33 ((nI 1) <<< ((c_states (Int32.toNatClampNeg x1)) &&& 31)) c_worthNext n (nI 0) c_worth h _ _ hP hD hS _ (lv_sub hl [2, 3, 4, 5, 1, 0] rfl)
    · replace h := h.2 cq
      refine lv_ldc2 (v := (-2)) hx hb hown f189 dX12_chance_16 ?_
      exact hret (-2) (c_worth, c_worthNext) _ _ _ _ h hP hD hS dX12_chance_19
abbrev cw_X12_chances (g : GG) (h_this : Nat) (h_this_states : Nat) (h_this_letters : Nat) (h_this_moves : Nat) (h_this_light : Nat) (h_this_price : Nat) (h_this_share : Nat) (h_this_word : Nat) (h_this_queue : Nat) (h_this_cameFrom : Nat) (h_this_cameBy : Nat) (h_this_isKnown : Nat) (h_this_isJoined : Nat) (h_this_made : Nat) (h_this_pairWord : Nat) (h_this_bestWord : Nat) (h_this_sum : Nat) (h_this_isSettled : Nat) (h_this_heapSum : Nat) (h_this_heapSet : Nat) (h_this_worth : Nat) (h_this_worthNext : Nat) (h_this_order : Nat) (h_this_hadMoves : Nat) (h_this_row : Nat) (h_this_pairs : Nat) (h_this_pairLong : Nat) (c_machines : Int32) (c_wordLong : Int32) (c_queued : Int32) (c_heaped : Int32) (c_letters : Nat → Int32) (c_share : Nat → Int32) : va_W := [(h_this, .inr (11, [.int c_machines, .ref h_this_states, .ref h_this_letters, .ref h_this_moves, .ref h_this_light, .ref h_this_price, .ref h_this_share, .int c_wordLong, .ref h_this_word, .int c_queued, .ref h_this_queue, .ref h_this_cameFrom, .ref h_this_cameBy, .ref h_this_isKnown, .ref h_this_isJoined, .ref h_this_made, .ref h_this_pairWord, .ref h_this_bestWord, .ref h_this_sum, .ref h_this_isSettled, .ref h_this_heapSum, .ref h_this_heapSet, .int c_heaped, .ref h_this_worth, .ref h_this_worthNext, .ref h_this_order, .ref h_this_hadMoves, .ref h_this_row, .ref h_this_pairs, .ref h_this_pairLong])), (h_this_letters, .inl (g.2.1, 6, .inl c_letters)), (h_this_share, .inl (g.2.1, 24, .inl c_share))]
def L_X12_chances_62 (x2 : Int32) (x3 : Int64) (Q : Int64 → Prop) : Nat → Int64 → Int32 → Prop
  | 0, _, _ => False
  | n_62 + 1, x5, x7 =>
    ((x2 ≤ x7 → Q x5) ∧ (¬ x2 ≤ x7 → (L_X12_chances_62 x2 x3 Q n_62) (x5 * x3) (x7 + (nI 1))))
def J_X12_chances_56 (x2 : Int32) (Q : Int64 → Prop) (x3 : Int64) : Prop :=
    ∃ n, L_X12_chances_62 x2 x3 Q n (lN 1) (nI 0)
def L_X12_chances_24 (c_letters : Nat → Int32) (c_share : Nat → Int32) (x1 : Int32) (x2 : Int32) (Q : Int64 → Prop) : Nat → Int64 → Int32 → Prop
  | 0, _, _ => False
  | n_24 + 1, x3, x5 =>
    vp_in x1 6 ∧ (((c_letters (Int32.toNatClampNeg x1)) ≤ x5 → J_X12_chances_56 x2 Q x3) ∧ (¬ (c_letters (Int32.toNatClampNeg x1)) ≤ x5 → vp_in (((nI 4) * x1) + x5) 24 ∧ (L_X12_chances_24 c_letters c_share x1 x2 Q n_24) (x3 + (Int32.toInt64 (c_share (Int32.toNatClampNeg (((nI 4) * x1) + x5))))) (x5 + (nI 1))))
def wp_X12_chances (c_machines : Int32) (c_wordLong : Int32) (c_queued : Int32) (c_heaped : Int32) (c_letters : Nat → Int32) (c_share : Nat → Int32) (x1 : Int32) (x2 : Int32) (Q : Int64 → Prop) : Prop :=
    wp_X12_isMachine c_machines c_wordLong c_queued c_heaped x1 (fun r2 => ((r2 = (nI 0) → Q (-2)) ∧ (¬ r2 = (nI 0) → wp_X12_isTime x2 (fun r4 => ((¬ r4 = (nI 0) → ∃ n, L_X12_chances_24 c_letters c_share x1 x2 Q n (lN 0) (nI 0)) ∧ (r4 = (nI 0) → Q (-2)))))))
abbrev rm_X12_chances : Room := { frames := 2, cells := 0, slots := 0, locals := 43 }
set_option maxHeartbeats 4000000 in
set_option maxRecDepth 100000 in
theorem k_X12_chances (l : Launch) (g : GG) (h_this : Nat) (h_this_states : Nat) (h_this_letters : Nat) (h_this_moves : Nat) (h_this_light : Nat) (h_this_price : Nat) (h_this_share : Nat) (h_this_word : Nat) (h_this_queue : Nat) (h_this_cameFrom : Nat) (h_this_cameBy : Nat) (h_this_isKnown : Nat) (h_this_isJoined : Nat) (h_this_made : Nat) (h_this_pairWord : Nat) (h_this_bestWord : Nat) (h_this_sum : Nat) (h_this_isSettled : Nat) (h_this_heapSum : Nat) (h_this_heapSet : Nat) (h_this_worth : Nat) (h_this_worthNext : Nat) (h_this_order : Nat) (h_this_hadMoves : Nat) (h_this_row : Nat) (h_this_pairs : Nat) (h_this_pairLong : Nat) {c_machines : Int32} {c_wordLong : Int32} {c_queued : Int32} {c_heaped : Int32} {c_letters : Nat → Int32} {c_share : Nat → Int32} {x1 : Int32} {x2 : Int32} {Q : Int64 → Prop} (h : wp_X12_chances c_machines c_wordLong c_queued c_heaped c_letters c_share x1 x2 Q) : CL l g yX12_chances wsX12_chances rm_X12_chances [.ref h_this, .int x1, .int x2] (cw_X12_chances g h_this h_this_states h_this_letters h_this_moves h_this_light h_this_price h_this_share h_this_word h_this_queue h_this_cameFrom h_this_cameBy h_this_isKnown h_this_isJoined h_this_made h_this_pairWord h_this_bestWord h_this_sum h_this_isSettled h_this_heapSum h_this_heapSet h_this_worth h_this_worthNext h_this_order h_this_hadMoves h_this_row h_this_pairs h_this_pairLong c_machines c_wordLong c_queued c_heaped c_letters c_share) (S := Unit) (fun _ => (cw_X12_chances g h_this h_this_states h_this_letters h_this_moves h_this_light h_this_price h_this_share h_this_word h_this_queue h_this_cameFrom h_this_cameBy h_this_isKnown h_this_isJoined h_this_made h_this_pairWord h_this_bestWord h_this_sum h_this_isSettled h_this_heapSum h_this_heapSet h_this_worth h_this_worthNext h_this_order h_this_hadMoves h_this_row h_this_pairs h_this_pairLong c_machines c_wordLong c_queued c_heaped c_letters c_share)) (fun r _ => Q r) 0 0 := by
  refine mk_L (cc := cX12_chances) (maxL := 8) (own := RX12) (by decide) rfl rfl (Nat.le_of_ble_eq_true rfl) ?_
  intro p e s m args below meth c A QQ E hret hP hD hS ls hl
  have E2 := E
  obtain ⟨hx, hb, hr, hml, hown, hts, hlocks, hA, hZ, hK, hnm⟩ := E2
  have f189 := hts (.constantLong RX12 189 (-2)) (by decide +kernel)
  have f13 := hts (.fieldLink RX12 13 "WordBenchModel" "letters" "[I") (by decide +kernel)
  have f25 := hts (.fieldLink RX12 25 "WordBenchModel" "share" "[I") (by decide +kernel)
  have iX12 : ∀ w ∈ wsX120, w ∈ wsX12_chances := fun _ h => List.mem_cons_of_mem _ (List.mem_append_right _ h)
  have hP : va_P g.1 vwCl (cw_X12_chances g h_this h_this_states h_this_letters h_this_moves h_this_light h_this_price h_this_share h_this_word h_this_queue h_this_cameFrom h_this_cameBy h_this_isKnown h_this_isJoined h_this_made h_this_pairWord h_this_bestWord h_this_sum h_this_isSettled h_this_heapSum h_this_heapSet h_this_worth h_this_worthNext h_this_order h_this_hadMoves h_this_row h_this_pairs h_this_pairLong c_machines c_wordLong c_queued c_heaped c_letters c_share) s.heap := hP
  have hD : va_D A (cw_X12_chances g h_this h_this_states h_this_letters h_this_moves h_this_light h_this_price h_this_share h_this_word h_this_queue h_this_cameFrom h_this_cameBy h_this_isKnown h_this_isJoined h_this_made h_this_pairWord h_this_bestWord h_this_sum h_this_isSettled h_this_heapSum h_this_heapSet h_this_worth h_this_worthNext h_this_order h_this_hadMoves h_this_row h_this_pairs h_this_pairLong c_machines c_wordLong c_queued c_heaped c_letters c_share) := hD
  have hl : lv_has ls 8 [(0, .ref h_this), (1, .int x1), (2, .int x2)] := hl
  unfold wp_X12_chances at h
  have K_62 : ∀ (x3 : Int64) (n_62 : Nat) (x5 : Int64) (x7 : Int32) , L_X12_chances_62 x2 x3 Q n_62 x5 x7 → ∀ (H : Heap) (locs : List Loc), va_P g.1 vwCl (cw_X12_chances g h_this h_this_states h_this_letters h_this_moves h_this_light h_this_price h_this_share h_this_word h_this_queue h_this_cameFrom h_this_cameBy h_this_isKnown h_this_isJoined h_this_made h_this_pairWord h_this_bestWord h_this_sum h_this_isSettled h_this_heapSum h_this_heapSet h_this_worth h_this_worthNext h_this_order h_this_hadMoves h_this_row h_this_pairs h_this_pairLong c_machines c_wordLong c_queued c_heaped c_letters c_share) H → va_D A (cw_X12_chances g h_this h_this_states h_this_letters h_this_moves h_this_light h_this_price h_this_share h_this_word h_this_queue h_this_cameFrom h_this_cameBy h_this_isKnown h_this_isJoined h_this_made h_this_pairWord h_this_bestWord h_this_sum h_this_isSettled h_this_heapSum h_this_heapSet h_this_worth h_this_worthNext h_this_order h_this_hadMoves h_this_row h_this_pairs h_this_pairLong c_machines c_wordLong c_queued c_heaped c_letters c_share) → va_S A s.heap H locs → ∀ ls : Array Slot, lv_has ls 8 [(2, .int x2), (3, .long x3), (5, .long x5), (7, .int x7)] → W p l e rm_X12_chances s m args below meth c H locs 0 0 QQ (F0 m 62 ls []) := by
    intro x3 n_62
    induction n_62 with
    | zero => intro x5 x7; exact fun h => False.elim h
    | succ n_62 ih_62 =>
      intro x5 x7 h H locs hP hD hS ls hl
      unfold L_X12_chances_62 at h
      refine lv_iload hx hb dX12_chances_62 (lv_at hl 3 rfl) ?_
      refine lv_iload_n hx hb dX12_chances_64 rfl (lv_at hl 0 rfl) ?_
      refine lv_icmp_ge (tgt := 80) hx hb dX12_chances_65 (by decide) (fun cq => ?_) (fun cq => ?_)
      · replace h := h.1 cq
        refine lv_lload hx hb dX12_chances_80 (lv_at hl 2 rfl) ?_
        exact hret x5 () _ _ _ _ h hP hD hS dX12_chances_82
      · replace h := h.2 cq
        refine lv_lload hx hb dX12_chances_68 (lv_at hl 2 rfl) ?_
        refine lv_lload_n hx hb dX12_chances_70 rfl (lv_at hl 1 rfl) ?_
        refine lv_lmul hx hb dX12_chances_71 ?_
        refine lv_lstore (lv' := [(5, .long (x5 * x3)), (2, .int x2), (3, .long x3), (7, .int x7)]) hx hb dX12_chances_72 hl (by decide) rfl (fun ls hl => ?_)
        refine lv_iinc (v := (x7 + (nI 1))) (lv' := [(7, .int (x7 + (nI 1))), (5, .long (x5 * x3)), (2, .int x2), (3, .long x3)]) hx hb dX12_chances_74 hl (k := 3) rfl rfl (by decide) rfl (fun ls hl => ?_)
        refine lv_goto (tgt := 62) hx hb dX12_chances_77 (by decide) ?_
        exact ih_62 (x5 * x3) (x7 + (nI 1)) h _ _ hP hD hS _ (lv_sub hl [2, 3, 1, 0] rfl)
  have K_56 : ∀ (x3 : Int64) , J_X12_chances_56 x2 Q x3 → ∀ (H : Heap) (locs : List Loc), va_P g.1 vwCl (cw_X12_chances g h_this h_this_states h_this_letters h_this_moves h_this_light h_this_price h_this_share h_this_word h_this_queue h_this_cameFrom h_this_cameBy h_this_isKnown h_this_isJoined h_this_made h_this_pairWord h_this_bestWord h_this_sum h_this_isSettled h_this_heapSum h_this_heapSet h_this_worth h_this_worthNext h_this_order h_this_hadMoves h_this_row h_this_pairs h_this_pairLong c_machines c_wordLong c_queued c_heaped c_letters c_share) H → va_D A (cw_X12_chances g h_this h_this_states h_this_letters h_this_moves h_this_light h_this_price h_this_share h_this_word h_this_queue h_this_cameFrom h_this_cameBy h_this_isKnown h_this_isJoined h_this_made h_this_pairWord h_this_bestWord h_this_sum h_this_isSettled h_this_heapSum h_this_heapSet h_this_worth h_this_worthNext h_this_order h_this_hadMoves h_this_row h_this_pairs h_this_pairLong c_machines c_wordLong c_queued c_heaped c_letters c_share) → va_S A s.heap H locs → ∀ ls : Array Slot, lv_has ls 8 [(2, .int x2), (3, .long x3)] → W p l e rm_X12_chances s m args below meth c H locs 0 0 QQ (F0 m 56 ls []) := by
    intro x3 h H locs hP hD hS ls hl
    unfold J_X12_chances_56 at h
    refine lv_lconst (v := lN 1) hx hb dX12_chances_56 (by decide) ?_
    refine lv_lstore (lv' := [(5, .long (lN 1)), (2, .int x2), (3, .long x3)]) hx hb dX12_chances_57 hl (by decide) rfl (fun ls hl => ?_)
    refine lv_iconst (v := (nI 0)) hx hb dX12_chances_59 (by decide) ?_
    refine lv_istore (lv' := [(7, .int (nI 0)), (5, .long (lN 1)), (2, .int x2), (3, .long x3)]) hx hb dX12_chances_60 hl (by decide) rfl (fun ls hl => ?_)
    obtain ⟨n, h⟩ := h
    exact K_62 x3 n (lN 1) (nI 0) h _ _ hP hD hS _ (lv_sub hl [2, 3, 1, 0] rfl)
  have K_24 : ∀ (n_24 : Nat) (x3 : Int64) (x5 : Int32) , L_X12_chances_24 c_letters c_share x1 x2 Q n_24 x3 x5 → ∀ (H : Heap) (locs : List Loc), va_P g.1 vwCl (cw_X12_chances g h_this h_this_states h_this_letters h_this_moves h_this_light h_this_price h_this_share h_this_word h_this_queue h_this_cameFrom h_this_cameBy h_this_isKnown h_this_isJoined h_this_made h_this_pairWord h_this_bestWord h_this_sum h_this_isSettled h_this_heapSum h_this_heapSet h_this_worth h_this_worthNext h_this_order h_this_hadMoves h_this_row h_this_pairs h_this_pairLong c_machines c_wordLong c_queued c_heaped c_letters c_share) H → va_D A (cw_X12_chances g h_this h_this_states h_this_letters h_this_moves h_this_light h_this_price h_this_share h_this_word h_this_queue h_this_cameFrom h_this_cameBy h_this_isKnown h_this_isJoined h_this_made h_this_pairWord h_this_bestWord h_this_sum h_this_isSettled h_this_heapSum h_this_heapSet h_this_worth h_this_worthNext h_this_order h_this_hadMoves h_this_row h_this_pairs h_this_pairLong c_machines c_wordLong c_queued c_heaped c_letters c_share) → va_S A s.heap H locs → ∀ ls : Array Slot, lv_has ls 8 [(0, .ref h_this), (1, .int x1), (2, .int x2), (3, .long x3), (5, .int x5)] → W p l e rm_X12_chances s m args below meth c H locs 0 0 QQ (F0 m 24 ls []) := by
    intro n_24
    induction n_24 with
    | zero => intro x3 x5; exact fun h => False.elim h
    | succ n_24 ih_24 =>
      intro x3 x5 h H locs hP hD hS ls hl
      unfold L_X12_chances_24 at h
      refine lv_iload hx hb dX12_chances_24 (lv_at hl 4 rfl) ?_
      refine lv_aload_n hx hb dX12_chances_26 rfl (lv_at hl 0 rfl) ?_
      refine va_get (D := g.1) (ci := 11) (v := .ref h_this_letters) (C := RX12) (T := TX12) (N := 30) hx hb hts iX12 hown hK hP 0 rfl rfl 2 (by decide) f13 (fun _ h9 => h9) rfl dX12_chances_27 ?_
      refine lv_iload_n hx hb dX12_chances_30 rfl (lv_at hl 1 rfl) ?_
      obtain ⟨hi, h⟩ := h
      refine va_iald (D := g.1) (n := 6) (f := c_letters) hx hb hK hP 1 0 rfl rfl hi dX12_chances_31 ?_
      refine lv_icmp_ge (tgt := 56) hx hb dX12_chances_32 (by decide) (fun cq => ?_) (fun cq => ?_)
      · replace h := h.1 cq
        exact K_56 x3 h _ _ hP hD hS _ (lv_sub hl [2, 3] rfl)
      · replace h := h.2 cq
        refine lv_lload_n hx hb dX12_chances_35 rfl (lv_at hl 3 rfl) ?_
        refine lv_aload_n hx hb dX12_chances_36 rfl (lv_at hl 0 rfl) ?_
        refine va_get (D := g.1) (ci := 11) (v := .ref h_this_share) (C := RX12) (T := TX12) (N := 30) hx hb hts iX12 hown hK hP 0 rfl rfl 6 (by decide) f25 (fun _ h9 => h9) rfl dX12_chances_37 ?_
        refine lv_iconst (v := (nI 4)) hx hb dX12_chances_40 (by decide) ?_
        refine lv_iload_n hx hb dX12_chances_41 rfl (lv_at hl 1 rfl) ?_
        refine lv_imul hx hb dX12_chances_42 ?_
        refine lv_iload hx hb dX12_chances_43 (lv_at hl 4 rfl) ?_
        refine lv_iadd hx hb dX12_chances_45 ?_
        obtain ⟨hi, h⟩ := h
        refine va_iald (D := g.1) (n := 24) (f := c_share) hx hb hK hP 2 0 rfl rfl hi dX12_chances_46 ?_
        refine lv_i2l (v := (Int32.toInt64 (c_share (Int32.toNatClampNeg (((nI 4) * x1) + x5))))) hx hb dX12_chances_47 rfl ?_
        refine lv_ladd hx hb dX12_chances_48 ?_
        refine lv_lstore_n (lv' := [(3, .long (x3 + (Int32.toInt64 (c_share (Int32.toNatClampNeg (((nI 4) * x1) + x5)))))), (0, .ref h_this), (1, .int x1), (2, .int x2), (5, .int x5)]) hx hb dX12_chances_49 rfl hl (by decide) rfl (fun ls hl => ?_)
        refine lv_iinc (v := (x5 + (nI 1))) (lv' := [(5, .int (x5 + (nI 1))), (3, .long (x3 + (Int32.toInt64 (c_share (Int32.toNatClampNeg (((nI 4) * x1) + x5)))))), (0, .ref h_this), (1, .int x1), (2, .int x2)]) hx hb dX12_chances_50 hl (k := 4) rfl rfl (by decide) rfl (fun ls hl => ?_)
        refine lv_goto (tgt := 24) hx hb dX12_chances_53 (by decide) ?_
        exact ih_24 (x3 + (Int32.toInt64 (c_share (Int32.toNatClampNeg (((nI 4) * x1) + x5))))) (x5 + (nI 1)) h _ _ hP hD hS _ (lv_sub hl [2, 3, 4, 1, 0] rfl)
  refine lv_aload_n hx hb dX12_chances_0 rfl (lv_at hl 0 rfl) ?_
  refine lv_iload_n hx hb dX12_chances_1 rfl (lv_at hl 1 rfl) ?_
  refine go_I E (run_V E ((k_X12_isMachine l g h_this h_this_states h_this_letters h_this_moves h_this_light h_this_price h_this_share h_this_word h_this_queue h_this_cameFrom h_this_cameBy h_this_isKnown h_this_isJoined h_this_made h_this_pairWord h_this_bestWord h_this_sum h_this_isSettled h_this_heapSum h_this_heapSet h_this_worth h_this_worthNext h_this_order h_this_hadMoves h_this_row h_this_pairs h_this_pairLong h) _) (cwV 1 hts gX12_chances_X12_isMachine rfl rfl rfl (by decide +kernel) ⟨Nat.le_of_ble_eq_true rfl, Nat.le_of_ble_eq_true rfl⟩) hP hD hS [0] rfl rfl 0 11 rfl rfl rfl hl rfl rfl (Nat.le_of_ble_eq_true rfl) dX12_chances_2 ⟨Nat.le_of_ble_eq_true rfl, Nat.le_of_ble_eq_true rfl⟩) hP hD hS [0] rfl [(false, 0), (true, 1), (true, 2)] rfl (by decide) (fun _ => (cw_X12_chances g h_this h_this_states h_this_letters h_this_moves h_this_light h_this_price h_this_share h_this_word h_this_queue h_this_cameFrom h_this_cameBy h_this_isKnown h_this_isJoined h_this_made h_this_pairWord h_this_bestWord h_this_sum h_this_isSettled h_this_heapSum h_this_heapSet h_this_worth h_this_worthNext h_this_order h_this_hadMoves h_this_row h_this_pairs h_this_pairLong c_machines c_wordLong c_queued c_heaped c_letters c_share)) (fun _ => rfl) (fun r2 _ H locs h hP hD hS => ?_)
  try dsimp only at h
  have hP : va_P g.1 vwCl (cw_X12_chances g h_this h_this_states h_this_letters h_this_moves h_this_light h_this_price h_this_share h_this_word h_this_queue h_this_cameFrom h_this_cameBy h_this_isKnown h_this_isJoined h_this_made h_this_pairWord h_this_bestWord h_this_sum h_this_isSettled h_this_heapSum h_this_heapSet h_this_worth h_this_worthNext h_this_order h_this_hadMoves h_this_row h_this_pairs h_this_pairLong c_machines c_wordLong c_queued c_heaped c_letters c_share) H := hP
  have hD : va_D A (cw_X12_chances g h_this h_this_states h_this_letters h_this_moves h_this_light h_this_price h_this_share h_this_word h_this_queue h_this_cameFrom h_this_cameBy h_this_isKnown h_this_isJoined h_this_made h_this_pairWord h_this_bestWord h_this_sum h_this_isSettled h_this_heapSum h_this_heapSet h_this_worth h_this_worthNext h_this_order h_this_hadMoves h_this_row h_this_pairs h_this_pairLong c_machines c_wordLong c_queued c_heaped c_letters c_share) := hD
  refine lv_if_eq (tgt := 15) hx hb dX12_chances_5 (by decide) (fun cq => ?_) (fun cq => ?_)
  · replace h := h.1 cq
    refine lv_ldc2 (v := (-2)) hx hb hown f189 dX12_chances_15 ?_
    exact hret (-2) () _ _ _ _ h hP hD hS dX12_chances_18
  · replace h := h.2 cq
    refine lv_iload_n hx hb dX12_chances_8 rfl (lv_at hl 2 rfl) ?_
    refine go_I E (run_S E ((k_X12_isTime l g  h) _) (va_cwS 1 hts gX12_chances_X12_isTime rfl rfl rfl (by decide +kernel) ⟨Nat.le_of_ble_eq_true rfl, Nat.le_of_ble_eq_true rfl⟩) hP hD hS [] rfl rfl hl rfl rfl (Nat.le_of_ble_eq_true rfl) dX12_chances_9 ⟨Nat.le_of_ble_eq_true rfl, Nat.le_of_ble_eq_true rfl⟩) hP hD hS [] rfl [(true, 0), (true, 1), (true, 2)] rfl (by decide) (fun _ => (cw_X12_chances g h_this h_this_states h_this_letters h_this_moves h_this_light h_this_price h_this_share h_this_word h_this_queue h_this_cameFrom h_this_cameBy h_this_isKnown h_this_isJoined h_this_made h_this_pairWord h_this_bestWord h_this_sum h_this_isSettled h_this_heapSum h_this_heapSet h_this_worth h_this_worthNext h_this_order h_this_hadMoves h_this_row h_this_pairs h_this_pairLong c_machines c_wordLong c_queued c_heaped c_letters c_share)) (fun _ => rfl) (fun r4 _ H locs h hP hD hS => ?_)
    try dsimp only at h
    have hP : va_P g.1 vwCl (cw_X12_chances g h_this h_this_states h_this_letters h_this_moves h_this_light h_this_price h_this_share h_this_word h_this_queue h_this_cameFrom h_this_cameBy h_this_isKnown h_this_isJoined h_this_made h_this_pairWord h_this_bestWord h_this_sum h_this_isSettled h_this_heapSum h_this_heapSet h_this_worth h_this_worthNext h_this_order h_this_hadMoves h_this_row h_this_pairs h_this_pairLong c_machines c_wordLong c_queued c_heaped c_letters c_share) H := hP
    have hD : va_D A (cw_X12_chances g h_this h_this_states h_this_letters h_this_moves h_this_light h_this_price h_this_share h_this_word h_this_queue h_this_cameFrom h_this_cameBy h_this_isKnown h_this_isJoined h_this_made h_this_pairWord h_this_bestWord h_this_sum h_this_isSettled h_this_heapSum h_this_heapSet h_this_worth h_this_worthNext h_this_order h_this_hadMoves h_this_row h_this_pairs h_this_pairLong c_machines c_wordLong c_queued c_heaped c_letters c_share) := hD
    refine lv_if_ne (tgt := 19) hx hb dX12_chances_12 (by decide) (fun cq => ?_) (fun cq => ?_)
    · replace h := h.1 cq
      refine lv_lconst (v := lN 0) hx hb dX12_chances_19 (by decide) ?_
      refine lv_lstore_n (lv' := [(3, .long (lN 0)), (0, .ref h_this), (1, .int x1), (2, .int x2)]) hx hb dX12_chances_20 rfl hl (by decide) rfl (fun ls hl => ?_)
      refine lv_iconst (v := (nI 0)) hx hb dX12_chances_21 (by decide) ?_
      refine lv_istore (lv' := [(5, .int (nI 0)), (3, .long (lN 0)), (0, .ref h_this), (1, .int x1), (2, .int x2)]) hx hb dX12_chances_22 hl (by decide) rfl (fun ls hl => ?_)
      obtain ⟨n, h⟩ := h
      exact K_24 n (lN 0) (nI 0) h _ _ hP hD hS _ (lv_sub hl [2, 3, 4, 1, 0] rfl)
    · replace h := h.2 cq
      refine lv_ldc2 (v := (-2)) hx hb hown f189 dX12_chances_15 ?_
      exact hret (-2) () _ _ _ _ h hP hD hS dX12_chances_18
abbrev cw_X12_isRing (g : GG) (h_this : Nat) (h_this_states : Nat) (h_this_letters : Nat) (h_this_moves : Nat) (h_this_light : Nat) (h_this_price : Nat) (h_this_share : Nat) (h_this_word : Nat) (h_this_queue : Nat) (h_this_cameFrom : Nat) (h_this_cameBy : Nat) (h_this_isKnown : Nat) (h_this_isJoined : Nat) (h_this_made : Nat) (h_this_pairWord : Nat) (h_this_bestWord : Nat) (h_this_sum : Nat) (h_this_isSettled : Nat) (h_this_heapSum : Nat) (h_this_heapSet : Nat) (h_this_worth : Nat) (h_this_worthNext : Nat) (h_this_order : Nat) (h_this_hadMoves : Nat) (h_this_row : Nat) (h_this_pairs : Nat) (h_this_pairLong : Nat) (c_machines : Int32) (c_wordLong : Int32) (c_queued : Int32) (c_heaped : Int32) (c_states : Nat → Int32) (c_moves : Nat → Int32) : va_W := [(h_this, .inr (11, [.int c_machines, .ref h_this_states, .ref h_this_letters, .ref h_this_moves, .ref h_this_light, .ref h_this_price, .ref h_this_share, .int c_wordLong, .ref h_this_word, .int c_queued, .ref h_this_queue, .ref h_this_cameFrom, .ref h_this_cameBy, .ref h_this_isKnown, .ref h_this_isJoined, .ref h_this_made, .ref h_this_pairWord, .ref h_this_bestWord, .ref h_this_sum, .ref h_this_isSettled, .ref h_this_heapSum, .ref h_this_heapSet, .int c_heaped, .ref h_this_worth, .ref h_this_worthNext, .ref h_this_order, .ref h_this_hadMoves, .ref h_this_row, .ref h_this_pairs, .ref h_this_pairLong])), (h_this_states, .inl (g.2.1, 6, .inl c_states)), (h_this_moves, .inl (g.2.1, 288, .inl c_moves))]
def J_X12_isRing_45 (c_states : Nat → Int32) (x1 : Int32) (Q : Int32 → Prop) (x4 : Int32) : Prop :=
    vp_in x1 6 ∧ ((¬ x4 = (((nI 1) <<< ((c_states (Int32.toNatClampNeg x1)) &&& 31)) - (nI 1)) → Q (nI 0)) ∧ (x4 = (((nI 1) <<< ((c_states (Int32.toNatClampNeg x1)) &&& 31)) - (nI 1)) → Q (nI 1)))
def L_X12_isRing_8 (c_states : Nat → Int32) (c_moves : Nat → Int32) (x1 : Int32) (x2 : Int32) (Q : Int32 → Prop) : Nat → Int32 → Int32 → Int32 → Prop
  | 0, _, _, _ => False
  | n_8 + 1, x3, x4, x5 =>
    vp_in x1 6 ∧ (((c_states (Int32.toNatClampNeg x1)) ≤ x5 → J_X12_isRing_45 c_states x1 Q x4) ∧ (¬ (c_states (Int32.toNatClampNeg x1)) ≤ x5 → vp_in ((((nI 48) * x1) + ((nI 4) * x3)) + x2) 288 ∧ (L_X12_isRing_8 c_states c_moves x1 x2 Q n_8) (c_moves (Int32.toNatClampNeg ((((nI 48) * x1) + ((nI 4) * x3)) + x2))) (x4 ||| ((nI 1) <<< ((c_moves (Int32.toNatClampNeg ((((nI 48) * x1) + ((nI 4) * x3)) + x2))) &&& 31))) (x5 + (nI 1))))
def wp_X12_isRing (c_machines : Int32) (c_wordLong : Int32) (c_queued : Int32) (c_heaped : Int32) (c_states : Nat → Int32) (c_moves : Nat → Int32) (x1 : Int32) (x2 : Int32) (Q : Int32 → Prop) : Prop :=
    ∃ n, L_X12_isRing_8 c_states c_moves x1 x2 Q n (nI 0) (nI 0) (nI 0)
abbrev rm_X12_isRing : Room := { frames := 1, cells := 0, slots := 0, locals := 22 }
set_option maxHeartbeats 4000000 in
set_option maxRecDepth 100000 in
theorem k_X12_isRing (l : Launch) (g : GG) (h_this : Nat) (h_this_states : Nat) (h_this_letters : Nat) (h_this_moves : Nat) (h_this_light : Nat) (h_this_price : Nat) (h_this_share : Nat) (h_this_word : Nat) (h_this_queue : Nat) (h_this_cameFrom : Nat) (h_this_cameBy : Nat) (h_this_isKnown : Nat) (h_this_isJoined : Nat) (h_this_made : Nat) (h_this_pairWord : Nat) (h_this_bestWord : Nat) (h_this_sum : Nat) (h_this_isSettled : Nat) (h_this_heapSum : Nat) (h_this_heapSet : Nat) (h_this_worth : Nat) (h_this_worthNext : Nat) (h_this_order : Nat) (h_this_hadMoves : Nat) (h_this_row : Nat) (h_this_pairs : Nat) (h_this_pairLong : Nat) {c_machines : Int32} {c_wordLong : Int32} {c_queued : Int32} {c_heaped : Int32} {c_states : Nat → Int32} {c_moves : Nat → Int32} {x1 : Int32} {x2 : Int32} {Q : Int32 → Prop} (h : wp_X12_isRing c_machines c_wordLong c_queued c_heaped c_states c_moves x1 x2 Q) : CI l g yX12_isRing wsX12_isRing rm_X12_isRing [.ref h_this, .int x1, .int x2] (cw_X12_isRing g h_this h_this_states h_this_letters h_this_moves h_this_light h_this_price h_this_share h_this_word h_this_queue h_this_cameFrom h_this_cameBy h_this_isKnown h_this_isJoined h_this_made h_this_pairWord h_this_bestWord h_this_sum h_this_isSettled h_this_heapSum h_this_heapSet h_this_worth h_this_worthNext h_this_order h_this_hadMoves h_this_row h_this_pairs h_this_pairLong c_machines c_wordLong c_queued c_heaped c_states c_moves) (S := Unit) (fun _ => (cw_X12_isRing g h_this h_this_states h_this_letters h_this_moves h_this_light h_this_price h_this_share h_this_word h_this_queue h_this_cameFrom h_this_cameBy h_this_isKnown h_this_isJoined h_this_made h_this_pairWord h_this_bestWord h_this_sum h_this_isSettled h_this_heapSum h_this_heapSet h_this_worth h_this_worthNext h_this_order h_this_hadMoves h_this_row h_this_pairs h_this_pairLong c_machines c_wordLong c_queued c_heaped c_states c_moves)) (fun r _ => Q r) 0 0 := by
  refine mk_I (cc := cX12_isRing) (maxL := 6) (own := RX12) (by decide) rfl rfl (Nat.le_of_ble_eq_true rfl) ?_
  intro p e s m args below meth c A QQ E hret hP hD hS ls hl
  have E2 := E
  obtain ⟨hx, hb, hr, hml, hown, hts, hlocks, hA, hZ, hK, hnm⟩ := E2
  have f7 := hts (.fieldLink RX12 7 "WordBenchModel" "states" "[I") (by decide +kernel)
  have f16 := hts (.fieldLink RX12 16 "WordBenchModel" "moves" "[I") (by decide +kernel)
  have iX12 : ∀ w ∈ wsX120, w ∈ wsX12_isRing := fun _ h => List.mem_cons_of_mem _ (List.mem_append_right _ h)
  have hP : va_P g.1 vwCl (cw_X12_isRing g h_this h_this_states h_this_letters h_this_moves h_this_light h_this_price h_this_share h_this_word h_this_queue h_this_cameFrom h_this_cameBy h_this_isKnown h_this_isJoined h_this_made h_this_pairWord h_this_bestWord h_this_sum h_this_isSettled h_this_heapSum h_this_heapSet h_this_worth h_this_worthNext h_this_order h_this_hadMoves h_this_row h_this_pairs h_this_pairLong c_machines c_wordLong c_queued c_heaped c_states c_moves) s.heap := hP
  have hD : va_D A (cw_X12_isRing g h_this h_this_states h_this_letters h_this_moves h_this_light h_this_price h_this_share h_this_word h_this_queue h_this_cameFrom h_this_cameBy h_this_isKnown h_this_isJoined h_this_made h_this_pairWord h_this_bestWord h_this_sum h_this_isSettled h_this_heapSum h_this_heapSet h_this_worth h_this_worthNext h_this_order h_this_hadMoves h_this_row h_this_pairs h_this_pairLong c_machines c_wordLong c_queued c_heaped c_states c_moves) := hD
  have hl : lv_has ls 6 [(0, .ref h_this), (1, .int x1), (2, .int x2)] := hl
  unfold wp_X12_isRing at h
  have K_45 : ∀ (x4 : Int32) , J_X12_isRing_45 c_states x1 Q x4 → ∀ (H : Heap) (locs : List Loc), va_P g.1 vwCl (cw_X12_isRing g h_this h_this_states h_this_letters h_this_moves h_this_light h_this_price h_this_share h_this_word h_this_queue h_this_cameFrom h_this_cameBy h_this_isKnown h_this_isJoined h_this_made h_this_pairWord h_this_bestWord h_this_sum h_this_isSettled h_this_heapSum h_this_heapSet h_this_worth h_this_worthNext h_this_order h_this_hadMoves h_this_row h_this_pairs h_this_pairLong c_machines c_wordLong c_queued c_heaped c_states c_moves) H → va_D A (cw_X12_isRing g h_this h_this_states h_this_letters h_this_moves h_this_light h_this_price h_this_share h_this_word h_this_queue h_this_cameFrom h_this_cameBy h_this_isKnown h_this_isJoined h_this_made h_this_pairWord h_this_bestWord h_this_sum h_this_isSettled h_this_heapSum h_this_heapSet h_this_worth h_this_worthNext h_this_order h_this_hadMoves h_this_row h_this_pairs h_this_pairLong c_machines c_wordLong c_queued c_heaped c_states c_moves) → va_S A s.heap H locs → ∀ ls : Array Slot, lv_has ls 6 [(0, .ref h_this), (1, .int x1), (4, .int x4)] → W p l e rm_X12_isRing s m args below meth c H locs 0 0 QQ (F0 m 45 ls []) := by
    intro x4 h H locs hP hD hS ls hl
    unfold J_X12_isRing_45 at h
    refine lv_iload hx hb dX12_isRing_45 (lv_at hl 2 rfl) ?_
    refine lv_iconst (v := (nI 1)) hx hb dX12_isRing_47 (by decide) ?_
    refine lv_aload_n hx hb dX12_isRing_48 rfl (lv_at hl 0 rfl) ?_
    refine va_get (D := g.1) (ci := 11) (v := .ref h_this_states) (C := RX12) (T := TX12) (N := 30) hx hb hts iX12 hown hK hP 0 rfl rfl 1 (by decide) f7 (fun _ h9 => h9) rfl dX12_isRing_49 ?_
    refine lv_iload_n hx hb dX12_isRing_52 rfl (lv_at hl 1 rfl) ?_
    obtain ⟨hi, h⟩ := h
    refine va_iald (D := g.1) (n := 6) (f := c_states) hx hb hK hP 1 0 rfl rfl hi dX12_isRing_53 ?_
    refine lv_ishl hx hb dX12_isRing_54 ?_
    refine lv_iconst (v := (nI 1)) hx hb dX12_isRing_55 (by decide) ?_
    refine lv_isub hx hb dX12_isRing_56 ?_
    refine lv_icmp_ne (tgt := 64) hx hb dX12_isRing_57 (by decide) (fun cq => ?_) (fun cq => ?_)
    · replace h := h.1 cq
      refine lv_iconst (v := (nI 0)) hx hb dX12_isRing_64 (by decide) ?_
      exact hret (nI 0) () _ _ _ _ nbz h hP hD hS dX12_isRing_65
    · replace h := h.2 cq
      refine lv_iconst (v := (nI 1)) hx hb dX12_isRing_60 (by decide) ?_
      refine lv_goto (tgt := 65) hx hb dX12_isRing_61 (by decide) ?_
      exact hret (nI 1) () _ _ _ _ nbo h hP hD hS dX12_isRing_65
  have K_8 : ∀ (n_8 : Nat) (x3 : Int32) (x4 : Int32) (x5 : Int32) , L_X12_isRing_8 c_states c_moves x1 x2 Q n_8 x3 x4 x5 → ∀ (H : Heap) (locs : List Loc), va_P g.1 vwCl (cw_X12_isRing g h_this h_this_states h_this_letters h_this_moves h_this_light h_this_price h_this_share h_this_word h_this_queue h_this_cameFrom h_this_cameBy h_this_isKnown h_this_isJoined h_this_made h_this_pairWord h_this_bestWord h_this_sum h_this_isSettled h_this_heapSum h_this_heapSet h_this_worth h_this_worthNext h_this_order h_this_hadMoves h_this_row h_this_pairs h_this_pairLong c_machines c_wordLong c_queued c_heaped c_states c_moves) H → va_D A (cw_X12_isRing g h_this h_this_states h_this_letters h_this_moves h_this_light h_this_price h_this_share h_this_word h_this_queue h_this_cameFrom h_this_cameBy h_this_isKnown h_this_isJoined h_this_made h_this_pairWord h_this_bestWord h_this_sum h_this_isSettled h_this_heapSum h_this_heapSet h_this_worth h_this_worthNext h_this_order h_this_hadMoves h_this_row h_this_pairs h_this_pairLong c_machines c_wordLong c_queued c_heaped c_states c_moves) → va_S A s.heap H locs → ∀ ls : Array Slot, lv_has ls 6 [(0, .ref h_this), (1, .int x1), (2, .int x2), (3, .int x3), (4, .int x4), (5, .int x5)] → W p l e rm_X12_isRing s m args below meth c H locs 0 0 QQ (F0 m 8 ls []) := by
    intro n_8
    induction n_8 with
    | zero => intro x3 x4 x5; exact fun h => False.elim h
    | succ n_8 ih_8 =>
      intro x3 x4 x5 h H locs hP hD hS ls hl
      unfold L_X12_isRing_8 at h
      refine lv_iload hx hb dX12_isRing_8 (lv_at hl 5 rfl) ?_
      refine lv_aload_n hx hb dX12_isRing_10 rfl (lv_at hl 0 rfl) ?_
      refine va_get (D := g.1) (ci := 11) (v := .ref h_this_states) (C := RX12) (T := TX12) (N := 30) hx hb hts iX12 hown hK hP 0 rfl rfl 1 (by decide) f7 (fun _ h9 => h9) rfl dX12_isRing_11 ?_
      refine lv_iload_n hx hb dX12_isRing_14 rfl (lv_at hl 1 rfl) ?_
      obtain ⟨hi, h⟩ := h
      refine va_iald (D := g.1) (n := 6) (f := c_states) hx hb hK hP 1 0 rfl rfl hi dX12_isRing_15 ?_
      refine lv_icmp_ge (tgt := 45) hx hb dX12_isRing_16 (by decide) (fun cq => ?_) (fun cq => ?_)
      · replace h := h.1 cq
        exact K_45 x4 h _ _ hP hD hS _ (lv_sub hl [0, 1, 4] rfl)
      · replace h := h.2 cq
        refine lv_aload_n hx hb dX12_isRing_19 rfl (lv_at hl 0 rfl) ?_
        refine va_get (D := g.1) (ci := 11) (v := .ref h_this_moves) (C := RX12) (T := TX12) (N := 30) hx hb hts iX12 hown hK hP 0 rfl rfl 3 (by decide) f16 (fun _ h9 => h9) rfl dX12_isRing_20 ?_
        refine lv_iload_n hx hb dX12_isRing_23 rfl (lv_at hl 1 rfl) ?_
        refine lv_iload_n hx hb dX12_isRing_24 rfl (lv_at hl 3 rfl) ?_
        refine lv_iload_n hx hb dX12_isRing_25 rfl (lv_at hl 2 rfl) ?_
        refine go_I E (run_S E ((k_X12_at l g  (Q := fun r => r = ((((nI 48) * x1) + ((nI 4) * x3)) + x2)) rfl) _) (va_cwS 3 hts gX12_isRing_X12_at rfl rfl rfl (by decide +kernel) ⟨Nat.le_of_ble_eq_true rfl, Nat.le_of_ble_eq_true rfl⟩) hP hD hS [] rfl rfl hl rfl rfl (Nat.le_of_ble_eq_true rfl) dX12_isRing_26 ⟨Nat.le_of_ble_eq_true rfl, Nat.le_of_ble_eq_true rfl⟩) hP hD hS [] rfl [(true, 0), (true, 1), (true, 2)] rfl (by decide) (fun _ => (cw_X12_isRing g h_this h_this_states h_this_letters h_this_moves h_this_light h_this_price h_this_share h_this_word h_this_queue h_this_cameFrom h_this_cameBy h_this_isKnown h_this_isJoined h_this_made h_this_pairWord h_this_bestWord h_this_sum h_this_isSettled h_this_heapSum h_this_heapSet h_this_worth h_this_worthNext h_this_order h_this_hadMoves h_this_row h_this_pairs h_this_pairLong c_machines c_wordLong c_queued c_heaped c_states c_moves)) (fun _ => rfl) (fun r2 _ H locs hr_ hP hD hS => ?_)
        have hr_ : ((((nI 48) * x1) + ((nI 4) * x3)) + x2) = r2 := Eq.symm hr_
        subst hr_
        have hP : va_P g.1 vwCl (cw_X12_isRing g h_this h_this_states h_this_letters h_this_moves h_this_light h_this_price h_this_share h_this_word h_this_queue h_this_cameFrom h_this_cameBy h_this_isKnown h_this_isJoined h_this_made h_this_pairWord h_this_bestWord h_this_sum h_this_isSettled h_this_heapSum h_this_heapSet h_this_worth h_this_worthNext h_this_order h_this_hadMoves h_this_row h_this_pairs h_this_pairLong c_machines c_wordLong c_queued c_heaped c_states c_moves) H := hP
        have hD : va_D A (cw_X12_isRing g h_this h_this_states h_this_letters h_this_moves h_this_light h_this_price h_this_share h_this_word h_this_queue h_this_cameFrom h_this_cameBy h_this_isKnown h_this_isJoined h_this_made h_this_pairWord h_this_bestWord h_this_sum h_this_isSettled h_this_heapSum h_this_heapSet h_this_worth h_this_worthNext h_this_order h_this_hadMoves h_this_row h_this_pairs h_this_pairLong c_machines c_wordLong c_queued c_heaped c_states c_moves) := hD
        obtain ⟨hi, h⟩ := h
        refine va_iald (D := g.1) (n := 288) (f := c_moves) hx hb hK hP 2 0 rfl rfl hi dX12_isRing_29 ?_
        refine lv_istore_n (lv' := [(3, .int (c_moves (Int32.toNatClampNeg ((((nI 48) * x1) + ((nI 4) * x3)) + x2)))), (0, .ref h_this), (1, .int x1), (2, .int x2), (4, .int x4), (5, .int x5)]) hx hb dX12_isRing_30 rfl hl (by decide) rfl (fun ls hl => ?_)
        refine lv_iload hx hb dX12_isRing_31 (lv_at hl 4 rfl) ?_
        refine lv_iconst (v := (nI 1)) hx hb dX12_isRing_33 (by decide) ?_
        refine lv_iload_n hx hb dX12_isRing_34 rfl (lv_at hl 0 rfl) ?_
        refine lv_ishl hx hb dX12_isRing_35 ?_
        refine lv_ior hx hb dX12_isRing_36 ?_
        refine lv_istore (lv' := [(4, .int (x4 ||| ((nI 1) <<< ((c_moves (Int32.toNatClampNeg ((((nI 48) * x1) + ((nI 4) * x3)) + x2))) &&& 31)))), (3, .int (c_moves (Int32.toNatClampNeg ((((nI 48) * x1) + ((nI 4) * x3)) + x2)))), (0, .ref h_this), (1, .int x1), (2, .int x2), (5, .int x5)]) hx hb dX12_isRing_37 hl (by decide) rfl (fun ls hl => ?_)
        refine lv_iinc (v := (x5 + (nI 1))) (lv' := [(5, .int (x5 + (nI 1))), (4, .int (x4 ||| ((nI 1) <<< ((c_moves (Int32.toNatClampNeg ((((nI 48) * x1) + ((nI 4) * x3)) + x2))) &&& 31)))), (3, .int (c_moves (Int32.toNatClampNeg ((((nI 48) * x1) + ((nI 4) * x3)) + x2)))), (0, .ref h_this), (1, .int x1), (2, .int x2)]) hx hb dX12_isRing_39 hl (k := 5) rfl rfl (by decide) rfl (fun ls hl => ?_)
        refine lv_goto (tgt := 8) hx hb dX12_isRing_42 (by decide) ?_
        exact ih_8 (c_moves (Int32.toNatClampNeg ((((nI 48) * x1) + ((nI 4) * x3)) + x2))) (x4 ||| ((nI 1) <<< ((c_moves (Int32.toNatClampNeg ((((nI 48) * x1) + ((nI 4) * x3)) + x2))) &&& 31))) (x5 + (nI 1)) h _ _ hP hD hS _ (lv_sub hl [3, 4, 5, 2, 1, 0] rfl)
  refine lv_iconst (v := (nI 0)) hx hb dX12_isRing_0 (by decide) ?_
  refine lv_istore_n (lv' := [(3, .int (nI 0)), (0, .ref h_this), (1, .int x1), (2, .int x2)]) hx hb dX12_isRing_1 rfl hl (by decide) rfl (fun ls hl => ?_)
  refine lv_iconst (v := (nI 0)) hx hb dX12_isRing_2 (by decide) ?_
  refine lv_istore (lv' := [(4, .int (nI 0)), (3, .int (nI 0)), (0, .ref h_this), (1, .int x1), (2, .int x2)]) hx hb dX12_isRing_3 hl (by decide) rfl (fun ls hl => ?_)
  refine lv_iconst (v := (nI 0)) hx hb dX12_isRing_5 (by decide) ?_
  refine lv_istore (lv' := [(5, .int (nI 0)), (4, .int (nI 0)), (3, .int (nI 0)), (0, .ref h_this), (1, .int x1), (2, .int x2)]) hx hb dX12_isRing_6 hl (by decide) rfl (fun ls hl => ?_)
  obtain ⟨n, h⟩ := h
  exact K_8 n (nI 0) (nI 0) (nI 0) h _ _ hP hD hS _ (lv_sub hl [3, 4, 5, 2, 1, 0] rfl)
