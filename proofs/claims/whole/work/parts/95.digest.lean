/-! the class's digest over all its machines; the law's last call -/
abbrev rm_X11_digest : Room := { frames := 5, cells := 0, slots := 0, locals := 140 }
abbrev DX (g : GG) (aT a_machines a_word a_steps a_trail a_search a_prices a_odds a_pairs a_greed a_colouring a_word_row N : Nat) (mch : Nat → Option Nat) (c_word_length : Int32) (c_word_row : Nat → Int32) : va_W := [(aT, .inr (10, [.ref a_machines, .int (nI N), .ref a_word, .ref a_steps, .ref a_trail, .ref a_search, .ref a_prices, .ref a_odds, .ref a_pairs, .ref a_greed, .ref a_colouring])), (a_machines, .inl (g.2.2.2.2, 6, .inr (.inr (.inr (.inr mch))))), (a_word, .inr (9, [.ref a_word_row, .int c_word_length])), (a_word_row, .inl (g.2.1, 600, .inl c_word_row))]
theorem pull3 {X M F T : va_W} (h : F.Perm (M ++ T)) : ((M ++ X) ++ T).Perm (X ++ F) := by
  have h1 : (X ++ F).Perm (X ++ (M ++ T)) := List.Perm.append_left _ h
  have h2 : ((M ++ X) ++ T).Perm ((X ++ M) ++ T) := List.Perm.append_right _ List.perm_append_comm
  rw [List.append_assoc X M T] at h2
  exact h2.trans h1.symm
section TAS
variable {p : Program} {l : Launch} {e : Env} {R : Room} {s : State} {m : MethodId} {args : Array Value} {below : List Frame} {meth : Method} {c : Code} {H : Heap} {locs : List Loc} {cells slots : Nat} {QQ : State → Prop}
variable {cc : ByteArray} {nL : Nat} {ret : Option FieldType} {own : String} {Ts : List Cond} {A : Nat → Prop} {g : GG} {nm : String}
variable {y : MethodName} {wsY : List Cond} {rmY : Room} {bytes : ByteArray} {maxL mc ms n index : Nat} {retY : Option FieldType} {As rest st : List Value} {wc X O : va_W} {ls : Array Slot} {lvs : List (Nat × Value)} {pc : Nat} {S : Type} {w w' : S → va_W}
theorem go_LSx {post : Int64 → S → Prop} (E : Ev p s m meth c cc nL ret own Ts args A g nm) (hM : CL l g y wsY rmY As wc w post mc ms) (cw : CallB R s args own index y bytes maxL retY wsY rmY mc ms n ∧ (Cond.static y).before args s = true)
    (hP : va_P g.1 vwCl (X ++ O) H) (hD : va_D A (X ++ O)) (hS : va_S A s.heap H locs) (nX : Nat) (hnX : X.length = nX) (isC : List Nat) (hi : isC.all (fun i => decide (i < nX)) = true) (hCm : isC.map (fun i => X[i]?) = wc.map some) (hnd : va_nd isC = true) (src : List (Bool × Nat)) (hlt : src.all (fun q => !q.1 || decide (q.2 < nX)) = true) (hno : src.all (fun q => !q.1 || !(isC.contains q.2)) = true) (hsn : src.Nodup) (w' : S → va_W) (hsrc : ∀ u, src.map (fun q => bif q.1 then X[q.2]? else (w u)[q.2]?) = (w' u).map some)
    (hl : lv_has ls nL lvs) (hst : st = As.reverse ++ rest) (hn : As.length = n) (hroom : (rest.map fun v => v.category).sum ≤ 8) (hdg : decode cc pc = .ok (.invokestatic index, 3)) (hf : cells + mc ≤ R.cells ∧ slots + ms ≤ R.slots)
    (kk : ∀ (r : Int64) (u : S) (H1 : Heap) (locs1 : List Loc), post r u → va_P g.1 vwCl (w' u ++ O) H1 → va_D A (w' u ++ O) → va_S A s.heap H1 locs1 → W p l e R s m args below meth c H1 locs1 (cells + mc) (slots + ms) QQ (F0 m (pc + 3) ls (.long r :: rest))) : W p l e R s m args below meth c H locs cells slots QQ (F0 m pc ls st) :=
  have hCm' := (ix_left (O := O) hnX hi).trans hCm
  go_L E (run_S E (hM _) cw hP hD hS isC hCm' hnd hl hst hn hroom hdg hf) hP hD hS isC hCm' (xsrc src nX O.length) (xsrc_no hi hno) (xsrc_nd hlt hsn) (fun u => w' u ++ O) (fun u => xsrc_at hnX hlt (hsrc u)) kk
end TAS
section DGC
variable {N : Nat} {e0 e1 e2 e3 e4 n k : Nat → Nat} {mv li pr sh : Nat → Nat → Int32} {ma wl2 qd hp : Int32} {st le mo lt pc sr word : Nat → Int32} {mch : Nat → Option Nat} {c_word_length : Int32} {c_word_row : Nat → Int32}
set_option maxHeartbeats 4000000 in
set_option maxRecDepth 100000 in
theorem k_X11_digest (l : Launch) (g : GG) (aT a_machines a_word a_steps a_trail a_search a_prices a_odds a_pairs a_greed a_colouring a_word_row : Nat) (hR : RSt N n k mv li pr sh (nI N) st le mo lt pc sr) (hM : ∀ i, i < N → mch i = some (e0 i)) (hW : WD c_word_length c_word_row wl2 word) : CL l g yX11_digest wsX11_digest rm_X11_digest [.ref aT] (DX g aT a_machines a_word a_steps a_trail a_search a_prices a_odds a_pairs a_greed a_colouring a_word_row N mch c_word_length c_word_row ++ FL g e0 e1 e2 e3 e4 n k mv li pr sh N) (S := Unit) (fun _ => DX g aT a_machines a_word a_steps a_trail a_search a_prices a_odds a_pairs a_greed a_colouring a_word_row N mch c_word_length c_word_row ++ FL g e0 e1 e2 e3 e4 n k mv li pr sh N) (fun r _ => wp_X12_digest (nI N) wl2 qd hp st le mo lt pc sr word (fun r2 => r = r2)) 0 0 := by
  refine mk_L (cc := cX11_digest) (maxL := 4) (own := RX11) (by decide) rfl rfl (Nat.le_of_ble_eq_true rfl) ?_
  intro p e s m args below meth c A QQ E hret hP hD hS ls hl
  have E2 := E
  obtain ⟨hx, hb, hr, hml, hown, hts, hlocks, hA, hZ, hK, hnm⟩ := E2
  have hN6 := hR.1
  obtain ⟨L0, wd, hL6, hwl, hwl2, hwd⟩ := hW
  subst hwl hwl2
  have f212 := hts (.constantLong RX11 212 (163)) (by decide +kernel)
  have f84 := hts (.fieldLink RX11 84 "WordBench" "made" "I") (by decide +kernel)
  have f11 := hts (.fieldLink RX11 11 "WordBench" "machines" "[LWordBench$Machine;") (by decide +kernel)
  have f218 := hts (.constantLong RX11 218 (31)) (by decide +kernel)
  have f18 := hts (.fieldLink RX11 18 "WordBench" "word" "LWordBench$Word;") (by decide +kernel)
  have iX11 : ∀ w ∈ wsX110, w ∈ wsX11_digest := fun _ h => List.mem_cons_of_mem _ (List.mem_append_left _ (List.mem_append_left _ (List.mem_append_right _ h)))
  have hl : lv_has ls 4 [(0, .ref aT)] := hl
  -- the word's letters
  have wl : ∀ (d i : Nat) (x : Int64), i + d = L0 → (∀ Q2 : Int64 → Prop, (∃ f, L_X12_digest_201 (nI L0) word Q2 f x (nI i)) → wp_X12_digest (nI N) (nI L0) qd hp st le mo lt pc sr word Q2) → ∀ (H : Heap) (locs : List Loc), va_P g.1 vwCl (DX g aT a_machines a_word a_steps a_trail a_search a_prices a_odds a_pairs a_greed a_colouring a_word_row N mch (nI L0) c_word_row ++ FL g e0 e1 e2 e3 e4 n k mv li pr sh N) H → va_D A (DX g aT a_machines a_word a_steps a_trail a_search a_prices a_odds a_pairs a_greed a_colouring a_word_row N mch (nI L0) c_word_row ++ FL g e0 e1 e2 e3 e4 n k mv li pr sh N) → va_S A s.heap H locs → ∀ ls : Array Slot, lv_has ls 4 [(3, .int (nI i)), (1, .long x), (0, .ref aT)] → W p l e rm_X11_digest s m args below meth c H locs 0 0 QQ (F0 m 63 ls []) := by
    intro d
    induction d with
    | zero =>
      intro i x hi hG H locs hP hD hS ls hl
      refine lv_iload_n hx hb dX11_digest_63 rfl (lv_at hl 0 rfl) ?_
      refine lv_aload_n hx hb dX11_digest_64 rfl (lv_at hl 2 rfl) ?_
      refine va_get (D := g.1) (ci := 10) (v := .ref a_word) (C := RX11) (T := TX11) (N := 11) hx hb hts iX11 hown hK hP 0 rfl rfl 2 (by decide) f18 (fun _ h9 => h9) rfl dX11_digest_65 ?_
      refine go_Ix E (k_X10_length l g a_word a_word_row (Q := fun r => r = nI L0) rfl) (cwV 0 hts gX11_digest_X10_length rfl rfl rfl (by decide +kernel) ⟨Nat.le_of_ble_eq_true rfl, Nat.le_of_ble_eq_true rfl⟩) hP hD hS 4 rfl [2] (by decide +kernel) rfl (by decide +kernel) [(true, 0), (true, 1), (false, 0), (true, 3)] (by decide +kernel) (by decide +kernel) (by decide +kernel) (fun _ => DX g aT a_machines a_word a_steps a_trail a_search a_prices a_odds a_pairs a_greed a_colouring a_word_row N mch (nI L0) c_word_row) (fun _ => rfl) rfl (ci := 9) rfl rfl hl rfl rfl (Nat.le_of_ble_eq_true rfl) dX11_digest_68 ⟨Nat.le_of_ble_eq_true rfl, Nat.le_of_ble_eq_true rfl⟩ (fun r _ H locs h hP hD hS => ?_)
      subst h
      refine lv_icmp_ge (tgt := 96) hx hb dX11_digest_71 (by decide) (fun _ => ?_) (fun cq => absurd (nI_le (by omega) (by omega)) cq)
      refine lv_lload_n hx hb dX11_digest_96 rfl (lv_at hl 1 rfl) ?_
      refine hret x () _ _ _ _ (hG _ ⟨0 + 1, ?_⟩) hP hD hS dX11_digest_97
      unfold L_X12_digest_201
      exact b_T (nI_le (by omega) (by omega)) rfl
    | succ d ih =>
      intro i x hi hG H locs hP hD hS ls hl
      refine lv_iload_n hx hb dX11_digest_63 rfl (lv_at hl 0 rfl) ?_
      refine lv_aload_n hx hb dX11_digest_64 rfl (lv_at hl 2 rfl) ?_
      refine va_get (D := g.1) (ci := 10) (v := .ref a_word) (C := RX11) (T := TX11) (N := 11) hx hb hts iX11 hown hK hP 0 rfl rfl 2 (by decide) f18 (fun _ h9 => h9) rfl dX11_digest_65 ?_
      refine go_Ix E (k_X10_length l g a_word a_word_row (Q := fun r => r = nI L0) rfl) (cwV 0 hts gX11_digest_X10_length rfl rfl rfl (by decide +kernel) ⟨Nat.le_of_ble_eq_true rfl, Nat.le_of_ble_eq_true rfl⟩) hP hD hS 4 rfl [2] (by decide +kernel) rfl (by decide +kernel) [(true, 0), (true, 1), (false, 0), (true, 3)] (by decide +kernel) (by decide +kernel) (by decide +kernel) (fun _ => DX g aT a_machines a_word a_steps a_trail a_search a_prices a_odds a_pairs a_greed a_colouring a_word_row N mch (nI L0) c_word_row) (fun _ => rfl) rfl (ci := 9) rfl rfl hl rfl rfl (Nat.le_of_ble_eq_true rfl) dX11_digest_68 ⟨Nat.le_of_ble_eq_true rfl, Nat.le_of_ble_eq_true rfl⟩ (fun r _ H locs h hP hD hS => ?_)
      subst h
      refine lv_icmp_ge (tgt := 96) hx hb dX11_digest_71 (by decide) (fun cq => absurd cq (nI_ge (by omega) (by omega))) (fun _ => ?_)
      refine lv_ldc2 (v := (lN 31)) hx hb hown f218 dX11_digest_74 ?_
      refine lv_lload_n hx hb dX11_digest_77 rfl (lv_at hl 1 rfl) ?_
      refine lv_lmul hx hb dX11_digest_78 ?_
      refine lv_aload_n hx hb dX11_digest_79 rfl (lv_at hl 2 rfl) ?_
      refine va_get (D := g.1) (ci := 10) (v := .ref a_word) (C := RX11) (T := TX11) (N := 11) hx hb hts iX11 hown hK hP 0 rfl rfl 2 (by decide) f18 (fun _ h9 => h9) rfl dX11_digest_80 ?_
      refine lv_iload_n hx hb dX11_digest_83 rfl (lv_at hl 0 rfl) ?_
      refine go_Ix E (k_X10_at l g a_word a_word_row (x1 := nI i) (Q := fun r => r = nI (wd i)) (sp_at (show i < L0 by omega) hL6 (hwd i (by omega)).2.1)) (cwV 1 hts gX11_digest_X10_at rfl rfl rfl (by decide +kernel) ⟨Nat.le_of_ble_eq_true rfl, Nat.le_of_ble_eq_true rfl⟩) hP hD hS 4 rfl [2, 3] (by decide +kernel) rfl (by decide +kernel) [(true, 0), (true, 1), (false, 0), (false, 1)] (by decide +kernel) (by decide +kernel) (by decide +kernel) (fun _ => DX g aT a_machines a_word a_steps a_trail a_search a_prices a_odds a_pairs a_greed a_colouring a_word_row N mch (nI L0) c_word_row) (fun _ => rfl) rfl (ci := 9) rfl rfl hl rfl rfl (Nat.le_of_ble_eq_true rfl) dX11_digest_84 ⟨Nat.le_of_ble_eq_true rfl, Nat.le_of_ble_eq_true rfl⟩ (fun r _ H locs h hP hD hS => ?_)
      subst h
      refine lv_i2l (v := (Int32.toInt64 (nI (wd i)))) hx hb dX11_digest_87 rfl ?_
      refine lv_ladd hx hb dX11_digest_88 ?_
      refine lv_lstore_n (lv' := [(1, .long (((lN 31) * x) + (Int32.toInt64 (nI (wd i))))), (3, .int (nI i)), (0, .ref aT)]) hx hb dX11_digest_89 rfl hl (by decide) rfl (fun ls hl => ?_)
      refine lv_iinc (v := (nI i + (nI 1))) (lv' := [(3, .int (nI i + (nI 1))), (1, .long (((lN 31) * x) + (Int32.toInt64 (nI (wd i))))), (0, .ref aT)]) hx hb dX11_digest_90 hl (k := 1) rfl rfl (by decide) rfl (fun ls hl => ?_)
      refine lv_goto (tgt := 63) hx hb dX11_digest_93 (by decide) ?_
      rw [nI_1'] at hl
      refine ih (i + 1) _ (by omega) (fun Q2 hq => hG Q2 ?_) _ _ hP hD hS _ hl
      obtain ⟨f, hf⟩ := hq
      refine ⟨f + 1, ?_⟩
      unfold L_X12_digest_201
      rw [nI_1', nI_clamp (by omega), (hwd i (by omega)).2.2]
      exact b_F (nI_ge (by omega) (by omega)) ⟨vin (by omega) (by omega), hf⟩
  -- the machines
  have ml : ∀ (d i : Nat) (x : Int64), i + d = N → (∀ Q2 : Int64 → Prop, (∃ f, L_X12_digest_6 (nI N) (nI L0) qd hp st le mo lt pc sr word Q2 f x (nI i)) → wp_X12_digest (nI N) (nI L0) qd hp st le mo lt pc sr word Q2) → ∀ (H : Heap) (locs : List Loc), va_P g.1 vwCl (DX g aT a_machines a_word a_steps a_trail a_search a_prices a_odds a_pairs a_greed a_colouring a_word_row N mch (nI L0) c_word_row ++ FL g e0 e1 e2 e3 e4 n k mv li pr sh N) H → va_D A (DX g aT a_machines a_word a_steps a_trail a_search a_prices a_odds a_pairs a_greed a_colouring a_word_row N mch (nI L0) c_word_row ++ FL g e0 e1 e2 e3 e4 n k mv li pr sh N) → va_S A s.heap H locs → ∀ ls : Array Slot, lv_has ls 4 [(3, .int (nI i)), (1, .long x), (0, .ref aT)] → W p l e rm_X11_digest s m args below meth c H locs 0 0 QQ (F0 m 6 ls []) := by
    intro d
    induction d with
    | zero =>
      intro i x hi hG H locs hP hD hS ls hl
      refine lv_iload_n hx hb dX11_digest_6 rfl (lv_at hl 0 rfl) ?_
      refine lv_aload_n hx hb dX11_digest_7 rfl (lv_at hl 2 rfl) ?_
      refine va_get (D := g.1) (ci := 10) (v := .int (nI N)) (C := RX11) (T := TX11) (N := 11) hx hb hts iX11 hown hK hP 0 rfl rfl 1 (by decide) f84 (fun _ h9 => h9) rfl dX11_digest_8 ?_
      refine lv_icmp_ge (tgt := 46) hx hb dX11_digest_11 (by decide) (fun _ => ?_) (fun cq => absurd (nI_le (by omega) (by omega)) cq)
      refine lv_ldc2 (v := (lN 31)) hx hb hown f218 dX11_digest_46 ?_
      refine lv_lload_n hx hb dX11_digest_49 rfl (lv_at hl 1 rfl) ?_
      refine lv_lmul hx hb dX11_digest_50 ?_
      refine lv_aload_n hx hb dX11_digest_51 rfl (lv_at hl 2 rfl) ?_
      refine va_get (D := g.1) (ci := 10) (v := .ref a_word) (C := RX11) (T := TX11) (N := 11) hx hb hts iX11 hown hK hP 0 rfl rfl 2 (by decide) f18 (fun _ h9 => h9) rfl dX11_digest_52 ?_
      refine go_Ix E (k_X10_length l g a_word a_word_row (Q := fun r => r = nI L0) rfl) (cwV 0 hts gX11_digest_X10_length rfl rfl rfl (by decide +kernel) ⟨Nat.le_of_ble_eq_true rfl, Nat.le_of_ble_eq_true rfl⟩) hP hD hS 4 rfl [2] (by decide +kernel) rfl (by decide +kernel) [(true, 0), (true, 1), (false, 0), (true, 3)] (by decide +kernel) (by decide +kernel) (by decide +kernel) (fun _ => DX g aT a_machines a_word a_steps a_trail a_search a_prices a_odds a_pairs a_greed a_colouring a_word_row N mch (nI L0) c_word_row) (fun _ => rfl) rfl (ci := 9) rfl rfl hl rfl rfl (Nat.le_of_ble_eq_true rfl) dX11_digest_55 ⟨Nat.le_of_ble_eq_true rfl, Nat.le_of_ble_eq_true rfl⟩ (fun r _ H locs h hP hD hS => ?_)
      subst h
      refine lv_i2l (v := (Int32.toInt64 (nI L0))) hx hb dX11_digest_58 rfl ?_
      refine lv_ladd hx hb dX11_digest_59 ?_
      refine lv_lstore_n (lv' := [(1, .long (((lN 31) * x) + (Int32.toInt64 (nI L0)))), (3, .int (nI i)), (0, .ref aT)]) hx hb dX11_digest_60 rfl hl (by decide) rfl (fun ls hl => ?_)
      refine lv_iconst (v := (nI 0)) hx hb dX11_digest_61 (by decide) ?_
      refine lv_istore_n (lv' := [(3, .int (nI 0)), (1, .long (((lN 31) * x) + (Int32.toInt64 (nI L0)))), (0, .ref aT)]) hx hb dX11_digest_62 rfl hl (by decide) rfl (fun ls hl => ?_)
      refine wl L0 0 _ (by omega) (fun Q2 hq => hG Q2 ⟨0 + 1, ?_⟩) _ _ hP hD hS _ hl
      unfold L_X12_digest_6 J_X12_digest_187
      exact b_T (nI_le (by omega) (by omega)) hq
    | succ d ih =>
      intro i x hi hG H locs hP hD hS ls hl
      have hiN : i < N := by omega
      refine lv_iload_n hx hb dX11_digest_6 rfl (lv_at hl 0 rfl) ?_
      refine lv_aload_n hx hb dX11_digest_7 rfl (lv_at hl 2 rfl) ?_
      refine va_get (D := g.1) (ci := 10) (v := .int (nI N)) (C := RX11) (T := TX11) (N := 11) hx hb hts iX11 hown hK hP 0 rfl rfl 1 (by decide) f84 (fun _ h9 => h9) rfl dX11_digest_8 ?_
      refine lv_icmp_ge (tgt := 46) hx hb dX11_digest_11 (by decide) (fun cq => absurd cq (nI_ge hiN (by omega))) (fun _ => ?_)
      refine lv_iload_n hx hb dX11_digest_14 rfl (lv_at hl 0 rfl) ?_
      refine lv_bipush (v := (nI 6)) hx hb dX11_digest_15 (by decide) ?_
      refine lv_icmp_ge (tgt := 46) hx hb dX11_digest_17 (by decide) (fun cq => absurd cq (nI_ge (by omega) (by omega))) (fun _ => ?_)
      refine lv_aload_n hx hb dX11_digest_20 rfl (lv_at hl 2 rfl) ?_
      refine va_get (D := g.1) (ci := 10) (v := .ref a_machines) (C := RX11) (T := TX11) (N := 11) hx hb hts iX11 hown hK hP 0 rfl rfl 0 (by decide) f11 (fun _ h9 => h9) rfl dX11_digest_21 ?_
      refine lv_iload_n hx hb dX11_digest_24 rfl (lv_at hl 0 rfl) ?_
      refine va_aldq (D := g.1) (n := 6) (f := mch) hx hb hK hP 1 3 rfl rfl (vin (by omega) (by omega)) dX11_digest_25 ?_
      rw [nI_clamp (by omega), hM i hiN]
      refine W.eq (g2 := F0 m 26 ls [.ref (e0 i)]) rfl ?_
      refine lv_ifnull hx hb dX11_digest_26 ?_
      refine lv_aload_n hx hb dX11_digest_29 rfl (lv_at hl 2 rfl) ?_
      refine va_get (D := g.1) (ci := 10) (v := .ref a_machines) (C := RX11) (T := TX11) (N := 11) hx hb hts iX11 hown hK hP 0 rfl rfl 0 (by decide) f11 (fun _ h9 => h9) rfl dX11_digest_30 ?_
      refine lv_iload_n hx hb dX11_digest_33 rfl (lv_at hl 0 rfl) ?_
      refine va_aldq (D := g.1) (n := 6) (f := mch) hx hb hK hP 1 3 rfl rfl (vin (by omega) (by omega)) dX11_digest_34 ?_
      rw [nI_clamp (by omega), hM i hiN]
      refine W.eq (g2 := F0 m 35 ls [.ref (e0 i)]) rfl ?_
      refine lv_lload_n hx hb dX11_digest_35 rfl (lv_at hl 1 rfl) ?_
      have hq := hP.perm (pull3 (FLj hiN))
      have hD := hD.perm (pull3 (FLj hiN))
      have hP := hq
      refine go_LSx E (k_X11_digestOf l g (e0 i) (e1 i) (e2 i) (e3 i) (e4 i) (dg_one (ma := nI N) (wl2 := nI L0) (qd := qd) (hp := hp) (x := x) (Q := fun r => ∀ R6 : Int64 → Int32 → Prop, R6 r (nI (i + 1)) → ∃ f, L_X12_digest_17 (nI N) (nI L0) qd hp st le mo lt pc sr (nI i) R6 f x (nI 0)) hR hiN (fun r hr => hr))) (va_cwS 2 hts gX11_digest_X11_digestOf rfl rfl rfl (by decide +kernel) ⟨Nat.le_of_ble_eq_true rfl, Nat.le_of_ble_eq_true rfl⟩) hP hD hS 9 rfl [0, 1, 2, 3, 4] (by decide +kernel) rfl (by decide +kernel) [(false, 0), (false, 1), (false, 2), (false, 3), (false, 4), (true, 5), (true, 6), (true, 7), (true, 8)] (by decide +kernel) (by decide +kernel) (by decide +kernel) (fun _ => MCl g (e0 i) (e1 i) (e2 i) (e3 i) (e4 i) (n i) (k i) (mv i) (li i) (pr i) (sh i) ++ DX g aT a_machines a_word a_steps a_trail a_search a_prices a_odds a_pairs a_greed a_colouring a_word_row N mch (nI L0) c_word_row) (fun _ => rfl) hl rfl rfl (Nat.le_of_ble_eq_true rfl) dX11_digest_36 ⟨Nat.le_of_ble_eq_true rfl, Nat.le_of_ble_eq_true rfl⟩ (fun r _ H locs h hP hD hS => ?_)
      have hq := hP.perm (pull3 (FLj hiN)).symm
      have hD := hD.perm (pull3 (FLj hiN)).symm
      have hP := hq
      refine lv_lstore_n (lv' := [(1, .long r), (3, .int (nI i)), (0, .ref aT)]) hx hb dX11_digest_39 rfl hl (by decide) rfl (fun ls hl => ?_)
      refine lv_iinc (v := (nI i + (nI 1))) (lv' := [(3, .int (nI i + (nI 1))), (1, .long r), (0, .ref aT)]) hx hb dX11_digest_40 hl (k := 1) rfl rfl (by decide) rfl (fun ls hl => ?_)
      refine lv_goto (tgt := 6) hx hb dX11_digest_43 (by decide) ?_
      rw [nI_1'] at hl
      refine ih (i + 1) r (by omega) (fun Q2 hq => hG Q2 ?_) _ _ hP hD hS _ hl
      obtain ⟨f, hf⟩ := hq
      refine ⟨f + 1, ?_⟩
      unfold L_X12_digest_6
      exact b_F (nI_ge hiN (by omega)) (h _ hf)
  refine lv_ldc2 (v := (lN 163)) hx hb hown f212 dX11_digest_0 ?_
  refine lv_lstore_n (lv' := [(1, .long (lN 163)), (0, .ref aT)]) hx hb dX11_digest_3 rfl hl (by decide) rfl (fun ls hl => ?_)
  refine lv_iconst (v := (nI 0)) hx hb dX11_digest_4 (by decide) ?_
  refine lv_istore_n (lv' := [(3, .int (nI 0)), (1, .long (lN 163)), (0, .ref aT)]) hx hb dX11_digest_5 rfl hl (by decide) rfl (fun ls hl => ?_)
  exact ml N 0 (lN 163) (by omega) (fun Q2 hq => hq) _ _ hP hD hS _ hl
end DGC
