/-! a call whose cells stand among others ahead of a tail: all stays where it was -/
section TAX
variable {p : Program} {l : Launch} {e : Env} {R : Room} {s : State} {m : MethodId} {args : Array Value} {below : List Frame} {meth : Method} {c : Code} {H : Heap} {locs : List Loc} {cells slots : Nat} {QQ : State → Prop}
variable {cc : ByteArray} {nL : Nat} {ret : Option FieldType} {own : String} {Ts : List Cond} {A : Nat → Prop} {g : GG} {nm : String}
variable {y : MethodName} {wsY : List Cond} {rmY : Room} {bytes : ByteArray} {maxL mc ms n index : Nat} {retY : Option FieldType} {C : String} {b ci : Nat} {fs : List Value} {qC : vw_C} {As rest st : List Value} {wc X O : va_W} {ls : Array Slot} {lvs : List (Nat × Value)} {pc : Nat} {S : Type} {w w' : S → va_W}
theorem ix_left {α : Type} {X O : List α} {is : List Nat} {n : Nat} (hn : X.length = n) (hi : is.all (fun i => decide (i < n)) = true) : is.map (fun i => (X ++ O)[i]?) = is.map (fun i => X[i]?) := by
  apply List.map_congr_left
  intro i h
  have := of_decide_eq_true (List.all_eq_true.mp hi i h)
  exact List.getElem?_append_left (by rw [hn]; exact this)
def xsrc (src : List (Bool × Nat)) (n ol : Nat) : List (Bool × Nat) := src ++ (List.range ol).map (fun t => (true, n + t))
theorem xsrc_no {src : List (Bool × Nat)} {is : List Nat} {n ol : Nat} (hi : is.all (fun i => decide (i < n)) = true) (h : src.all (fun q => !q.1 || !(is.contains q.2)) = true) : (xsrc src n ol).all (fun q => !q.1 || !(is.contains q.2)) = true := by
  unfold xsrc
  rw [List.all_append, h, Bool.true_and, List.all_eq_true]
  intro q hq
  obtain ⟨t, -, rfl⟩ := List.mem_map.mp hq
  have : ¬ (n + t) ∈ is := fun hm => by
    have := of_decide_eq_true (List.all_eq_true.mp hi _ hm)
    omega
  simp [this]
theorem xsrc_nd {src : List (Bool × Nat)} {n ol : Nat} (hl : src.all (fun q => !q.1 || decide (q.2 < n)) = true) (h : src.Nodup) : (xsrc src n ol).Nodup := by
  unfold xsrc
  rw [List.nodup_append]
  refine ⟨h, ?_, ?_⟩
  · refine List.Pairwise.map _ ?_ (List.nodup_range (n := ol))
    intro a b h e
    have := congrArg Prod.snd e
    simp at this
    exact h this
  · intro a ha b hb e
    obtain ⟨t, -, rfl⟩ := List.mem_map.mp hb
    have := List.all_eq_true.mp hl a ha
    rw [e] at this
    have this : n + t < n := by simpa using this
    omega
theorem xsrc_at {α : Type} {X O w1 w2 : List α} {src : List (Bool × Nat)} {n : Nat} (hn : X.length = n) (hl : src.all (fun q => !q.1 || decide (q.2 < n)) = true) (h : src.map (fun q => bif q.1 then X[q.2]? else w1[q.2]?) = w2.map some) : (xsrc src n O.length).map (fun q => bif q.1 then (X ++ O)[q.2]? else w1[q.2]?) = (w2 ++ O).map some := by
  unfold xsrc
  rw [List.map_append, List.map_append, List.map_map, ← h]
  congr 1
  · apply List.map_congr_left
    intro q hq
    have := List.all_eq_true.mp hl q hq
    cases hb : q.1 with
    | true =>
      rw [hb] at this
      have h2 : q.2 < n := by simpa using this
      show (X ++ O)[q.2]? = X[q.2]?
      exact List.getElem?_append_left (by rw [hn]; exact h2)
    | false => rfl
  · subst hn
    exact rg_right X O
theorem go_Ix {post : Int32 → S → Prop} (E : Ev p s m meth c cc nL ret own Ts args A g nm) (hM : CI l g y wsY rmY (.ref b :: As) wc w post mc ms) (cw : CallW R s args own C index y bytes maxL retY wsY rmY mc ms n)
    (hP : va_P g.1 vwCl (X ++ O) H) (hD : va_D A (X ++ O)) (hS : va_S A s.heap H locs) (nX : Nat) (hnX : X.length = nX) (isC : List Nat) (hi : isC.all (fun i => decide (i < nX)) = true) (hCm : isC.map (fun i => X[i]?) = wc.map some) (hnd : va_nd isC = true) (src : List (Bool × Nat)) (hlt : src.all (fun q => !q.1 || decide (q.2 < nX)) = true) (hno : src.all (fun q => !q.1 || !(isC.contains q.2)) = true) (hsn : src.Nodup) (w' : S → va_W) (hsrc : ∀ u, src.map (fun q => bif q.1 then X[q.2]? else (w u)[q.2]?) = (w' u).map some)
    (hq0 : wc[0]? = some (b, .inr (ci, fs))) (hci : vwCl[ci]? = some qC) (hqC : qC.1 = C)
    (hl : lv_has ls nL lvs) (hst : st = As.reverse ++ .ref b :: rest) (hn : As.length = n) (hroom : (rest.map fun v => v.category).sum ≤ 8) (hdg : decode cc pc = .ok (.invokevirtual index, 3)) (hf : cells + mc ≤ R.cells ∧ slots + ms ≤ R.slots)
    (kk : ∀ (r : Int32) (u : S) (H1 : Heap) (locs1 : List Loc), post r u → va_P g.1 vwCl (w' u ++ O) H1 → va_D A (w' u ++ O) → va_S A s.heap H1 locs1 → W p l e R s m args below meth c H1 locs1 (cells + mc) (slots + ms) QQ (F0 m (pc + 3) ls (.int r :: rest))) : W p l e R s m args below meth c H locs cells slots QQ (F0 m pc ls st) :=
  have hCm' := (ix_left (O := O) hnX hi).trans hCm
  go_I E (run_V E (hM _) cw hP hD hS isC hCm' hnd 0 ci hq0 hci hqC hl hst hn hroom hdg hf) hP hD hS isC hCm' (xsrc src nX O.length) (xsrc_no hi hno) (xsrc_nd hlt hsn) (fun u => w' u ++ O) (fun u => xsrc_at hnX hlt (hsrc u)) kk
theorem go_Lx {post : Int64 → S → Prop} (E : Ev p s m meth c cc nL ret own Ts args A g nm) (hM : CL l g y wsY rmY (.ref b :: As) wc w post mc ms) (cw : CallW R s args own C index y bytes maxL retY wsY rmY mc ms n)
    (hP : va_P g.1 vwCl (X ++ O) H) (hD : va_D A (X ++ O)) (hS : va_S A s.heap H locs) (nX : Nat) (hnX : X.length = nX) (isC : List Nat) (hi : isC.all (fun i => decide (i < nX)) = true) (hCm : isC.map (fun i => X[i]?) = wc.map some) (hnd : va_nd isC = true) (src : List (Bool × Nat)) (hlt : src.all (fun q => !q.1 || decide (q.2 < nX)) = true) (hno : src.all (fun q => !q.1 || !(isC.contains q.2)) = true) (hsn : src.Nodup) (w' : S → va_W) (hsrc : ∀ u, src.map (fun q => bif q.1 then X[q.2]? else (w u)[q.2]?) = (w' u).map some)
    (hq0 : wc[0]? = some (b, .inr (ci, fs))) (hci : vwCl[ci]? = some qC) (hqC : qC.1 = C)
    (hl : lv_has ls nL lvs) (hst : st = As.reverse ++ .ref b :: rest) (hn : As.length = n) (hroom : (rest.map fun v => v.category).sum ≤ 8) (hdg : decode cc pc = .ok (.invokevirtual index, 3)) (hf : cells + mc ≤ R.cells ∧ slots + ms ≤ R.slots)
    (kk : ∀ (r : Int64) (u : S) (H1 : Heap) (locs1 : List Loc), post r u → va_P g.1 vwCl (w' u ++ O) H1 → va_D A (w' u ++ O) → va_S A s.heap H1 locs1 → W p l e R s m args below meth c H1 locs1 (cells + mc) (slots + ms) QQ (F0 m (pc + 3) ls (.long r :: rest))) : W p l e R s m args below meth c H locs cells slots QQ (F0 m pc ls st) :=
  have hCm' := (ix_left (O := O) hnX hi).trans hCm
  go_L E (run_V E (hM _) cw hP hD hS isC hCm' hnd 0 ci hq0 hci hqC hl hst hn hroom hdg hf) hP hD hS isC hCm' (xsrc src nX O.length) (xsrc_no hi hno) (xsrc_nd hlt hsn) (fun u => w' u ++ O) (fun u => xsrc_at hnX hlt (hsrc u)) kk
end TAX
