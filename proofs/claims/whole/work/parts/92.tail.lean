/-! the law's walk: calls beside a tail of cells that stays -/
theorem nd_of : ∀ (l : List Nat), l.Nodup → va_nd l = true
  | [], _ => rfl
  | a :: l, h => by
    rw [List.nodup_cons] at h
    simp only [va_nd, Bool.and_eq_true, decide_eq_true_eq]
    exact ⟨h.1, nd_of l h.2⟩
theorem rg_map {α : Type} (l : List α) : (List.range l.length).map (fun i => l[i]?) = l.map some := by
  apply List.ext_getElem?
  intro i
  rw [List.getElem?_map, List.getElem?_map]
  rcases Nat.lt_or_ge i l.length with h | h
  · rw [List.getElem?_range h]
    simp [h]
  · rw [List.getElem?_eq_none (by simpa using h), List.getElem?_eq_none h]
    rfl
theorem rg_left {α : Type} (l r : List α) : (List.range l.length).map (fun i => (l ++ r)[i]?) = l.map some := by
  rw [← rg_map l]
  apply List.map_congr_left
  intro i hi
  exact List.getElem?_append_left (List.mem_range.mp hi)
theorem rg_right {α : Type} (l r : List α) : (List.range r.length).map (fun i => (l ++ r)[l.length + i]?) = r.map some := by
  rw [← rg_map r]
  apply List.map_congr_left
  intro i _
  rw [List.getElem?_append_right (Nat.le_add_right _ _), Nat.add_sub_cancel_left]
/-- where what comes back stands: the callee's cells, then the tail -/
def tsrc (len wl rl : Nat) : List (Bool × Nat) := (List.range len).map (fun i => (false, i)) ++ (List.range rl).map (fun t => (true, wl + t))
theorem tsrc_no {len wl rl : Nat} : (tsrc len wl rl).all (fun q => !q.1 || !((List.range wl).contains q.2)) = true := by
  rw [List.all_eq_true]
  intro q hq
  rcases List.mem_append.mp hq with h | h
  · obtain ⟨i, -, rfl⟩ := List.mem_map.mp h
    rfl
  · obtain ⟨t, -, rfl⟩ := List.mem_map.mp h
    simp
theorem tsrc_nd {len wl rl : Nat} : (tsrc len wl rl).Nodup := by
  unfold tsrc
  rw [List.nodup_append]
  refine ⟨?_, ?_, ?_⟩
  · refine List.Pairwise.map _ ?_ (List.nodup_range (n := len))
    intro a b h e
    exact h (congrArg Prod.snd e)
  · refine List.Pairwise.map _ ?_ (List.nodup_range (n := rl))
    intro a b h e
    have := congrArg Prod.snd e
    simp at this
    exact h this
  · intro a ha b hb e
    obtain ⟨i, -, rfl⟩ := List.mem_map.mp ha
    obtain ⟨t, -, rfl⟩ := List.mem_map.mp hb
    exact absurd (congrArg Prod.fst e) (by simp)
theorem tsrc_at {α : Type} {wc w1 rest : List α} : (tsrc w1.length wc.length rest.length).map (fun q => bif q.1 then (wc ++ rest)[q.2]? else w1[q.2]?) = (w1 ++ rest).map some := by
  unfold tsrc
  rw [List.map_append, List.map_append, List.map_map, List.map_map]
  congr 1
  · exact rg_map w1
  · exact rg_right wc rest
section TAI
variable {p : Program} {l : Launch} {e : Env} {R : Room} {s : State} {m : MethodId} {args : Array Value} {below : List Frame} {meth : Method} {c : Code} {H : Heap} {locs : List Loc} {cells slots : Nat} {QQ : State → Prop}
variable {cc : ByteArray} {nL : Nat} {ret : Option FieldType} {own : String} {Ts : List Cond} {A : Nat → Prop} {g : GG} {nm : String}
variable {y : MethodName} {wsY : List Cond} {rmY : Room} {bytes : ByteArray} {maxL mc ms n index : Nat} {retY : Option FieldType} {C : String} {b ci : Nat} {fs : List Value} {qC : vw_C} {As rest st : List Value} {wc tl : va_W} {ls : Array Slot} {lvs : List (Nat × Value)} {pc : Nat} {S : Type} {w : S → va_W}
theorem go_It {post : Int32 → S → Prop} (E : Ev p s m meth c cc nL ret own Ts args A g nm) (hM : CI l g y wsY rmY (.ref b :: As) wc w post mc ms) (cw : CallW R s args own C index y bytes maxL retY wsY rmY mc ms n) (len : Nat) (hlen : ∀ u, (w u).length = len)
    (hP : va_P g.1 vwCl (wc ++ tl) H) (hD : va_D A (wc ++ tl)) (hS : va_S A s.heap H locs) (hq0 : wc[0]? = some (b, .inr (ci, fs))) (hci : vwCl[ci]? = some qC) (hqC : qC.1 = C)
    (hl : lv_has ls nL lvs) (hst : st = As.reverse ++ .ref b :: rest) (hn : As.length = n) (hroom : (rest.map fun v => v.category).sum ≤ 8) (hdg : decode cc pc = .ok (.invokevirtual index, 3)) (hf : cells + mc ≤ R.cells ∧ slots + ms ≤ R.slots)
    (kk : ∀ (r : Int32) (u : S) (H1 : Heap) (locs1 : List Loc), post r u → va_P g.1 vwCl (w u ++ tl) H1 → va_D A (w u ++ tl) → va_S A s.heap H1 locs1 → W p l e R s m args below meth c H1 locs1 (cells + mc) (slots + ms) QQ (F0 m (pc + 3) ls (.int r :: rest))) : W p l e R s m args below meth c H locs cells slots QQ (F0 m pc ls st) := by
  have hCm := rg_left wc tl
  have hnd := nd_of _ (List.nodup_range (n := wc.length))
  exact go_I E (run_V E (hM _) cw hP hD hS (List.range wc.length) hCm hnd 0 ci hq0 hci hqC hl hst hn hroom hdg hf) hP hD hS (List.range wc.length) hCm (tsrc len wc.length tl.length) tsrc_no tsrc_nd (fun u => w u ++ tl) (fun u => by rw [← hlen u]; exact tsrc_at) kk
theorem go_Lt {post : Int64 → S → Prop} (E : Ev p s m meth c cc nL ret own Ts args A g nm) (hM : CL l g y wsY rmY (.ref b :: As) wc w post mc ms) (cw : CallW R s args own C index y bytes maxL retY wsY rmY mc ms n) (len : Nat) (hlen : ∀ u, (w u).length = len)
    (hP : va_P g.1 vwCl (wc ++ tl) H) (hD : va_D A (wc ++ tl)) (hS : va_S A s.heap H locs) (hq0 : wc[0]? = some (b, .inr (ci, fs))) (hci : vwCl[ci]? = some qC) (hqC : qC.1 = C)
    (hl : lv_has ls nL lvs) (hst : st = As.reverse ++ .ref b :: rest) (hn : As.length = n) (hroom : (rest.map fun v => v.category).sum ≤ 8) (hdg : decode cc pc = .ok (.invokevirtual index, 3)) (hf : cells + mc ≤ R.cells ∧ slots + ms ≤ R.slots)
    (kk : ∀ (r : Int64) (u : S) (H1 : Heap) (locs1 : List Loc), post r u → va_P g.1 vwCl (w u ++ tl) H1 → va_D A (w u ++ tl) → va_S A s.heap H1 locs1 → W p l e R s m args below meth c H1 locs1 (cells + mc) (slots + ms) QQ (F0 m (pc + 3) ls (.long r :: rest))) : W p l e R s m args below meth c H locs cells slots QQ (F0 m pc ls st) := by
  have hCm := rg_left wc tl
  have hnd := nd_of _ (List.nodup_range (n := wc.length))
  exact go_L E (run_V E (hM _) cw hP hD hS (List.range wc.length) hCm hnd 0 ci hq0 hci hqC hl hst hn hroom hdg hf) hP hD hS (List.range wc.length) hCm (tsrc len wc.length tl.length) tsrc_no tsrc_nd (fun u => w u ++ tl) (fun u => by rw [← hlen u]; exact tsrc_at) kk
end TAI
/-- cells in another order, some perhaps left out, ahead of a tail -/
def pk (X : va_W) (is : List Nat) : va_W := is.filterMap (fun i => X[i]?)
section PMT
variable {D : va_G} {cl : List vw_C} {A : Nat → Prop} {H : Heap} {X Y T : va_W}
theorem va_P.mem (h : va_P D cl X H) (hm : ∀ q, q ∈ Y → q ∈ X) : va_P D cl Y H := fun k q hq => by
  obtain ⟨i, hi⟩ := List.getElem?_of_mem (hm q (List.mem_of_getElem? hq))
  exact h i q hi
theorem va_D.nd (h : va_D A X) : (X.map Prod.fst).Nodup := by
  rw [List.nodup_iff_pairwise_ne, List.pairwise_iff_getElem]
  intro i j hi hj hij e
  rw [List.length_map] at hi hj
  rw [List.getElem_map, List.getElem_map] at e
  have := h.1 i j X[i] X[j] (List.getElem?_eq_getElem hi) (List.getElem?_eq_getElem hj) e
  omega
theorem va_D.of (h1 : (X.map Prod.fst).Nodup) (h2 : ∀ q, q ∈ X → A q.1) : va_D A X := by
  refine ⟨fun i j p q hi hj e => ?_, fun k q hq => h2 q (List.mem_of_getElem? hq)⟩
  have hi' : (X.map Prod.fst)[i]? = some p.1 := by rw [List.getElem?_map, hi]; rfl
  have hj' : (X.map Prod.fst)[j]? = some p.1 := by rw [List.getElem?_map, hj, e]; rfl
  exact (List.getElem?_inj (List.getElem?_eq_some_iff.mp hi').1 h1).mp (hi'.trans hj'.symm)
theorem va_D.perm (h : va_D A X) (hp : Y.Perm X) : va_D A Y := va_D.of ((hp.map Prod.fst).nodup_iff.mpr h.nd) (fun q hq => by
  obtain ⟨i, hi⟩ := List.getElem?_of_mem (hp.mem_iff.mp hq)
  exact h.2 i q hi)
theorem va_P.perm (h : va_P D cl X H) (hp : Y.Perm X) : va_P D cl Y H := h.mem (fun _ hq => hp.mem_iff.mp hq)
theorem pm_of {α : Type} {X Y : List α} (is : List Nat) (hn : is.Perm (List.range X.length)) (hY : is.map (fun i => X[i]?) = Y.map some) : Y.Perm X := by
  have h1 : (is.map (fun i => X[i]?)).Perm ((List.range X.length).map (fun i => X[i]?)) := hn.map _
  rw [hY, rg_map] at h1
  have h2 := h1.filterMap id
  rw [List.filterMap_map, List.filterMap_map] at h2
  have e : ∀ l : List α, List.filterMap (id ∘ some) l = l := fun l => List.filterMap_some
  rw [e, e] at h2
  exact h2
end PMT
