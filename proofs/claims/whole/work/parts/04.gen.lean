/-! the standard contract: what every method of ours is met by, and the rows that use it -/
abbrev GG : Type := va_G × ClassId × ClassId × ClassId × ClassId
abbrev TY (g : GG) : List (ClassId × FieldType) := [(g.2.1, .int), (g.2.2.1, .long), (g.2.2.2.1, .boolean), (g.2.2.2.2, .object "WordBench$Machine")]
def ordL : List Int32 := [0, 1, 2, 3, 0, 1, 3, 2, 0, 2, 1, 3, 0, 2, 3, 1, 0, 3, 1, 2, 0, 3, 2, 1, 1, 0, 2, 3, 1, 0, 3, 2, 1, 2, 0, 3, 1, 2, 3, 0, 1, 3, 0, 2, 1, 3, 2, 0, 2, 0, 1, 3, 2, 0, 3, 1, 2, 1, 0, 3, 2, 1, 3, 0, 2, 3, 0, 1, 2, 3, 1, 0, 3, 0, 1, 2, 3, 0, 2, 1, 3, 1, 0, 2, 3, 1, 2, 0, 3, 2, 0, 1, 3, 2, 1, 0]
def ordV (j : Nat) : Int32 := ordL.getD j 0
def nwL : List (String × Nat × MethodName) := [("WordBench", 17, yX10_init), ("WordBench", 24, yX8_init), ("WordBench", 31, yX9_init), ("WordBench", 63, yX5_init), ("WordBench", 79, yX1_init), ("WordBench$Greedy", 11, yX10_init)]
def ZZ (A : Nat → Prop) (U : State) (H : Heap) : Prop := (∀ q, q ∈ nwL → va_Nw (.methodLinkNest q.1 q.2.1 q.2.2 "WordBench") U) ∧ (∃ t : Nat, va_Z "WordBench$Colouring" "ORDERS" "[I" (.ref t) A U H ∧ va_T .int t 96 (fun j => .int (ordV j)) A U H) ∧ va_AO "WordBench$Machine" U
theorem ZZ.warm {A : Nat → Prop} {s U : State} {H : Heap} (hW : s.WarmedH U.vm) (h : ZZ A s H) : ZZ A U H := ⟨fun q hq => va_Nw.warmM hW (h.1 q hq), h.2.1.elim fun t ht => ⟨t, va_Z.moved hW.alike ht.1, va_T.moved hW.alike ht.2⟩, h.2.2.moved hW.alike⟩
theorem ZZ.same {A : Nat → Prop} {s U : State} {H : Heap} (hvm : s.vm = U.vm) (h : ZZ A s H) : ZZ A U H := by
  have hal : s.vm.Alike U.vm := by rw [hvm]; exact Vm.Alike.refl _
  exact ⟨fun q hq => va_Nw.same rfl hvm (h.1 q hq), h.2.1.elim fun t ht => ⟨t, va_Z.moved hal ht.1, va_T.moved hal ht.2⟩, h.2.2.moved hal⟩
theorem ZZ.kept {A : Nat → Prop} {U : State} {H H1 : Heap} (h : ZZ A U H) (hq : ∀ a : Nat, a < H.size → ¬ A a → H1[a]? = H[a]?) : ZZ A U H1 := ⟨h.1, h.2.1.elim fun t ht => ⟨t, ht.1.kept hq, ht.2.kept hq⟩, h.2.2⟩
theorem ZZ.narrow {A B : Nat → Prop} {U : State} {H : Heap} (h : ZZ A U H) (hAB : ∀ q, B q → A q) : ZZ B U H := ⟨h.1, h.2.1.elim fun t ht => ⟨t, ht.1.narrow hAB, ht.2.narrow hAB⟩, h.2.2⟩
def Ct (g : GG) (w0 : va_W) (sz : Nat) (U : State) : Prop := U.heap.size = sz ∧ va_P g.1 vwCl w0 U.heap ∧ va_K g.1 vwCl (TY g) U ∧ va_D (fun _ => True) w0 ∧ ZZ (va_A w0 sz) U U.heap
def Af (g : GG) (A : Nat → Prop) {S : Type} (w : S → va_W) (u : S) (t : State) : Prop := va_P g.1 vwCl (w u) t.heap ∧ va_K g.1 vwCl (TY g) t ∧ va_D A (w u)
def CI (l : Launch) (g : GG) (y : MethodName) (ws : List Cond) (rm : Room) (av : List Value) (w0 : va_W) {S : Type} (w : S → va_W) (post : Int32 → S → Prop) (mc ms : Nat) : Prop := ∀ sz : Nat, Met l y ws rm (va_Pc av (Ct g w0 sz)) (va_Qi post (Af g (va_A w0 sz) w) (va_A w0 sz)) mc ms (va_A w0 sz)
def CL (l : Launch) (g : GG) (y : MethodName) (ws : List Cond) (rm : Room) (av : List Value) (w0 : va_W) {S : Type} (w : S → va_W) (post : Int64 → S → Prop) (mc ms : Nat) : Prop := ∀ sz : Nat, Met l y ws rm (va_Pc av (Ct g w0 sz)) (va_Ql post (Af g (va_A w0 sz) w) (va_A w0 sz)) mc ms (va_A w0 sz)
def CV (l : Launch) (g : GG) (y : MethodName) (ws : List Cond) (rm : Room) (av : List Value) (w0 : va_W) {S : Type} (w : S → va_W) (post : S → Prop) (mc ms : Nat) : Prop := ∀ sz : Nat, Met l y ws rm (va_Pc av (Ct g w0 sz)) (va_Qv post (Af g (va_A w0 sz) w) (va_A w0 sz)) mc ms (va_A w0 sz)
def CQ (l : Launch) (g : GG) (y : MethodName) (ws : List Cond) (rm : Room) (av : List Value) (w0 : va_W) {S : Type} (w : S → va_W) (post : Option Nat → S → Prop) (mc ms : Nat) : Prop := ∀ sz : Nat, Met l y ws rm (va_Pc av (Ct g w0 sz)) (va_Qq post (Af g (va_A w0 sz) w) (va_A w0 sz)) mc ms (va_A w0 sz)
theorem Ct.blind {g : GG} {w0 : va_W} {sz : Nat} {av : List Value} : FrameBlind (va_Pc av (Ct g w0 sz)) := fun a U gg mk q => by
  obtain ⟨q0, q1, qP, qK, qD, qZ⟩ := q
  exact ⟨q0, q1, qP, va_K.moved (u := U) (U := U.calling gg mk a) (Vm.Alike.refl U.vm) qK, qD, ZZ.same (U := U.calling gg mk a) rfl qZ⟩
def Ev (p : Program) (s : State) (m : MethodId) (meth : Method) (c : Code) (cc : ByteArray) (nL : Nat) (ret : Option FieldType) (own : String) (Ts : List Cond) (args : Array Value) (A : Nat → Prop) (g : GG) (nm : String) : Prop :=
  p.tables.exec = Jvm.exec ∧ c.code = cc ∧ meth.sig.returnType = ret ∧ c.maxLocals = nL ∧ s.vm.findClass own = some m.cls ∧ (∀ w ∈ Ts, w.before args s = true) ∧ meth.locks = false ∧ (∀ q : Nat, s.heap.size ≤ q → A q) ∧ ZZ A s s.heap ∧ va_K g.1 vwCl (TY g) s ∧ meth.name = nm
theorem fm_of {α β : Type} {f : α → Option β} : ∀ {is : List α} {ws : List β}, is.map f = ws.map some → is.filterMap f = ws
  | [], [], _ => rfl
  | [], b :: ws, h => by simp at h
  | a :: is, [], h => by simp at h
  | a :: is, b :: ws, h => by
    rw [List.map_cons, List.map_cons, List.cons.injEq] at h
    rw [List.filterMap_cons, h.1, fm_of h.2]
theorem enter {l : Launch} {g : GG} {y : MethodName} {ws ws' : List Cond} {rm : Room} {av : List Value} {w0 : va_W} {cc : ByteArray} {maxL : Nat} {ret : Option FieldType} {mc ms : Nat} {Qc : Array Value → State → Outcome → State → Prop} {own : String}
    (hy : plainName y.cls = true) (hw : ws = Cond.code y cc maxL ret :: ws') (how : y.cls = own) (hln : (lg_sl av).length ≤ maxL) (sz : Nat)
    (body : ∀ (p : Program) (e : Env) (s : State) (m : MethodId) (below : List Frame) (meth : Method) (c : Code) (A : Nat → Prop), A = va_A w0 s.heap.size → s.heap.size = sz → Ev p s m meth c cc maxL ret own ws av.toArray A g y.name → va_P g.1 vwCl w0 s.heap → va_D A w0 → va_S A s.heap s.heap [] → ∀ ls : Array Slot, lv_has ls maxL (lv_args 0 av) → W p l e rm s m av.toArray below meth c s.heap [] 0 0 (MQ below Qc av.toArray s mc ms (va_A w0 sz)) (F0 m 0 ls [])) :
    Met l y ws rm (va_Pc av (Ct g w0 sz)) Qc mc ms (va_A w0 sz) := by
  refine Met.ofW (cc := cc) (maxL := maxL) (ret := ret) hy hw ?_
  intro p e s m args below meth c s₁ B hml hv
  obtain ⟨rfl, hsz, hP, hK, hD0, hZ⟩ := hv
  have hl := lv_entry av (n := maxL) hln
  rw [lg_entry_eq]
  generalize (lg_sl av ++ List.replicate (maxL - (lg_sl av).length) Slot.unset).toArray = ls at hl ⊢
  subst hsz
  exact body p e s m below meth c _ rfl rfl ⟨B.exec, B.bytes, B.returns, hml, how ▸ findClass_of_methodNamed B.named, atoms_spec (ws := ws) B.pre, B.notSynchronized, fun q h => Or.inr h, hZ, hK, (name_of_methodNamed B.named B.method).1⟩ hP hD0.self va_S.rf ls hl
section MK
variable {l : Launch} {g : GG} {y : MethodName} {ws ws' : List Cond} {rm : Room} {av : List Value} {w0 : va_W} {cc : ByteArray} {maxL mc ms : Nat} {own : String} {S : Type} {w : S → va_W}
theorem mk_I {ty : FieldType} {post : Int32 → S → Prop} (hy : plainName y.cls = true) (hw : ws = Cond.code y cc maxL (some ty) :: ws') (how : y.cls = own) (hln : (lg_sl av).length ≤ maxL)
    (body : ∀ (p : Program) (e : Env) (s : State) (m : MethodId) (args : Array Value) (below : List Frame) (meth : Method) (c : Code) (A : Nat → Prop) (QQ : State → Prop), Ev p s m meth c cc maxL (some ty) own ws args A g y.name →
      (∀ (v : Int32) (u : S) (H : Heap) (locs : List Loc) (pc : Nat) (ls : Array Slot), narrow ty (.int v) = .int v → post v u → va_P g.1 vwCl (w u) H → va_D A (w u) → va_S A s.heap H locs → decode cc pc = .ok (.ireturn, 1) → W p l e rm s m args below meth c H locs mc ms QQ (F0 m pc ls [.int v])) →
      va_P g.1 vwCl w0 s.heap → va_D A w0 → va_S A s.heap s.heap [] → ∀ ls : Array Slot, lv_has ls maxL (lv_args 0 av) → W p l e rm s m args below meth c s.heap [] 0 0 QQ (F0 m 0 ls [])) : CI l g y ws rm av w0 w post mc ms := by
  intro sz
  refine enter hy hw how hln sz ?_
  intro p e s m below meth c A hAe hsz E hP hD hS ls hl
  refine body p e s m _ below meth c A _ E ?_ hP hD hS ls hl
  intro v u H locs pc ls hn hp hP hD hS hdg
  obtain ⟨hx, hb, hr, hml, hown, hts, hlocks, hA, hZ, hK, hnm⟩ := E
  subst hsz
  subst hAe
  exact W.zret hx hb hr hn (fun t ht hW => ⟨⟨v, u, rfl, hp, by rw [ht]; exact hP, va_K.moved hW.alike hK, hD⟩, hS.F ht⟩) hS.2.2 hdg hlocks
theorem mk_L {post : Int64 → S → Prop} (hy : plainName y.cls = true) (hw : ws = Cond.code y cc maxL (some .long) :: ws') (how : y.cls = own) (hln : (lg_sl av).length ≤ maxL)
    (body : ∀ (p : Program) (e : Env) (s : State) (m : MethodId) (args : Array Value) (below : List Frame) (meth : Method) (c : Code) (A : Nat → Prop) (QQ : State → Prop), Ev p s m meth c cc maxL (some .long) own ws args A g y.name →
      (∀ (v : Int64) (u : S) (H : Heap) (locs : List Loc) (pc : Nat) (ls : Array Slot), post v u → va_P g.1 vwCl (w u) H → va_D A (w u) → va_S A s.heap H locs → decode cc pc = .ok (.lreturn, 1) → W p l e rm s m args below meth c H locs mc ms QQ (F0 m pc ls [.long v])) →
      va_P g.1 vwCl w0 s.heap → va_D A w0 → va_S A s.heap s.heap [] → ∀ ls : Array Slot, lv_has ls maxL (lv_args 0 av) → W p l e rm s m args below meth c s.heap [] 0 0 QQ (F0 m 0 ls [])) : CL l g y ws rm av w0 w post mc ms := by
  intro sz
  refine enter hy hw how hln sz ?_
  intro p e s m below meth c A hAe hsz E hP hD hS ls hl
  refine body p e s m _ below meth c A _ E ?_ hP hD hS ls hl
  intro v u H locs pc ls hp hP hD hS hdg
  obtain ⟨hx, hb, hr, hml, hown, hts, hlocks, hA, hZ, hK, hnm⟩ := E
  subst hsz
  subst hAe
  exact W.lret hx hb hr (fun t ht hW => ⟨⟨v, u, rfl, hp, by rw [ht]; exact hP, va_K.moved hW.alike hK, hD⟩, hS.F ht⟩) hS.2.2 hdg hlocks
theorem mk_V {post : S → Prop} (hy : plainName y.cls = true) (hw : ws = Cond.code y cc maxL none :: ws') (how : y.cls = own) (hln : (lg_sl av).length ≤ maxL)
    (body : ∀ (p : Program) (e : Env) (s : State) (m : MethodId) (args : Array Value) (below : List Frame) (meth : Method) (c : Code) (A : Nat → Prop) (QQ : State → Prop), Ev p s m meth c cc maxL none own ws args A g y.name →
      (∀ (u : S) (H : Heap) (locs : List Loc) (pc : Nat) (ls : Array Slot), post u → va_P g.1 vwCl (w u) H → va_D A (w u) → va_S A s.heap H locs → decode cc pc = .ok (.return_, 1) → W p l e rm s m args below meth c H locs mc ms QQ (F0 m pc ls [])) →
      va_P g.1 vwCl w0 s.heap → va_D A w0 → va_S A s.heap s.heap [] → ∀ ls : Array Slot, lv_has ls maxL (lv_args 0 av) → W p l e rm s m args below meth c s.heap [] 0 0 QQ (F0 m 0 ls [])) : CV l g y ws rm av w0 w post mc ms := by
  intro sz
  refine enter hy hw how hln sz ?_
  intro p e s m below meth c A hAe hsz E hP hD hS ls hl
  refine body p e s m _ below meth c A _ E ?_ hP hD hS ls hl
  intro u H locs pc ls hp hP hD hS hdg
  obtain ⟨hx, hb, hr, hml, hown, hts, hlocks, hA, hZ, hK, hnm⟩ := E
  subst hsz
  subst hAe
  exact W.vret hx hb hr (fun t ht hW => ⟨⟨u, rfl, hp, by rw [ht]; exact hP, va_K.moved hW.alike hK, hD⟩, hS.F ht⟩) hS.2.2 hdg hlocks
theorem mk_Q {on : String} {post : Option Nat → S → Prop} (hy : plainName y.cls = true) (hw : ws = Cond.code y cc maxL (some (.object on)) :: ws') (how : y.cls = own) (hln : (lg_sl av).length ≤ maxL)
    (body : ∀ (p : Program) (e : Env) (s : State) (m : MethodId) (args : Array Value) (below : List Frame) (meth : Method) (c : Code) (A : Nat → Prop) (QQ : State → Prop), Ev p s m meth c cc maxL (some (.object on)) own ws args A g y.name →
      (∀ (v : Option Nat) (u : S) (H : Heap) (locs : List Loc) (pc : Nat) (ls : Array Slot), post v u → va_P g.1 vwCl (w u) H → va_D A (w u) → va_S A s.heap H locs → decode cc pc = .ok (.areturn, 1) → W p l e rm s m args below meth c H locs mc ms QQ (F0 m pc ls [va_rf v])) →
      va_P g.1 vwCl w0 s.heap → va_D A w0 → va_S A s.heap s.heap [] → ∀ ls : Array Slot, lv_has ls maxL (lv_args 0 av) → W p l e rm s m args below meth c s.heap [] 0 0 QQ (F0 m 0 ls [])) : CQ l g y ws rm av w0 w post mc ms := by
  intro sz
  refine enter hy hw how hln sz ?_
  intro p e s m below meth c A hAe hsz E hP hD hS ls hl
  refine body p e s m _ below meth c A _ E ?_ hP hD hS ls hl
  intro v u H locs pc ls hp hP hD hS hdg
  obtain ⟨hx, hb, hr, hml, hown, hts, hlocks, hA, hZ, hK, hnm⟩ := E
  subst hsz
  subst hAe
  exact W.aret hx hb hr (Or.inl ⟨on, rfl⟩) (va_rf_or v) (fun t ht hW => ⟨⟨v, u, rfl, hp, by rw [ht]; exact hP, va_K.moved hW.alike hK, hD⟩, hS.F ht⟩) hS.2.2 hdg hlocks
end MK
section RUN
variable {p : Program} {l : Launch} {e : Env} {R : Room} {s : State} {m : MethodId} {args : Array Value} {below : List Frame} {meth : Method} {c : Code} {H : Heap} {locs : List Loc} {cells slots : Nat} {QQ : State → Prop}
variable {cc : ByteArray} {nL : Nat} {ret : Option FieldType} {own : String} {Ts : List Cond} {A : Nat → Prop} {g : GG} {nm : String}
variable {y : MethodName} {wsY : List Cond} {rmY : Room} {bytes : ByteArray} {maxL mc ms n index : Nat} {retY : Option FieldType} {C : String} {b : Nat} {As rest st : List Value} {wc ws : va_W} {Qc : Array Value → State → Outcome → State → Prop} {ls : Array Slot} {lvs : List (Nat × Value)} {pc : Nat}
theorem run_pre (E : Ev p s m meth c cc nL ret own Ts args A g nm) {av : List Value} (hP : va_P g.1 vwCl ws H) (hD : va_D A ws) (hS : va_S A s.heap H locs) (isC : List Nat) (hCm : isC.map (fun i => ws[i]?) = wc.map some) (hnd : va_nd isC = true) : ∀ U : State, U.heap = H → s.WarmedH U.vm → va_Pc av (Ct g wc H.size) av.toArray U := by
  obtain ⟨hx, hb, hr, hml, hown, hts, hlocks, hA, hZ, hK, hnm⟩ := E
  have hPc := hP.sub (ws' := wc) isC (fm_of hCm)
  have hDc := hD.sub isC hnd hCm
  have hFc := va_free (wc := wc) hD hS hA isC hCm
  intro U hU hW
  refine ⟨rfl, by rw [hU], by rw [hU]; exact hPc, va_K.moved hW.alike hK, hDc.weaken (fun _ _ _ _ => trivial), ?_⟩
  rw [hU]
  exact ((hZ.kept (fun a h1 h2 => hS.2.1 a h1 h2)).narrow hFc).warm hW
theorem run_V (E : Ev p s m meth c cc nL ret own Ts args A g nm) (hM : Met l y wsY rmY (va_Pc (.ref b :: As) (Ct g wc H.size)) Qc mc ms (va_A wc H.size)) (cw : CallW R s args own C index y bytes maxL retY wsY rmY mc ms n)
    (hP : va_P g.1 vwCl ws H) (hD : va_D A ws) (hS : va_S A s.heap H locs) (isC : List Nat) (hCm : isC.map (fun i => ws[i]?) = wc.map some) (hnd : va_nd isC = true) (q0 ci : Nat) {fs : List Value} {qC : vw_C} (hq0 : wc[q0]? = some (b, .inr (ci, fs))) (hci : vwCl[ci]? = some qC) (hqC : qC.1 = C)
    (hl : lv_has ls nL lvs) (hst : st = As.reverse ++ .ref b :: rest) (hn : As.length = n) (hroom : (rest.map fun v => v.category).sum ≤ 8) (hdg : decode cc pc = .ok (.invokevirtual index, 3)) (hf : cells + mc ≤ R.cells ∧ slots + ms ≤ R.slots) :
    va_Run p l e R s m args below meth c H locs cells slots mc ms (F0 m pc ls st) rest (Qc (Value.ref b :: As).toArray) (va_A wc H.size) := by
  have hpre := run_pre (av := .ref b :: As) E hP hD hS isC hCm hnd
  obtain ⟨hx, hb, hr, hml, hown, hts, hlocks, hA, hZ, hK, hnm⟩ := E
  exact va_runV ⟨hx, hb, hml, hown, hts⟩ hM cw ⟨Ct.blind, hqC ▸ va_recv hK (hP.sub (ws' := wc) isC (fm_of hCm)) (ci := ci) hci hq0, hpre⟩ rfl hn hl.1 hst (lv_room hroom) hdg hf
theorem run_S (E : Ev p s m meth c cc nL ret own Ts args A g nm) (hM : Met l y wsY rmY (va_Pc As (Ct g wc H.size)) Qc mc ms (va_A wc H.size)) (cw : CallB R s args own index y bytes maxL retY wsY rmY mc ms n ∧ (Cond.static y).before args s = true)
    (hP : va_P g.1 vwCl ws H) (hD : va_D A ws) (hS : va_S A s.heap H locs) (isC : List Nat) (hCm : isC.map (fun i => ws[i]?) = wc.map some) (hnd : va_nd isC = true)
    (hl : lv_has ls nL lvs) (hst : st = As.reverse ++ rest) (hn : As.length = n) (hroom : (rest.map fun v => v.category).sum ≤ 8) (hdg : decode cc pc = .ok (.invokestatic index, 3)) (hf : cells + mc ≤ R.cells ∧ slots + ms ≤ R.slots) :
    va_Run p l e R s m args below meth c H locs cells slots mc ms (F0 m pc ls st) rest (Qc As.toArray) (va_A wc H.size) := by
  have hpre := run_pre (av := As) E hP hD hS isC hCm hnd
  obtain ⟨hx, hb, hr, hml, hown, hts, hlocks, hA, hZ, hK, hnm⟩ := E
  exact va_runS ⟨hx, hb, hml, hown, hts⟩ hM cw ⟨Ct.blind, hpre⟩ rfl hn hl.1 hst (lv_room hroom) hdg hf
theorem run_C (E : Ev p s m meth c cc nL ret own Ts args A g nm) (hM : Met l y wsY rmY (va_Pc (.ref b :: As) (Ct g wc H.size)) Qc mc ms (va_A wc H.size)) (cw : CallB R s args own index y bytes maxL none wsY rmY mc ms n ∧ y.name = "<init>" ∧ (Cond.instanceMethod y).before args s = true)
    (hP : va_P g.1 vwCl ws H) (hD : va_D A ws) (hS : va_S A s.heap H locs) (isC : List Nat) (hCm : isC.map (fun i => ws[i]?) = wc.map some) (hnd : va_nd isC = true)
    (hl : lv_has ls nL lvs) (hst : st = As.reverse ++ .ref b :: rest) (hn : As.length = n) (hroom : (rest.map fun v => v.category).sum ≤ 8) (hdg : decode cc pc = .ok (.invokespecial index, 3)) (hf : cells + mc ≤ R.cells ∧ slots + ms ≤ R.slots) :
    va_Run p l e R s m args below meth c H locs cells slots mc ms (F0 m pc ls st) rest (Qc (Value.ref b :: As).toArray) (va_A wc H.size) := by
  have hpre := run_pre (av := .ref b :: As) E hP hD hS isC hCm hnd
  obtain ⟨hx, hb, hr, hml, hown, hts, hlocks, hA, hZ, hK, hnm⟩ := E
  exact va_runI ⟨hx, hb, hml, hown, hts⟩ hM cw ⟨Ct.blind, hpre⟩ rfl hn hl.1 hst (lv_room hroom) hdg hf
theorem run_N {host : String} (E : Ev p s m meth c cc nL ret own Ts args A g nm) (hM : Met l y wsY rmY (va_Pc (.ref b :: As) (Ct g wc H.size)) Qc mc ms (va_A wc H.size)) (cw : va_CN R s args own index y host bytes maxL none wsY rmY mc ms n ∧ y.name = "<init>" ∧ (Cond.instanceMethod y).before args s = true)
    (hP : va_P g.1 vwCl ws H) (hD : va_D A ws) (hS : va_S A s.heap H locs) (isC : List Nat) (hCm : isC.map (fun i => ws[i]?) = wc.map some) (hnd : va_nd isC = true)
    (hl : lv_has ls nL lvs) (hst : st = As.reverse ++ .ref b :: rest) (hn : As.length = n) (hroom : (rest.map fun v => v.category).sum ≤ 8) (hdg : decode cc pc = .ok (.invokespecial index, 3)) (hf : cells + mc ≤ R.cells ∧ slots + ms ≤ R.slots) :
    va_Run p l e R s m args below meth c H locs cells slots mc ms (F0 m pc ls st) rest (Qc (Value.ref b :: As).toArray) (va_A wc H.size) := by
  have hpre := run_pre (av := .ref b :: As) E hP hD hS isC hCm hnd
  obtain ⟨hx, hb, hr, hml, hown, hts, hlocks, hA, hZ, hK, hnm⟩ := E
  exact va_runIN ⟨hx, hb, hml, hown, hts⟩ hM cw ⟨Ct.blind, hpre⟩ rfl hn hl.1 hst (lv_room hroom) hdg hf
/-- behind a call: each of the caller's cells is an old one of its own that the callee hadn't (true, place), or one of the callee's (false, place) -/
theorem put_back (E : Ev p s m meth c cc nL ret own Ts args A g nm) {w1 w2 : va_W} {H1 : Heap} (hP : va_P g.1 vwCl ws H) (hD : va_D A ws) (hS : va_S A s.heap H locs) (isC : List Nat) (hCm : isC.map (fun i => ws[i]?) = wc.map some) (src : List (Bool × Nat)) (hno : src.all (fun q => !q.1 || !(isC.contains q.2)) = true) (hsn : src.Nodup)
    (hsrc : src.map (fun q => bif q.1 then ws[q.2]? else w1[q.2]?) = w2.map some)
    (hk : ∀ q : Nat, q < H.size → ¬ va_A wc H.size q → H1[q]? = H[q]?) (hP1 : va_P g.1 vwCl w1 H1) (hD1 : va_D (va_A wc H.size) w1) : va_P g.1 vwCl w2 H1 ∧ va_D A w2 := by
  have hFc := va_free (wc := wc) hD hS E.2.2.2.2.2.2.2.1 isC hCm
  have at' : ∀ (k : Nat) (q : Nat × va_E), w2[k]? = some q → ∃ x, src[k]? = some x ∧ (bif x.1 then ws[x.2]? else w1[x.2]?) = some q := by
    intro k q hq
    have h1 : (src.map (fun q => bif q.1 then ws[q.2]? else w1[q.2]?))[k]? = some (some q) := by rw [hsrc, List.getElem?_map, hq]; rfl
    rw [List.getElem?_map] at h1
    cases hi : src[k]? with
    | none => rw [hi] at h1; cases h1
    | some i => rw [hi] at h1; exact ⟨i, rfl, Option.some.inj h1⟩
  have apart : ∀ (i : Nat) (q : Nat × va_E), i ∉ isC → ws[i]? = some q → q.1 < H.size ∧ ¬ va_A wc H.size q.1 := by
    intro i q hi h2
    have hl := (hP i q h2).lt
    refine ⟨hl, fun h => ?_⟩
    rcases h with ⟨k2, e, h⟩ | h
    · have h1 : (isC.map (fun i => ws[i]?))[k2]? = some (some (q.1, e)) := by rw [hCm, List.getElem?_map, h]; rfl
      rw [List.getElem?_map] at h1
      cases hj : isC[k2]? with
      | none => rw [hj] at h1; cases h1
      | some j =>
        rw [hj] at h1
        have hij := hD.1 i j q (q.1, e) h2 (Option.some.inj h1) rfl
        subst hij
        exact hi (List.mem_of_getElem? hj)
    · omega
  have notin : ∀ x, x ∈ src → x.1 = true → x.2 ∉ isC := by
    intro x hx h1 h2
    have := List.all_eq_true.mp hno x hx
    rw [h1] at this
    simp [h2] at this
  refine ⟨fun k q hq => ?_, fun i j x z hx hz hxz => ?_, fun k q hq => ?_⟩
  · obtain ⟨x, h1, h2⟩ := at' k q hq
    cases hb : x.1 with
    | true =>
      rw [hb] at h2
      have h2' : ws[x.2]? = some q := h2
      obtain ⟨g1, g2⟩ := apart x.2 q (notin x (List.mem_of_getElem? h1) hb) h2'
      exact (hP x.2 q h2').kept (hk q.1 g1 g2)
    | false =>
      rw [hb] at h2
      exact hP1 x.2 q h2
  · obtain ⟨a, a1, a2⟩ := at' i x hx
    obtain ⟨d, d1, d2⟩ := at' j z hz
    have key : a = d → i = j := fun had => by
      subst had
      exact (List.getElem?_inj (List.getElem?_eq_some_iff.mp a1).1 hsn).mp (a1.trans d1.symm)
    apply key
    cases hb : a.1 with
    | true =>
      rw [hb] at a2
      have a2' : ws[a.2]? = some x := a2
      cases hb2 : d.1 with
      | true =>
        rw [hb2] at d2
        exact Prod.ext (hb.trans hb2.symm) (hD.1 _ _ x z a2' d2 hxz)
      | false =>
        rw [hb2] at d2
        obtain ⟨g1, g2⟩ := apart a.2 x (notin a (List.mem_of_getElem? a1) hb) a2'
        exact absurd (by rw [hxz]; exact hD1.2 d.2 z d2) g2
    | false =>
      rw [hb] at a2
      have a2' : w1[a.2]? = some x := a2
      cases hb2 : d.1 with
      | true =>
        rw [hb2] at d2
        have d2' : ws[d.2]? = some z := d2
        obtain ⟨g1, g2⟩ := apart d.2 z (notin d (List.mem_of_getElem? d1) hb2) d2'
        exact absurd (by rw [← hxz]; exact hD1.2 a.2 x a2') g2
      | false =>
        rw [hb2] at d2
        exact Prod.ext (hb.trans hb2.symm) (hD1.1 _ _ x z a2' d2 hxz)
  · obtain ⟨x, h1, h2⟩ := at' k q hq
    cases hb : x.1 with
    | true =>
      rw [hb] at h2
      exact hD.2 x.2 q h2
    | false =>
      rw [hb] at h2
      exact hFc q.1 (hD1.2 x.2 q h2)
variable {S : Type} {w w' : S → va_W} {a : Array Value} {st0 : List Value}
theorem go_I {post : Int32 → S → Prop} (E : Ev p s m meth c cc nL ret own Ts args A g nm) (hr : va_Run p l e R s m args below meth c H locs cells slots mc ms (F0 m pc ls st0) rest (va_Qi post (Af g (va_A wc H.size) w) (va_A wc H.size) a) (va_A wc H.size))
    (hP : va_P g.1 vwCl ws H) (hD : va_D A ws) (hS : va_S A s.heap H locs) (isC : List Nat) (hCm : isC.map (fun i => ws[i]?) = wc.map some) (src : List (Bool × Nat)) (hno : src.all (fun q => !q.1 || !(isC.contains q.2)) = true) (hsn : src.Nodup) (w' : S → va_W)
    (hsrc : ∀ u, src.map (fun q => bif q.1 then ws[q.2]? else (w u)[q.2]?) = (w' u).map some)
    (kk : ∀ (r : Int32) (u : S) (H1 : Heap) (locs1 : List Loc), post r u → va_P g.1 vwCl (w' u) H1 → va_D A (w' u) → va_S A s.heap H1 locs1 → W p l e R s m args below meth c H1 locs1 (cells + mc) (slots + ms) QQ (F0 m (pc + 3) ls (.int r :: rest))) : W p l e R s m args below meth c H locs cells slots QQ (F0 m pc ls st0) := by
  have hFc := va_free (wc := wc) hD hS E.2.2.2.2.2.2.2.1 isC hCm
  refine va_calli hr hS (fun q _ h => hFc q h) hFc (fun r u t H1 locs1 ht hvm hw hB hz1 hk1 hS1 => ?_)
  obtain ⟨hP1, hK1, hD1⟩ := hB
  rw [ht] at hP1
  obtain ⟨hP2, hD2⟩ := put_back E hP hD hS isC hCm src hno hsn (hsrc u) hk1 hP1 hD1
  exact kk r u H1 locs1 hw hP2 hD2 hS1
theorem go_L {post : Int64 → S → Prop} (E : Ev p s m meth c cc nL ret own Ts args A g nm) (hr : va_Run p l e R s m args below meth c H locs cells slots mc ms (F0 m pc ls st0) rest (va_Ql post (Af g (va_A wc H.size) w) (va_A wc H.size) a) (va_A wc H.size))
    (hP : va_P g.1 vwCl ws H) (hD : va_D A ws) (hS : va_S A s.heap H locs) (isC : List Nat) (hCm : isC.map (fun i => ws[i]?) = wc.map some) (src : List (Bool × Nat)) (hno : src.all (fun q => !q.1 || !(isC.contains q.2)) = true) (hsn : src.Nodup) (w' : S → va_W)
    (hsrc : ∀ u, src.map (fun q => bif q.1 then ws[q.2]? else (w u)[q.2]?) = (w' u).map some)
    (kk : ∀ (r : Int64) (u : S) (H1 : Heap) (locs1 : List Loc), post r u → va_P g.1 vwCl (w' u) H1 → va_D A (w' u) → va_S A s.heap H1 locs1 → W p l e R s m args below meth c H1 locs1 (cells + mc) (slots + ms) QQ (F0 m (pc + 3) ls (.long r :: rest))) : W p l e R s m args below meth c H locs cells slots QQ (F0 m pc ls st0) := by
  have hFc := va_free (wc := wc) hD hS E.2.2.2.2.2.2.2.1 isC hCm
  refine va_calll hr hS (fun q _ h => hFc q h) hFc (fun r u t H1 locs1 ht hvm hw hB hz1 hk1 hS1 => ?_)
  obtain ⟨hP1, hK1, hD1⟩ := hB
  rw [ht] at hP1
  obtain ⟨hP2, hD2⟩ := put_back E hP hD hS isC hCm src hno hsn (hsrc u) hk1 hP1 hD1
  exact kk r u H1 locs1 hw hP2 hD2 hS1
theorem go_V {post : S → Prop} (E : Ev p s m meth c cc nL ret own Ts args A g nm) (hr : va_Run p l e R s m args below meth c H locs cells slots mc ms (F0 m pc ls st0) rest (va_Qv post (Af g (va_A wc H.size) w) (va_A wc H.size) a) (va_A wc H.size))
    (hP : va_P g.1 vwCl ws H) (hD : va_D A ws) (hS : va_S A s.heap H locs) (isC : List Nat) (hCm : isC.map (fun i => ws[i]?) = wc.map some) (src : List (Bool × Nat)) (hno : src.all (fun q => !q.1 || !(isC.contains q.2)) = true) (hsn : src.Nodup) (w' : S → va_W)
    (hsrc : ∀ u, src.map (fun q => bif q.1 then ws[q.2]? else (w u)[q.2]?) = (w' u).map some)
    (kk : ∀ (u : S) (H1 : Heap) (locs1 : List Loc), post u → va_P g.1 vwCl (w' u) H1 → va_D A (w' u) → va_S A s.heap H1 locs1 → W p l e R s m args below meth c H1 locs1 (cells + mc) (slots + ms) QQ (F0 m (pc + 3) ls rest)) : W p l e R s m args below meth c H locs cells slots QQ (F0 m pc ls st0) := by
  have hFc := va_free (wc := wc) hD hS E.2.2.2.2.2.2.2.1 isC hCm
  refine va_callv hr hS (fun q _ h => hFc q h) hFc (fun u t H1 locs1 ht hvm hw hB hz1 hk1 hS1 => ?_)
  obtain ⟨hP1, hK1, hD1⟩ := hB
  rw [ht] at hP1
  obtain ⟨hP2, hD2⟩ := put_back E hP hD hS isC hCm src hno hsn (hsrc u) hk1 hP1 hD1
  exact kk u H1 locs1 hw hP2 hD2 hS1
theorem go_Q {post : Option Nat → S → Prop} (E : Ev p s m meth c cc nL ret own Ts args A g nm) (hr : va_Run p l e R s m args below meth c H locs cells slots mc ms (F0 m pc ls st0) rest (va_Qq post (Af g (va_A wc H.size) w) (va_A wc H.size) a) (va_A wc H.size))
    (hP : va_P g.1 vwCl ws H) (hD : va_D A ws) (hS : va_S A s.heap H locs) (isC : List Nat) (hCm : isC.map (fun i => ws[i]?) = wc.map some) (src : List (Bool × Nat)) (hno : src.all (fun q => !q.1 || !(isC.contains q.2)) = true) (hsn : src.Nodup) (w' : S → va_W)
    (hsrc : ∀ u, src.map (fun q => bif q.1 then ws[q.2]? else (w u)[q.2]?) = (w' u).map some)
    (kk : ∀ (r : Option Nat) (u : S) (H1 : Heap) (locs1 : List Loc), post r u → va_P g.1 vwCl (w' u) H1 → va_D A (w' u) → va_S A s.heap H1 locs1 → W p l e R s m args below meth c H1 locs1 (cells + mc) (slots + ms) QQ (F0 m (pc + 3) ls (va_rf r :: rest))) : W p l e R s m args below meth c H locs cells slots QQ (F0 m pc ls st0) := by
  have hFc := va_free (wc := wc) hD hS E.2.2.2.2.2.2.2.1 isC hCm
  refine va_callq hr hS (fun q _ h => hFc q h) hFc (fun r u t H1 locs1 ht hvm hw hB hz1 hk1 hS1 => ?_)
  obtain ⟨hP1, hK1, hD1⟩ := hB
  rw [ht] at hP1
  obtain ⟨hP2, hD2⟩ := put_back E hP hD hS isC hCm src hno hsn (hsrc u) hk1 hP1 hD1
  exact kk r u H1 locs1 hw hP2 hD2 hS1
end RUN
section NEW
variable {p : Program} {l : Launch} {e : Env} {R : Room} {s : State} {m : MethodId} {args : Array Value} {below : List Frame} {meth : Method} {c : Code} {H : Heap} {locs : List Loc} {cells slots : Nat} {QQ : State → Prop}
variable {cc : ByteArray} {nL : Nat} {ret : Option FieldType} {own : String} {Ts : List Cond} {A : Nat → Prop} {g : GG} {nm : String} {rest : List Value} {ws : va_W} {ls : Array Slot} {pc : Nat}
theorem new_I (E : Ev p s m meth c cc nL ret own Ts args A g nm) (harr : (Cond.arrayClass .int).before args s = true) (hP : va_P g.1 vwCl ws H) (hD : va_D A ws) (hS : va_S A s.heap H locs) {n : Int32} {N' : Nat} (hn : ¬ n < 0) (hN : n.toNatClampNeg = N') (hby : N' * 4 ≤ 536870912) (hcells : cells + 1 ≤ R.cells) (hslots : slots + N' ≤ R.slots) (hdg : decode cc pc = .ok (.newarray .int, 2))
    (kk : ∀ (q : Nat) (H1 : Heap), va_P g.1 vwCl (ws ++ [(q, .inl (g.2.1, N', .inl (fun _ => 0)))]) H1 → va_D A (ws ++ [(q, .inl (g.2.1, N', .inl (fun _ => 0)))]) → va_S A s.heap H1 locs → W p l e R s m args below meth c H1 locs (cells + 1) (slots + N') QQ (F0 m (pc + 2) ls (.ref q :: rest))) : W p l e R s m args below meth c H locs cells slots QQ (F0 m pc ls (.int n :: rest)) := by
  obtain ⟨hx, hb, hr, hml, hown, hts, hlocks, hA, hZ, hK, hnm⟩ := E
  refine va_newa (atype := .int) (ty := .int) (a0 := (N', .inl (fun _ => 0))) hx hb harr rfl hK hP hD hS hA (fun cA => rfl) hn hN hby hcells hslots hdg (fun q cA H1 hK2 hP2 hD2 hS2 => ?_)
  have h1 : cA = g.2.1 := Option.some.inj ((hK2.2 4 (cA, .int) rfl).2.symm.trans (hK.2 0 _ rfl).2)
  rw [h1] at hP2 hD2
  exact kk q H1 hP2 hD2 hS2
theorem new_J (E : Ev p s m meth c cc nL ret own Ts args A g nm) (harr : (Cond.arrayClass .long).before args s = true) (hP : va_P g.1 vwCl ws H) (hD : va_D A ws) (hS : va_S A s.heap H locs) {n : Int32} {N' : Nat} (hn : ¬ n < 0) (hN : n.toNatClampNeg = N') (hby : N' * 8 ≤ 536870912) (hcells : cells + 1 ≤ R.cells) (hslots : slots + N' ≤ R.slots) (hdg : decode cc pc = .ok (.newarray .long, 2))
    (kk : ∀ (q : Nat) (H1 : Heap), va_P g.1 vwCl (ws ++ [(q, .inl (g.2.2.1, N', .inr (.inl (fun _ => 0))))]) H1 → va_D A (ws ++ [(q, .inl (g.2.2.1, N', .inr (.inl (fun _ => 0))))]) → va_S A s.heap H1 locs → W p l e R s m args below meth c H1 locs (cells + 1) (slots + N') QQ (F0 m (pc + 2) ls (.ref q :: rest))) : W p l e R s m args below meth c H locs cells slots QQ (F0 m pc ls (.int n :: rest)) := by
  obtain ⟨hx, hb, hr, hml, hown, hts, hlocks, hA, hZ, hK, hnm⟩ := E
  refine va_newa (atype := .long) (ty := .long) (a0 := (N', .inr (.inl (fun _ => 0)))) hx hb harr rfl hK hP hD hS hA (fun cA => rfl) hn hN hby hcells hslots hdg (fun q cA H1 hK2 hP2 hD2 hS2 => ?_)
  have h1 : cA = g.2.2.1 := Option.some.inj ((hK2.2 4 (cA, .long) rfl).2.symm.trans (hK.2 1 _ rfl).2)
  rw [h1] at hP2 hD2
  exact kk q H1 hP2 hD2 hS2
theorem new_Z (E : Ev p s m meth c cc nL ret own Ts args A g nm) (harr : (Cond.arrayClass .boolean).before args s = true) (hP : va_P g.1 vwCl ws H) (hD : va_D A ws) (hS : va_S A s.heap H locs) {n : Int32} {N' : Nat} (hn : ¬ n < 0) (hN : n.toNatClampNeg = N') (hby : N' * 1 ≤ 536870912) (hcells : cells + 1 ≤ R.cells) (hslots : slots + N' ≤ R.slots) (hdg : decode cc pc = .ok (.newarray .boolean, 2))
    (kk : ∀ (q : Nat) (H1 : Heap), va_P g.1 vwCl (ws ++ [(q, .inl (g.2.2.2.1, N', .inl (fun _ => 0)))]) H1 → va_D A (ws ++ [(q, .inl (g.2.2.2.1, N', .inl (fun _ => 0)))]) → va_S A s.heap H1 locs → W p l e R s m args below meth c H1 locs (cells + 1) (slots + N') QQ (F0 m (pc + 2) ls (.ref q :: rest))) : W p l e R s m args below meth c H locs cells slots QQ (F0 m pc ls (.int n :: rest)) := by
  obtain ⟨hx, hb, hr, hml, hown, hts, hlocks, hA, hZ, hK, hnm⟩ := E
  refine va_newa (atype := .boolean) (ty := .boolean) (a0 := (N', .inl (fun _ => 0))) hx hb harr rfl hK hP hD hS hA (fun cA => rfl) hn hN hby hcells hslots hdg (fun q cA H1 hK2 hP2 hD2 hS2 => ?_)
  have h1 : cA = g.2.2.2.1 := Option.some.inj ((hK2.2 4 (cA, .boolean) rfl).2.symm.trans (hK.2 2 _ rfl).2)
  rw [h1] at hP2 hD2
  exact kk q H1 hP2 hD2 hS2
theorem new_M {index : Nat} (E : Ev p s m meth c cc nL ret own Ts args A g nm) (hcl : (Cond.classLink own index "WordBench$Machine").before args s = true) (hao : va_AO "WordBench$Machine" s) (hP : va_P g.1 vwCl ws H) (hD : va_D A ws) (hS : va_S A s.heap H locs) {n : Int32} {N' : Nat} (hn : ¬ n < 0) (hN : n.toNatClampNeg = N') (hby : N' * 4 ≤ 536870912) (hcells : cells + 1 ≤ R.cells) (hslots : slots + N' ≤ R.slots) (hdg : decode cc pc = .ok (.anewarray index, 3))
    (kk : ∀ (q : Nat) (H1 : Heap), va_P g.1 vwCl (ws ++ [(q, .inl (g.2.2.2.2, N', .inr (.inr (.inr (.inr (fun _ => none))))))]) H1 → va_D A (ws ++ [(q, .inl (g.2.2.2.2, N', .inr (.inr (.inr (.inr (fun _ => none))))))]) → va_S A s.heap H1 locs → W p l e R s m args below meth c H1 locs (cells + 1) (slots + N') QQ (F0 m (pc + 3) ls (.ref q :: rest))) : W p l e R s m args below meth c H locs cells slots QQ (F0 m pc ls (.int n :: rest)) := by
  obtain ⟨hx, hb, hr, hml, hown, hts, hlocks, hA, hZ, hK, hnm⟩ := E
  refine va_newq (C := "WordBench$Machine") hx hb hown hcl hao hK hP hD hS hA hn hN hby hcells hslots hdg (fun q cA H1 hK2 hP2 hD2 hS2 => ?_)
  have h1 : cA = g.2.2.2.2 := by
    obtain ⟨k1, m1, e1, e2, e3, e4⟩ := (hK2.2 4 (cA, .object "WordBench$Machine") rfl).2
    obtain ⟨k2, m2, f1, f2, f3, f4⟩ := (hK.2 3 _ rfl).2
    exact Option.some.inj (e4.symm.trans f4)
  rw [h1] at hP2 hD2
  exact kk q H1 hP2 hD2 hS2
end NEW
theorem nbz : narrow .boolean (.int 0) = .int 0 := rfl
theorem nbo : narrow .boolean (.int 1) = .int 1 := rfl
theorem nbv {v : Int32} (h : v = 0 ∨ v = 1) : narrow .boolean (.int v) = .int v := by rcases h with rfl | rfl <;> rfl
