/-! colour: the class's loop beside the reference's -/
abbrev QC : Type := Int32 → (Nat → Int32) → (Nat → Int32) → (Nat → Int32) → (Nat → Int32) → (Nat → Int32) → Prop
def PX (n k : Nat) (mv : Nat → Int32) (o : Nat → Nat) (pm od : Nat → Int32) : Prop := (∀ q l, q < n → l < k → pm (q * 4 + l) = mv (q * 4 + tbl k (o q) l)) ∧ ∀ q, q < n → od q = nI (o q)
section PNT
variable {n k : Nat} {mv : Nat → Int32}
theorem PX.set {q v : Nat} {o : Nat → Nat} {pm od pm' : Nat → Int32} (hk : k ≤ 4) (h : PX n k mv o pm od) (e1 : ∀ l, l < k → pm' (q * 4 + l) = mv (q * 4 + tbl k v l)) (e2 : ∀ i, ¬ (q * 4 ≤ i ∧ i < q * 4 + 4) → pm' i = pm i) : PX n k mv (fun x => if x = q then v else o x) pm' (upd od q (nI v)) := by
  refine ⟨fun p l hp hl => ?_, fun p hp => ?_⟩
  · show _ = mv (p * 4 + tbl k (if p = q then v else o p) l)
    by_cases c : p = q
    · subst c; rw [if_pos rfl, e1 l hl]
    · rw [if_neg c, e2 _ (by omega)]; exact h.1 p l hp hl
  · show _ = nI (if p = q then v else o p)
    by_cases c : p = q
    · subst c; rw [if_pos rfl, pk_us]
    · rw [if_neg c, pk_un c]; exact h.2 p hp
theorem upd_upd {f : Nat → Int32} {q : Nat} {a b : Int32} : upd (upd f q a) q b = upd f q b := by
  funext x
  by_cases c : x = q
  · subst c; rw [pk_us, pk_us]
  · rw [pk_un c, pk_un c, pk_un c]
theorem cls_turn {Q : Int32 → (Nat → Int32) → (Nat → Int32) → Prop} (hn : n ≤ 12) (hk : k ≤ 4) (hm : MV n k mv) : ∀ (q : Nat), q ≤ n → ∀ (o : Nat → Nat) (od pm : Nat → Int32), VAL n k o → PX n k mv o pm od → (∀ pm' od', PX n k mv (odo (fac k) q o).1 pm' od' → Q (if (odo (fac k) q o).2 = true then nI 1 else nI 0) od' pm') → L_X1_turnOn_15 (nI 12) (nI 4) (nI n) (nI k) mv (nI (fac k)) Q (q + 1) (nI q - nI 1) od pm
  | 0, _, o, od, pm, hv, hx, hQ => by
    unfold L_X1_turnOn_15
    rw [nI_0m1]
    exact b_T (by decide) (hQ pm od hx)
  | q + 1, hq, o, od, pm, hv, hx, hQ => by
    have hf := fac_le k (by omega)
    have hoq := hv q (by omega)
    unfold L_X1_turnOn_15 J_X1_turnOn_50 J_X1_turnOn_64
    rw [pk_sub (show 1 ≤ q + 1 by omega), show q + 1 - 1 = q by omega, nI_clamp (n := q) (by omega), hx.2 q (by omega), nI_1', pk_us]
    refine b_F (nI_nlt0 (by omega)) (b_F (nI_ge (by omega) (by omega)) ⟨vin (by omega) (by omega), vin (by omega) (by omega), vin (by omega) (by omega), b_le (by omega) (by omega) (fun c => ?_) (fun c => ?_)⟩)
    · have eo : odo (fac k) (q + 1) o = odo (fac k) q (fun x => if x = q then 0 else o x) := by rw [odo, if_neg (by omega)]
      rw [eo] at hQ
      rw [upd_upd, am1]
      refine b_nF rfl ⟨vin (by omega) (by omega), sp_exch1 hn hk hm (by omega) hf.1 pk_us (fun pm' e1 e2 => b_T rfl (cls_turn hn hk hm q (by omega) _ _ pm' (hv.set hf.1) (hx.set hk e1 e2) hQ))⟩
    · have eo : odo (fac k) (q + 1) o = (fun x => if x = q then o q + 1 else o x, true) := by rw [odo, if_pos (by omega)]
      rw [eo] at hQ
      refine b_nT ne10 (sp_exch1 hn hk hm (by omega) (v := o q + 1) (by omega) pk_us (fun pm' e1 e2 => b_F ne10 ?_))
      have := hQ pm' _ (hx.set hk e1 e2)
      rw [if_pos rfl] at this
      exact this
theorem sp_turnOn {Q : Int32 → (Nat → Int32) → (Nat → Int32) → Prop} {o : Nat → Nat} {od pm : Nat → Int32} (hn : n ≤ 12) (hk0 : 1 ≤ k) (hk : k ≤ 4) (hm : MV n k mv) (hv : VAL n k o) (hx : PX n k mv o pm od) (hQ : ∀ pm' od', PX n k mv (odo (fac k) n o).1 pm' od' → Q (if (odo (fac k) n o).2 = true then nI 1 else nI 0) od' pm') : wp_X1_turnOn od (nI 12) (nI 4) pm (nI n) (nI k) mv Q := by
  unfold wp_X1_turnOn
  exact sp_ordersOf hk0 hk ⟨n + 1, cls_turn hn hk hm n (Nat.le_refl _) o od pm hv hx hQ⟩
theorem wt_of (hn : n ≤ 12) (hm : MV n k mv) (hw : WH n k mv) : WT n k mv := fun q l hq hl => by
  have := tg_of hn hm hq hl (hw q l hq hl)
  exact ⟨this.2, this.1⟩
theorem PX.wt {o : Nat → Nat} {pm od : Nat → Int32} (hn : n ≤ 12) (hk : k ≤ 4) (hw : WT n k mv) (hv : VAL n k o) (h : PX n k mv o pm od) : WT n k pm := fun q l hq hl => by
  have e := h.1 q l hq hl
  obtain ⟨e1, e2⟩ := hw q _ hq (tbl_lt hk (hv q hq) hl)
  have e3 : tg pm q l = tg mv q (tbl k (o q) l) := by unfold tg; rw [e]
  rw [e3, e]
  exact ⟨e1, e2⟩
theorem PX_tg {o : Nat → Nat} {pm od : Nat → Int32} (hk : k ≤ 4) (h : PX n k mv o pm od) {q l : Nat} (hq : q < n) (hl : l < k) : tg (cmo k mv o) q l = tg pm q l ∧ cmo k mv o (q * 4 + l) = pm (q * 4 + l) := by
  have e : cmo k mv o (q * 4 + l) = pm (q * 4 + l) := by rw [cmo_at (by omega), h.1 q l hq hl]
  exact ⟨congrArg Int32.toNatClampNeg e, e⟩
end PNT
