/-! the cheapest: the reference's loop, as a step ahead of what comes after -/
def en (x : Nat) : Int32 := if x = 0 then -1 else nI (x - 1)
theorem en_0 : en 0 = -1 := if_pos rfl
theorem en_s {x : Nat} (h : x ≠ 0) : en x = nI (x - 1) := if_neg h
abbrev QD : Type := Int32 → Int32 → Int32 → (Nat → Int32) → (Nat → Int32) → (Nat → Int32) → (Nat → Int32) → (Nat → Int32) → (Nat → Int32) → (Nat → Int32) → Prop
def DRr (S : Nat) (b : BS) (sm : Nat → Nat) (su fr by_ set : Nat → Int32) : Prop := ∀ s, 0 < s → s < 4096 → su s = en (sm s) ∧ set s = (if inb b s = true then nI 1 else nI 0) ∧ (sm s ≠ 0 → fr s = nI (b.2.2.1 s) ∧ (s ≠ S → by_ s = nI (b.2.2.2 s)))
section DRF
variable {n k j S : Nat} {mv st le mo pc word : Nat → Int32} {a1 qd wl2 : Int32} {m : Nat} {b : BS} {K : Nat → Prop} {sm pv : Nat → Nat}
def RGD (S : Nat) (a1 wl2 qd : Int32) (st le mo pc word : Nat → Int32) (j : Nat) (Q2 : QD) (m : Nat) (b : BS) (K : Nat → Prop) (sm : Nat → Nat) : Prop := ∃ g, ∀ fr by_ su set hs ht, DRr S b sm su fr by_ set → HR m K hs ht → L_X12_cheapest_66 a1 wl2 qd st le mo pc word (nI j) Q2 g (nI m) fr by_ su set hs ht
def RLD (S : Nat) (a1 wl2 qd : Int32) (st le mo pc word : Nat → Int32) (j : Nat) (Q2 : QD) (now m : Nat) (b : BS) (K : Nat → Prop) (sm : Nat → Nat) (l : Nat) : Prop := ∃ g g2, ∀ fr by_ su set hs ht, DRr S b sm su fr by_ set → HR m K hs ht → L_X12_cheapest_118 a1 wl2 qd st le mo pc set (nI j) (nI now) (L_X12_cheapest_66 a1 wl2 qd st le mo pc word (nI j) Q2 g) g2 (nI l) (nI m) fr by_ su hs ht
theorem RGD.none {Q2 : QD} (hQ : ∀ hd fr by_ su set hs ht, Q2 (-1) wl2 hd word fr by_ su set hs ht) : RGD S a1 wl2 qd st le mo pc word j Q2 0 b K sm := ⟨0 + 1, fun fr by_ su set hs ht _ _ => by
  unfold L_X12_cheapest_66
  exact b_T (nI_le (Nat.le_refl _) (by omega)) (hQ _ _ _ _ _ _ _)⟩
theorem RGD.stale {Q2 : QD} {cur B x : Nat} (hm : m < 16999) (hd : DI S cur B b K sm) (hx : K x) (hmin : ∀ y, K y → x ≤ y) (hst : stl b (x % 4096)) (h : RGD S a1 wl2 qd st le mo pc word j Q2 m b (fun y => K y ∧ y ≠ x) sm) : RGD S a1 wl2 qd st le mo pc word j Q2 (m + 1) b K sm := by
  obtain ⟨g, hg⟩ := h
  have hk := (hd.key hx hmin).1
  refine ⟨g + 1, fun fr by_ su set hs ht ha hh => ?_⟩
  unfold L_X12_cheapest_66
  refine b_F (nI_ge (by omega) (by omega)) (sp_leaves (by omega) hh (fun x2 hs' ht' h1 h2 h3 h4 => ?_))
  have e : x2 = x := Nat.le_antisymm (h2 x hx) (hmin x2 h1)
  subst e
  have ha2 := ha _ hk.2.1 hk.2.2
  rw [nI_clamp (by omega), ha2.2.1, if_pos (stl_inb.mpr hst)]
  refine ⟨vin hk.2.2 (by omega), b_nT ne10 ?_⟩
  unfold J_X12_cheapest_237
  exact hg _ _ _ _ _ _ ha h4
theorem DRr.settle {su fr by_ set : Nat → Int32} {s : Nat} (h : DRr S b sm su fr by_ set) : DRr S (bstl b s) sm su fr by_ (upd set s (nI 1)) := fun t t0 t1 => by
  obtain ⟨a1, a2, a3⟩ := h t t0 t1
  refine ⟨a1, ?_, a3⟩
  by_cases c : t = s
  · subst c
    rw [pk_us, if_pos (stl_inb.mpr (bstl_stl.mpr (Or.inr rfl)))]
  · rw [pk_un c, a2]
    by_cases d : inb b t = true
    · rw [if_pos d, if_pos (stl_inb.mpr (bstl_stl.mpr (Or.inl (stl_inb.mp d))))]
    · rw [if_neg d, if_neg (fun z => by
        rcases bstl_stl.mp (stl_inb.mp z) with y | y
        · exact d (stl_inb.mpr y)
        · exact c y)]
theorem RGD.settle {Q2 : QD} {cur B x : Nat} (hm : m < 16999) (hd : DI S cur B b K sm) (hx : K x) (hmin : ∀ y, K y → x ≤ y) (hns : ¬ stl b (x % 4096)) (hp : pop (x % 4096) ≠ 1) (h : RLD S a1 wl2 qd st le mo pc word j Q2 (x % 4096) m (bstl b (x % 4096)) (fun y => K y ∧ y ≠ x) sm 0) : RGD S a1 wl2 qd st le mo pc word j Q2 (m + 1) b K sm := by
  obtain ⟨g, g2, hg⟩ := h
  have hk := (hd.key hx hmin).1
  refine ⟨g + 1, fun fr by_ su set hs ht ha hh => ?_⟩
  unfold L_X12_cheapest_66
  refine b_F (nI_ge (by omega) (by omega)) (sp_leaves (by omega) hh (fun x2 hs' ht' h1 h2 h3 h4 => ?_))
  have e : x2 = x := Nat.le_antisymm (h2 x hx) (hmin x2 h1)
  subst e
  have ha2 := ha _ hk.2.1 hk.2.2
  have hpp := (one_pop _ hk.2.2).2.2
  rw [nI_clamp (by omega), ha2.2.1, if_neg (fun z => hns (stl_inb.mp z)), vnz1]
  refine ⟨vin hk.2.2 (by omega), b_nF rfl ⟨vin hk.2.2 (by omega), sp_many hk.2.2 (b_nT (fun z => hp ((nI_eq (by omega) (by omega)).mp z)) ⟨g2, ?_⟩)⟩⟩
  exact hg _ _ _ _ _ _ ha.settle h4
theorem RGD.found {Q2 : QD} {cur B x : Nat} (hm : m < 16999) (hd : DI S cur B b K sm) (hx : K x) (hmin : ∀ y, K y → x ≤ y) (hns : ¬ stl b (x % 4096)) (hp : pop (x % 4096) = 1) {b2 : BS} (hb : BOK b2) (hi : ∀ s, inb b2 s = true ↔ sm s ≠ 0) (e1 : b2.2.2.1 = b.2.2.1) (e2 : b2.2.2.2 = b.2.2.2) (e0 : b2.1 0 = S) {d : Nat} (hc : CH b2 (x % 4096) d) (hd4 : d < 4096)
    (h1 : ∀ wl' word' hd fr by_ su set hs ht, OUT (x % 4096, b2) wl2 word (nI d) wl' word' → Q2 (nI (sm (x % 4096) - 1)) wl' hd word' fr by_ su set hs ht) : RGD S a1 wl2 qd st le mo pc word j Q2 (m + 1) b K sm := by
  have hk := (hd.key hx hmin).1
  refine ⟨0 + 1, fun fr by_ su set hs ht ha hh => ?_⟩
  unfold L_X12_cheapest_66
  refine b_F (nI_ge (by omega) (by omega)) (sp_leaves (by omega) hh (fun x2 hs' ht' h3 h2 h5 h4 => ?_))
  have e : x2 = x := Nat.le_antisymm (h2 x hx) (hmin x2 h3)
  subst e
  have ha2 := ha _ hk.2.1 hk.2.2
  rw [nI_clamp (by omega), ha2.2.1, if_neg (fun z => hns (stl_inb.mp z)), vnz1]
  refine ⟨vin hk.2.2 (by omega), b_nF rfl ⟨vin hk.2.2 (by omega), sp_many hk.2.2 (b_nF (by rw [hp]) ?_)⟩⟩
  unfold J_X12_cheapest_102
  rw [nI_clamp (by omega), ha2.1, en_s hk.1]
  have hrr : RR b2 (nI b2.2.1) (fun i => nI (b2.1 i)) fr by_ (fun T => if inb b2 T = true then nI 1 else nI 0) := by
    refine ⟨rfl, fun _ _ => rfl, fun _ _ _ => rfl, fun i hi2 => ?_, fun i h0 hi2 => ?_⟩
    · have g := hb.1 i hi2
      have := (ha _ g.1 g.2.1).2.2 ((hi _).mp (inb_iff.mpr ⟨i, hi2, rfl⟩))
      rw [e1]; exact this.1
    · have g := hb.1 i hi2
      have := (ha _ g.1 g.2.1).2.2 ((hi _).mp (inb_iff.mpr ⟨i, hi2, rfl⟩))
      rw [e2]; exact this.2 (fun z => hb.2.1 0 i h0 hi2 (e0.trans z.symm))
  exact sp_becomes hb hrr hc hd4 (fun z w' hw' => ⟨vin hk.2.2 (by omega), h1 _ _ _ _ _ _ _ _ _ (Or.inr ⟨by show x2 % 4096 ≠ 0; omega, d, hc, rfl, Or.inl ⟨z, rfl, hw'⟩⟩)⟩) (fun z => ⟨vin hk.2.2 (by omega), h1 _ _ _ _ _ _ _ _ _ (Or.inr ⟨by show x2 % 4096 ≠ 0; omega, d, hc, rfl, Or.inr ⟨z, rfl, rfl⟩⟩)⟩)
theorem RLD.done {Q2 : QD} {now : Nat} (hj : j < 6) (hle : le j = nI k) (hk : k ≤ 4) (h : RGD S a1 wl2 qd st le mo pc word j Q2 m b K sm) : RLD S a1 wl2 qd st le mo pc word j Q2 now m b K sm k := by
  obtain ⟨g, hg⟩ := h
  refine ⟨g, 0 + 1, fun fr by_ su set hs ht ha hh => ?_⟩
  unfold L_X12_cheapest_118 J_X12_cheapest_237
  rw [nI_clamp (by omega), hle]
  exact ⟨vin hj (by omega), b_T (nI_le (Nat.le_refl _) (by omega)) (hg _ _ _ _ _ _ ha hh)⟩
/-- what a letter adds, for the reference -/
theorem RLD.skip {Q2 : QD} {cur B now l : Nat} (hn : n ≤ 12) (hk : k ≤ 4) (hj : j < 6) (hm : MV n k mv) (hst : st j = nI n) (hle : le j = nI k) (hr : RMv n k j mo mv) (hpc : ∀ l, l < k → 1 ≤ pv l ∧ pv l ≤ 20 ∧ pc (4 * j + l) = nI (pv l)) (hl : l < k) (hd : DI S cur B b K sm) (hB : B ≤ 100000) (hnow : sm now ≠ 0) (hc : stp n mv now l = 0 ∨ (sm (stp n mv now l) ≠ 0 ∧ sm (stp n mv now l) ≤ sm now + pv l))
    (h : RLD S a1 wl2 qd st le mo pc word j Q2 now m b K sm (l + 1)) : RLD S a1 wl2 qd st le mo pc word j Q2 now m b K sm l := by
  obtain ⟨g, g2, hg⟩ := h
  have d5 := hd.2.2.2.2.1
  have hn5 := d5 now hnow
  have h12 : 2 ^ n ≤ 2 ^ 12 := Nat.pow_le_pow_right (by decide) hn
  have hlt := stp_lt2 (S := now) hm hn hl
  obtain ⟨p1, p2, p3⟩ := hpc l hl
  refine ⟨g, g2 + 1, fun fr by_ su set hs ht ha hh => ?_⟩
  have goal := hg fr by_ su set hs ht ha hh
  have han := ha now hn5.1 hn5.2.1
  unfold L_X12_cheapest_118 J_X12_cheapest_231
  rw [nI_1', nI_clamp (n := j) (by omega), hle]
  refine ⟨vin hj (by omega), b_F (nI_ge hl (by omega)) (sp_next hn hk hj hst hr hm hl (by omega) ?_)⟩
  rw [pk_mul, nI_add, nI_clamp (n := now) (by omega), nI_clamp (n := 4 * j + l) (by omega), p3, han.1, en_s hnow, nI_add]
  refine ⟨vin (by omega) (by omega), vin (by omega) (by omega), b_le (by omega) (by omega) (fun _ => goal) (fun z => ?_)⟩
  rw [nI_clamp (n := stp n mv now l) (by omega)]
  have hat := ha (stp n mv now l) (by omega) (by omega)
  rcases hc with c | ⟨c1, c2⟩
  · omega
  · have ht5 := d5 _ c1
    rw [hat.2.1, hat.1, en_s c1]
    refine ⟨vin (by omega) (by omega), ?_⟩
    by_cases y : inb b (stp n mv now l) = true
    · rw [if_pos y]
      exact b_nT ne10 goal
    · rw [if_neg y]
      exact b_nF rfl ⟨vin (by omega) (by omega), b_F (nI_m1 (by omega)) ⟨vin (by omega) (by omega), b_T (nI_le (by omega) (by omega)) goal⟩⟩
theorem DRr.push {su fr by_ set : Nat → Int32} {to now l v : Nat} (h : DRr S b sm su fr by_ set) : DRr S (bset b to now l) (sset sm to (v + 1)) (upd su to (nI v)) (upd fr to (nI now)) (upd by_ to (nI l)) set := fun t t0 t1 => by
  obtain ⟨a1, a2, a3⟩ := h t t0 t1
  by_cases c : t = to
  · subst c
    refine ⟨?_, a2, fun _ => ⟨?_, fun _ => ?_⟩⟩
    · rw [pk_us]
      show nI v = en (if t = t then v + 1 else sm t)
      rw [if_pos rfl, en_s (by omega)]; rfl
    · rw [pk_us]
      show nI now = nI (if t = t then now else b.2.2.1 t)
      rw [if_pos rfl]
    · rw [pk_us]
      show nI l = nI (if t = t then l else b.2.2.2 t)
      rw [if_pos rfl]
  · refine ⟨?_, a2, fun z => ⟨?_, fun z2 => ?_⟩⟩
    · rw [pk_un c]
      show su t = en (if t = to then v + 1 else sm t)
      rw [if_neg c]; exact a1
    · rw [pk_un c]
      show fr t = nI (if t = to then now else b.2.2.1 t)
      rw [if_neg c]
      have z' : (if t = to then v + 1 else sm t) ≠ 0 := z
      rw [if_neg c] at z'
      exact (a3 z').1
    · rw [pk_un c]
      show by_ t = nI (if t = to then l else b.2.2.2 t)
      rw [if_neg c]
      have z' : (if t = to then v + 1 else sm t) ≠ 0 := z
      rw [if_neg c] at z'
      exact (a3 z').2 z2
theorem RLD.push {Q2 : QD} {cur B now l : Nat} (hn : n ≤ 12) (hk : k ≤ 4) (hj : j < 6) (hm : MV n k mv) (hst : st j = nI n) (hle : le j = nI k) (hr : RMv n k j mo mv) (hpc : ∀ l, l < k → 1 ≤ pv l ∧ pv l ≤ 20 ∧ pc (4 * j + l) = nI (pv l)) (hl : l < k) (hm7 : m < 16999) (hd : DI S cur B b K sm) (hB : B ≤ 100000) (hnow : sm now ≠ 0) (hcur : sm now = cur + 1) (h0 : stp n mv now l ≠ 0) (hc : sm (stp n mv now l) = 0 ∨ sm now + pv l < sm (stp n mv now l))
    (h : RLD S a1 wl2 qd st le mo pc word j Q2 now (m + 1) (bset b (stp n mv now l) now l) (fun y => K y ∨ y = (cur + pv l) * 4096 + stp n mv now l) (sset sm (stp n mv now l) (cur + pv l + 1)) (l + 1)) : RLD S a1 wl2 qd st le mo pc word j Q2 now m b K sm l := by
  obtain ⟨g, g2, hg⟩ := h
  have d5 := hd.2.2.2.2.1
  have hn5 := d5 now hnow
  have h12 : 2 ^ n ≤ 2 ^ 12 := Nat.pow_le_pow_right (by decide) hn
  have hlt := stp_lt2 (S := now) hm hn hl
  obtain ⟨p1, p2, p3⟩ := hpc l hl
  obtain ⟨hns, hnk⟩ := hd.fresh (to := stp n mv now l) (w := cur + pv l) (by omega) (by omega)
  refine ⟨g, g2 + 1, fun fr by_ su set hs ht ha hh => ?_⟩
  have han := ha now hn5.1 hn5.2.1
  have hat := ha (stp n mv now l) (by omega) (by omega)
  unfold L_X12_cheapest_118
  rw [nI_clamp (n := j) (by omega), hle]
  refine ⟨vin hj (by omega), b_F (nI_ge hl (by omega)) (sp_next hn hk hj hst hr hm hl (by omega) ?_)⟩
  rw [pk_mul, nI_add, nI_clamp (n := now) (by omega), nI_clamp (n := 4 * j + l) (by omega), p3, han.1, en_s hnow, nI_add, hcur, show cur + 1 - 1 = cur by omega]
  refine ⟨vin (by omega) (by omega), vin (by omega) (by omega), b_F (nI_ge (by omega) (by omega)) ?_⟩
  rw [nI_clamp (n := stp n mv now l) (by omega), hat.2.1, if_neg (fun z => hns (stl_inb.mp z)), hat.1]
  have push : J_X12_cheapest_197 a1 wl2 qd (nI now) (L_X12_cheapest_118 a1 wl2 qd st le mo pc set (nI j) (nI now) (L_X12_cheapest_66 a1 wl2 qd st le mo pc word (nI j) Q2 g) g2) (nI l) (nI (stp n mv now l)) (nI (cur + pv l)) (nI m) fr by_ su hs ht := by
    unfold J_X12_cheapest_197 J_X12_cheapest_231
    rw [nI_clamp (by omega), nI_1']
    have v1 : vp_in (nI (stp n mv now l)) 4096 := vin (by omega) (by omega)
    exact ⟨v1, v1, v1, sp_heaps (by omega) (by omega) (by omega) hh (hnk (by omega)) (fun hs' ht' hh' => hg _ _ _ _ _ _ ha.push hh')⟩
  refine ⟨vin (by omega) (by omega), b_nF rfl ⟨vin (by omega) (by omega), ?_⟩⟩
  rcases Nat.eq_zero_or_pos (sm (stp n mv now l)) with z | z
  · rw [z, en_0]
    exact b_T rfl push
  · have ht5 := d5 (stp n mv now l) (by omega)
    rw [en_s (by omega)]
    exact b_F (nI_m1 (by omega)) ⟨vin (by omega) (by omega), b_F (nI_ge (by omega) (by omega)) push⟩
end DRF
