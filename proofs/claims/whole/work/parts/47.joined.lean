/-! the reference's pairs that are joined, sweep by sweep -/
section JOI
variable {n k j : Nat} {mv mo st lc : Nat → Int32} {a1 a2 a3 a4 : Int32}
def isJ (jn : Nat → Int32) : Nat → Nat → Bool := fun p q => decide (jn (12 * p + q) ≠ nI 0)
/-- joined pairs: sound, and both ways -/
def JST (n k : Nat) (mv jn : Nat → Int32) : Prop := (∀ a b, a < n → b < n → jn (12 * a + b) = nI 0 ∨ jn (12 * a + b) = nI 1) ∧ (∀ a b, a < n → b < n → jn (12 * a + b) = jn (12 * b + a)) ∧ ∀ a b, a < n → b < n → isJ jn a b = true → ∃ d, md mv k d a b = true
/-- nothing more is joined by P, R and what comes before -/
def JCL (n k : Nat) (mv jn : Nat → Int32) (p q l : Nat) : Prop := mv (p * 4 + l) ≠ -1 → mv (q * 4 + l) ≠ -1 → (tg mv p l = tg mv q l ∨ isJ jn (tg mv p l) (tg mv q l) = true) → isJ jn p q = true
theorem JCL.md (hn : n ≤ 12) (hm : MV n k mv) {jn : Nat → Int32} (hs : JST n k mv jn) (h : ∀ p q l, p < q → q < n → l < k → JCL n k mv jn p q l) : ∀ (d p q : Nat), p < n → q < n → p ≠ q → md mv k d p q = true → isJ jn p q = true := by
  have sym : ∀ a b, a < n → b < n → isJ jn a b = isJ jn b a := fun a b ha hb => by unfold isJ; rw [hs.2.1 a b ha hb]
  intro d
  induction d with
  | zero => intro p q _ _ hpq hmd; exact absurd (of_decide_eq_true hmd) hpq
  | succ d ih =>
    intro p q hp hq hpq hmd
    rcases md_s.mp hmd with y | ⟨l, hl, c1, c2, c3⟩
    · exact ih p q hp hq hpq y
    · obtain ⟨t1, -⟩ := tg_of hn hm hp hl c1
      obtain ⟨t2, -⟩ := tg_of hn hm hq hl c2
      have ht : tg mv p l = tg mv q l ∨ isJ jn (tg mv p l) (tg mv q l) = true := by
        by_cases e : tg mv p l = tg mv q l
        · exact Or.inl e
        · exact Or.inr (ih _ _ t1 t2 e c3)
      rcases Nat.lt_or_gt_of_ne hpq with c | c
      · exact h p q l c hq hl c1 c2 ht
      · rw [sym p q hp hq]
        exact h q p l c hp hl c2 c1 (ht.imp (fun z => z.symm) (fun z => by rw [sym _ _ t2 t1]; exact z))
/-- the state of the sweeps: flags, how many are left; whether one was joined since -/
def JSW (n k : Nat) (mv : Nat → Int32) (N0 : Nat) (left more : Int32) (jn : Nat → Int32) (cl : Nat → Nat → Nat → Prop) : Prop := JST n k mv jn ∧ left = nI (TT n - NJ n (isJ jn)) ∧ ((more = nI 0 ∧ N0 = NJ n (isJ jn) ∧ ∀ p q l, p < q → q < n → l < k → cl p q l → JCL n k mv jn p q l) ∨ more = nI 1 ∧ N0 + 1 ≤ NJ n (isJ jn))
theorem jn_let {N0 p q : Nat} {left more : Int32} {jn : Nat → Int32} {G : Int32 → Int32 → Int32 → (Nat → Int32) → Prop} (hn : n ≤ 12) (hk : k ≤ 4) (hj : j < 6) (hm : MV n k mv) (hlc : lc j = nI k) (hr : RMv n k j mo mv) (hpq : p < q) (hq : q < n)
    (h : JSW n k mv N0 left more jn (fun a b _ => a < p ∨ (a = p ∧ b < q))) (hG : ∀ left more jn, JSW n k mv N0 left more jn (fun a b _ => a < p ∨ (a = p ∧ b < q + 1)) → G left more (nI (q + 1)) jn) : ∃ f, L_X12_apartPairs_72 a1 a2 a3 a4 lc mo (nI j) (nI p) (nI q) G f left more (nI 0) jn := by
  refine pk_loop (fun f l (x : Int32 × Int32 × (Nat → Int32)) => L_X12_apartPairs_72 a1 a2 a3 a4 lc mo (nI j) (nI p) (nI q) G f x.1 x.2.1 (nI l) x.2.2) (fun l x => JSW n k mv N0 x.1 x.2.1 x.2.2 (fun a b c => (a < p ∨ (a = p ∧ b < q)) ∨ (a = p ∧ b = q ∧ c < l))) k 0 (left, more, jn) (Nat.zero_le _) ⟨h.1, h.2.1, h.2.2.imp (fun z => ⟨z.1, z.2.1, fun a b c hab hb hc e => z.2.2 a b c hab hb hc (e.resolve_right (fun y => by omega))⟩) id⟩ ?_ ?_
  · rintro f ⟨x1, x2, x3⟩ hx
    show L_X12_apartPairs_72 a1 a2 a3 a4 lc mo (nI j) (nI p) (nI q) G (f + 1) x1 x2 (nI k) x3
    unfold L_X12_apartPairs_72
    refine ⟨vin hj (by omega), ?_⟩
    rw [nI_clamp (by omega), hlc]
    refine b_T (nI_le (Nat.le_refl _) (by omega)) ?_
    unfold J_X12_apartPairs_192
    rw [nI_1']
    exact hG _ _ _ ⟨hx.1, hx.2.1, hx.2.2.imp (fun z => ⟨z.1, z.2.1, fun a b c hab hb hc e => z.2.2 a b c hab hb hc (by omega)⟩) id⟩
  · rintro f l ⟨x1, x2, jn⟩ hl hx ih
    show L_X12_apartPairs_72 a1 a2 a3 a4 lc mo (nI j) (nI p) (nI q) G (f + 1) x1 x2 (nI l) jn
    have hx' : JSW n k mv N0 x1 x2 jn (fun a b c => (a < p ∨ (a = p ∧ b < q)) ∨ (a = p ∧ b = q ∧ c < l)) := hx
    obtain ⟨g1, g2, g3⟩ := hx'
    unfold L_X12_apartPairs_72
    refine ⟨vin hj (by omega), ?_⟩
    rw [nI_clamp (by omega), hlc, pk_mul, pk_mul, pk_mul, pk_mul, pk_mul, nI_add, nI_add, nI_add, nI_add, nI_add, nI_add, nI_clamp (n := 12 * p + q) (by omega), nI_clamp (n := 48 * j + 4 * p + l) (by omega), nI_clamp (n := 48 * j + 4 * q + l) (by omega), nI_clamp (n := 12 * q + p) (by omega), hr p l (by omega) hl, hr q l hq hl]
    -- the flags stay: what this letter asks holds
    have stay : JCL n k mv jn p q l → L_X12_apartPairs_72 a1 a2 a3 a4 lc mo (nI j) (nI p) (nI q) G f x1 x2 (nI (l + 1)) jn := fun hc => ih (x1, x2, jn) ⟨g1, g2, g3.imp (fun z => ⟨z.1, z.2.1, fun a b c hab hb hc2 e => by
      by_cases y : a = p ∧ b = q ∧ c = l
      · obtain ⟨rfl, rfl, rfl⟩ := y; exact hc
      · exact z.2.2 a b c hab hb hc2 (by omega)⟩) id⟩
    refine b_F (nI_ge hl (by omega)) ⟨vin (by omega) (by omega), b_nif (fun c => ?_) (fun c => ⟨vin (by omega) (by omega), vin (by omega) (by omega), ?_⟩)⟩
    · -- joined already: the next pair
      have hJ : isJ jn p q = true := decide_eq_true c
      unfold J_X12_apartPairs_192
      rw [nI_1']
      refine hG _ _ _ ⟨g1, g2, g3.imp (fun z => ⟨z.1, z.2.1, fun a b c hab hb hc2 e => ?_⟩) id⟩
      by_cases y : a = p ∧ b = q
      · obtain ⟨rfl, rfl⟩ := y; exact fun _ _ _ => hJ
      · exact z.2.2 a b c hab hb hc2 (by omega)
    · unfold J_X12_apartPairs_186
      rw [nI_1']
      refine b_if (fun c1 => stay (fun z => absurd c1 z)) (fun c1 => b_if (fun c2 => stay (fun _ z => absurd c2 z)) (fun c2 => ?_))
      obtain ⟨t1, e1⟩ := tg_of hn hm (show p < n by omega) hl c1
      obtain ⟨t2, e2⟩ := tg_of hn hm hq hl c2
      rw [e1, e2]
      unfold wp_X12_isOne
      -- one is joined now
      have join : (tg mv p l = tg mv q l ∨ isJ jn (tg mv p l) (tg mv q l) = true) → L_X12_apartPairs_72 a1 a2 a3 a4 lc mo (nI j) (nI p) (nI q) G f (x1 + (-1)) (nI 1) (nI (l + 1)) (upd (upd jn (12 * p + q) (vp_nar .boolean (nI 1))) (12 * q + p) (vp_nar .boolean (nI 1))) := by
        intro hd
        have ev : vp_nar .boolean (nI 1) = nI 1 := vnz1
        rw [ev]
        have hmd : ∃ d, md mv k d p q = true := by
          rcases hd with y | y
          · exact ⟨1, md_s.mpr (Or.inr ⟨l, hl, c1, c2, by rw [y]; exact md_refl⟩)⟩
          · obtain ⟨d, hd⟩ := g1.2.2 _ _ t1 t2 y
            exact ⟨d + 1, md_s.mpr (Or.inr ⟨l, hl, c1, c2, hd⟩)⟩
        have hold : isJ jn p q = false := by unfold isJ; rw [c]; decide
        have val : ∀ a b, a < n → b < n → upd (upd jn (12 * p + q) (nI 1)) (12 * q + p) (nI 1) (12 * a + b) = if (a = p ∧ b = q) ∨ (a = q ∧ b = p) then nI 1 else jn (12 * a + b) := fun a b ha hb => by
          by_cases y1 : a = q ∧ b = p
          · obtain ⟨rfl, rfl⟩ := y1
            rw [pk_us, if_pos (Or.inr ⟨rfl, rfl⟩)]
          · rw [pk_un (by omega)]
            by_cases y2 : a = p ∧ b = q
            · obtain ⟨rfl, rfl⟩ := y2
              rw [pk_us, if_pos (Or.inl ⟨rfl, rfl⟩)]
            · rw [pk_un (by omega), if_neg (fun z => z.elim y2 y1)]
        have hNJ : NJ n (isJ (upd (upd jn (12 * p + q) (nI 1)) (12 * q + p) (nI 1))) = NJ n (isJ jn) + 1 := NJ_set hpq hq hold (by
          unfold isJ
          rw [val p q (by omega) hq, if_pos (Or.inl ⟨rfl, rfl⟩)]; decide) (fun a b hab hb hne => by
          unfold isJ
          rw [val a b (by omega) hb, if_neg (fun z => z.elim hne (fun w => by omega))])
        have hT := NJ_le (n := n) (f := isJ (upd (upd jn (12 * p + q) (nI 1)) (12 * q + p) (nI 1)))
        rw [NJ_all n (by omega)] at hT
        have hT' : NJ n (isJ jn) + 1 ≤ TT n := by rw [← hNJ]; exact hT
        refine ih (_, _, _) ⟨⟨fun a b ha hb => ?_, fun a b ha hb => ?_, fun a b ha hb hab => ?_⟩, ?_, Or.inr ⟨rfl, ?_⟩⟩
        · show upd (upd jn (12 * p + q) (nI 1)) (12 * q + p) (nI 1) (12 * a + b) = nI 0 ∨ upd (upd jn (12 * p + q) (nI 1)) (12 * q + p) (nI 1) (12 * a + b) = nI 1
          rw [val a b ha hb]
          by_cases y : (a = p ∧ b = q) ∨ (a = q ∧ b = p)
          · rw [if_pos y]; exact Or.inr rfl
          · rw [if_neg y]; exact g1.1 a b ha hb
        · show upd (upd jn (12 * p + q) (nI 1)) (12 * q + p) (nI 1) (12 * a + b) = upd (upd jn (12 * p + q) (nI 1)) (12 * q + p) (nI 1) (12 * b + a)
          rw [val a b ha hb, val b a hb ha]
          by_cases y : (a = p ∧ b = q) ∨ (a = q ∧ b = p)
          · rw [if_pos y, if_pos (by omega)]
          · rw [if_neg y, if_neg (by omega)]; exact g1.2.1 a b ha hb
        · have hab' : isJ (upd (upd jn (12 * p + q) (nI 1)) (12 * q + p) (nI 1)) a b = true := hab
          unfold isJ at hab'
          rw [val a b ha hb] at hab'
          by_cases y : (a = p ∧ b = q) ∨ (a = q ∧ b = p)
          · rcases y with ⟨rfl, rfl⟩ | ⟨rfl, rfl⟩
            · exact hmd
            · obtain ⟨d, hd⟩ := hmd; exact ⟨d, md_sym _ _ _ hd⟩
          · rw [if_neg y] at hab'; exact g1.2.2 a b ha hb hab'
        · show x1 + (-1) = nI (TT n - NJ n (isJ (upd (upd jn (12 * p + q) (nI 1)) (12 * q + p) (nI 1))))
          rw [hNJ, am1, g2, pk_sub (by omega), show TT n - NJ n (isJ jn) - 1 = TT n - (NJ n (isJ jn) + 1) by omega]
        · show N0 + 1 ≤ NJ n (isJ (upd (upd jn (12 * p + q) (nI 1)) (12 * q + p) (nI 1)))
          rw [hNJ]
          rcases g3 with z | z <;> omega
      refine b_eq (by omega) (by omega) (fun d => b_F ne10 ⟨vin (by omega) (by omega), vin (by omega) (by omega), join (Or.inl d)⟩) (fun d => ?_)
      rw [pk_mul, nI_add, nI_clamp (by omega)]
      refine ⟨vin (by omega) (by omega), b_if (fun e => b_T rfl (stay (fun _ _ y => ?_))) (fun e => b_F ne10 ⟨vin (by omega) (by omega), vin (by omega) (by omega), join (Or.inr (decide_eq_true e))⟩)⟩
      exact absurd (y.resolve_left d) (by unfold isJ; rw [e]; decide)
end JOI
