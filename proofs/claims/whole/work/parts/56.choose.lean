/-! greedy: all pairs tried, class beside reference -/
section CHO
variable {n k j S L : Nat} {mv le low high st lc mo : Nat → Int32} {a1 a2 a3 w cs : Int32}
/-- the reference's inner loop from q on, as a step ahead of what comes after -/
def RIN (a1 a2 a3 : Int32) (st lc mo : Nat → Int32) (j S p q : Nat) (x3 : Int32) (bw : Nat → Int32) (x3' : Int32) (bw' : Nat → Int32) : Prop := ∀ R : Int32 → Int32 → Int32 → (Nat → Int32) → (Nat → Int32) → (Nat → Int32) → (Nat → Int32) → (Nat → Int32) → (Nat → Int32) → Prop, (∀ qd qu f b z pw, R x3' (nI (p + 1)) qd qu f b z pw bw') → ∃ g, ∀ qd qu f b z pw, L_X12_bestPair_22 a1 a2 a3 st lc mo (nI j) (nI S) (nI p) R g x3 (nI q) qd qu f b z pw bw
def ROU (a1 a2 a3 : Int32) (st lc mo : Nat → Int32) (j S p : Nat) (x3 : Int32) (bw : Nat → Int32) (x3' : Int32) (bw' : Nat → Int32) : Prop := ∀ R : Int32 → Int32 → (Nat → Int32) → (Nat → Int32) → (Nat → Int32) → (Nat → Int32) → (Nat → Int32) → (Nat → Int32) → Prop, (∀ qd qu f b z pw, R x3' qd qu f b z pw bw') → ∃ g, ∀ qd qu f b z pw, L_X12_bestPair_5 a1 a2 a3 st lc mo (nI j) (nI S) R g x3 (nI p) qd qu f b z pw bw
theorem RIN.done {p q : Nat} {x3 : Int32} {bw : Nat → Int32} (hj : j < 6) (hst : st j = nI n) (hq : n ≤ q) (hq2 : q < 100) : RIN a1 a2 a3 st lc mo j S p q x3 bw x3 bw := fun R hR => ⟨0 + 1, fun qd qu f b z pw => by
  unfold L_X12_bestPair_22
  rw [nI_clamp (by omega), hst]
  refine ⟨vin hj (by omega), b_T (nI_le hq (by omega)) ?_⟩
  unfold J_X12_bestPair_153
  rw [nI_1']
  exact hR _ _ _ _ _ _⟩
theorem bit1 {p : Nat} (hS : S < 2 ^ 31) (hp : p < 32) : (nI S >>> (nI p &&& 31)) &&& nI 1 = nI (S / 2 ^ p % 2) := by rw [nI_shr hS hp, nI_bit]
theorem RIN.skip {p q : Nat} {x3 x3' : Int32} {bw bw' : Nat → Int32} (hn : n ≤ 12) (hj : j < 6) (hst : st j = nI n) (hS : S < 2 ^ 31) (hp : p < n) (hq : q < n) (hno : ¬ (S.testBit p = true ∧ S.testBit q = true)) (h : RIN a1 a2 a3 st lc mo j S p (q + 1) x3 bw x3' bw') : RIN a1 a2 a3 st lc mo j S p q x3 bw x3' bw' := fun R hR => by
  obtain ⟨g, hg⟩ := h R hR
  refine ⟨g + 1, fun qd qu f b z pw => ?_⟩
  unfold L_X12_bestPair_22 J_X12_bestPair_147
  rw [nI_clamp (by omega), hst, bit1 hS (by omega), bit1 hS (by omega), nI_1']
  refine ⟨vin hj (by omega), b_F (nI_ge hq (by omega)) (b_nif (fun _ => hg _ _ _ _ _ _) (fun c1 => b_nif (fun _ => hg _ _ _ _ _ _) (fun c2 => absurd ⟨?_, ?_⟩ hno)))⟩
  · exact (tb_div S p).mp ((nI_eq (by omega) (by omega)).mp c1)
  · exact (tb_div S q).mp ((nI_eq (by omega) (by omega)).mp c2)
theorem RIN.take {p q : Nat} {x3 x3' x3'' : Int32} {bw bw' bw'' : Nat → Int32} (hn : n ≤ 12) (hj : j < 6) (hst : st j = nI n) (hS : S < 2 ^ 31) (hp : p < n) (hq : q < n) (hbp : S.testBit p = true) (hbq : S.testBit q = true) (h1 : RTR a1 a2 a3 st lc mo j S q x3 x3'' bw bw'' (nI (2 ^ p ||| 2 ^ q))) (h : RIN a1 a2 a3 st lc mo j S p (q + 1) x3'' bw'' x3' bw') : RIN a1 a2 a3 st lc mo j S p q x3 bw x3' bw' := fun R hR => by
  obtain ⟨g, hg⟩ := h R hR
  refine ⟨g + 1, fun qd qu f b z pw => ?_⟩
  unfold L_X12_bestPair_22
  rw [nI_clamp (by omega), hst, bit1 hS (by omega), bit1 hS (by omega), nI_shl1 (by omega), nI_shl1 (by omega), nI_or, (tb_div S p).mpr hbp, (tb_div S q).mpr hbq]
  exact ⟨vin hj (by omega), b_F (nI_ge hq (by omega)) (b_nF rfl (b_nF rfl (h1 _ hg _ _ _ _ _ _)))⟩
theorem ROU.done {p : Nat} {x3 : Int32} {bw : Nat → Int32} (hj : j < 6) (hst : st j = nI n) (hp : n ≤ p) (hp2 : p < 100) : ROU a1 a2 a3 st lc mo j S p x3 bw x3 bw := fun R hR => ⟨0 + 1, fun qd qu f b z pw => by
  unfold L_X12_bestPair_5
  rw [nI_clamp (by omega), hst]
  exact ⟨vin hj (by omega), b_T (nI_le hp (by omega)) (hR _ _ _ _ _ _)⟩⟩
theorem ROU.row {p : Nat} {x3 x3' x3'' : Int32} {bw bw' bw'' : Nat → Int32} (hn : n ≤ 12) (hj : j < 6) (hst : st j = nI n) (hp : p < n) (h1 : RIN a1 a2 a3 st lc mo j S p (p + 1) x3 bw x3'' bw'') (h : ROU a1 a2 a3 st lc mo j S (p + 1) x3'' bw'' x3' bw') : ROU a1 a2 a3 st lc mo j S p x3 bw x3' bw' := fun R hR => by
  obtain ⟨g, hg⟩ := h R hR
  obtain ⟨g2, hg2⟩ := h1 _ hg
  refine ⟨g + 1, fun qd qu f b z pw => ?_⟩
  unfold L_X12_bestPair_5
  rw [nI_clamp (by omega), hst, nI_1']
  exact ⟨vin hj (by omega), b_F (nI_ge hp (by omega)) ⟨g2, hg2 _ _ _ _ _ _⟩⟩
theorem two_bits {p q : Nat} (hS : S < 2 ^ 31) (hp : p < 32) (hq : q < 32) : (((nI S >>> (nI p &&& 31)) &&& (nI S >>> (nI q &&& 31))) &&& nI 1 = nI 0) ↔ ¬ (S.testBit p = true ∧ S.testBit q = true) := by
  have a := Nat.div_le_self S (2 ^ p)
  have b := Nat.div_le_self S (2 ^ q)
  have c : S / 2 ^ p &&& S / 2 ^ q ≤ S / 2 ^ p := Nat.and_le_left
  rw [nI_shr hS hp, nI_shr hS hq, nI_and, nI_bit, nI_eq (by omega) (by omega), ← tb_div S p, ← tb_div S q, ← Nat.and_one_is_mod, ← Nat.and_one_is_mod (S / 2 ^ p), ← Nat.and_one_is_mod (S / 2 ^ q)]
  have e : (S / 2 ^ p &&& S / 2 ^ q) &&& 1 = (S / 2 ^ p &&& 1) &&& (S / 2 ^ q &&& 1) := by
    apply Nat.eq_of_testBit_eq
    intro i
    simp only [Nat.testBit_and]
    cases (S / 2 ^ p).testBit i <;> cases (S / 2 ^ q).testBit i <;> cases (1 : Nat).testBit i <;> rfl
  rw [e, Nat.and_one_is_mod (S / 2 ^ p), Nat.and_one_is_mod (S / 2 ^ q)]
  have h1 : S / 2 ^ p % 2 < 2 := Nat.mod_lt _ (by decide)
  have h2 : S / 2 ^ q % 2 < 2 := Nat.mod_lt _ (by decide)
  generalize S / 2 ^ p % 2 = x at h1 ⊢
  generalize S / 2 ^ q % 2 = y at h2 ⊢
  have : ∀ x, x < 2 → ∀ y, y < 2 → (x &&& y = 0 ↔ ¬ (x = 1 ∧ y = 1)) := by decide
  exact this x h1 y h2
theorem hi_bit {q : Nat} (hS : S < 2 ^ n) (hq : n ≤ q) : ¬ S.testBit q = true := fun h => by
  have := Nat.ge_two_pow_of_testBit h
  have : 2 ^ n ≤ 2 ^ q := Nat.pow_le_pow_right (by decide) hq
  omega
theorem cho_in {p : Nat} {x3 bs bl tl : Int32} {bw br tr : Nat → Int32} {G : Int32 → Int32 → Int32 → (Nat → Int32) → Int32 → (Nat → Int32) → Prop} (hn : n ≤ 12) (hk : k ≤ 4) (hj : j < 6) (hm : MV n k mv) (hst : st j = nI n) (hlc : lc j = nI k) (hr : RMv n k j mo mv) (ht : TB n k mv low high) (h : LEN n k mv le L) (hf : FIX n k mv L) (hL : L ≤ 67) (hS : S < 2 ^ n) (hp : p < n) (hB : BR n k mv S bs bl br x3 bw)
    (hG : ∀ bs' bl' br' tl' tr' x3' bw', BR n k mv S bs' bl' br' x3' bw' → RIN a1 a2 a3 st lc mo j S p (p + 1) x3 bw x3' bw' → G (nI (p + 1)) bs' bl' br' tl' tr') : ∃ f, L_X2_choose_18 cs low high w le (nI n) (nI k) mv (nI S) (nI p) G f (nI (p + 1)) bs bl br tl tr := by
  have h12 : 2 ^ n ≤ 2 ^ 12 := Nat.pow_le_pow_right (by decide) hn
  refine pk_loop (fun f q (s : Int32 × Int32 × (Nat → Int32) × Int32 × (Nat → Int32)) => L_X2_choose_18 cs low high w le (nI n) (nI k) mv (nI S) (nI p) G f (nI q) s.1 s.2.1 s.2.2.1 s.2.2.2.1 s.2.2.2.2) (fun q s => p < q ∧ ∃ x bx, BR n k mv S s.1 s.2.1 s.2.2.1 x bx ∧ ∀ x3' bw', RIN a1 a2 a3 st lc mo j S p (min q n) x bx x3' bw' → RIN a1 a2 a3 st lc mo j S p (p + 1) x3 bw x3' bw') 12 (p + 1) (bs, bl, br, tl, tr) (by omega) ⟨by omega, x3, bw, hB, fun x3' bw' hr => by rw [Nat.min_eq_left (by omega)] at hr; exact hr⟩ ?_ ?_
  · rintro f ⟨s1, s2, s3, s4, s5⟩ ⟨-, x, bx, b1, b2⟩
    show L_X2_choose_18 cs low high w le (nI n) (nI k) mv (nI S) (nI p) G (f + 1) (nI 12) s1 s2 s3 s4 s5
    unfold L_X2_choose_18 J_X2_choose_53
    rw [nI_1']
    exact b_T (nI_le (Nat.le_refl _) (by omega)) (hG _ _ _ _ _ _ _ b1 (b2 _ _ (RIN.done hj hst (by omega) (by omega))))
  · rintro f q ⟨s1, s2, s3, s4, s5⟩ hq ⟨hpq, x, bx, b1, b2⟩ ih
    show L_X2_choose_18 cs low high w le (nI n) (nI k) mv (nI S) (nI p) G (f + 1) (nI q) s1 s2 s3 s4 s5
    unfold L_X2_choose_18 J_X2_choose_47
    rw [nI_1']
    refine b_F (nI_ge hq (by omega)) (b_if (fun c => ?_) (fun c => ?_))
    · have c' := (two_bits (S := S) (p := p) (q := q) (by omega) (by omega) (by omega)).mp c
      refine ih (s1, s2, s3, s4, s5) ⟨by omega, x, bx, b1, fun x3' bw' hr => b2 _ _ ?_⟩
      rcases Nat.lt_or_ge q n with z | z
      · rw [Nat.min_eq_left (by omega)] at hr ⊢
        exact RIN.skip hn hj hst (by omega) hp z c' hr
      · rw [Nat.min_eq_right (by omega)] at hr ⊢
        exact hr
    · have c' : S.testBit p = true ∧ S.testBit q = true := Classical.byContradiction fun z => c ((two_bits (S := S) (p := p) (q := q) (by omega) (by omega) (by omega)).mpr z)
      have z : q < n := Nat.lt_of_not_le (fun z => hi_bit hS z c'.2)
      refine try_both (a1 := a1) (a2 := a2) (a3 := a3) hn hk hj hm hst hlc hr ht h hf hL hp z (by omega) hS c'.1 c'.2 b1 (fun bs' bl' br' tl' tr' x3' bw' hb hrt => ?_)
      refine ih (bs', bl', br', tl', tr') ⟨by omega, x3', bw', hb, fun x3'' bw'' hr => b2 _ _ ?_⟩
      rw [Nat.min_eq_left (by omega)] at hr ⊢
      exact RIN.take hn hj hst (by omega) hp z c'.1 c'.2 hrt hr
theorem cho_out {p : Nat} {bs bl tl : Int32} {br tr : Nat → Int32} {G : Int32 → Int32 → Int32 → (Nat → Int32) → Int32 → (Nat → Int32) → Prop} (hn : n ≤ 12) (hS : S < 2 ^ n) (hp : n ≤ p) (hp2 : p < 12) (hG : G (nI (p + 1)) bs bl br tl tr) : ∃ f, L_X2_choose_18 cs low high w le (nI n) (nI k) mv (nI S) (nI p) G f (nI (p + 1)) bs bl br tl tr := by
  have h12 : 2 ^ n ≤ 2 ^ 12 := Nat.pow_le_pow_right (by decide) hn
  refine pk_loop (fun f q (_ : Unit) => L_X2_choose_18 cs low high w le (nI n) (nI k) mv (nI S) (nI p) G f (nI q) bs bl br tl tr) (fun q _ => True) 12 (p + 1) () (by omega) trivial ?_ ?_
  · rintro f _ -
    show L_X2_choose_18 cs low high w le (nI n) (nI k) mv (nI S) (nI p) G (f + 1) (nI 12) bs bl br tl tr
    unfold L_X2_choose_18 J_X2_choose_53
    rw [nI_1']
    exact b_T (nI_le (Nat.le_refl _) (by omega)) hG
  · rintro f q _ hq - ih
    show L_X2_choose_18 cs low high w le (nI n) (nI k) mv (nI S) (nI p) G (f + 1) (nI q) bs bl br tl tr
    unfold L_X2_choose_18 J_X2_choose_47
    rw [nI_1']
    exact b_F (nI_ge hq (by omega)) (b_T ((two_bits (S := S) (p := p) (q := q) (by omega) (by omega) (by omega)).mpr (fun z => hi_bit hS hp z.1)) (ih () trivial))
theorem sp_choose {bs bl tl : Int32} {bw br tr : Nat → Int32} {Q : Int32 → Int32 → (Nat → Int32) → Int32 → (Nat → Int32) → Prop} (hn : n ≤ 12) (hk : k ≤ 4) (hj : j < 6) (hm : MV n k mv) (hst : st j = nI n) (hlc : lc j = nI k) (hr : RMv n k j mo mv) (ht : TB n k mv low high) (h : LEN n k mv le L) (hf : FIX n k mv L) (hL : L ≤ 67) (hS : S < 2 ^ n)
    (hQ : ∀ bs' bl' br' tl' tr' x3' bw', BR n k mv S bs' bl' br' x3' bw' → ROU a1 a2 a3 st lc mo j S 0 (-1) bw x3' bw' → Q bs' bl' br' tl' tr') : wp_X2_choose bs cs low high w le bl br tl tr (nI n) (nI k) mv (nI S) Q := by
  unfold wp_X2_choose
  refine pk_loop (fun f p (s : Int32 × Int32 × (Nat → Int32) × Int32 × (Nat → Int32)) => L_X2_choose_7 cs low high w le (nI n) (nI k) mv (nI S) Q f (nI p) s.1 s.2.1 s.2.2.1 s.2.2.2.1 s.2.2.2.2) (fun p s => ∃ x bx, BR n k mv S s.1 s.2.1 s.2.2.1 x bx ∧ ∀ x3' bw', ROU a1 a2 a3 st lc mo j S (min p n) x bx x3' bw' → ROU a1 a2 a3 st lc mo j S 0 (-1) bw x3' bw') 12 0 (nI 0, bl, br, tl, tr) (Nat.zero_le _) ⟨-1, bw, Or.inl ⟨rfl, rfl⟩, fun x3' bw' hr => by rw [Nat.min_eq_left (Nat.zero_le _)] at hr; exact hr⟩ ?_ ?_
  · rintro f ⟨s1, s2, s3, s4, s5⟩ ⟨x, bx, b1, b2⟩
    show L_X2_choose_7 cs low high w le (nI n) (nI k) mv (nI S) Q (f + 1) (nI 12) s1 s2 s3 s4 s5
    unfold L_X2_choose_7
    exact b_T (nI_le (Nat.le_refl _) (by omega)) (hQ _ _ _ _ _ _ _ b1 (b2 _ _ (ROU.done hj hst (by omega) (by omega))))
  · rintro f p ⟨s1, s2, s3, s4, s5⟩ hp ⟨x, bx, b1, b2⟩ ih
    show L_X2_choose_7 cs low high w le (nI n) (nI k) mv (nI S) Q (f + 1) (nI p) s1 s2 s3 s4 s5
    unfold L_X2_choose_7
    rw [nI_1']
    refine b_F (nI_ge hp (by omega)) ?_
    rcases Nat.lt_or_ge p n with z | z
    · refine cho_in (a1 := a1) (a2 := a2) (a3 := a3) hn hk hj hm hst hlc hr ht h hf hL hS z b1 (fun bs' bl' br' tl' tr' x3' bw' hb hri => ?_)
      refine ih (bs', bl', br', tl', tr') ⟨x3', bw', hb, fun x3'' bw'' hr => b2 _ _ ?_⟩
      rw [Nat.min_eq_left (by omega)] at hr ⊢
      exact ROU.row hn hj hst z hri hr
    · refine cho_out hn hS z hp (ih (s1, s2, s3, s4, s5) ⟨x, bx, b1, fun x3'' bw'' hr => b2 _ _ ?_⟩)
      rw [Nat.min_eq_right (by omega)] at hr ⊢
      exact hr
end CHO
