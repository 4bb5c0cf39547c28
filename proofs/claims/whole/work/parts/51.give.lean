/-! a pair's word: as the class gives it, as the reference reads it -/
theorem sp_readPair {b : BS} {a1 a2 a3 a4 size : Int32} {queue from_ by_ known pw : Nat → Int32} {T n : Nat} {Q : Int32 → (Nat → Int32) → Prop} (hb : BOK b) (h : RR b size queue from_ by_ known) (hc : CH b T n) (hn : n ≤ 100) (h1 : ∀ w', (∀ i, i < n → w' i = nI (wdl b T n i)) → Q (nI n) w') : wp_X12_readPair a1 a2 a3 a4 from_ by_ pw (nI T) Q := by
  unfold wp_X12_readPair
  refine sp_longTo hb h hc (by omega) ?_
  refine pk_loop (fun f m (s : Nat → Int32) => L_X12_readPair_13 from_ by_ (nI n) Q f (nI (itp b.2.2.1 m T)) (nI (n - m) - nI 1) s) (fun m s => ∀ i, n - m ≤ i → i < n → s i = nI (wdl b T n i)) n 0 pw (Nat.zero_le _) (fun i h1 h2 => absurd h2 (by omega)) ?_ ?_
  · rintro f s hs
    show L_X12_readPair_13 from_ by_ (nI n) Q (f + 1) (nI (itp b.2.2.1 n T)) (nI (n - n) - nI 1) s
    unfold L_X12_readPair_13
    rw [Nat.sub_self, nI_0m1]
    exact b_T (m1_lt (by omega)) (h1 s (fun i hi => hs i (by omega) hi))
  · rintro f m s hm hs ih
    show L_X12_readPair_13 from_ by_ (nI n) Q (f + 1) (nI (itp b.2.2.1 m T)) (nI (n - m) - nI 1) s
    unfold L_X12_readPair_13
    obtain ⟨g1, g2, g3, g4⟩ := CH.by hb h hc hm
    rw [X_s hm, nI_clamp (by omega), nI_clamp (by omega), g3, g4, X_n hm]
    refine b_F (nI_nlt0 (by omega)) ⟨vin g2 (by omega), vin (by omega) (by omega), vin g2 (by omega), ih _ (fun i h3 h4 => ?_)⟩
    by_cases c : i = n - 1 - m
    · subst c
      rw [pk_us]
      unfold wdl
      rw [show n - 1 - (n - 1 - m) = m by omega]
    · rw [pk_un c]
      exact hs i (by omega) h4
section GIV
variable {n k : Nat} {mv le : Nat → Int32}
/-- of a pair so far apart, a letter leads on just when the table says one less -/
theorem PL_exa (hn : n ≤ 12) (hm : MV n k mv) {L : Nat} (h : LEN n k mv le L) (hf : FIX n k mv L) (hL : L ≤ 67) {p q d l : Nat} (hp : p < n) (hq : q < n) (hl : l < k) (hd : exa mv k (d + 1) p q) : PL mv le d p q l ↔ (mv (p * 4 + l) ≠ -1 ∧ mv (q * 4 + l) ≠ -1 ∧ md mv k d (tg mv p l) (tg mv q l) = true) := by
  constructor
  · rintro ⟨c1, c2, c3⟩
    refine ⟨c1, c2, ?_⟩
    have t1 := (tg_of hn hm hp hl c1).1
    have t2 := (tg_of hn hm hq hl c2).1
    cases z : md mv k L (tg mv p l) (tg mv q l)
    · rw [h.none t1 t2 z] at c3
      by_cases hd30 : d < 2 ^ 31
      · exact absurd c3 (m1_nI hd30)
      · have := hf.any hm hn hp hq hd.1
        exact absurd (hd.2 L (by omega)) (by rw [this]; decide)
    · obtain ⟨e, e1, e2, e3⟩ := h.val hn (by omega) t1 t2 z
      rw [e3] at c3
      by_cases hd30 : d < 2 ^ 31
      · rw [← (nI_eq (by omega) hd30).mp c3]; exact e2.1
      · have := hf.any hm hn hp hq hd.1
        exact absurd (hd.2 L (by omega)) (by rw [this]; decide)
  · rintro ⟨c1, c2, c3⟩
    have t1 := (tg_of hn hm hp hl c1).1
    have t2 := (tg_of hn hm hq hl c2).1
    refine ⟨c1, c2, h.got hn hm hf (by omega) t1 t2 ⟨c3, fun e he => ?_⟩⟩
    cases z : md mv k e (tg mv p l) (tg mv q l)
    · rfl
    · have := hd.2 (e + 1) (by omega)
      rw [md_s.mpr (Or.inr ⟨l, hl, c1, c2, z⟩)] at this
      cases this
theorem sp_givePair {w wl : Int32} {row : Nat → Int32} {p q d L : Nat} {c : Nat → Nat} {Q : Int32 → (Nat → Int32) → Prop} (hn : n ≤ 12) (hk : k ≤ 4) (hm : MV n k mv) (h : LEN n k mv le L) (hf : FIX n k mv L) (hL : L ≤ 67) (hp : p < n) (hq : q < n) (hd : exa mv k d p q) (hw : WRD (stp n mv) one k (2 ^ p ||| 2 ^ q) d c)
    (hQ : d ≤ 67 → ∀ row', (∀ i, i < d → row' i = nI (c i)) → Q (nI d) row') : wp_X5_giveWord w le (nI n) (nI k) mv wl row (nI p) (nI q) Q := by
  have hdL : d ≤ 67 := by
    by_cases z : d ≤ L
    · omega
    · have := hd.2 L (by omega)
      rw [hf.any hm hn hp hq hd.1] at this
      cases this
  obtain ⟨X, hX0, hX⟩ := hw
  unfold wp_X5_giveWord
  refine sp_lengthOf (by omega) (by omega) ?_
  rw [h.got hn hm hf (by omega) hp hq hd]
  refine sp_resize (by omega) ?_
  refine pk_loop (fun f i (s : Int32 × Int32 × (Nat → Int32)) => L_X5_giveWord_24 w le (nI n) (nI k) mv (nI d) (nI d) Q f s.1 s.2.1 (nI i) s.2.2) (fun i s => ∃ a b, s.1 = nI a ∧ s.2.1 = nI b ∧ a < n ∧ b < n ∧ X i = 2 ^ a ||| 2 ^ b ∧ exa mv k (d - i) a b ∧ ∀ x, x < i → s.2.2 x = nI (c x)) d 0 (nI p, nI q, row) (Nat.zero_le _) ⟨p, q, rfl, rfl, hp, hq, hX0, hd, fun x hx => by omega⟩ ?_ ?_
  · rintro f ⟨s1, s2, s3⟩ ⟨a, b, -, -, -, -, -, -, e⟩
    show L_X5_giveWord_24 w le (nI n) (nI k) mv (nI d) (nI d) Q (f + 1) s1 s2 (nI d) s3
    unfold L_X5_giveWord_24
    exact b_T (nI_le (Nat.le_refl _) (by omega)) (hQ hdL _ e)
  · rintro f i ⟨s1, s2, s3⟩ hi ⟨a, b, e1, e2, ha, hb, e3, e4, e5⟩ ih
    show L_X5_giveWord_24 w le (nI n) (nI k) mv (nI d) (nI d) Q (f + 1) s1 s2 (nI i) s3
    have e1' : s1 = nI a := e1
    have e2' : s2 = nI b := e2
    rw [e1', e2']
    obtain ⟨x1, x2, x3, x4, x5⟩ := hX i hi
    rw [e3] at x2 x5
    unfold L_X5_giveWord_24
    rw [pk_sub (by omega), nI_1']
    refine b_F (nI_ge hi (by omega)) ?_
    have hdi : d - i = (d - (i + 1)) + 1 := by omega
    rw [hdi] at e4 ⊢
    have m1 : mv (a * 4 + c i) ≠ -1 := fun z => x3 (by rw [← x2]; exact stp_miss ha (by rw [Nat.testBit_or, Nat.testBit_two_pow]; simp) z)
    have m2 : mv (b * 4 + c i) ≠ -1 := fun z => x3 (by rw [← x2]; exact stp_miss hb (by rw [Nat.testBit_or, Nat.testBit_two_pow, Nat.testBit_two_pow]; simp) z)
    obtain ⟨t1, u1⟩ := tg_of hn hm ha x1 m1
    obtain ⟨t2, u2⟩ := tg_of hn hm hb x1 m2
    rw [stp_pair hn hm ha hb x1 m1 m2] at x2
    rw [← x2, gd_md hn hm _ _ _ t1 t2] at x4
    have hpl : PL mv le (d - (i + 1)) a b (c i) := (PL_exa hn hm h hf hL ha hb x1 e4).mpr ⟨m1, m2, x4⟩
    have hfirst : ∀ l, l < k → PL mv le (d - (i + 1)) a b l → (∀ l', l' < l → ¬ PL mv le (d - (i + 1)) a b l') → l = c i := fun l hl h1 h2 => by
      rcases Nat.lt_trichotomy l (c i) with y | y | y
      · exfalso
        obtain ⟨v1, v2, v3⟩ := (PL_exa hn hm h hf hL ha hb hl e4).mp h1
        have hs := stp_pair hn hm ha hb hl v1 v2
        have hne : stp n mv (2 ^ a ||| 2 ^ b) l ≠ 0 := by
          rw [hs]
          have := (two_set (n := n) (tg_of hn hm ha hl v1).1 (tg_of hn hm hb hl v2).1).1
          omega
        have := x5 l y hne
        rw [hs, gd_md hn hm _ _ _ (tg_of hn hm ha hl v1).1 (tg_of hn hm hb hl v2).1, v3] at this
        cases this
      · exact y
      · exact absurd hpl (h2 _ y)
    refine sp_firstLetter hn hk hm ha hb (by omega) (fun l hl h1 h2 => ?_) (fun hno => absurd hpl (hno _ x1))
    have el := hfirst l hl h1 h2
    subst el
    refine sp_put hi (by omega) (sp_target hn hk ha hl (sp_target hn hk hb hl ?_))
    rw [u1, u2]
    refine ih (_, _, _) ⟨_, _, rfl, rfl, t1, t2, x2.symm, ⟨x4, fun e he => ?_⟩, fun x hx => ?_⟩
    · cases z : md mv k e (tg mv a (c i)) (tg mv b (c i))
      · rfl
      · have := e4.2 (e + 1) (by omega)
        rw [md_s.mpr (Or.inr ⟨c i, hl, m1, m2, z⟩)] at this
        cases this
    · show upd s3 i (nI (c i)) x = _
      by_cases y : x = i
      · subst y; exact pk_us
      · rw [pk_un y]; exact e5 x (by omega)
end GIV
