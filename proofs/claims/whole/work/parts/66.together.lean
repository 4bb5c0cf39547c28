/-! whether all come together, by the class -/
section TGA
variable {n k : Nat} {pm mv : Nat → Int32} {V : Nat → Nat → Nat} {x4 : Int32}
theorem sp_sweep {tb0 : Nat → Nat} {to : Nat → Int32} {Q : Int32 → (Nat → Int32) → Prop} (hn : n ≤ 12) (hk : k ≤ 4) (hm : WT n k mv) (hp : WT n k pm) (hV : VO n k pm mv x4 V) (hs : ∀ p q a b, RLV n k pm V p q a b → RLV n k pm V q p b a) (h : TJ n (RLV n k pm V) tb0 to)
    (hQ : ∀ tb found to', TJ n (RLV n k pm V) tb to' → NJ n (bj tb) = NJ n (bj tb0) + found → (found = 0 → ∀ p q, p < q → q < n → CLS (RLV n k pm V) tb p q) → Q (nI found) to') : wp_X1_sweepPairs to (nI 12) (nI 4) pm (nI n) (nI k) mv x4 Q := by
  unfold wp_X1_sweepPairs
  refine pk_loop (fun f p (s : Int32 × (Nat → Int32)) => L_X1_sweepPairs_5 (nI 12) (nI 4) pm (nI n) (nI k) mv x4 Q f s.1 (nI p) s.2) (fun p s => ∃ tb found, s.1 = nI found ∧ TSW n (RLV n k pm V) (NJ n (bj tb0)) tb found s.2 (fun a _ => a < p)) n 0 (nI 0, to) (Nat.zero_le _) ⟨tb0, 0, rfl, h, rfl, fun _ a b _ _ c => absurd c (by omega)⟩ ?_ ?_
  · rintro f ⟨s1, s2⟩ ⟨tb, found, e1, e2, e3, e4⟩
    show L_X1_sweepPairs_5 (nI 12) (nI 4) pm (nI n) (nI k) mv x4 Q (f + 1) s1 (nI n) s2
    have e1' : s1 = nI found := e1
    rw [e1']
    unfold L_X1_sweepPairs_5
    exact b_T (nI_le (Nat.le_refl _) (by omega)) (hQ tb found s2 e2 e3 (fun z a b hab hb => e4 z a b hab hb (by omega)))
  · rintro f p ⟨s1, s2⟩ hpn ⟨tb, found, e1, e2⟩ ih
    show L_X1_sweepPairs_5 (nI 12) (nI 4) pm (nI n) (nI k) mv x4 Q (f + 1) s1 (nI p) s2
    have e1' : s1 = nI found := e1
    rw [e1']
    unfold L_X1_sweepPairs_5
    rw [nI_1']
    exact b_F (nI_ge hpn (by omega)) (b_F (nI_ge (by omega) (by omega)) (sw_row hn hk hm hp hV hs hpn e2 (fun tb found to' ht => ih (_, _) ⟨tb, found, rfl, ht⟩)))
theorem TT_66 (hn : n ≤ 12) : TT n ≤ 66 := NJ_66 n (by omega)
theorem NJ_TT {f : Nat → Nat → Bool} (hn : n ≤ 12) : NJ n f ≤ TT n := by
  have := NJ_le (n := n) (f := f)
  rw [NJ_all n (by omega)] at this
  exact this
theorem sp_allCome {to : Nat → Int32} {Q : Int32 → (Nat → Int32) → Prop} (hn0 : 1 ≤ n) (hn : n ≤ 12) (hk : k ≤ 4) (hm : WT n k mv) (hp : WT n k pm) (hV : VO n k pm mv x4 V) (hs : ∀ p q a b, RLV n k pm V p q a b → RLV n k pm V q p b a)
    (h1 : (∀ p q, p < q → q < n → ∃ d, mg (RLV n k pm V) d p q) → ∀ to', Q (nI 1) to') (h0 : (¬ ∀ p q, p < q → q < n → ∃ d, mg (RLV n k pm V) d p q) → ∀ to', Q (nI 0) to') : wp_X1_allComeTogether to (nI 12) (nI 4) pm (nI n) (nI k) mv x4 Q := by
  have hT66 := TT_66 hn
  have hrl : ∀ p q a b, RLV n k pm V p q a b → a < n ∧ b < n := fun p q a b ⟨c1, c2, l, hl, e, hb⟩ => ⟨by rw [e]; exact (hp p l c1 hl).2, hV.bit hm hp c2 hl hb⟩
  unfold wp_X1_allComeTogether
  refine pk_loop (fun f p (s : Nat → Int32) => L_X1_allComeTogether_2 (nI 12) (nI 4) pm (nI n) (nI k) mv x4 Q f (nI p) s) (fun p s => ∀ a, a < p → s a = nI (2 ^ a)) 12 0 to (Nat.zero_le _) (fun a ha => absurd ha (by omega)) ?_ ?_
  · rintro f s hsx
    show L_X1_allComeTogether_2 (nI 12) (nI 4) pm (nI n) (nI k) mv x4 Q (f + 1) (nI 12) s
    unfold L_X1_allComeTogether_2
    refine b_T (nI_le (Nat.le_refl _) (by omega)) ?_
    unfold J_X1_allComeTogether_23
    have eT : nI n * (nI n - nI 1) / nI 2 = nI (TT n) := by
      have : n * (n - 1) ≤ 12 * 12 := Nat.mul_le_mul hn (by omega)
      rw [pk_sub hn0, pk_mul, pk_div (by omega) (by omega) (by omega)]
      rfl
    rw [eT, nI_1']
    have b0' : ∀ a b, bj (fun a => 2 ^ a) a b = decide (a = b) := fun a b => Nat.testBit_two_pow
    have hTJ : TJ n (RLV n k pm V) (fun a => 2 ^ a) s := ⟨fun a ha => ⟨hsx a ha, (Nat.pow_lt_pow_right (by decide) ha : 2 ^ a < 2 ^ 12)⟩, fun a _ => by rw [b0']; exact decide_eq_true rfl, fun a b _ _ => by
      rw [b0', b0']
      by_cases c : a = b
      · rw [decide_eq_true c, decide_eq_true c.symm]
      · rw [decide_eq_false c, decide_eq_false (fun z => c z.symm)], fun a b _ _ hab => by
      rw [b0', decide_eq_true_iff] at hab
      exact ⟨0, hab⟩⟩
    have hNJ0 : NJ n (bj (fun a => 2 ^ a)) = 0 := NJ_none (fun p q hpq _ => by rw [b0']; exact decide_eq_false (by omega))
    refine loop_m (fun f (u : Nat × Nat × Nat × (Nat → Int32)) => L_X1_allComeTogether_45 (nI 12) (nI 4) pm (nI n) (nI k) mv x4 Q f (nI u.1) (nI u.2.1) (nI u.2.2.1) u.2.2.2) (fun u => ∃ tb, TJ n (RLV n k pm V) tb u.2.2.2 ∧ u.1 + NJ n (bj tb) = TT n ∧ u.1 ≤ u.2.1 ∧ u.2.1 ≤ 67 ∧ u.2.2.1 ≤ NJ n (bj tb) + 1 ∧ (u.1 < u.2.1 → u.2.2.1 ≤ NJ n (bj tb)) ∧ (u.1 = u.2.1 → ∀ p q, p < q → q < n → CLS (RLV n k pm V) tb p q)) (fun u => 2 * u.1 + (if u.1 < u.2.1 then 1 else 0)) ?_ (TT n, TT n + 1, 0, s) ⟨fun a => 2 ^ a, hTJ, by show TT n + _ = TT n; rw [hNJ0]; omega, by show TT n ≤ TT n + 1; omega, by show TT n + 1 ≤ 67; omega, Nat.zero_le _, fun _ => Nat.zero_le _, fun z => absurd z (by show ¬ TT n = TT n + 1; omega)⟩
    rintro f ⟨left, before, sw, to'⟩ ⟨tb, t1, t2, t3, t4, t5, t6, t7⟩ ih
    show L_X1_allComeTogether_45 (nI 12) (nI 4) pm (nI n) (nI k) mv x4 Q (f + 1) (nI left) (nI before) (nI sw) to'
    have t1' : TJ n (RLV n k pm V) tb to' := t1
    have t2' : left + NJ n (bj tb) = TT n := t2
    have t3' : left ≤ before := t3
    have t4' : before ≤ 67 := t4
    have t5' : sw ≤ NJ n (bj tb) + 1 := t5
    have t6' : left < before → sw ≤ NJ n (bj tb) := t6
    have t7' : left = before → ∀ p q, p < q → q < n → CLS (RLV n k pm V) tb p q := t7
    have hNT := NJ_TT (f := bj tb) hn
    have allj : left = 0 → ∀ p q, p < q → q < n → ∃ d, mg (RLV n k pm V) d p q := fun z p q hpq hq => by
      refine t1'.2.2.2 p q (by omega) hq ?_
      cases y : bj tb p q
      · have := NJ_not (by omega) hpq hq y
        omega
      · rfl
    unfold L_X1_allComeTogether_45 J_X1_allComeTogether_81
    refine b_F (nI_ge (by omega) (by omega)) (b_le (by omega) (by omega) (fun c => ?_) (fun c => b_le (by omega) (by omega) (fun c2 => ?_) (fun c2 => ?_)))
    · have z : left = 0 := by omega
      rw [z]
      exact b_nF rfl (h1 (allj z) to')
    · refine b_nT (fun z => c (by have := (nI_eq (by omega) (by omega)).mp z; omega)) (h0 (fun hall => ?_) to')
      have e : NJ n (bj tb) = NJ n (fun _ _ => true) := NJ_congr (fun p q hpq hq => by
        obtain ⟨d, hd⟩ := hall p q hpq hq
        exact CLS.all hs hrl t1' (t7' (by omega)) d p q (by omega) hq hd)
      rw [NJ_all n (by omega)] at e
      have e2 : NJ n (bj tb) = TT n := e
      omega
    · refine sp_sweep hn hk hm hp hV hs t1' (fun tb' found to'' g1 g2 g3 => ?_)
      have hNT' := NJ_TT (f := bj tb') hn
      rw [pk_sub (by omega), nI_1']
      refine ih (left - found, left, sw + 1, to'') ⟨tb', g1, by show left - found + NJ n (bj tb') = TT n; omega, by show left - found ≤ left; omega, by show left ≤ 67; omega, by show sw + 1 ≤ NJ n (bj tb') + 1; have := t6' (by omega); omega, fun z => ?_, fun z => g3 ?_⟩ ?_
      · have z : left - found < left := z
        show sw + 1 ≤ NJ n (bj tb')
        have := t6' (by omega)
        omega
      · have z : left - found = left := z
        omega
      · show 2 * (left - found) + (if left - found < left then 1 else 0) < 2 * left + (if left < before then 1 else 0)
        rw [if_pos (show left < before by omega)]
        by_cases y : left - found < left
        · rw [if_pos y]; omega
        · rw [if_neg y]; omega
  · rintro f p s hpn hsx ih
    show L_X1_allComeTogether_2 (nI 12) (nI 4) pm (nI n) (nI k) mv x4 Q (f + 1) (nI p) s
    unfold L_X1_allComeTogether_2
    rw [nI_1', nI_clamp (by omega), nI_shl1 (by omega)]
    refine b_F (nI_ge hpn (by omega)) ⟨vin (by omega) (by omega), ih _ (fun a ha => ?_)⟩
    by_cases c : a = p
    · subst c; exact pk_us
    · rw [pk_un c]; exact hsx a (by omega)
end TGA
