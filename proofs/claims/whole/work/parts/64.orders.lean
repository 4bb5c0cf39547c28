/-! orders of letters: the class's table, the reference's rows -/
def fac : Nat → Nat
  | 0 => 1
  | k + 1 => fac k * (k + 1)
def ordN (i : Nat) : Nat := (ordL.getD i 0).toNatClampNeg
def tbl (k v i : Nat) : Nat := ordN (v * 4 + (4 - k) + i) - (4 - k)
theorem ord_ok : ∀ k, k < 5 → ∀ v, v < fac k → ∀ i, i < k → (4 - k ≤ ordN (v * 4 + (4 - k) + i) ∧ ordN (v * 4 + (4 - k) + i) < 4) ∧ ordV (v * 4 + (4 - k) + i) = nI (ordN (v * 4 + (4 - k) + i)) ∧ v * 4 + (4 - k) + i < 96 := by decide +kernel
theorem tbl_0 : ∀ k, k < 5 → ∀ i, i < k → tbl k 0 i = i := by decide +kernel
theorem tbl_lt {k v i : Nat} (hk : k ≤ 4) (hv : v < fac k) (hi : i < k) : tbl k v i < k := by
  have := ord_ok k (by omega) v hv i hi
  unfold tbl
  omega
theorem fac_le : ∀ k, k < 5 → 0 < fac k ∧ fac k ≤ 24 := by decide
theorem sp_letterOf {k v i : Nat} {Q : Int32 → Prop} (hk : k ≤ 4) (hv : v < fac k) (hi : i < k) (h : Q (nI (tbl k v i))) : wp_X1_letterOf (nI v) (nI i) (nI k) Q := by
  obtain ⟨⟨h1, h2⟩, h3, h4⟩ := ord_ok k (by omega) v hv i hi
  unfold wp_X1_letterOf
  rw [pk_mul, pk_sub (by omega), nI_add, nI_add, nI_clamp (by omega), h3, pk_sub h1]
  exact b_F (nI_nlt0 (by omega)) (b_F (nI_ge h4 (by omega)) ⟨vin h4 (by omega), h⟩)
theorem sp_orderOf {q : Nat} {od : Nat → Int32} {Q : Int32 → Prop} (hq : q < 12) (h : Q (od q)) : wp_X1_orderOf od (nI q) Q := by
  unfold wp_X1_orderOf
  rw [nI_clamp (by omega)]
  exact b_F (nI_nlt0 (by omega)) (b_F (nI_ge hq (by omega)) ⟨vin hq (by omega), h⟩)
theorem sp_exch1 {n k q v : Nat} {od pm mv : Nat → Int32} {Q : (Nat → Int32) → Prop} (hn : n ≤ 12) (hk : k ≤ 4) (hm : MV n k mv) (hq : q < n) (hv : v < fac k) (ho : od q = nI v)
    (h : ∀ pm', (∀ l, l < k → pm' (q * 4 + l) = mv (q * 4 + tbl k v l)) → (∀ i, ¬ (q * 4 ≤ i ∧ i < q * 4 + 4) → pm' i = pm i) → Q pm') : wp_X1_exchange od (nI 12) (nI 4) pm (nI n) (nI k) mv (nI q) Q := by
  unfold wp_X1_exchange
  refine pk_loop (fun f l (s : Nat → Int32) => L_X1_exchange_2 od (nI 12) (nI 4) (nI n) (nI k) mv (nI q) Q f (nI l) s) (fun l s => (∀ x, x < l → s (q * 4 + x) = mv (q * 4 + tbl k v x)) ∧ ∀ i, ¬ (q * 4 ≤ i ∧ i < q * 4 + 4) → s i = pm i) k 0 pm (Nat.zero_le _) ⟨fun x hx => absurd hx (by omega), fun _ _ => rfl⟩ ?_ ?_
  · rintro f s ⟨e1, e2⟩
    show L_X1_exchange_2 od (nI 12) (nI 4) (nI n) (nI k) mv (nI q) Q (f + 1) (nI k) s
    unfold L_X1_exchange_2
    exact b_T (nI_le (Nat.le_refl _) (by omega)) (h s e1 e2)
  · rintro f l s hl ⟨e1, e2⟩ ih
    show L_X1_exchange_2 od (nI 12) (nI 4) (nI n) (nI k) mv (nI q) Q (f + 1) (nI l) s
    unfold L_X1_exchange_2
    refine b_F (nI_ge hl (by omega)) (sp_orderOf (by omega) ?_)
    rw [ho, nI_1']
    have ht := tbl_lt hk hv hl
    refine sp_letterOf hk hv hl (sp_target hn hk hq ht (sp_lead (n := 12) (k := 4) (by omega) (by omega) (by omega) (by omega) ((hm q _ hq ht).imp id (fun ⟨t, h1, h2⟩ => ⟨t, by omega, h2⟩)) (ih _ ⟨fun x hx => ?_, fun i hi => ?_⟩)))
    · by_cases c : x = l
      · subst c; exact pk_us
      · rw [pk_un (by omega)]; exact e1 x (by omega)
    · rw [pk_un (by omega)]; exact e2 i hi
theorem sp_ordersOf {k : Nat} {Q : Int32 → Prop} (hk0 : 1 ≤ k) (hk : k ≤ 4) (h : Q (nI (fac k))) : wp_X1_ordersOf (nI k) Q := by
  unfold wp_X1_ordersOf
  refine pk_loop (fun f i (s : Int32) => L_X1_ordersOf_4 (nI k) Q f s (nI i)) (fun i s => 2 ≤ i ∧ s = nI (fac (i - 1))) (k + 1) 2 (nI 1) (by omega) ⟨Nat.le_refl _, rfl⟩ ?_ ?_
  · rintro f s ⟨-, rfl⟩
    show L_X1_ordersOf_4 (nI k) Q (f + 1) _ (nI (k + 1))
    unfold L_X1_ordersOf_4
    exact b_T (nI_lt (by omega) (by omega)) h
  · rintro f i s hi ⟨h2, rfl⟩ ih
    show L_X1_ordersOf_4 (nI k) Q (f + 1) _ (nI i)
    unfold L_X1_ordersOf_4
    rw [pk_mul, nI_1']
    refine b_F (fun z => by have := (nI_ltI (by omega) (by omega)).mp z; omega) (ih _ ⟨by omega, ?_⟩)
    obtain ⟨t, rfl⟩ : ∃ t, i = t + 1 := ⟨i - 1, by omega⟩
    rfl
/-- the nth letter that isn't used, from l on -/
def fsk (used : Nat) : Nat → Nat → Nat → Nat
  | 0, _, _ => 9
  | f + 1, nth, l => if used.testBit l = true then fsk used f nth (l + 1) else if nth = 0 then l else fsk used f (nth - 1) (l + 1)
def frs (k v : Nat) : Nat → Nat × Nat × Nat
  | 0 => (v, 0, fac (k - 1))
  | i + 1 => ((frs k v i).1 % (frs k v i).2.2, (frs k v i).2.1 ||| 2 ^ fsk (frs k v i).2.1 8 ((frs k v i).1 / (frs k v i).2.2) 0, if i < k - 1 then (frs k v i).2.2 / (k - 1 - i) else 1)
theorem frs_ok : ∀ k, k < 5 → ∀ v, v < fac k → ∀ i, i < k → (frs k v i).1 < 1000 ∧ (frs k v i).2.1 < 1000 ∧ 0 < (frs k v i).2.2 ∧ (frs k v i).2.2 < 1000 ∧ fsk (frs k v i).2.1 8 ((frs k v i).1 / (frs k v i).2.2) 0 = tbl k v i := by decide +kernel
theorem fr_in {used x5 i k : Nat} {row : Nat → Int32} {R : Int32 → Int32 → Int32 → Int32 → (Nat → Int32) → Prop} {z3 : Int32} (hu : used < 1000) : ∀ (f nth l : Nat), l + f ≤ 30 → nth < 1000 → fsk used f nth l < 9 → J_X12_findRow_96 (nI k) R z3 (nI used) (nI x5) (nI i) (nI (fsk used f nth l)) row → ∃ g, L_X12_findRow_53 row (nI k) z3 (nI used) (nI x5) (nI i) R g (nI nth) (nI l)
  | 0, nth, l, _, _, h9, _ => absurd h9 (by show ¬ 9 < 9; omega)
  | f + 1, nth, l, hl, hn, h9, h => by
    by_cases c : used.testBit l = true
    · have e : fsk used (f + 1) nth l = fsk used f nth (l + 1) := by rw [fsk, if_pos c]
      rw [e] at h9 h
      obtain ⟨g, hg⟩ := fr_in hu f nth (l + 1) (by omega) hn h9 h
      refine ⟨g + 1, ?_⟩
      unfold L_X12_findRow_53 J_X12_findRow_69 J_X12_findRow_87
      rw [bit1 (by omega) (by omega), (tb_div used l).mpr c, nI_1', pk_sub (Nat.zero_le _), Nat.sub_zero]
      exact b_T rfl (b_nF rfl hg)
    · have c' : ¬ nI (used / 2 ^ l % 2) = nI 1 := fun z => c ((tb_div used l).mp ((nI_eq (by omega) (by omega)).mp z))
      by_cases d : nth = 0
      · have e : fsk used (f + 1) nth l = l := by rw [fsk, if_neg c, if_pos d]
        rw [e] at h
        refine ⟨0 + 1, ?_⟩
        unfold L_X12_findRow_53
        rw [bit1 (by omega) (by omega)]
        exact b_F c' (b_T (nI_le (by omega) (by omega)) h)
      · have e : fsk used (f + 1) nth l = fsk used f (nth - 1) (l + 1) := by rw [fsk, if_neg c, if_neg d]
        rw [e] at h9 h
        obtain ⟨g, hg⟩ := fr_in hu f (nth - 1) (l + 1) (by omega) (by omega) h9 h
        refine ⟨g + 1, ?_⟩
        unfold L_X12_findRow_53 J_X12_findRow_69 J_X12_findRow_87
        rw [bit1 (by omega) (by omega), nI_1', pk_sub (show 1 ≤ nth by omega)]
        exact b_F c' (b_F (nI_ge (by omega) (by omega)) (b_nT c' hg))
theorem sp_findRow {k v : Nat} {a b c d : Int32} {row : Nat → Int32} {Q : (Nat → Int32) → Prop} (hk0 : 1 ≤ k) (hk : k ≤ 4) (hv : v < fac k) (h : ∀ row', (∀ i, i < k → row' i = nI (tbl k v i)) → Q row') : wp_X12_findRow a b c d row (nI k) (nI v) Q := by
  have hf24 := fac_le k (by omega)
  unfold wp_X12_findRow
  have main : J_X12_findRow_30 (nI k) Q (nI v) (nI 0) (nI (fac (k - 1))) row := by
    unfold J_X12_findRow_30
    refine pk_loop (fun f i (s : Int32 × Int32 × Int32 × (Nat → Int32)) => L_X12_findRow_33 (nI k) Q f s.1 s.2.1 s.2.2.1 (nI i) s.2.2.2) (fun i s => s.1 = nI (frs k v i).1 ∧ s.2.1 = nI (frs k v i).2.1 ∧ s.2.2.1 = nI (frs k v i).2.2 ∧ ∀ x, x < i → s.2.2.2 x = nI (tbl k v x)) k 0 (nI v, nI 0, nI (fac (k - 1)), row) (Nat.zero_le _) ⟨rfl, rfl, rfl, fun x hx => absurd hx (by omega)⟩ ?_ ?_
    · rintro f ⟨s1, s2, s3, s4⟩ ⟨-, -, -, e4⟩
      show L_X12_findRow_33 (nI k) Q (f + 1) s1 s2 s3 (nI k) s4
      unfold L_X12_findRow_33
      exact b_T (nI_le (Nat.le_refl _) (by omega)) (h _ e4)
    · rintro f i ⟨s1, s2, s3, s4⟩ hi ⟨e1, e2, e3, e4⟩ ih
      show L_X12_findRow_33 (nI k) Q (f + 1) s1 s2 s3 (nI i) s4
      have e1' : s1 = nI (frs k v i).1 := e1
      have e2' : s2 = nI (frs k v i).2.1 := e2
      have e3' : s3 = nI (frs k v i).2.2 := e3
      have e4' : ∀ x, x < i → s4 x = nI (tbl k v x) := e4
      obtain ⟨f1, f2, f3, f4, f5⟩ := frs_ok k (by omega) v hv i hi
      have hlt := tbl_lt hk hv hi
      rw [e1', e2', e3']
      unfold L_X12_findRow_33
      have nz : ¬ nI (frs k v i).2.2 = 0 := fun z => by
        have : nI (frs k v i).2.2 = nI 0 := z
        have := (nI_eq (by omega) (by omega)).mp this
        omega
      rw [pk_rem (by omega) (by omega) (by omega), pk_div (by omega) (by omega) (by omega)]
      have hdl : (frs k v i).1 / (frs k v i).2.2 ≤ (frs k v i).1 := Nat.div_le_self _ _
      refine b_F (nI_ge hi (by omega)) ⟨nz, nz, fr_in f2 8 _ 0 (by omega) (by omega) (by rw [f5]; omega) ?_⟩
      rw [f5]
      unfold J_X12_findRow_96 J_X12_findRow_135
      rw [pk_sub (by omega), nI_shl1 (by omega), nI_or, nI_clamp (by omega), nI_1']
      have hrow : ∀ x, x < i + 1 → upd s4 i (nI (tbl k v i)) x = nI (tbl k v x) := fun x hx => by
        by_cases y : x = i
        · subst y; exact pk_us
        · rw [pk_un y]; exact e4' x (by omega)
      have hu2 : nI ((frs k v i).2.1 ||| 2 ^ tbl k v i) = nI (frs k v (i + 1)).2.1 := by rw [← f5]; rfl
      refine ⟨vin (by omega) (by omega), b_le (by omega) (by omega) (fun y => ih (_, _, _, _) ⟨rfl, hu2, ?_, hrow⟩) (fun y => ?_)⟩
      · show nI 1 = nI (if i < k - 1 then _ else 1)
        rw [if_neg (by omega)]
      · rw [pk_sub (by omega), pk_div (by omega) (by omega) (by omega)]
        refine ⟨fun z => ?_, ih (_, _, _, _) ⟨rfl, hu2, ?_, hrow⟩⟩
        · have : nI (k - 1 - i) = nI 0 := z
          have := (nI_eq (by omega) (by omega)).mp this
          omega
        · show nI _ = nI (if i < k - 1 then _ else 1)
          rw [if_pos (by omega)]
  by_cases ck : k = 1
  · subst ck
    refine ⟨0 + 1, ?_⟩
    unfold L_X12_findRow_11
    exact b_T (nI_le (by omega) (by omega)) main
  · refine pk_loop (fun f i (s : Int32) => L_X12_findRow_11 row (nI k) (nI v) (nI 0) Q f s (nI i)) (fun i s => 2 ≤ i ∧ s = nI (fac (i - 1))) k 2 (nI 1) (by omega) ⟨Nat.le_refl _, rfl⟩ ?_ ?_
    · rintro f s ⟨-, rfl⟩
      show L_X12_findRow_11 row (nI k) (nI v) (nI 0) Q (f + 1) _ (nI k)
      unfold L_X12_findRow_11
      exact b_T (nI_le (Nat.le_refl _) (by omega)) main
    · rintro f i s hi ⟨h2, rfl⟩ ih
      show L_X12_findRow_11 row (nI k) (nI v) (nI 0) Q (f + 1) _ (nI i)
      unfold L_X12_findRow_11
      rw [pk_mul, nI_1']
      refine b_F (nI_ge hi (by omega)) (ih _ ⟨by omega, ?_⟩)
      obtain ⟨t, rfl⟩ : ∃ t, i = t + 1 := ⟨i - 1, by omega⟩
      rfl
theorem sp_colours {k j q v : Nat} {a b c d : Int32} {lc mo od had row : Nat → Int32} {Q : (Nat → Int32) → (Nat → Int32) → Prop} (hk0 : 1 ≤ k) (hk : k ≤ 4) (hj : j < 6) (hlc : lc j = nI k) (hq : q < 12) (hv : v < fac k) (ho : od q = nI v)
    (h : ∀ mo' row', (∀ l, l < k → mo' (48 * j + 4 * q + l) = had (4 * q + tbl k v l)) → (∀ i, ¬ (48 * j + 4 * q ≤ i ∧ i < 48 * j + 4 * q + 4) → mo' i = mo i) → Q mo' row') : wp_X12_colours a b c d lc mo od had row (nI j) (nI q) Q := by
  unfold wp_X12_colours
  rw [nI_clamp (by omega), nI_clamp (by omega), hlc, ho]
  refine ⟨vin hj (by omega), vin hq (by omega), sp_findRow hk0 hk hv (fun row' hrow => ?_)⟩
  refine pk_loop (fun f l (s : Nat → Int32) => L_X12_colours_18 lc had row' (nI j) (nI q) Q f (nI l) s) (fun l s => (∀ x, x < l → s (48 * j + 4 * q + x) = had (4 * q + tbl k v x)) ∧ ∀ i, ¬ (48 * j + 4 * q ≤ i ∧ i < 48 * j + 4 * q + 4) → s i = mo i) k 0 mo (Nat.zero_le _) ⟨fun x hx => absurd hx (by omega), fun _ _ => rfl⟩ ?_ ?_
  · rintro f s ⟨e1, e2⟩
    show L_X12_colours_18 lc had row' (nI j) (nI q) Q (f + 1) (nI k) s
    unfold L_X12_colours_18
    rw [nI_clamp (by omega), hlc]
    exact ⟨vin hj (by omega), b_T (nI_le (Nat.le_refl _) (by omega)) (h _ _ e1 e2)⟩
  · rintro f l s hl ⟨e1, e2⟩ ih
    show L_X12_colours_18 lc had row' (nI j) (nI q) Q (f + 1) (nI l) s
    unfold L_X12_colours_18
    have ht := tbl_lt hk hv hl
    rw [nI_clamp (n := j) (by omega), hlc, nI_clamp (n := l) (by omega), hrow l hl, pk_mul, pk_mul, nI_add, nI_add, nI_add, nI_1', nI_clamp (n := 4 * q + tbl k v l) (by omega), nI_clamp (n := 48 * j + 4 * q + l) (by omega)]
    refine ⟨vin hj (by omega), b_F (nI_ge hl (by omega)) ⟨vin (by omega) (by omega), vin (by omega) (by omega), vin (by omega) (by omega), ih _ ⟨fun x hx => ?_, fun i hi => ?_⟩⟩⟩
    · by_cases y : x = l
      · subst y; exact pk_us
      · rw [pk_un (by omega)]; exact e1 x (by omega)
    · rw [pk_un (by omega)]; exact e2 i hi
