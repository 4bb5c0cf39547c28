/-! two states brought to one: how far, by sets of two, by the class's table of lengths -/
def md (mv : Nat → Int32) (k : Nat) : Nat → Nat → Nat → Bool
  | 0, p, q => decide (p = q)
  | d + 1, p, q => md mv k d p q || anyB (fun l => decide (mv (p * 4 + l) ≠ -1) && decide (mv (q * 4 + l) ≠ -1) && md mv k d (tg mv p l) (tg mv q l)) k
theorem md_s {mv : Nat → Int32} {k d p q : Nat} : md mv k (d + 1) p q = true ↔ md mv k d p q = true ∨ ∃ l, l < k ∧ mv (p * 4 + l) ≠ -1 ∧ mv (q * 4 + l) ≠ -1 ∧ md mv k d (tg mv p l) (tg mv q l) = true := by
  show (md mv k d p q || _) = true ↔ _
  rw [Bool.or_eq_true, anyB_iff]
  refine or_congr Iff.rfl ⟨fun ⟨l, hl, e⟩ => ?_, fun ⟨l, hl, e1, e2, e3⟩ => ⟨l, hl, ?_⟩⟩
  · have : (mv (p * 4 + l) ≠ -1 ∧ mv (q * 4 + l) ≠ -1) ∧ md mv k d (tg mv p l) (tg mv q l) = true := by simpa using e
    exact ⟨l, hl, this.1.1, this.1.2, this.2⟩
  · simp [e1, e2, e3]
theorem md_up {mv : Nat → Int32} {k d p q : Nat} (h : md mv k d p q = true) : ∀ e, md mv k (d + e) p q = true
  | 0 => h
  | e + 1 => md_s.mpr (Or.inl (md_up h e))
theorem md_le {mv : Nat → Int32} {k d e p q : Nat} (h : md mv k d p q = true) (hde : d ≤ e) : md mv k e p q = true := by
  have := md_up h (e - d)
  rw [show d + (e - d) = e by omega] at this
  exact this
theorem md_sym {mv : Nat → Int32} {k : Nat} : ∀ (d p q : Nat), md mv k d p q = true → md mv k d q p = true
  | 0, p, q, h => decide_eq_true (of_decide_eq_true h : p = q).symm
  | d + 1, p, q, h => by
    rcases md_s.mp h with h | ⟨l, hl, e1, e2, e3⟩
    · exact md_s.mpr (Or.inl (md_sym d p q h))
    · exact md_s.mpr (Or.inr ⟨l, hl, e2, e1, md_sym d _ _ e3⟩)
theorem md_syme {mv : Nat → Int32} {k d p q : Nat} : md mv k d p q = md mv k d q p := by
  cases e : md mv k d q p
  · cases e2 : md mv k d p q
    · rfl
    · rw [md_sym d p q e2] at e; cases e
  · exact md_sym d q p e
theorem md_refl {mv : Nat → Int32} {k d p : Nat} : md mv k d p p = true := by
  have : md mv k 0 p p = true := decide_eq_true rfl
  exact md_le this (Nat.zero_le _)
theorem tg_of {n k p l : Nat} {mv : Nat → Int32} (hn : n ≤ 12) (hm : MV n k mv) (hp : p < n) (hl : l < k) (h : mv (p * 4 + l) ≠ -1) : tg mv p l < n ∧ mv (p * 4 + l) = nI (tg mv p l) := by
  obtain ⟨t, ht, e⟩ := (hm p l hp hl).resolve_left h
  unfold tg
  rw [e, nI_clamp (by omega)]
  exact ⟨ht, rfl⟩
theorem pair_one : ∀ p, p < 12 → ∀ q, q < 12 → (pop (2 ^ p ||| 2 ^ q) = 1 ↔ p = q) := by decide +kernel
theorem stp_pair {n k p q l : Nat} {mv : Nat → Int32} (hn : n ≤ 12) (hm : MV n k mv) (hp : p < n) (hq : q < n) (hl : l < k) (h1 : mv (p * 4 + l) ≠ -1) (h2 : mv (q * 4 + l) ≠ -1) : stp n mv (2 ^ p ||| 2 ^ q) l = 2 ^ tg mv p l ||| 2 ^ tg mv q l := by
  have a1 := (tg_of hn hm hp hl h1).1
  have a2 := (tg_of hn hm hq hl h2).1
  have hmt : ∀ x, mv (x * 4 + l) ≠ -1 → mt mv x l = 2 ^ tg mv x l := fun x hx => by unfold mt; rw [if_neg hx]; rfl
  have e : orf (fun x => mt mv x l) (2 ^ p ||| 2 ^ q) n = 2 ^ tg mv p l ||| 2 ^ tg mv q l := by
    apply Nat.eq_of_testBit_eq
    intro i
    have hiff : (orf (fun x => mt mv x l) (2 ^ p ||| 2 ^ q) n).testBit i = true ↔ (2 ^ tg mv p l ||| 2 ^ tg mv q l).testBit i = true := by
      rw [orf_bit, Nat.testBit_or, Bool.or_eq_true, Nat.testBit_two_pow, Nat.testBit_two_pow, decide_eq_true_iff, decide_eq_true_iff]
      constructor
      · rintro ⟨x, hx, e1, e2⟩
        rw [Nat.testBit_or, Bool.or_eq_true, Nat.testBit_two_pow, Nat.testBit_two_pow, decide_eq_true_iff, decide_eq_true_iff] at e1
        have e2' : (mt mv x l).testBit i = true := e2
        rcases e1 with rfl | rfl
        · rw [hmt _ h1, Nat.testBit_two_pow, decide_eq_true_iff] at e2'; exact Or.inl e2'
        · rw [hmt _ h2, Nat.testBit_two_pow, decide_eq_true_iff] at e2'; exact Or.inr e2'
      · rintro (e1 | e1)
        · refine ⟨p, hp, by rw [Nat.testBit_or, Nat.testBit_two_pow]; simp, ?_⟩
          show (mt mv p l).testBit i = true
          rw [hmt _ h1, Nat.testBit_two_pow]; exact decide_eq_true e1
        · refine ⟨q, hq, by rw [Nat.testBit_or, Nat.testBit_two_pow, Nat.testBit_two_pow]; simp, ?_⟩
          show (mt mv q l).testBit i = true
          rw [hmt _ h2, Nat.testBit_two_pow]; exact decide_eq_true e1
    cases z : (2 ^ tg mv p l ||| 2 ^ tg mv q l).testBit i
    · cases y : (orf (fun x => mt mv x l) (2 ^ p ||| 2 ^ q) n).testBit i
      · rfl
      · rw [hiff.mp y] at z; cases z
    · exact hiff.mpr z
  unfold stp
  have hlt : 2 ^ tg mv p l ||| 2 ^ tg mv q l < 2 ^ 12 := Nat.or_lt_two_pow (Nat.pow_lt_pow_right (by decide) (by omega)) (Nat.pow_lt_pow_right (by decide) (by omega))
  rw [e, if_pos (by omega)]
abbrev one : Nat → Bool := fun T => decide (pop T = 1)
theorem gd_md {n k : Nat} {mv : Nat → Int32} (hn : n ≤ 12) (hm : MV n k mv) : ∀ (d p q : Nat), p < n → q < n → gd (stp n mv) one k d (2 ^ p ||| 2 ^ q) = md mv k d p q
  | 0, p, q, hp, hq => by
    show decide (pop (2 ^ p ||| 2 ^ q) = 1) = decide (p = q)
    exact decide_eq_decide.mpr (pair_one p (by omega) q (by omega))
  | d + 1, p, q, hp, hq => by
    have hiff : gd (stp n mv) one k (d + 1) (2 ^ p ||| 2 ^ q) = true ↔ md mv k (d + 1) p q = true := by
      rw [gd_s, md_s, gd_md hn hm d p q hp hq]
      refine or_congr Iff.rfl ⟨fun ⟨l, hl, e1, e2⟩ => ?_, fun ⟨l, hl, e1, e2, e3⟩ => ?_⟩
      · have m1 : mv (p * 4 + l) ≠ -1 := fun z => e1 (stp_miss hp (by rw [Nat.testBit_or, Nat.testBit_two_pow]; simp) z)
        have m2 : mv (q * 4 + l) ≠ -1 := fun z => e1 (stp_miss hq (by rw [Nat.testBit_or, Nat.testBit_two_pow, Nat.testBit_two_pow]; simp) z)
        rw [stp_pair hn hm hp hq hl m1 m2, gd_md hn hm d _ _ (tg_of hn hm hp hl m1).1 (tg_of hn hm hq hl m2).1] at e2
        exact ⟨l, hl, m1, m2, e2⟩
      · refine ⟨l, hl, ?_, ?_⟩
        · rw [stp_pair hn hm hp hq hl e1 e2]
          have := Nat.two_pow_pos (tg mv p l)
          have h3 : 2 ^ tg mv p l ≤ 2 ^ tg mv p l ||| 2 ^ tg mv q l := Nat.left_le_or
          omega
        · rw [stp_pair hn hm hp hq hl e1 e2, gd_md hn hm d _ _ (tg_of hn hm hp hl e1).1 (tg_of hn hm hq hl e2).1]
          exact e3
    cases z : md mv k (d + 1) p q
    · cases y : gd (stp n mv) one k (d + 1) (2 ^ p ||| 2 ^ q)
      · rfl
      · rw [hiff.mp y] at z; cases z
    · exact hiff.mpr z
def dis (mv : Nat → Int32) (k : Nat) : Nat → Nat → Nat → Int32
  | 0, p, q => if p = q then nI 0 else -1
  | L + 1, p, q => if md mv k L p q = true then dis mv k L p q else if md mv k (L + 1) p q = true then nI (L + 1) else -1
theorem dis_spec {mv : Nat → Int32} {k : Nat} : ∀ (L p q : Nat), (md mv k L p q = false ∧ dis mv k L p q = -1) ∨ (md mv k L p q = true ∧ ∃ d, d ≤ L ∧ dis mv k L p q = nI d ∧ md mv k d p q = true ∧ ∀ e, e < d → md mv k e p q = false)
  | 0, p, q => by
    by_cases c : p = q
    · exact Or.inr ⟨decide_eq_true c, 0, Nat.le_refl _, if_pos c, decide_eq_true c, fun e he => by omega⟩
    · exact Or.inl ⟨decide_eq_false c, if_neg c⟩
  | L + 1, p, q => by
    rw [dis]
    rcases dis_spec L p q with ⟨a, b⟩ | ⟨a, d, hd, b1, b2, b3⟩
    · rw [if_neg (by rw [a]; decide)]
      cases z : md mv k (L + 1) p q
      · exact Or.inl ⟨rfl, if_neg (by decide)⟩
      · refine Or.inr ⟨rfl, L + 1, Nat.le_refl _, if_pos rfl, z, fun e he => ?_⟩
        cases y : md mv k e p q
        · rfl
        · rw [md_le y (show e ≤ L by omega)] at a; cases a
    · rw [if_pos a]
      exact Or.inr ⟨md_s.mpr (Or.inl a), d, by omega, b1, b2, b3⟩
/-- exactly this far -/
def exa (mv : Nat → Int32) (k L p q : Nat) : Prop := md mv k L p q = true ∧ ∀ e, e < L → md mv k e p q = false
theorem dis_exa {mv : Nat → Int32} {k L M p q : Nat} (hL : L < 2 ^ 30) (hM : L ≤ M) (hM2 : M < 2 ^ 30) : dis mv k M p q = nI L ↔ exa mv k L p q := by
  rcases dis_spec (mv := mv) (k := k) M p q with ⟨a, b⟩ | ⟨a, d, hd, b1, b2, b3⟩
  · rw [b]
    refine ⟨fun e => absurd e (m1_nI (by omega)), fun e => ?_⟩
    rw [md_le e.1 hM] at a; cases a
  · rw [b1, nI_eq (by omega) (by omega)]
    constructor
    · rintro rfl; exact ⟨b2, b3⟩
    · rintro ⟨e1, e2⟩
      rcases Nat.lt_trichotomy d L with c | c | c
      · rw [e2 d c] at b2; cases b2
      · exact c
      · rw [b3 L c] at e1; cases e1
/-! pairs counted -/
def NJ (n : Nat) (f : Nat → Nat → Bool) : Nat := sm (fun p => sm (fun q => if p < q ∧ f p q = true then 1 else 0) n) n
theorem NJ_congr {n : Nat} {f g : Nat → Nat → Bool} (h : ∀ p q, p < q → q < n → f p q = g p q) : NJ n f = NJ n g := sm_congr n (fun p _ => sm_congr n (fun q hq => by
  by_cases c : p < q
  · rw [h p q c hq]
  · rw [if_neg (fun z => c z.1), if_neg (fun z => c z.1)]))
theorem NJ_le {n : Nat} {f : Nat → Nat → Bool} : NJ n f ≤ NJ n (fun _ _ => true) := sm_le n (fun p _ => sm_le n (fun q _ => by
  by_cases c : p < q ∧ f p q = true
  · rw [if_pos c, if_pos ⟨c.1, rfl⟩]; exact Nat.le_refl _
  · rw [if_neg c]; exact Nat.zero_le _))
theorem NJ_all : ∀ n, n < 13 → NJ n (fun _ _ => true) = n * (n - 1) / 2 := by decide +kernel
theorem NJ_66 : ∀ n, n < 13 → n * (n - 1) / 2 ≤ 66 := by decide
theorem NJ_none {n : Nat} {f : Nat → Nat → Bool} (h : ∀ p q, p < q → q < n → f p q = false) : NJ n f = 0 := sm_zero n (fun p _ => sm_zero n (fun q hq => if_neg (fun z => by rw [h p q z.1 hq] at z; cases z.2)))
theorem NJ_set {n p q : Nat} {f g : Nat → Nat → Bool} (hpq : p < q) (hq : q < n) (h0 : f p q = false) (h1 : g p q = true) (h : ∀ a b, a < b → b < n → ¬ (a = p ∧ b = q) → g a b = f a b) : NJ n g = NJ n f + 1 := by
  have e : NJ n g = sm (fun a => sm (fun b => if a < b ∧ f a b = true then 1 else 0) n + if a = p then 1 else 0) n := sm_congr n (fun a _ => by
    show sm (fun b => if a < b ∧ g a b = true then 1 else 0) n = _
    by_cases c : a = p
    · subst c
      rw [if_pos rfl]
      have h1' := sm_one (c := 1) (x := q) n hq
      refine Eq.trans ?_ (congrArg (fun z => sm (fun b => if a < b ∧ f a b = true then 1 else 0) n + z) h1')
      show _ = sm (fun b => if a < b ∧ f a b = true then 1 else 0) n + sm (fun S => if S = q then 1 else 0) n
      rw [← sm_add]
      refine sm_congr n (fun b hb => ?_)
      by_cases d : b = q
      · subst d; rw [if_pos ⟨hpq, h1⟩, if_neg (fun z => by rw [h0] at z; cases z.2), if_pos rfl]
      · rw [if_neg d, Nat.add_zero]
        by_cases z : a < b
        · rw [h a b z hb (fun y => d y.2)]
        · rw [if_neg (fun y => z y.1), if_neg (fun y => z y.1)]
    · rw [if_neg c, Nat.add_zero]
      refine sm_congr n (fun b hb => ?_)
      by_cases z : a < b
      · rw [h a b z hb (fun y => c y.1)]
      · rw [if_neg (fun y => z y.1), if_neg (fun y => z y.1)])
  rw [e, sm_add, sm_one n (by omega)]
  rfl
