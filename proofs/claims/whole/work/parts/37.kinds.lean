/-! the kinds of a whole machine, as truth values -/
def tg (mv : Nat → Int32) (q l : Nat) : Nat := (mv (q * 4 + l)).toNatClampNeg
def WM (n k : Nat) (mv : Nat → Int32) : Prop := ∀ q l, q < n → l < k → mv (q * 4 + l) = nI (tg mv q l) ∧ tg mv q l < n
theorem WM.of {n k : Nat} {mv : Nat → Int32} (hn : n ≤ 12) (hm : MV n k mv) (hw : WH n k mv) : WM n k mv := fun q l hq hl => by
  obtain ⟨t, ht, e⟩ := (hm q l hq hl).resolve_left (hw q l hq hl)
  unfold tg
  rw [e, nI_clamp (by omega)]
  exact ⟨rfl, ht⟩
def bI (b : Bool) : Int32 := if b = true then nI 1 else nI 0
def bN (b : Bool) (v : Nat) : Nat := if b = true then v else 0
theorem bI_T : bI true = nI 1 := rfl
theorem bI_F : bI false = nI 0 := rfl
def anyB (p : Nat → Bool) : Nat → Bool
  | 0 => false
  | m + 1 => anyB p m || p m
def allB (p : Nat → Bool) : Nat → Bool
  | 0 => true
  | m + 1 => allB p m && p m
theorem anyB_iff {p : Nat → Bool} : ∀ {m : Nat}, anyB p m = true ↔ ∃ i, i < m ∧ p i = true
  | 0 => ⟨fun h => absurd (show false = true from h) (by decide), fun ⟨i, hi, _⟩ => by omega⟩
  | m + 1 => by
    rw [anyB, Bool.or_eq_true, anyB_iff]
    constructor
    · rintro (⟨i, hi, e⟩ | e)
      · exact ⟨i, by omega, e⟩
      · exact ⟨m, by omega, e⟩
    · rintro ⟨i, hi, e⟩
      by_cases c : i = m
      · subst c; exact Or.inr e
      · exact Or.inl ⟨i, by omega, e⟩
theorem allB_iff {p : Nat → Bool} : ∀ {m : Nat}, allB p m = true ↔ ∀ i, i < m → p i = true
  | 0 => ⟨fun _ i hi => by omega, fun _ => rfl⟩
  | m + 1 => by
    rw [allB, Bool.and_eq_true, allB_iff]
    constructor
    · rintro ⟨h, e⟩ i hi
      by_cases c : i = m
      · subst c; exact e
      · exact h i (by omega)
    · exact fun h => ⟨fun i hi => h i (by omega), h m (by omega)⟩
theorem anyB_up {p : Nat → Bool} {m i : Nat} (hi : i < m) (h : p i = true) : anyB p m = true := anyB_iff.mpr ⟨i, hi, h⟩
theorem allB_dn {p : Nat → Bool} {m i : Nat} (hi : i < m) (h : p i = false) : allB p m = false := by
  cases e : allB p m
  · rfl
  · rw [allB_iff.mp e i hi] at h; cases h
def swapB (n : Nat) (mv : Nat → Int32) (l : Nat) : Bool := decide (orf (fun q => mt mv q l) (2 ^ n - 1) n = 2 ^ n - 1)
def orderB (n : Nat) (mv : Nat → Int32) (l : Nat) : Bool := allB (fun q => decide (q = 0 ∨ tg mv (q - 1) l ≤ tg mv q l)) n
def loopB (n : Nat) (mv : Nat → Int32) (l : Nat) : Bool := anyB (fun q => decide (tg mv q l = q)) n
/-- the i-th state from 0 on -/
def itf (f : Nat → Nat) : Nat → Nat
  | 0 => 0
  | i + 1 => f (itf f i)
def led (f : Nat → Nat) : Nat → Nat
  | 0 => 0
  | i + 1 => led f i ||| 2 ^ itf f (i + 1)
def ringB (n : Nat) (mv : Nat → Int32) (l : Nat) : Bool := decide (led (fun q => tg mv q l) n = 2 ^ n - 1)
theorem led_bit {f : Nat → Nat} {t : Nat} : ∀ {i : Nat}, (led f i).testBit t = true ↔ ∃ j, j < i ∧ itf f (j + 1) = t
  | 0 => by rw [led, Nat.zero_testBit]; exact ⟨fun h => absurd h (by decide), fun ⟨j, hj, _⟩ => by omega⟩
  | i + 1 => by
    rw [led, Nat.testBit_or, Bool.or_eq_true, led_bit, Nat.testBit_two_pow]
    constructor
    · rintro (⟨j, hj, e⟩ | e)
      · exact ⟨j, by omega, e⟩
      · exact ⟨i, by omega, of_decide_eq_true e⟩
    · rintro ⟨j, hj, e⟩
      by_cases c : j = i
      · subst c; exact Or.inr (decide_eq_true e)
      · exact Or.inl ⟨j, by omega, e⟩
theorem full_iff {n X : Nat} (hX : X < 2 ^ n) : X = 2 ^ n - 1 ↔ ∀ t, t < n → X.testBit t = true := by
  constructor
  · rintro rfl t ht
    rw [Nat.testBit_two_pow_sub_one]
    exact decide_eq_true ht
  · intro h
    apply Nat.eq_of_testBit_eq
    intro i
    rw [Nat.testBit_two_pow_sub_one]
    by_cases c : i < n
    · rw [h i c, decide_eq_true c]
    · rw [decide_eq_false c]
      exact Nat.testBit_lt_two_pow (Nat.lt_of_lt_of_le hX (Nat.pow_le_pow_right (by decide) (by omega)))
theorem itf_lt {f : Nat → Nat} {n : Nat} (h0 : 0 < n) (hf : ∀ q, q < n → f q < n) : ∀ i, itf f i < n
  | 0 => h0
  | i + 1 => hf _ (itf_lt h0 hf i)
theorem led_lt {f : Nat → Nat} {n : Nat} (h0 : 0 < n) (hf : ∀ q, q < n → f q < n) : ∀ i, led f i < 2 ^ n
  | 0 => Nat.two_pow_pos n
  | i + 1 => Nat.or_lt_two_pow (led_lt h0 hf i) (Nat.pow_lt_pow_right (by decide) (itf_lt h0 hf _))
section KND
variable {n k l : Nat} {mv : Nat → Int32}
theorem orf_full (hw : WM n k mv) (hn : n ≤ 12) (hl : l < k) : orf (fun q => mt mv q l) (2 ^ n - 1) n < 2 ^ n ∧ ∀ t, (orf (fun q => mt mv q l) (2 ^ n - 1) n).testBit t = true ↔ ∃ q, q < n ∧ tg mv q l = t := by
  have hmt : ∀ q, q < n → mt mv q l = 2 ^ tg mv q l := fun q hq => by
    unfold mt
    rw [if_neg (by rw [(hw q l hq hl).1]; exact nI_m1 (by have := (hw q l hq hl).2; omega))]
    rfl
  refine ⟨orf_lt (fun q hq => by
    show mt mv q l < _
    rw [hmt q hq]; exact Nat.pow_lt_pow_right (by decide) (hw q l hq hl).2), fun t => ?_⟩
  rw [orf_bit]
  constructor
  · rintro ⟨q, hq, -, e⟩
    have e' : (mt mv q l).testBit t = true := e
    rw [hmt q hq, Nat.testBit_two_pow] at e'
    exact ⟨q, hq, of_decide_eq_true e'⟩
  · rintro ⟨q, hq, e⟩
    refine ⟨q, hq, ?_, ?_⟩
    · rw [Nat.testBit_two_pow_sub_one]; exact decide_eq_true hq
    · show (mt mv q l).testBit t = true
      rw [hmt q hq, Nat.testBit_two_pow]; exact decide_eq_true e
theorem swapB_iff (hw : WM n k mv) (hn : n ≤ 12) (hl : l < k) : swapB n mv l = true ↔ ∀ t, t < n → ∃ q, q < n ∧ tg mv q l = t := by
  obtain ⟨h1, h2⟩ := orf_full hw hn hl
  unfold swapB
  rw [decide_eq_true_iff, full_iff h1]
  exact ⟨fun h t ht => (h2 t).mp (h t ht), fun h t ht => (h2 t).mpr (h t ht)⟩
/-- each state once -/
theorem swap_inj (hw : WM n k mv) (hl : l < k) (h : ∀ t, t < n → ∃ q, q < n ∧ tg mv q l = t) : ∀ a b, a < n → b < n → tg mv a l = tg mv b l → a = b := by
  have hch : ∀ t, ∃ q, t < n → q < n ∧ tg mv q l = t := fun t => by
    by_cases c : t < n
    · obtain ⟨q, hq⟩ := h t c; exact ⟨q, fun _ => hq⟩
    · exact ⟨0, fun z => absurd z c⟩
  obtain ⟨g, hg⟩ : ∃ g : Nat → Nat, ∀ t, t < n → g t < n ∧ tg mv (g t) l = t := ⟨fun t => Classical.choose (hch t), fun t => Classical.choose_spec (hch t)⟩
  have hgo : ∀ y, y < n → ∃ i, i < n ∧ g i = y := fun y hy => fb_onto (fun i hi => (hg i hi).1) (fun i j hij hj e => by
    have e1 := (hg i (by omega)).2
    have e2 := (hg j hj).2
    rw [e, e2] at e1
    omega) hy
  intro a b ha hb e
  obtain ⟨i, hi, ei⟩ := hgo a ha
  obtain ⟨j, hj, ej⟩ := hgo b hb
  have e1 := (hg i hi).2
  have e2 := (hg j hj).2
  rw [ei] at e1
  rw [ej] at e2
  have : i = j := by rw [← e1, ← e2]; exact e
  rw [← ei, ← ej, this]
theorem ringB_iff (hw : WM n k mv) (h0 : 0 < n) (hl : l < k) : ringB n mv l = true ↔ ((∀ i, 0 < i → i < n → itf (fun q => tg mv q l) i ≠ 0) ∧ (∀ t, t < n → ∃ q, q < n ∧ tg mv q l = t) ∧ itf (fun q => tg mv q l) n = 0) := by
  have hf : ∀ q, q < n → tg mv q l < n := fun q hq => (hw q l hq hl).2
  unfold ringB
  rw [decide_eq_true_iff, full_iff (led_lt h0 hf n)]
  constructor
  · intro h
    have hon : ∀ t, t < n → ∃ j, j < n ∧ itf (fun q => tg mv q l) (j + 1) = t := fun t ht => led_bit.mp (h t ht)
    have hinj : ∀ a b, a < b → b < n → itf (fun q => tg mv q l) (a + 1) ≠ itf (fun q => tg mv q l) (b + 1) := by
      intro a b hab hb e
      -- n values in n - 1 places
      have hch : ∀ t, ∃ j, t < n → j < n ∧ itf (fun q => tg mv q l) (j + 1) = t := fun t => by
        by_cases c : t < n
        · obtain ⟨j, hj⟩ := hon t c; exact ⟨j, fun _ => hj⟩
        · exact ⟨0, fun z => absurd z c⟩
      obtain ⟨g, hg⟩ : ∃ g : Nat → Nat, ∀ t, t < n → g t < n ∧ itf (fun q => tg mv q l) (g t + 1) = t := ⟨fun t => Classical.choose (hch t), fun t => Classical.choose_spec (hch t)⟩
      have hgo : ∀ y, y < n → ∃ i, i < n ∧ g i = y := fun y hy => fb_onto (fun i hi => (hg i hi).1) (fun i j hij hj e => by
        have e1 := (hg i (by omega)).2
        have e2 := (hg j hj).2
        rw [e, e2] at e1
        omega) hy
      obtain ⟨i, hi, ei⟩ := hgo a (by omega)
      obtain ⟨j, hj, ej⟩ := hgo b hb
      have e1 := (hg i hi).2
      have e2 := (hg j hj).2
      rw [ei] at e1
      rw [ej] at e2
      have : i = j := by rw [← e1, ← e2]; exact e
      rw [this, ej] at ei
      omega
    obtain ⟨j, hj, e0⟩ := hon 0 h0
    have hjn : j = n - 1 := by
      by_cases c : j + 1 < n
      · refine absurd ?_ (hinj 0 (j + 1) (by omega) c)
        show tg mv (itf (fun q => tg mv q l) 0) l = tg mv (itf (fun q => tg mv q l) (j + 1)) l
        rw [e0]; rfl
      · omega
    refine ⟨fun i hi hin e => ?_, fun t ht => ?_, ?_⟩
    · refine absurd ?_ (hinj (i - 1) (n - 1) (by omega) (by omega))
      rw [show i - 1 + 1 = i by omega, e, ← hjn, e0]
    · obtain ⟨a, ha, e⟩ := hon t ht
      exact ⟨itf (fun q => tg mv q l) a, itf_lt h0 hf a, e⟩
    · rw [hjn, show n - 1 + 1 = n by omega] at e0
      exact e0
  · rintro ⟨h1, h2, h3⟩
    have hinj := swap_inj hw hl h2
    have hne : ∀ d a, 0 < d → a + d ≤ n → d < n → itf (fun q => tg mv q l) a ≠ itf (fun q => tg mv q l) (a + d) := by
      intro d a
      induction a with
      | zero => intro hd _ hdn e; rw [Nat.zero_add] at e; exact h1 d hd hdn e.symm
      | succ a ih =>
        intro hd had hdn e
        rw [show a + 1 + d = (a + d) + 1 by omega] at e
        exact ih hd (by omega) hdn (hinj _ _ (itf_lt h0 hf _) (itf_lt h0 hf _) e)
    intro t ht
    obtain ⟨i, hi, e⟩ := fb_onto (n := n) (f := fun i => itf (fun q => tg mv q l) (i + 1)) (fun i _ => itf_lt h0 hf _) (fun i j hij hj e => hne (j - i) (i + 1) (by omega) (by omega) (by omega) (by rw [show i + 1 + (j - i) = j + 1 by omega]; exact e)) ht
    exact led_bit.mpr ⟨i, hi, e⟩
end KND
