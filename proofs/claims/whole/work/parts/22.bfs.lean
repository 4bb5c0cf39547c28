/-! how many bits; a search from set to set, as a number's own function (fb_holes, fb_onto: pasted from COUNTS) -/
theorem fb_holes : ∀ (m n : Nat) (f : Nat → Nat), (∀ i, i < n → f i < m) → (∀ i j, i < j → j < n → f i ≠ f j) → n ≤ m := by
  intro m
  induction m with
  | zero =>
    intro n f h1 _
    rcases Nat.eq_zero_or_pos n with h | h
    · omega
    · exact absurd (h1 0 h) (Nat.not_lt_zero _)
  | succ m ih =>
    intro n f h1 h2
    by_cases hx : ∃ i, i < n ∧ f i = m
    · obtain ⟨a, ha, hfa⟩ := hx
      have hg := ih (n - 1) (fun i => if i < a then f i else f (i + 1)) (by
        intro i hi
        by_cases q : i < a
        · simp only [if_pos q]
          have b1 := h1 i (by omega)
          have b2 := h2 i a q ha
          omega
        · simp only [if_neg q]
          have b1 := h1 (i + 1) (by omega)
          have b2 := h2 a (i + 1) (by omega) (by omega)
          omega) (by
        intro i j hij hj
        by_cases q : i < a
        · by_cases r : j < a
          · simp only [if_pos q, if_pos r]
            exact h2 i j hij (by omega)
          · simp only [if_pos q, if_neg r]
            exact h2 i (j + 1) (by omega) (by omega)
        · have r : ¬ j < a := by omega
          simp only [if_neg q, if_neg r]
          exact h2 (i + 1) (j + 1) (by omega) (by omega))
      omega
    · have hg := ih n f (fun i hi => by
        have b1 := h1 i hi
        have b2 : f i ≠ m := fun e => hx ⟨i, hi, e⟩
        omega) h2
      omega
theorem fb_onto {n : Nat} {f : Nat → Nat} (h : ∀ i, i < n → f i < n) (h2 : ∀ i j, i < j → j < n → f i ≠ f j) {y : Nat} (hy : y < n) : ∃ i, i < n ∧ f i = y := by
  refine Classical.byContradiction fun hx => ?_
  have hne : ∀ i, i < n → f i ≠ y := fun i hi e => hx ⟨i, hi, e⟩
  have := fb_holes (n - 1) n (fun i => if f i < y then f i else f i - 1) (by
    intro i hi
    have b1 := h i hi
    have b2 := hne i hi
    by_cases q : f i < y
    · simp only [if_pos q]; omega
    · simp only [if_neg q]; omega) (by
    intro i j hij hj
    have b1 := hne i (by omega)
    have b2 := hne j hj
    have b3 := h2 i j hij hj
    by_cases q : f i < y
    · by_cases r : f j < y
      · simp only [if_pos q, if_pos r]; exact b3
      · simp only [if_pos q, if_neg r]; omega
    · by_cases r : f j < y
      · simp only [if_neg q, if_pos r]; omega
      · simp only [if_neg q, if_neg r]; omega)
  omega
def popf : Nat → Nat → Nat
  | 0, _ => 0
  | f + 1, S => S % 2 + popf f (S / 2)
def pop (S : Nat) : Nat := popf 12 S
/-- bitCount's own formula over numbers -/
def bcN (x : Nat) : Nat :=
  let a := x - ((x / 2) &&& 1431655765)
  let b := (a &&& 858993459) + ((a / 4) &&& 858993459)
  let c := (b + b / 16) &&& 252645135
  let d := c + c / 256
  (d + d / 65536) &&& 63
theorem dec64 {P : Nat → Prop} (h : ∀ a, a < 64 → ∀ b, b < 64 → P (64 * a + b)) : ∀ x, x < 4096 → P x := fun x hx => by
  have e : 64 * (x / 64) + x % 64 = x := Nat.div_add_mod x 64
  have := h (x / 64) (by omega) (x % 64) (by omega)
  rw [e] at this
  exact this
theorem bcN_pop : ∀ x, x < 4096 → bcN x = pop x ∧ (x / 2) &&& 1431655765 ≤ x := dec64 (by decide +kernel)
theorem one_pop : ∀ x, x < 4096 → (0 < x ∧ x &&& (x - 1) = 0 ↔ pop x = 1) ∧ (0 < x → 0 < pop x) ∧ pop x ≤ 12 := dec64 (by decide +kernel)
theorem zs_u : ∀ n, n < 32 → (((nI n).toUInt32 &&& Int32.toUInt32 31).toBitVec % 32).toNat = n := by decide
theorem nI_ush {a k : Nat} (ha : a < 2 ^ 32) (hk : k < 32) : (Int32.toUInt32 (nI a) >>> (Int32.toUInt32 (nI k) &&& Int32.toUInt32 31)).toInt32 = nI (a / 2 ^ k) := pk_ushrN ha _ k (zs_u k hk)
theorem sp_bitCount {x : Nat} {Q : Int32 → Prop} (hx : x < 4096) (h : Q (nI (pop x))) : wp_J6_bitCount_0f7a4 (nI x) Q := by
  unfold wp_J6_bitCount_0f7a4
  have h1 := (bcN_pop x hx).2
  have e1 : nI x - ((Int32.toUInt32 (nI x) >>> (Int32.toUInt32 (nI 1) &&& Int32.toUInt32 31)).toInt32 &&& nI 1431655765) = nI (x - ((x / 2) &&& 1431655765)) := by
    rw [nI_ush (by omega) (by decide), nI_and]
    exact pk_sub h1
  rw [e1]
  have ha : x - ((x / 2) &&& 1431655765) < 4096 := by omega
  generalize hae : x - ((x / 2) &&& 1431655765) = a at ha ⊢
  have e2 : (nI a &&& nI 858993459) + ((Int32.toUInt32 (nI a) >>> (Int32.toUInt32 (nI 2) &&& Int32.toUInt32 31)).toInt32 &&& nI 858993459) = nI ((a &&& 858993459) + ((a / 4) &&& 858993459)) := by
    rw [nI_ush (by omega) (by decide), nI_and, nI_and, nI_add]
  rw [e2]
  have hb : (a &&& 858993459) + ((a / 4) &&& 858993459) < 8192 := by
    have b1 : a &&& 858993459 ≤ a := Nat.and_le_left
    have b2 : (a / 4) &&& 858993459 ≤ a / 4 := Nat.and_le_left
    omega
  generalize hbe : (a &&& 858993459) + ((a / 4) &&& 858993459) = b at hb ⊢
  have e3 : (nI b + (Int32.toUInt32 (nI b) >>> (Int32.toUInt32 (nI 4) &&& Int32.toUInt32 31)).toInt32) &&& nI 252645135 = nI ((b + b / 16) &&& 252645135) := by
    rw [nI_ush (by omega) (by decide), nI_add, nI_and]
  rw [e3]
  have hc : (b + b / 16) &&& 252645135 < 16384 := by
    have b1 : (b + b / 16) &&& 252645135 ≤ b + b / 16 := Nat.and_le_left
    omega
  generalize hce : (b + b / 16) &&& 252645135 = c at hc ⊢
  have e4 : nI c + (Int32.toUInt32 (nI c) >>> (Int32.toUInt32 (nI 8) &&& Int32.toUInt32 31)).toInt32 = nI (c + c / 256) := by
    rw [nI_ush (by omega) (by decide), nI_add]
  rw [e4]
  generalize hde : c + c / 256 = d at *
  have hd : d < 32768 := by omega
  have e5 : nI d + (Int32.toUInt32 (nI d) >>> (Int32.toUInt32 (nI 16) &&& Int32.toUInt32 31)).toInt32 &&& nI 63 = nI ((d + d / 65536) &&& 63) := by
    rw [nI_ush (by omega) (by decide), nI_add, nI_and]
  have hfin : (d + d / 65536) &&& 63 = pop x := by
    rw [← (bcN_pop x hx).1]
    show _ = bcN x
    simp only [bcN, hae, hbe, hce, hde]
  rw [e5, hfin]
  exact h
/-- the state of a search: the queue, how many, from where, by which letter -/
abbrev BS : Type := (Nat → Nat) × Nat × (Nat → Nat) × (Nat → Nat)
def inb (b : BS) (T : Nat) : Bool := (List.range b.2.1).any (fun i => b.1 i == T)
theorem inb_iff {b : BS} {T : Nat} : inb b T = true ↔ ∃ i, i < b.2.1 ∧ b.1 i = T := by simp [inb, List.any_eq_true]
theorem inb_no {b : BS} {T : Nat} (h : inb b T = false) {i : Nat} (hi : i < b.2.1) : b.1 i ≠ T := fun e => by
  have := inb_iff.mpr ⟨i, hi, e⟩
  rw [h] at this
  cases this
def bpush (b : BS) (T S l : Nat) : BS := (fun i => if i = b.2.1 then T else b.1 i, b.2.1 + 1, fun X => if X = T then S else b.2.2.1 X, fun X => if X = T then l else b.2.2.2 X)
def blet (nx : Nat → Nat → Nat) (w : Nat → Bool) (S k : Nat) : Nat → BS → Nat × BS
  | 0, b => (0, b)
  | m + 1, b => if nx S (k - (m + 1)) = 0 ∨ inb b (nx S (k - (m + 1))) = true then blet nx w S k m b else
      if w (nx S (k - (m + 1))) = true then (nx S (k - (m + 1)), bpush b (nx S (k - (m + 1))) S (k - (m + 1))) else blet nx w S k m (bpush b (nx S (k - (m + 1))) S (k - (m + 1)))
def bout (nx : Nat → Nat → Nat) (w : Nat → Bool) (k : Nat) : Nat → Nat → BS → Nat × BS
  | 0, _, b => (0, b)
  | f + 1, i, b => if i < b.2.1 then (if (blet nx w (b.1 i) k k b).1 = 0 then bout nx w k f (i + 1) (blet nx w (b.1 i) k k b).2 else blet nx w (b.1 i) k k b) else (0, b)
def b0 (S : Nat) : BS := (fun i => if i = 0 then S else 0, 1, fun _ => 0, fun _ => 1)
def bfs (nx : Nat → Nat → Nat) (w : Nat → Bool) (k S : Nat) : Nat × BS := if w S = true then (S, b0 S) else bout nx w k 4096 0 (b0 S)
/-- what holds of a search's state all along -/
def BOK (b : BS) : Prop := (∀ i, i < b.2.1 → 0 < b.1 i ∧ b.1 i < 4096 ∧ b.2.2.1 (b.1 i) < 4096 ∧ b.2.2.2 (b.1 i) < 4 ∧ 0 < b.2.2.1 (b.1 i) * 4 + b.2.2.2 (b.1 i)) ∧ (∀ i j, i < j → j < b.2.1 → b.1 i ≠ b.1 j) ∧ (∀ i, 0 < i → i < b.2.1 → ∃ j, j < i ∧ b.1 j = b.2.2.1 (b.1 i)) ∧ 0 < b.2.1 ∧ b.2.2.1 (b.1 0) = 0
theorem BOK.sz {b : BS} (h : BOK b) : b.2.1 ≤ 4095 := fb_holes 4095 b.2.1 (fun i => b.1 i - 1) (fun i hi => by have := h.1 i hi; omega) (fun i j hij hj => by
  have h1 := h.1 i (by omega)
  have h2 := h.1 j hj
  have h3 := h.2.1 i j hij hj
  omega)
theorem bpush_old {b : BS} {T S l i : Nat} (hi : i < b.2.1) : (bpush b T S l).1 i = b.1 i := if_neg (by omega)
theorem bpush_new {b : BS} {T S l : Nat} : (bpush b T S l).1 b.2.1 = T := if_pos rfl
theorem BOK.push {b : BS} (h : BOK b) {T S l i : Nat} (hT : 0 < T) (hT2 : T < 4096) (hn : inb b T = false) (hi : i < b.2.1) (hS : b.1 i = S) (hl : l < 4) : BOK (bpush b T S l) := by
  have hS0 := h.1 i hi
  rw [hS] at hS0
  refine ⟨fun j hj => ?_, fun a c hac hc => ?_, fun j hj0 hj => ?_, by show 0 < b.2.1 + 1; omega, ?_⟩
  · by_cases e : j = b.2.1
    · subst e
      rw [bpush_new]
      refine ⟨hT, hT2, ?_, ?_, ?_⟩
      · show (if T = T then S else _) < 4096; rw [if_pos rfl]; omega
      · show (if T = T then l else _) < 4; rw [if_pos rfl]; exact hl
      · show 0 < (if T = T then S else _) * 4 + (if T = T then l else _); rw [if_pos rfl, if_pos rfl]; omega
    · have hj2 : j < b.2.1 := by have : j < b.2.1 + 1 := hj; omega
      rw [bpush_old hj2]
      have hne := inb_no hn hj2
      obtain ⟨g1, g2, g3, g4, g5⟩ := h.1 j hj2
      refine ⟨g1, g2, ?_, ?_, ?_⟩
      · show (if b.1 j = T then S else _) < 4096; rw [if_neg hne]; exact g3
      · show (if b.1 j = T then l else _) < 4; rw [if_neg hne]; exact g4
      · show 0 < (if b.1 j = T then S else _) * 4 + (if b.1 j = T then l else _); rw [if_neg hne, if_neg hne]; exact g5
  · have hc2 : c < b.2.1 + 1 := hc
    rw [bpush_old (show a < b.2.1 by omega)]
    by_cases e : c = b.2.1
    · subst e; rw [bpush_new]; exact inb_no hn (by omega)
    · rw [bpush_old (by omega)]; exact h.2.1 a c hac (by omega)
  · have hj2 : j < b.2.1 + 1 := hj
    by_cases e : j = b.2.1
    · subst e
      refine ⟨i, hi, ?_⟩
      rw [bpush_old hi, bpush_new, hS]
      show S = if T = T then S else _
      rw [if_pos rfl]
    · obtain ⟨c, hc, e2⟩ := h.2.2.1 j hj0 (by omega)
      refine ⟨c, hc, ?_⟩
      rw [bpush_old (by omega), bpush_old (by omega), e2]
      show _ = if b.1 j = T then S else _
      rw [if_neg (inb_no hn (by omega))]
  · rw [bpush_old h.2.2.2.1]
    show (if b.1 0 = T then S else _) = 0
    rw [if_neg (inb_no hn h.2.2.2.1)]
    exact h.2.2.2.2
theorem BOK.start {S : Nat} (h : 0 < S) (h2 : S < 4096) : BOK (b0 S) := by
  refine ⟨fun i hi => ?_, fun i j hij hj => ?_, fun i h0 hi => ?_, by show 0 < 1; omega, rfl⟩
  · have : i = 0 := by have : i < 1 := hi; omega
    subst this
    exact ⟨h, h2, by show 0 < 4096; omega, by show 1 < 4; omega, by show 0 < 0 * 4 + 1; omega⟩
  · have : j < 1 := hj; omega
  · have : i < 1 := hi; omega
/-- the letters that a set goes by lead to sets of this size -/
def NX (nx : Nat → Nat → Nat) (k : Nat) : Prop := ∀ S l, l < k → nx S l < 4096
theorem blet_ok {nx : Nat → Nat → Nat} {w : Nat → Bool} {S k i : Nat} (hk : k ≤ 4) (hx : NX nx k) : ∀ (m : Nat) (b : BS), m ≤ k → BOK b → i < b.2.1 → b.1 i = S → BOK (blet nx w S k m b).2 ∧ b.2.1 ≤ (blet nx w S k m b).2.2.1
  | 0, b, _, h, _, _ => ⟨h, Nat.le_refl _⟩
  | m + 1, b, hm, h, hi, hS => by
    rw [blet]
    by_cases c : nx S (k - (m + 1)) = 0 ∨ inb b (nx S (k - (m + 1))) = true
    · rw [if_pos c]; exact blet_ok hk hx m b (by omega) h hi hS
    · rw [if_neg c]
      have c1 : 0 < nx S (k - (m + 1)) := by rcases Nat.eq_zero_or_pos (nx S (k - (m + 1))) with e | e; exact absurd (Or.inl e) c; exact e
      have c2 : inb b (nx S (k - (m + 1))) = false := by cases e : inb b (nx S (k - (m + 1))); rfl; exact absurd (Or.inr e) c
      have hb := h.push (S := S) (l := k - (m + 1)) c1 (hx S _ (by omega)) c2 hi hS (by omega)
      by_cases cw : w (nx S (k - (m + 1))) = true
      · rw [if_pos cw]; exact ⟨hb, Nat.le_succ _⟩
      · rw [if_neg cw]
        have := blet_ok (w := w) hk hx m _ (by omega) hb (Nat.lt_succ_of_lt hi) ((bpush_old hi).trans hS)
        exact ⟨this.1, Nat.le_trans (Nat.le_succ _) this.2⟩
theorem bout_ok {nx : Nat → Nat → Nat} {w : Nat → Bool} {k : Nat} (hk : k ≤ 4) (hx : NX nx k) : ∀ (f i : Nat) (b : BS), BOK b → BOK (bout nx w k f i b).2
  | 0, _, b, h => h
  | f + 1, i, b, h => by
    rw [bout]
    by_cases c : i < b.2.1
    · rw [if_pos c]
      have := blet_ok (w := w) hk hx k b (Nat.le_refl _) h c rfl
      by_cases c2 : (blet nx w (b.1 i) k k b).1 = 0
      · rw [if_pos c2]; exact bout_ok hk hx f (i + 1) _ this.1
      · rw [if_neg c2]; exact this.1
    · rw [if_neg c]; exact h
theorem bfs_ok {nx : Nat → Nat → Nat} {w : Nat → Bool} {k S : Nat} (hk : k ≤ 4) (hx : NX nx k) (hS : 0 < S) (hS2 : S < 4096) : BOK (bfs nx w k S).2 := by
  unfold bfs
  by_cases c : w S = true
  · rw [if_pos c]; exact BOK.start hS hS2
  · rw [if_neg c]; exact bout_ok hk hx _ _ _ (BOK.start hS hS2)
