/-! a search that stops is the beginning of the one that doesn't -/
def PRE (b1 b2 : BS) : Prop := b1.2.1 ≤ b2.2.1 ∧ (∀ i, i < b1.2.1 → b2.1 i = b1.1 i) ∧ ∀ i, i < b1.2.1 → b2.2.2.1 (b1.1 i) = b1.2.2.1 (b1.1 i) ∧ b2.2.2.2 (b1.1 i) = b1.2.2.2 (b1.1 i)
theorem PRE.rf {b : BS} : PRE b b := ⟨Nat.le_refl _, fun _ _ => rfl, fun _ _ => ⟨rfl, rfl⟩⟩
theorem PRE.tr {a b c : BS} (h1 : PRE a b) (h2 : PRE b c) : PRE a c := by
  refine ⟨Nat.le_trans h1.1 h2.1, fun i hi => (h2.2.1 i (Nat.lt_of_lt_of_le hi h1.1)).trans (h1.2.1 i hi), fun i hi => ?_⟩
  have e := h1.2.1 i hi
  have g := h2.2.2 i (Nat.lt_of_lt_of_le hi h1.1)
  rw [e] at g
  exact ⟨g.1.trans (h1.2.2 i hi).1, g.2.trans (h1.2.2 i hi).2⟩
theorem PRE.push {b : BS} {T S l : Nat} (hn : inb b T = false) : PRE b (bpush b T S l) := by
  refine ⟨Nat.le_succ _, fun i hi => bpush_old hi, fun i hi => ?_⟩
  have hne := inb_no hn hi
  exact ⟨if_neg hne, if_neg hne⟩
theorem nin {b : BS} {T : Nat} (h : ¬ inb b T = true) : inb b T = false := by cases e : inb b T; rfl; exact absurd e h
theorem blet_pre {nx : Nat → Nat → Nat} {w : Nat → Bool} {S k : Nat} : ∀ (m : Nat) (b : BS), PRE b (blet nx w S k m b).2
  | 0, b => PRE.rf
  | m + 1, b => by
    rw [blet]
    by_cases c : nx S (k - (m + 1)) = 0 ∨ inb b (nx S (k - (m + 1))) = true
    · rw [if_pos c]; exact blet_pre m b
    · rw [if_neg c]
      have hp := PRE.push (T := nx S (k - (m + 1))) (S := S) (l := k - (m + 1)) (nin (fun q => c (Or.inr q)))
      by_cases cw : w (nx S (k - (m + 1))) = true
      · rw [if_pos cw]; exact hp
      · rw [if_neg cw]; exact hp.tr (blet_pre m _)
theorem bout_pre {nx : Nat → Nat → Nat} {w : Nat → Bool} {k : Nat} : ∀ (f i : Nat) (b : BS), PRE b (bout nx w k f i b).2
  | 0, _, b => PRE.rf
  | f + 1, i, b => by
    rw [bout]
    by_cases c : i < b.2.1
    · rw [if_pos c]
      by_cases c2 : (blet nx w (b.1 i) k k b).1 = 0
      · rw [if_pos c2]; exact (blet_pre k b).tr (bout_pre f (i + 1) _)
      · rw [if_neg c2]; exact blet_pre k b
    · rw [if_neg c]; exact PRE.rf
def NW (w : Nat → Bool) (b : BS) : Prop := ∀ i, i < b.2.1 → w (b.1 i) = false
/-- what a stopped search A is beside the whole one B -/
def CMP (w : Nat → Bool) (A B : Nat × BS) : Prop := B.1 = 0 ∧ (A.1 = 0 → A.2 = B.2 ∧ NW w A.2) ∧ (A.1 ≠ 0 → PRE A.2 B.2 ∧ w A.1 = true ∧ ∃ t, A.2.2.1 = t + 1 ∧ A.2.1 t = A.1 ∧ ∀ i, i < t → w (A.2.1 i) = false)
theorem NW.push {w : Nat → Bool} {b : BS} {T S l : Nat} (h : NW w b) (hT : w T = false) : NW w (bpush b T S l) := fun i hi => by
  have hi2 : i < b.2.1 + 1 := hi
  by_cases c : i = b.2.1
  · subst c; rw [bpush_new]; exact hT
  · rw [bpush_old (by omega)]; exact h i (by omega)
theorem blet_cmp {nx : Nat → Nat → Nat} {w : Nat → Bool} {S k : Nat} : ∀ (m : Nat) (b : BS), NW w b → CMP w (blet nx w S k m b) (blet nx (fun _ => false) S k m b)
  | 0, b, h => ⟨rfl, fun _ => ⟨rfl, h⟩, fun c => absurd rfl c⟩
  | m + 1, b, h => by
    rw [blet, blet]
    by_cases c : nx S (k - (m + 1)) = 0 ∨ inb b (nx S (k - (m + 1))) = true
    · rw [if_pos c, if_pos c]; exact blet_cmp m b h
    · rw [if_neg c, if_neg c, if_neg (show ¬ (false = true) by decide)]
      by_cases cw : w (nx S (k - (m + 1))) = true
      · rw [if_pos cw]
        have h0 := blet_cmp (nx := nx) (w := fun _ => false) (S := S) (k := k) m (bpush b (nx S (k - (m + 1))) S (k - (m + 1))) (fun _ _ => rfl)
        refine ⟨h0.1, fun z => absurd (Or.inl z) c, fun _ => ⟨blet_pre m _, cw, b.2.1, rfl, bpush_new, fun i hi => ?_⟩⟩
        rw [bpush_old hi]; exact h i hi
      · rw [if_neg cw]
        exact blet_cmp m _ (h.push (by cases e : w (nx S (k - (m + 1))); rfl; exact absurd e cw))
theorem bout_cmp {nx : Nat → Nat → Nat} {w : Nat → Bool} {k : Nat} : ∀ (f i : Nat) (b : BS), NW w b → CMP w (bout nx w k f i b) (bout nx (fun _ => false) k f i b)
  | 0, _, b, h => ⟨rfl, fun _ => ⟨rfl, h⟩, fun c => absurd rfl c⟩
  | f + 1, i, b, h => by
    rw [bout, bout]
    by_cases c : i < b.2.1
    · rw [if_pos c, if_pos c]
      have hc := blet_cmp (nx := nx) (S := b.1 i) (k := k) k b h
      rw [if_pos hc.1]
      by_cases c2 : (blet nx w (b.1 i) k k b).1 = 0
      · rw [if_pos c2]
        obtain ⟨e, hn⟩ := hc.2.1 c2
        rw [← e]
        exact bout_cmp f (i + 1) _ hn
      · rw [if_neg c2]
        obtain ⟨g1, g2, g3⟩ := hc.2.2 c2
        have h0 := bout_cmp (nx := nx) (w := fun _ => false) (k := k) f (i + 1) (blet nx (fun _ => false) (b.1 i) k k b).2 (fun _ _ => rfl)
        exact ⟨h0.1, fun z => absurd z c2, fun _ => ⟨g1.tr (bout_pre f (i + 1) _), g2, g3⟩⟩
    · rw [if_neg c, if_neg c]
      exact ⟨rfl, fun _ => ⟨rfl, h⟩, fun c => absurd rfl c⟩
theorem bfs_cmp {nx : Nat → Nat → Nat} {w : Nat → Bool} {k S : Nat} (hS : 0 < S) : CMP w (bfs nx w k S) (bfs nx (fun _ => false) k S) := by
  unfold bfs
  rw [if_neg (show ¬ (false = true) by decide)]
  by_cases c : w S = true
  · rw [if_pos c]
    have h0 := bout_cmp (nx := nx) (w := fun _ => false) (k := k) 4096 0 (b0 S) (fun _ _ => rfl)
    exact ⟨h0.1, fun z => absurd z (by show S ≠ 0; omega), fun _ => ⟨bout_pre _ _ _, c, 0, rfl, rfl, fun i hi => absurd hi (by omega)⟩⟩
  · rw [if_neg c]
    refine bout_cmp 4096 0 (b0 S) (fun i hi => ?_)
    have : i = 0 := by have : i < 1 := hi; omega
    subst this
    show w S = false
    cases e : w S; rfl; exact absurd e c
theorem CH.pre {b1 b2 : BS} {T n : Nat} (h : PRE b1 b2) (hc : CH b1 T n) : CH b2 T n ∧ ∀ i, i < n → wdl b2 T n i = wdl b1 T n i := by
  have key : ∀ j, j ≤ n + 1 → itp b2.2.2.1 j T = itp b1.2.2.1 j T := by
    intro j
    induction j with
    | zero => intro _; rfl
    | succ j ih =>
      intro hj
      obtain ⟨i, hi, e⟩ := hc.1 j (by omega)
      rw [itp_s, itp_s, ih (by omega), ← e]
      exact (h.2.2 i hi).1
  refine ⟨⟨fun j hj => ?_, (key (n + 1) (Nat.le_refl _)).trans hc.2⟩, fun i hi => ?_⟩
  · obtain ⟨i, hi, e⟩ := hc.1 j hj
    exact ⟨i, Nat.lt_of_lt_of_le hi h.1, by rw [h.2.1 i hi, e, key j (by omega)]⟩
  · unfold wdl
    obtain ⟨i2, hi2, e⟩ := hc.1 (n - 1 - i) (by omega)
    rw [key _ (by omega), ← e]
    exact (h.2.2 i2 hi2).2
/-- the first with the fewest bits -/
def few (q : Nat → Nat) : Nat → Nat
  | 0 => q 0
  | m + 1 => if pop (few q m) ≤ pop (q (m + 1)) then few q m else q (m + 1)
theorem few_in (q : Nat → Nat) : ∀ m, ∃ i, i ≤ m ∧ few q m = q i
  | 0 => ⟨0, Nat.le_refl _, rfl⟩
  | m + 1 => by
    rw [few]
    by_cases c : pop (few q m) ≤ pop (q (m + 1))
    · rw [if_pos c]; obtain ⟨i, hi, e⟩ := few_in q m; exact ⟨i, by omega, e⟩
    · rw [if_neg c]; exact ⟨m + 1, Nat.le_refl _, rfl⟩
theorem few_one {q : Nat → Nat} {t : Nat} (h1 : pop (q t) = 1) (h2 : ∀ i, i < t → pop (q i) ≠ 1) : ∀ m, t ≤ m → (∀ i, i ≤ m → 0 < pop (q i)) → few q m = q t
  | 0, h, _ => by
    have : t = 0 := by omega
    subst this; rfl
  | m + 1, h, h3 => by
    rw [few]
    by_cases c : t = m + 1
    · subst c
      obtain ⟨i, hi, e⟩ := few_in q m
      have a := h2 i (by omega)
      have b := h3 i (by omega)
      rw [if_neg (by rw [e, h1]; omega)]
    · rw [few_one h1 h2 m (by omega) (fun i hi => h3 i (by omega)), h1, if_pos (show 1 ≤ pop (q (m + 1)) from h3 _ (Nat.le_refl _))]
theorem few_cong {q q2 : Nat → Nat} : ∀ m, (∀ i, i ≤ m → q i = q2 i) → few q m = few q2 m
  | 0, h => h 0 (Nat.le_refl _)
  | m + 1, h => by rw [few, few, few_cong m (fun i hi => h i (by omega)), h (m + 1) (Nat.le_refl _)]
theorem sp_found {b : BS} {size : Int32} {from_ queue : Nat → Int32} {i : Nat} {Q : Int32 → Prop} (hb : BOK b) (h : RC b size from_ queue) (hi : i < b.2.1) (hq : Q (nI (b.1 i))) : wp_X7_found size queue (nI i) Q := by
  have hsz := hb.sz
  unfold wp_X7_found
  rw [h.1]
  refine b_F (nI_nlt0 (by omega)) (b_F (nI_ge hi (by omega)) (b_F (nI_ge (by omega) (by omega)) ⟨vin (by omega) (by omega), ?_⟩))
  rw [nI_clamp (by omega), h.2.1 i hi]
  exact hq
theorem sp_fewest {b : BS} {size : Int32} {from_ queue : Nat → Int32} {Q : Int32 → Prop} (hb : BOK b) (h : RC b size from_ queue) (hq : Q (nI (few b.1 (b.2.1 - 1)))) : wp_X7_fewest size queue Q := by
  have hsz := hb.sz
  have h0 := hb.2.2.2.1
  unfold wp_X7_fewest
  refine sp_found hb h h0 ?_
  refine pk_loop (fun f i (s : Int32) => L_X7_fewest_8 size queue Q f s (nI i)) (fun i s => 1 ≤ i ∧ s = nI (few b.1 (i - 1))) b.2.1 1 (nI (b.1 0)) h0 ⟨Nat.le_refl _, rfl⟩ ?_ ?_
  · rintro f s ⟨h1, rfl⟩
    show L_X7_fewest_8 size queue Q (f + 1) _ (nI b.2.1)
    unfold L_X7_fewest_8
    rw [h.1]
    exact b_T (nI_le (Nat.le_refl _) (by omega)) hq
  · rintro f i s hi ⟨h1, rfl⟩ ih
    show L_X7_fewest_8 size queue Q (f + 1) _ (nI i)
    unfold L_X7_fewest_8
    obtain ⟨i2, hi2, e2⟩ := few_in b.1 (i - 1)
    have g1 := hb.1 i hi
    have g2 := hb.1 i2 (by omega)
    rw [← e2] at g2
    have p1 := (one_pop _ g1.2.1).2.2
    have p2 := (one_pop _ g2.2.1).2.2
    have hs : few b.1 i = if pop (few b.1 (i - 1)) ≤ pop (b.1 i) then few b.1 (i - 1) else b.1 i := by
      obtain ⟨c, rfl⟩ : ∃ c, i = c + 1 := ⟨i - 1, by omega⟩
      rfl
    refine b_F (by rw [h.1]; exact nI_ge hi (by omega)) (sp_found hb h hi (sp_bitCount g1.2.1 (sp_bitCount g2.2.1 (b_le (by omega) (by omega) (fun c => ?_) (fun c => ?_)))))
    · unfold J_X7_fewest_37
      rw [nI_1']
      refine ih _ ⟨by omega, ?_⟩
      rw [show i + 1 - 1 = i by omega, hs, if_pos c]
    · refine sp_found hb h hi ?_
      unfold J_X7_fewest_37
      rw [nI_1']
      refine ih _ ⟨by omega, ?_⟩
      rw [show i + 1 - 1 = i by omega, hs, if_neg c]
