/-! the found word is a shortest, and at each place its letter is the least that leads on -/
def gd (nx : Nat → Nat → Nat) (w : Nat → Bool) (k : Nat) : Nat → Nat → Bool
  | 0, X => w X
  | d + 1, X => gd nx w k d X || anyB (fun l => decide (nx X l ≠ 0) && gd nx w k d (nx X l)) k
theorem gd_up {nx : Nat → Nat → Nat} {w : Nat → Bool} {k X d : Nat} (h : gd nx w k d X = true) : ∀ e, gd nx w k (d + e) X = true
  | 0 => h
  | e + 1 => by
    show (gd nx w k (d + e) X || _) = true
    rw [gd_up h e]; rfl
theorem gd_s {nx : Nat → Nat → Nat} {w : Nat → Bool} {k X d : Nat} : gd nx w k (d + 1) X = true ↔ gd nx w k d X = true ∨ ∃ l, l < k ∧ nx X l ≠ 0 ∧ gd nx w k d (nx X l) = true := by
  show (gd nx w k d X || _) = true ↔ _
  rw [Bool.or_eq_true, anyB_iff]
  refine or_congr Iff.rfl ⟨fun ⟨l, hl, e⟩ => ?_, fun ⟨l, hl, e1, e2⟩ => ⟨l, hl, ?_⟩⟩
  · have : nx X l ≠ 0 ∧ gd nx w k d (nx X l) = true := by simpa using e
    exact ⟨l, hl, this⟩
  · simp [e1, e2]
def dp (key : Nat → Nat) (j : Nat) : Nat := if _h : 0 < j ∧ key j / 4 < j then dp key (key j / 4) + 1 else 0
termination_by j
decreasing_by exact _h.2
section LEA
variable {nx : Nat → Nat → Nat} {w : Nat → Bool} {k : Nat} {b : BS} {key : Nat → Nat}
theorem dp_0 : dp key 0 = 0 := by rw [dp, dif_neg (by omega)]
theorem dp_s {B : Nat} (h : CERT nx k b key B) {j : Nat} (h0 : 0 < j) (hj : j < b.2.1) : dp key j = dp key (key j / 4) + 1 := by
  rw [dp, dif_pos ⟨h0, (h.2.1 j h0 hj).2.1⟩]
theorem dp_mono {B : Nat} (h : CERT nx k b key B) : ∀ (N j i : Nat), j < N → i ≤ j → j < b.2.1 → dp key i ≤ dp key j
  | 0, _, _, h, _, _ => absurd h (by omega)
  | N + 1, j, i, hN, hij, hj => by
    rcases Nat.eq_zero_or_pos i with e | e
    · subst e; rw [dp_0]; exact Nat.zero_le _
    · by_cases c : i = j
      · subst c; exact Nat.le_refl _
      · have h1 := h.1 i j e (by omega) hj
        have h2 := (h.2.1 j (by omega) hj).2.1
        have h3 := (h.2.1 i e (by omega)).2.1
        rw [dp_s h e (by omega), dp_s h (by omega) hj]
        have := dp_mono h N (key j / 4) (key i / 4) (by omega) (by omega) (by omega)
        omega
theorem dp_mono' {B : Nat} (h : CERT nx k b key B) {i j : Nat} (hij : i ≤ j) (hj : j < b.2.1) : dp key i ≤ dp key j := dp_mono h (j + 1) j i (Nat.lt_succ_self _) hij hj
variable {last : Nat}
theorem least_A (hk : k ≤ 4) (h : CERT nx k b key (key last + 1)) (hs : b.2.1 = last + 1) (h0 : 0 < last) (hw : ∀ j, j < last → w (b.1 j) = false) : ∀ d a, a < b.2.1 → gd nx w k d (b.1 a) = true → dp key last ≤ dp key a + d
  | 0, a, ha, g => by
    have : a = last := by
      by_cases c : a < last
      · have := hw a c
        have g' : w (b.1 a) = true := g
        rw [this] at g'; cases g'
      · omega
    subst this
    exact Nat.le_refl _
  | d + 1, a, ha, g => by
    rcases gd_s.mp g with g | ⟨l, hl, e1, g⟩
    · have := least_A hk h hs h0 hw d a ha g; omega
    · by_cases c : 4 * a + l < key last + 1
      · obtain ⟨i, hi, e2, e3⟩ := (h.2.2 a l ha hl c).resolve_left e1
        rw [← e2] at g
        have ih := least_A hk h hs h0 hw d i hi g
        have : dp key i ≤ dp key a + 1 := by
          rcases Nat.eq_zero_or_pos i with z | z
          · subst z; rw [dp_0]; exact Nat.zero_le _
          · have := e3.resolve_left (by omega)
            have h3 := (h.2.1 i z hi).2.1
            rw [dp_s h z hi]
            have := dp_mono' h (i := key i / 4) (j := a) (by omega) ha
            omega
        omega
      · have h3 := (h.2.1 last h0 (by omega)).2.1
        rw [dp_s h h0 (by omega)]
        have hk4 : key last % 4 < k := (h.2.1 last h0 (by omega)).2.2.2.2.1
        have := dp_mono' h (i := key last / 4) (j := a) (by omega) ha
        omega
def anc (key : Nat → Nat) (last : Nat) : Nat → Nat
  | 0 => last
  | t + 1 => key (anc key last t) / 4
theorem anc_dp {B : Nat} (h : CERT nx k b key B) (hs : b.2.1 = last + 1) : ∀ t, t ≤ dp key last → anc key last t < b.2.1 ∧ dp key (anc key last t) = dp key last - t
  | 0, _ => ⟨by show last < _; omega, rfl⟩
  | t + 1, ht => by
    obtain ⟨g1, g2⟩ := anc_dp h hs t (by omega)
    have hp : 0 < anc key last t := by
      rcases Nat.eq_zero_or_pos (anc key last t) with z | z
      · rw [z, dp_0] at g2; omega
      · exact z
    have h3 := (h.2.1 _ hp g1).2.1
    have h4 := dp_s h hp g1
    refine ⟨by show key (anc key last t) / 4 < _; omega, ?_⟩
    show dp key (key (anc key last t) / 4) = _
    omega
theorem anc_pos {B : Nat} (h : CERT nx k b key B) (hs : b.2.1 = last + 1) {t : Nat} (ht : t < dp key last) : 0 < anc key last t := by
  have g2 := (anc_dp h hs t (by omega)).2
  rcases Nat.eq_zero_or_pos (anc key last t) with z | z
  · rw [z, dp_0] at g2; omega
  · exact z
theorem anc_it {B : Nat} (h : CERT nx k b key B) (hs : b.2.1 = last + 1) : ∀ t, t ≤ dp key last → b.1 (anc key last t) = itp b.2.2.1 t (b.1 last)
  | 0, _ => rfl
  | t + 1, ht => by
    have hp := anc_pos h hs (t := t) (by omega)
    have g1 := (anc_dp h hs t (by omega)).1
    rw [itp_s, ← anc_it h hs t (by omega)]
    exact (h.2.1 _ hp g1).2.2.1
theorem anc_step {B : Nat} (h : CERT nx k b key B) (hs : b.2.1 = last + 1) {t : Nat} (ht : t < dp key last) : nx (b.1 (anc key last (t + 1))) (key (anc key last t) % 4) = b.1 (anc key last t) ∧ key (anc key last t) % 4 < k ∧ key (anc key last t) % 4 = b.2.2.2 (b.1 (anc key last t)) := by
  have g := h.2.1 _ (anc_pos h hs ht) (anc_dp h hs t (by omega)).1
  exact ⟨g.2.2.2.2.2, g.2.2.2.2.1, g.2.2.2.1⟩
theorem anc_gd (hB : BOK b) {B : Nat} (h : CERT nx k b key B) (hs : b.2.1 = last + 1) (hw : w (b.1 last) = true) : ∀ t, t ≤ dp key last → gd nx w k t (b.1 (anc key last t)) = true
  | 0, _ => hw
  | t + 1, ht => by
    obtain ⟨g1, g2, -⟩ := anc_step h hs (t := t) (by omega)
    refine gd_s.mpr (Or.inr ⟨_, g2, ?_, ?_⟩)
    · rw [g1]
      have := (hB.1 _ (anc_dp h hs t (by omega)).1).1
      omega
    · rw [g1]; exact anc_gd hB h hs hw t (by omega)
/-- among those as far from the start that lead on as fast, the one gone by is the first in the queue -/
theorem first_good (hk : k ≤ 4) (h : CERT nx k b key (key last + 1)) (hs : b.2.1 = last + 1) (h0 : 0 < last) (hw : ∀ j, j < last → w (b.1 j) = false) : ∀ t, t ≤ dp key last → ∀ a, a < b.2.1 → dp key a = dp key last - t → gd nx w k t (b.1 a) = true → anc key last t ≤ a
  | 0, _, a, ha, _, g => by
    show last ≤ a
    by_cases c : a < last
    · have g' : w (b.1 a) = true := g
      rw [hw a c] at g'; cases g'
    · omega
  | t + 1, ht, a, ha, hd, g => by
    rcases gd_s.mp g with g | ⟨l, hl, e1, g⟩
    · have := least_A hk h hs h0 hw t a ha g; omega
    · have hp := anc_pos h hs (t := t) (by omega)
      have ga := anc_dp h hs t (by omega)
      have hkb := (h.2.1 _ hp ga.1).1
      have hkb2 := (h.2.1 _ hp ga.1).2.2.2.2.1
      show key (anc key last t) / 4 ≤ a
      by_cases c : key (anc key last t) / 4 ≤ a
      · exact c
      · exfalso
        obtain ⟨i, hi, e2, e3⟩ := (h.2.2 a l ha hl (by omega)).resolve_left e1
        rw [← e2] at g
        have hA := least_A hk h hs h0 hw t i hi g
        have hip : 0 < i := by
          rcases Nat.eq_zero_or_pos i with z | z
          · subst z; rw [dp_0] at hA; omega
          · exact z
        have e4 := e3.resolve_left (by omega)
        have hi2 : dp key i ≤ dp key a + 1 := by
          rw [dp_s h hip hi]
          have := dp_mono' h (i := key i / 4) (j := a) (by omega) ha
          omega
        have ih := first_good hk h hs h0 hw t (by omega) i hi (by omega) g
        rcases Nat.lt_or_ge (anc key last t) i with z | z
        · have := h.1 _ i hp z hi; omega
        · have : i = anc key last t := by omega
          rw [this] at e4
          omega
theorem first_let (hk : k ≤ 4) (h : CERT nx k b key (key last + 1)) (hs : b.2.1 = last + 1) (h0 : 0 < last) (hw : ∀ j, j < last → w (b.1 j) = false) {t : Nat} (ht : t < dp key last) {l : Nat} (hl : l < key (anc key last t) % 4) (e1 : nx (b.1 (anc key last (t + 1))) l ≠ 0) : gd nx w k t (nx (b.1 (anc key last (t + 1))) l) = false := by
  cases g : gd nx w k t (nx (b.1 (anc key last (t + 1))) l)
  · rfl
  · exfalso
    have hp := anc_pos h hs ht
    have ga := anc_dp h hs t (by omega)
    have ga1 := anc_dp h hs (t + 1) (by omega)
    obtain ⟨hkb, -, -, -, hkb2, -⟩ := h.2.1 _ hp ga.1
    have hkey : key (anc key last t) / 4 = anc key last (t + 1) := rfl
    obtain ⟨i, hi, e2, e3⟩ := (h.2.2 (anc key last (t + 1)) l ga1.1 (by omega) (by omega)).resolve_left e1
    rw [← e2] at g
    have hA := least_A hk h hs h0 hw t i hi g
    have hip : 0 < i := by
      rcases Nat.eq_zero_or_pos i with z | z
      · subst z; rw [dp_0] at hA; omega
      · exact z
    have e4 := e3.resolve_left (by omega)
    have hi2 : dp key i ≤ dp key (anc key last (t + 1)) + 1 := by
      rw [dp_s h hip hi]
      have := dp_mono' h (i := key i / 4) (j := anc key last (t + 1)) (by omega) ga1.1
      omega
    have ih := first_good hk h hs h0 hw t (by omega) i hi (by omega) g
    rcases Nat.lt_or_ge (anc key last t) i with z | z
    · have := h.1 _ i hp z hi; omega
    · have : i = anc key last t := by omega
      rw [this] at e4
      omega
end LEA
/-- the word that a search found, letter by letter from S on -/
def WRD (nx : Nat → Nat → Nat) (w : Nat → Bool) (k S n : Nat) (c : Nat → Nat) : Prop := ∃ X : Nat → Nat, X 0 = S ∧ ∀ t, t < n → c t < k ∧ nx (X t) (c t) = X (t + 1) ∧ X (t + 1) ≠ 0 ∧ gd nx w k (n - (t + 1)) (X (t + 1)) = true ∧ ∀ l, l < c t → nx (X t) l ≠ 0 → gd nx w k (n - (t + 1)) (nx (X t) l) = false
theorem fnd_word {nx : Nat → Nat → Nat} {w : Nat → Bool} {k S : Nat} {R : Nat × BS} (hk : k ≤ 4) (hB : BOK R.2) (h : FND nx w k R) (hS : R.2.1 0 = S) : ∃ n, n < 4096 ∧ CH R.2 R.1 n ∧ gd nx w k n S = true ∧ (∀ d, d < n → gd nx w k d S = false) ∧ WRD nx w k S n (wdl R.2 R.1 n) := by
  obtain ⟨hne, key, last, hs, h0, hC, e1, e2, hw⟩ := h
  have hsz := hB.sz
  have hl0 : anc key last (dp key last) = 0 := by
    obtain ⟨g1, g2⟩ := anc_dp hC hs (dp key last) (Nat.le_refl _)
    rcases Nat.eq_zero_or_pos (anc key last (dp key last)) with z | z
    · exact z
    · have := dp_s hC z g1; omega
  have hdl : ∀ N j, j < N → j < R.2.2.1 → dp key j ≤ j := by
    intro N
    induction N with
    | zero => intro j hj _; omega
    | succ N ih =>
      intro j hj hj2
      rcases Nat.eq_zero_or_pos j with z | z
      · subst z; rw [dp_0]; exact Nat.le_refl _
      · have h3 := (hC.2.1 j z hj2).2.1
        rw [dp_s hC z hj2]
        have := ih (key j / 4) (by omega) (by omega)
        omega
  have hn := hdl (last + 1) last (by omega) (by omega)
  have hit := anc_it hC hs
  rw [e1] at hit
  refine ⟨dp key last, by omega, ⟨fun j hj => ⟨anc key last j, (anc_dp hC hs j hj).1, hit j hj⟩, ?_⟩, ?_, fun d hd => ?_, ?_⟩
  · rw [itp_s, ← hit _ (Nat.le_refl _), hl0]
    exact hB.2.2.2.2
  · have := anc_gd hB hC hs (by rw [e1]; exact e2) (dp key last) (Nat.le_refl _)
    rw [hl0, hS] at this
    exact this
  · cases g : gd nx w k d S
    · rfl
    · rw [← hS] at g
      have := least_A hk hC hs h0 hw d 0 (by omega) g
      rw [dp_0] at this
      omega
  · refine ⟨fun t => R.2.1 (anc key last (dp key last - t)), ?_, fun t ht => ?_⟩
    · show R.2.1 (anc key last (dp key last - 0)) = S
      rw [Nat.sub_zero, hl0]; exact hS
    · have e3 : dp key last - t = (dp key last - 1 - t) + 1 := by omega
      have e4 : dp key last - (t + 1) = dp key last - 1 - t := by omega
      obtain ⟨g1, g2, g3⟩ := anc_step hC hs (t := dp key last - 1 - t) (by omega)
      have hc : wdl R.2 R.1 (dp key last) t = key (anc key last (dp key last - 1 - t)) % 4 := by
        unfold wdl
        rw [← hit _ (by omega), g3]
      rw [hc]
      show _ ∧ nx (R.2.1 (anc key last (dp key last - t))) _ = R.2.1 (anc key last (dp key last - (t + 1))) ∧ R.2.1 (anc key last (dp key last - (t + 1))) ≠ 0 ∧ gd nx w k (dp key last - (t + 1)) (R.2.1 (anc key last (dp key last - (t + 1)))) = true ∧ ∀ l, l < _ → nx (R.2.1 (anc key last (dp key last - t))) l ≠ 0 → gd nx w k (dp key last - (t + 1)) (nx (R.2.1 (anc key last (dp key last - t))) l) = false
      rw [e4, e3]
      refine ⟨g2, g1, ?_, anc_gd hB hC hs (by rw [e1]; exact e2) _ (by omega), fun l hl e5 => first_let hk hC hs h0 hw (by omega) hl e5⟩
      have := (hB.1 _ (anc_dp hC hs (dp key last - 1 - t) (by omega)).1).1
      omega
theorem none_gd {nx : Nat → Nat → Nat} {w : Nat → Bool} {k : Nat} {b : BS} {key : Nat → Nat} (h : CERT nx k b key (4 * b.2.1)) (hk : k ≤ 4) (hw : NOW w b) : ∀ d a, a < b.2.1 → gd nx w k d (b.1 a) = false
  | 0, a, ha => hw a ha
  | d + 1, a, ha => by
    cases g : gd nx w k (d + 1) (b.1 a)
    · rfl
    · rcases gd_s.mp g with g | ⟨l, hl, e1, g⟩
      · rw [none_gd h hk hw d a ha] at g; cases g
      · obtain ⟨i, hi, e2, -⟩ := (h.2.2 a l ha hl (by omega)).resolve_left e1
        rw [← e2, none_gd h hk hw d i hi] at g; cases g
