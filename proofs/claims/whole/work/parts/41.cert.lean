/-! what a search's queue shows: shortest, and the first of these by letters -/
def CERT (nx : Nat → Nat → Nat) (k : Nat) (b : BS) (key : Nat → Nat) (bound : Nat) : Prop :=
  (∀ i j, 0 < i → i < j → j < b.2.1 → key i < key j) ∧
  (∀ j, 0 < j → j < b.2.1 → key j < bound ∧ key j / 4 < j ∧ b.1 (key j / 4) = b.2.2.1 (b.1 j) ∧ key j % 4 = b.2.2.2 (b.1 j) ∧ key j % 4 < k ∧ nx (b.1 (key j / 4)) (key j % 4) = b.1 j) ∧
  (∀ a l, a < b.2.1 → l < k → 4 * a + l < bound → nx (b.1 a) l = 0 ∨ ∃ i, i < b.2.1 ∧ b.1 i = nx (b.1 a) l ∧ (i = 0 ∨ key i ≤ 4 * a + l))
def NOW (w : Nat → Bool) (b : BS) : Prop := ∀ j, j < b.2.1 → w (b.1 j) = false
/-- the search ended at one that is wanted -/
def FND (nx : Nat → Nat → Nat) (w : Nat → Bool) (k : Nat) (R : Nat × BS) : Prop := R.1 ≠ 0 ∧ ∃ key last, R.2.2.1 = last + 1 ∧ 0 < last ∧ CERT nx k R.2 key (key last + 1) ∧ R.2.1 last = R.1 ∧ w R.1 = true ∧ ∀ j, j < last → w (R.2.1 j) = false
section CRT
variable {nx : Nat → Nat → Nat} {w : Nat → Bool} {k : Nat}
theorem CERT.skip {b : BS} {key : Nat → Nat} {i l : Nat} (h : CERT nx k b key (4 * i + l)) (hl : l < k) (hk : k ≤ 4) (ht : nx (b.1 i) l = 0 ∨ inb b (nx (b.1 i) l) = true) : CERT nx k b key (4 * i + (l + 1)) := by
  refine ⟨h.1, fun j h0 hj => ?_, fun a c ha hc hb => ?_⟩
  · obtain ⟨g1, g2⟩ := h.2.1 j h0 hj
    exact ⟨by omega, g2⟩
  · by_cases e : 4 * a + c < 4 * i + l
    · exact h.2.2 a c ha hc e
    · have : a = i ∧ c = l := by omega
      obtain ⟨rfl, rfl⟩ := this
      refine ht.imp id (fun z => ?_)
      obtain ⟨x, hx, e2⟩ := inb_iff.mp z
      refine ⟨x, hx, e2, ?_⟩
      rcases Nat.eq_zero_or_pos x with q | q
      · exact Or.inl q
      · exact Or.inr (by have := (h.2.1 x q hx).1; omega)
theorem CERT.push {b : BS} {key : Nat → Nat} {i l : Nat} (h : CERT nx k b key (4 * i + l)) (hl : l < k) (hk : k ≤ 4) (hi : i < b.2.1) (h0 : 0 < b.2.1) (hn : inb b (nx (b.1 i) l) = false) : CERT nx k (bpush b (nx (b.1 i) l) (b.1 i) l) (fun j => if j = b.2.1 then 4 * i + l else key j) (4 * i + (l + 1)) := by
  have hsz : (bpush b (nx (b.1 i) l) (b.1 i) l).2.1 = b.2.1 + 1 := rfl
  refine ⟨fun x y hx hxy hy => ?_, fun j hj0 hj => ?_, fun a c ha hc hb => ?_⟩
  · rw [hsz] at hy
    show (if x = b.2.1 then _ else key x) < (if y = b.2.1 then _ else key y)
    rw [if_neg (by omega)]
    by_cases e : y = b.2.1
    · rw [if_pos e]; exact (h.2.1 x hx (by omega)).1
    · rw [if_neg e]; exact h.1 x y hx hxy (by omega)
  · rw [hsz] at hj
    by_cases e : j = b.2.1
    · subst e
      have e1 : (if b.2.1 = b.2.1 then 4 * i + l else key b.2.1) = 4 * i + l := if_pos rfl
      show (if b.2.1 = b.2.1 then 4 * i + l else key b.2.1) < _ ∧ (if b.2.1 = b.2.1 then 4 * i + l else key b.2.1) / 4 < _ ∧ (bpush b (nx (b.1 i) l) (b.1 i) l).1 ((if b.2.1 = b.2.1 then 4 * i + l else key b.2.1) / 4) = _ ∧ (if b.2.1 = b.2.1 then 4 * i + l else key b.2.1) % 4 = _ ∧ (if b.2.1 = b.2.1 then 4 * i + l else key b.2.1) % 4 < k ∧ nx ((bpush b (nx (b.1 i) l) (b.1 i) l).1 ((if b.2.1 = b.2.1 then 4 * i + l else key b.2.1) / 4)) ((if b.2.1 = b.2.1 then 4 * i + l else key b.2.1) % 4) = _
      rw [e1, show (4 * i + l) / 4 = i by omega, show (4 * i + l) % 4 = l by omega, bpush_old hi, bpush_new]
      refine ⟨by omega, hi, ?_, ?_, hl, rfl⟩
      · show b.1 i = if nx (b.1 i) l = nx (b.1 i) l then b.1 i else _
        rw [if_pos rfl]
      · show l = if nx (b.1 i) l = nx (b.1 i) l then l else _
        rw [if_pos rfl]
    · have hj2 : j < b.2.1 := by omega
      obtain ⟨g1, g2, g3, g4, g5, g6⟩ := h.2.1 j hj0 hj2
      have e1 : (if j = b.2.1 then 4 * i + l else key j) = key j := if_neg e
      show (if j = b.2.1 then 4 * i + l else key j) < _ ∧ (if j = b.2.1 then 4 * i + l else key j) / 4 < _ ∧ (bpush b (nx (b.1 i) l) (b.1 i) l).1 ((if j = b.2.1 then 4 * i + l else key j) / 4) = _ ∧ (if j = b.2.1 then 4 * i + l else key j) % 4 = _ ∧ (if j = b.2.1 then 4 * i + l else key j) % 4 < k ∧ nx ((bpush b (nx (b.1 i) l) (b.1 i) l).1 ((if j = b.2.1 then 4 * i + l else key j) / 4)) ((if j = b.2.1 then 4 * i + l else key j) % 4) = _
      rw [e1, bpush_old (show key j / 4 < b.2.1 by omega), bpush_old hj2]
      have hne := inb_no hn hj2
      refine ⟨by omega, g2, ?_, ?_, g5, g6⟩
      · show _ = if b.1 j = nx (b.1 i) l then _ else _
        rw [if_neg hne]; exact g3
      · show _ = if b.1 j = nx (b.1 i) l then _ else _
        rw [if_neg hne]; exact g4
  · rw [hsz] at ha
    by_cases e : 4 * a + c < 4 * i + l
    · have ha2 : a < b.2.1 := by omega
      rw [bpush_old ha2]
      refine (h.2.2 a c ha2 hc e).imp id (fun ⟨x, hx, e2, e3⟩ => ⟨x, by rw [hsz]; omega, by rw [bpush_old hx]; exact e2, ?_⟩)
      show x = 0 ∨ (if x = b.2.1 then _ else key x) ≤ _
      rw [if_neg (by omega)]; exact e3
    · have : a = i ∧ c = l := by omega
      obtain ⟨rfl, rfl⟩ := this
      rw [bpush_old hi]
      refine Or.inr ⟨b.2.1, by rw [hsz]; omega, bpush_new, Or.inr ?_⟩
      show (if b.2.1 = b.2.1 then _ else _) ≤ _
      rw [if_pos rfl]
      exact Nat.le_refl _
theorem CERT.row {b : BS} {key : Nat → Nat} {i : Nat} (h : CERT nx k b key (4 * i + k)) (hk : k ≤ 4) : CERT nx k b key (4 * (i + 1)) := by
  refine ⟨h.1, fun j h0 hj => ?_, fun a c ha hc hb => h.2.2 a c ha hc (by omega)⟩
  obtain ⟨g1, g2⟩ := h.2.1 j h0 hj
  exact ⟨by omega, g2⟩
theorem blet_cert (hk : k ≤ 4) {i : Nat} : ∀ (m : Nat) (b : BS) (key : Nat → Nat), m ≤ k → i < b.2.1 → CERT nx k b key (4 * i + (k - m)) → NOW w b → ((blet nx w (b.1 i) k m b).1 = 0 ∧ (∃ key', CERT nx k (blet nx w (b.1 i) k m b).2 key' (4 * i + k)) ∧ NOW w (blet nx w (b.1 i) k m b).2) ∨ FND nx w k (blet nx w (b.1 i) k m b)
  | 0, b, key, _, _, h, hw => Or.inl ⟨rfl, ⟨key, h⟩, hw⟩
  | m + 1, b, key, hm, hi, h, hw => by
    rw [blet]
    have hl : k - (m + 1) < k := by omega
    have e1 : k - (m + 1) + 1 = k - m := by omega
    by_cases c : nx (b.1 i) (k - (m + 1)) = 0 ∨ inb b (nx (b.1 i) (k - (m + 1))) = true
    · rw [if_pos c]
      have h2 := h.skip hl hk c
      rw [e1] at h2
      exact blet_cert hk m b key (by omega) hi h2 hw
    · rw [if_neg c]
      have c1 : nx (b.1 i) (k - (m + 1)) ≠ 0 := fun e => c (Or.inl e)
      have c2 : inb b (nx (b.1 i) (k - (m + 1))) = false := by cases e : inb b (nx (b.1 i) (k - (m + 1))); rfl; exact absurd (Or.inr e) c
      have h2 := h.push hl hk hi (by omega) c2
      by_cases cw : w (nx (b.1 i) (k - (m + 1))) = true
      · rw [if_pos cw]
        refine Or.inr ⟨c1, (fun j => if j = b.2.1 then 4 * i + (k - (m + 1)) else key j), b.2.1, rfl, by omega, ?_, bpush_new, cw, fun j hj => ?_⟩
        · show CERT nx k _ _ ((if b.2.1 = b.2.1 then 4 * i + (k - (m + 1)) else key b.2.1) + 1)
          rw [if_pos rfl]
          exact h2
        · rw [bpush_old hj]; exact hw j hj
      · rw [if_neg cw]
        rw [e1] at h2
        have := blet_cert hk m _ _ (by omega) (Nat.lt_succ_of_lt hi) h2 (fun j hj => by
          have hj2 : j < b.2.1 + 1 := hj
          by_cases e : j = b.2.1
          · subst e; rw [bpush_new]; cases z : w (nx (b.1 i) (k - (m + 1))); rfl; exact absurd z cw
          · rw [bpush_old (by omega)]; exact hw j (by omega))
        rw [bpush_old hi] at this
        exact this
theorem bout_cert (hk : k ≤ 4) (hx : NX nx k) : ∀ (f i : Nat) (b : BS) (key : Nat → Nat), BOK b → 4096 - i ≤ f → i ≤ b.2.1 → CERT nx k b key (4 * i) → NOW w b → ((bout nx w k f i b).1 = 0 ∧ (∃ key', CERT nx k (bout nx w k f i b).2 key' (4 * (bout nx w k f i b).2.2.1)) ∧ NOW w (bout nx w k f i b).2) ∨ FND nx w k (bout nx w k f i b)
  | 0, i, b, key, hb, hf, hi, _, _ => by have := hb.sz; omega
  | f + 1, i, b, key, hb, hf, hi, h, hw => by
    rw [bout]
    by_cases c : i < b.2.1
    · rw [if_pos c]
      have hb' := blet_ok (w := w) hk hx k b (Nat.le_refl _) hb c rfl
      rcases blet_cert (w := w) hk k b key (Nat.le_refl _) c (by rw [Nat.sub_self]; exact h) hw with ⟨r1, ⟨key', r2⟩, r3⟩ | r
      · rw [if_pos r1]
        exact bout_cert hk hx f (i + 1) _ key' hb'.1 (by omega) (by omega) (r2.row hk) r3
      · rw [if_neg r.1]
        exact Or.inr r
    · rw [if_neg c]
      have : i = b.2.1 := by omega
      subst this
      exact Or.inl ⟨rfl, ⟨key, h⟩, hw⟩
theorem bfs_cert {S : Nat} (hk : k ≤ 4) (hx : NX nx k) (hS : 0 < S) (hS2 : S < 4096) (hw : w S = false) : ((bfs nx w k S).1 = 0 ∧ (∃ key', CERT nx k (bfs nx w k S).2 key' (4 * (bfs nx w k S).2.2.1)) ∧ NOW w (bfs nx w k S).2) ∨ FND nx w k (bfs nx w k S) := by
  unfold bfs
  rw [if_neg (by rw [hw]; decide)]
  refine bout_cert hk hx 4096 0 (b0 S) (fun _ => 0) (BOK.start hS hS2) (by omega) (Nat.zero_le _) ⟨fun i j hi hij hj => ?_, fun j hj0 hj => ?_, fun a l _ _ h => by omega⟩ (fun j hj => ?_)
  · have : j < 1 := hj; omega
  · have : j < 1 := hj; omega
  · have : j = 0 := by have : j < 1 := hj; omega
    subst this
    exact hw
end CRT
