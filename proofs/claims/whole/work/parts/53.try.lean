/-! greedy: one pair tried, by class and reference -/
/-- the best word so far: none, or d letters c, on both sides -/
def BR (n k : Nat) (mv : Nat → Int32) (S : Nat) (bs bl : Int32) (br : Nat → Int32) (x3 : Int32) (bw : Nat → Int32) : Prop := (bs = nI 0 ∧ x3 = -1) ∨ ∃ d c, d ≤ 67 ∧ (0 < stw (stp n mv) c S d ∧ pop (stw (stp n mv) c S d) < pop S) ∧ bs = nI (stw (stp n mv) c S d) ∧ x3 = nI d ∧ bl = nI d ∧ ∀ i, i < d → c i < k ∧ br i = nI (c i) ∧ bw i = nI (c i)
section TRY
variable {n k j S p q : Nat} {mv le low high st lc mo : Nat → Int32} {a1 a2 a3 : Int32}
/-- the reference's doing at one pair, in front of what comes after -/
def RTR (a1 a2 a3 : Int32) (st lc mo : Nat → Int32) (j S q : Nat) (x3 x3' : Int32) (bw bw' : Nat → Int32) (s2 : Int32) : Prop := ∀ R : Int32 → Int32 → Int32 → (Nat → Int32) → (Nat → Int32) → (Nat → Int32) → (Nat → Int32) → (Nat → Int32) → (Nat → Int32) → Prop, (∀ qd qu f b z pw, R x3' (nI (q + 1)) qd qu f b z pw bw') → ∀ qd qu f b z pw, wp_X12_looks a1 a2 qd a3 st lc mo qu f b z (nI j) s2 (nI 0) (fun r2 qd qu f b z => ((¬ r2 = (nI 0) → wp_X12_readPair a1 a2 qd a3 f b pw r2 (fun r4 pw => J_X12_bestPair_85 a1 a2 a3 st mo (nI j) (nI S) R x3 (nI q) qd qu f b z pw bw r4)) ∧ (r2 = (nI 0) → J_X12_bestPair_85 a1 a2 a3 st mo (nI j) (nI S) R x3 (nI q) qd qu f b z pw bw (-1))))
theorem try_ref (hn : n ≤ 12) (hk : k ≤ 4) (hj : j < 6) (hm : MV n k mv) (hst : st j = nI n) (hlc : lc j = nI k) (hr : RMv n k j mo mv) (hp : p < n) (hq : q < n) (hpq : p ≠ q) {x3 x3' : Int32} {bw bw' : Nat → Int32}
    (h0 : (∀ d, md mv k d p q = false) → x3' = x3 ∧ bw' = bw)
    (h1 : ∀ d c, exa mv k d p q → WRD (stp n mv) one k (2 ^ p ||| 2 ^ q) d c → ∀ R : Int32 → Int32 → Int32 → (Nat → Int32) → (Nat → Int32) → (Nat → Int32) → (Nat → Int32) → (Nat → Int32) → (Nat → Int32) → Prop, (∀ qd qu f b z pw, R x3' (nI (q + 1)) qd qu f b z pw bw') → ∀ qd qu f b z pw, (∀ i, i < d → pw i = nI (c i)) → d ≤ 67 ∧ J_X12_bestPair_85 a1 a2 a3 st mo (nI j) (nI S) R x3 (nI q) qd qu f b z pw bw (nI d)) : RTR a1 a2 a3 st lc mo j S q x3 x3' bw bw' (nI (2 ^ p ||| 2 ^ q)) := by
  intro R hR qd qu f b z pw
  obtain ⟨hS, hS2⟩ := two_set hp hq
  have h12 : 2 ^ n ≤ 2 ^ 12 := Nat.pow_le_pow_right (by decide) hn
  refine sp_looks hn hk hj hst hlc hr hm WR0 hS hS2 (fun qu' f' b' z' hb hbl hrr => ?_)
  rcases pair_look hn hk hm hp hq hpq with ⟨r1, r2⟩ | ⟨r1, d, d1, d2, d3, d4⟩
  · rw [r1]
    refine b_nF rfl ?_
    unfold J_X12_bestPair_85 J_X12_bestPair_147
    rw [nI_1']
    obtain ⟨e1, e2⟩ := h0 r2
    rw [e1, e2] at hR
    exact b_T rfl (hR _ _ _ _ _ _)
  · have hT : (bfs (stp n mv) one k (2 ^ p ||| 2 ^ q)).1 < 4096 := by
      obtain ⟨i, hi, e⟩ := d2.1 0 (Nat.zero_le _)
      have := (hb.1 i hi).2.1
      rw [e] at this
      exact this
    have hd67 : d ≤ 67 := (h1 d _ d3 d4 (fun _ _ _ _ _ _ _ _ _ => True) (fun _ _ _ _ _ _ => trivial) qd qu f b z (fun i => nI (wdl (bfs (stp n mv) one k (2 ^ p ||| 2 ^ q)).2 (bfs (stp n mv) one k (2 ^ p ||| 2 ^ q)).1 d i)) (fun _ _ => rfl)).1
    refine b_nT (fun y => r1 ((nI_eq (by omega) (by omega)).mp y)) (sp_readPair hb hrr d2 (by omega) (fun w' hw' => ?_))
    exact (h1 d _ d3 d4 R hR _ _ _ _ _ w' hw').2
end TRY
