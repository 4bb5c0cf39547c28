/-! greedy: one pair tried, class beside reference -/
section TRC
variable {n k j S p q L : Nat} {mv le low high st lc mo br tr bw : Nat → Int32} {a1 a2 a3 w wl bs bl tl x3 cs : Int32}
theorem stw_lt3 (hn : n ≤ 12) (hm : MV n k mv) {c : Nat → Nat} (hS : S < 2 ^ n) : ∀ (d : Nat), (∀ i, i < d → c i < k) → stw (stp n mv) c S d < 2 ^ n
  | 0, _ => hS
  | d + 1, h => by
    show (if stw (stp n mv) c S d = 0 then 0 else _) < _
    by_cases y : stw (stp n mv) c S d = 0
    · rw [if_pos y]; exact Nat.two_pow_pos n
    · rw [if_neg y]; exact stp_lt2 hm hn (h d (by omega))
theorem try_both {Q : Int32 → Int32 → (Nat → Int32) → Int32 → (Nat → Int32) → Prop} (hn : n ≤ 12) (hk : k ≤ 4) (hj : j < 6) (hm : MV n k mv) (hst : st j = nI n) (hlc : lc j = nI k) (hr : RMv n k j mo mv) (ht : TB n k mv low high) (h : LEN n k mv le L) (hf : FIX n k mv L) (hL : L ≤ 67) (hp : p < n) (hq : q < n) (hpq : p ≠ q) (hS : S < 2 ^ n) (hbp : S.testBit p = true) (hbq : S.testBit q = true) (hB : BR n k mv S bs bl br x3 bw)
    (hQ : ∀ bs' bl' br' tl' tr' x3' bw', BR n k mv S bs' bl' br' x3' bw' → RTR a1 a2 a3 st lc mo j S q x3 x3' bw bw' (nI (2 ^ p ||| 2 ^ q)) → Q bs' bl' br' tl' tr') : wp_X2_tryPair bs cs low high w le bl br tl tr (nI n) (nI k) mv (nI S) (nI p) (nI q) Q := by
  have h12 : 2 ^ n ≤ 2 ^ 12 := Nat.pow_le_pow_right (by decide) hn
  unfold wp_X2_tryPair
  refine sp_lengthOf (by omega) (by omega) ?_
  rcases pair_look hn hk hm hp hq hpq with ⟨-, r2⟩ | ⟨-, d, -, -, d3, d4⟩
  · rw [h.none hp hq (r2 L)]
    exact b_T rfl (hQ _ _ _ _ _ x3 bw hB (try_ref hn hk hj hm hst hlc hr hp hq hpq (fun _ => ⟨rfl, rfl⟩) (fun e c he => absurd he.1 (by rw [r2 e]; decide))))
  · generalize wdl (bfs (stp n mv) one k (2 ^ p ||| 2 ^ q)).2 (bfs (stp n mv) one k (2 ^ p ||| 2 ^ q)).1 d = c at d4
    have hd : d ≤ 67 := by
      by_cases z : d ≤ L
      · omega
      · have := d3.2 L (by omega)
        rw [hf.any hm hn hp hq d3.1] at this
        cases this
    have hck : ∀ i, i < d → c i < k := fun i hi => by
      obtain ⟨X, -, hX⟩ := d4
      exact (hX i hi).1
    have hlt := stw_lt3 hn hm hS d hck
    -- the reference, not taking and taking
    have no : (stw (stp n mv) c S d = 0 ∨ ∃ e c', e ≤ 67 ∧ x3 = nI e ∧ (∀ i, i < e → c' i < k ∧ bw i = nI (c' i)) ∧ ¬ ahd d e c c') → RTR a1 a2 a3 st lc mo j S q x3 x3 bw bw (nI (2 ^ p ||| 2 ^ q)) := fun hno => try_ref hn hk hj hm hst hlc hr hp hq hpq (fun _ => ⟨rfl, rfl⟩) (fun e c2 he hw2 R hR qd qu f b z pw hpw => by
      have ee := exa_eq he d3
      subst ee
      have hu := d4.uniq hw2
      exact ⟨hd, r85_no hn hk hj hst hr hm hS hd (fun i hi => ⟨hck i hi, by rw [hpw i hi, hu i hi]⟩) hno (hR _ _ _ _ _ _)⟩)
    have yes : 0 < stw (stp n mv) c S d → (x3 = -1 ∨ ∃ e c', e ≤ 67 ∧ x3 = nI e ∧ (∀ i, i < e → c' i < k ∧ bw i = nI (c' i)) ∧ ahd d e c c') → RTR a1 a2 a3 st lc mo j S q x3 (nI d) bw (fun i => if i < d then nI (c i) else bw i) (nI (2 ^ p ||| 2 ^ q)) := fun hpos hyes => try_ref hn hk hj hm hst hlc hr hp hq hpq (fun hz => absurd d3.1 (by rw [hz d]; decide)) (fun e c2 he hw2 R hR qd qu f b z pw hpw => by
      have ee := exa_eq he d3
      subst ee
      have hu := d4.uniq hw2
      exact ⟨hd, r85_yes hn hk hj hst hr hm hS hd (fun i hi => ⟨hck i hi, by rw [hpw i hi, hu i hi]⟩) hpos hlt hyes (hR _ _ _ _ _ _)⟩)
    rw [h.got hn hm hf (by omega) hp hq d3]
    refine b_F (nI_m1 (by omega)) ?_
    -- the class, the word given and asked to be ahead
    have go : (x3 = -1 ∨ ∃ e c', e ≤ 67 ∧ x3 = nI e ∧ (∀ i, i < e → c' i < k ∧ bw i = nI (c' i)) ∧ ahd d e c c') → ∀ row', (∀ i, i < d → row' i = nI (c i)) → J_X2_tryPair_75 cs low high (nI S) Q bs bl br (nI d) row' := fun hyes row' hrow => by
      unfold J_X2_tryPair_75
      refine sp_afterWord hn hk hm ht hS (by omega) (fun i hi => ⟨hck i hi, hrow i hi⟩) (b_eq (by omega) (by omega) (fun y => ?_) (fun y => ?_))
      · exact hQ _ _ _ _ _ x3 bw hB (no (Or.inl y))
      · refine sp_copy (by omega) hrow (fun row2 hrow2 => hQ _ _ _ _ _ _ _ (Or.inr ⟨d, c, hd, ⟨by omega, merge_pop hn hm hS hbp hbq hpq d3 d4 (by omega)⟩, rfl, rfl, rfl, fun i hi => ⟨hck i hi, hrow2 i hi, if_pos hi⟩⟩) (yes (by omega) hyes))
    rcases hB with ⟨b1, b2⟩ | ⟨e, c', b1, b2, b3, b4, b5, b6⟩
    · subst b1
      refine b_T rfl ?_
      unfold J_X2_tryPair_38
      exact sp_givePair hn hk hm h hf hL hp hq d3 d4 (fun _ row' hrow => b_T rfl (go (Or.inl b2) row' hrow))
    · have hB2 : BR n k mv S bs bl br x3 bw := Or.inr ⟨e, c', b1, b2, b3, b4, b5, b6⟩
      have hlt2 := stw_lt3 hn hm hS e (fun i hi => (b6 i hi).1)
      have hne : ¬ bs = nI 0 := by
        rw [b3]; intro y; have := (nI_eq (by omega) (by omega)).mp y; have := b2.1; omega
      have hbw : ∀ i, i < e → c' i < k ∧ bw i = nI (c' i) := fun i hi => ⟨(b6 i hi).1, (b6 i hi).2.2⟩
      refine b_F hne ?_
      rw [b5]
      refine b_le (by omega) (by omega) (fun y => ?_) (fun y => ?_)
      · unfold J_X2_tryPair_38
        refine sp_givePair hn hk hm h hf hL hp hq d3 d4 (fun _ row' hrow => b_F hne ?_)
        refine sp_ahead (by omega) (by omega) (fun i hi => ⟨by have := hck i hi; omega, hrow i hi⟩) (fun i hi => ⟨by have := (b6 i hi).1; omega, (b6 i hi).2.1⟩) (fun ha => ?_) (fun ha => ?_)
        · rw [b5] at go
          exact b_nT ne10 (go (Or.inr ⟨e, c', b1, b4, hbw, ha⟩) row' hrow)
        · rw [b5] at hB2
          exact b_nF rfl (hQ _ _ _ _ _ x3 bw hB2 (no (Or.inr ⟨e, c', b1, b4, hbw, ha⟩)))
      · rw [b5] at hB2
        refine hQ _ _ _ _ _ x3 bw hB2 (no (Or.inr ⟨e, c', b1, b4, hbw, ?_⟩))
        rintro (z | ⟨z, -⟩) <;> omega
end TRC
