/-! merge: the class's table, the reference's search from two states -/
theorem bfs_zero {nx : Nat → Nat → Nat} {w : Nat → Bool} {k S : Nat} (hk : k ≤ 4) (hx : NX nx k) (hS : 0 < S) (hS2 : S < 4096) : (bfs nx w k S).2.1 0 = S := by
  have hc := bfs_cmp (nx := nx) (w := w) (k := k) hS
  have h0 := (bfs_clo (nx := nx) hk hx hS hS2).2
  by_cases c : (bfs nx w k S).1 = 0
  · rw [(hc.2.1 c).1]; exact h0
  · obtain ⟨h1, -⟩ := hc.2.2 c
    have hb := bfs_ok (w := w) hk hx hS hS2
    rw [← h1.2.1 0 hb.2.2.2.1]; exact h0
section MRG
variable {n k : Nat} {mv le : Nat → Int32}
theorem two_set {p q : Nat} (hp : p < n) (hq : q < n) : 0 < 2 ^ p ||| 2 ^ q ∧ 2 ^ p ||| 2 ^ q < 2 ^ n := by
  have h1 := Nat.two_pow_pos p
  have h2 : 2 ^ p ≤ 2 ^ p ||| 2 ^ q := Nat.left_le_or
  exact ⟨by omega, Nat.or_lt_two_pow (Nat.pow_lt_pow_right (by decide) hp) (Nat.pow_lt_pow_right (by decide) hq)⟩
theorem pair_look (hn : n ≤ 12) (hk : k ≤ 4) (hm : MV n k mv) {p q : Nat} (hp : p < n) (hq : q < n) (hpq : p ≠ q) : ((bfs (stp n mv) one k (2 ^ p ||| 2 ^ q)).1 = 0 ∧ ∀ d, md mv k d p q = false) ∨ ((bfs (stp n mv) one k (2 ^ p ||| 2 ^ q)).1 ≠ 0 ∧ ∃ d, d < 4096 ∧ CH (bfs (stp n mv) one k (2 ^ p ||| 2 ^ q)).2 (bfs (stp n mv) one k (2 ^ p ||| 2 ^ q)).1 d ∧ exa mv k d p q ∧ WRD (stp n mv) one k (2 ^ p ||| 2 ^ q) d (wdl (bfs (stp n mv) one k (2 ^ p ||| 2 ^ q)).2 (bfs (stp n mv) one k (2 ^ p ||| 2 ^ q)).1 d)) := by
  have h12 : 2 ^ n ≤ 2 ^ 12 := Nat.pow_le_pow_right (by decide) hn
  obtain ⟨hS, hS2⟩ := two_set hp hq
  have hnx : NX (stp n mv) k := fun S l hl => Nat.lt_of_lt_of_le (stp_lt2 hm hn hl) h12
  have hw : one (2 ^ p ||| 2 ^ q) = false := decide_eq_false (fun z => hpq ((pair_one p (by omega) q (by omega)).mp z))
  have hb := bfs_ok (w := one) hk hnx hS (by omega)
  have h0 := bfs_zero (w := one) hk hnx hS (by omega)
  rcases bfs_cert (w := one) hk hnx hS (by omega) hw with ⟨r1, ⟨key, r2⟩, r3⟩ | r
  · refine Or.inl ⟨r1, fun d => ?_⟩
    rw [← gd_md hn hm d p q hp hq, ← none_gd r2 hk r3 d 0 hb.2.2.2.1, h0]
  · obtain ⟨d, d1, d2, d3, d4, d5⟩ := fnd_word hk hb r h0
    exact Or.inr ⟨r.1, d, d1, d2, ⟨by rw [← gd_md hn hm d p q hp hq]; exact d3, fun e he => by rw [← gd_md hn hm e p q hp hq]; exact d4 e he⟩, d5⟩
theorem exa_sym {d p q : Nat} (h : exa mv k d p q) : exa mv k d q p := ⟨md_sym _ _ _ h.1, fun e he => by rw [md_syme]; exact h.2 e he⟩
theorem LEN.none {L : Nat} (h : LEN n k mv le L) {p q : Nat} (hp : p < n) (hq : q < n) (hno : md mv k L p q = false) : le (p * 12 + q) = -1 := by
  have key : ∀ a b, a < b → b < n → md mv k L a b = false → le (a * 12 + b) = -1 := fun a b hab hb z => by
    rw [(h.1 a b hab hb).1]
    rcases dis_spec (mv := mv) (k := k) L a b with ⟨-, y⟩ | ⟨y, -⟩
    · exact y
    · rw [z] at y; cases y
  rcases Nat.lt_trichotomy p q with c | c | c
  · exact key p q c hq hno
  · subst c; rw [md_refl] at hno; cases hno
  · rw [(h.1 q p c hp).2]; exact key q p c hp (by rw [md_syme]; exact hno)
theorem LEN.val {L : Nat} (hn : n ≤ 12) (h : LEN n k mv le L) (hL : L < 900) {p q : Nat} (hp : p < n) (hq : q < n) (hmd : md mv k L p q = true) : ∃ d, d ≤ L ∧ exa mv k d p q ∧ le (p * 12 + q) = nI d := by
  have key : ∀ a b, a < b → b < n → md mv k L a b = true → ∃ d, d ≤ L ∧ exa mv k d a b ∧ le (a * 12 + b) = nI d := fun a b hab hb z => by
    rw [(h.1 a b hab hb).1]
    rcases dis_spec (mv := mv) (k := k) L a b with ⟨y, -⟩ | ⟨-, d, hd, b1, b2, b3⟩
    · rw [z] at y; cases y
    · exact ⟨d, hd, ⟨b2, b3⟩, b1⟩
  rcases Nat.lt_trichotomy p q with c | c | c
  · exact key p q c hq hmd
  · subst c; exact ⟨0, Nat.zero_le _, ⟨md_refl, fun e he => by omega⟩, h.2 p hp⟩
  · rw [(h.1 q p c hp).2]
    obtain ⟨d, d1, d2, d3⟩ := key q p c hp (by rw [md_syme]; exact hmd)
    exact ⟨d, d1, exa_sym d2, d3⟩
theorem exa_eq {d e p q : Nat} (h1 : exa mv k d p q) (h2 : exa mv k e p q) : d = e := by
  rcases Nat.lt_trichotomy d e with c | c | c
  · have := h2.2 d c; rw [h1.1] at this; cases this
  · exact c
  · have := h1.2 e c; rw [h2.1] at this; cases this
theorem LEN.got {L : Nat} (hn : n ≤ 12) (hm : MV n k mv) (h : LEN n k mv le L) (hf : FIX n k mv L) (hL : L < 900) {d p q : Nat} (hp : p < n) (hq : q < n) (he : exa mv k d p q) : le (p * 12 + q) = nI d := by
  obtain ⟨e, -, e2, e3⟩ := h.val hn hL hp hq (hf.any hm hn hp hq he.1)
  rw [e3, exa_eq e2 he]
end MRG
section PMG
variable {N : Nat} {n k : Nat → Nat} {mv li pr sh : Nat → Nat → Int32} {ma : Int32} {st le mo lt pc sr : Nat → Int32} {j : Nat}
variable {made wl2 qd hp x2 x3 w : Int32} {mch : Nat → Option Nat} {lens rq rf rb rk : Nat → Int32}
theorem pr_merge (h : RSt N n k mv li pr sh ma st le mo lt pc sr) (hj : j < N) : wp_X11_merge_s made mch w lens (nI (n j)) (nI (k j)) (mv j) (nI j) x2 x3 (fun r _ _ => wp_X12_merge ma wl2 qd hp st le mo rq rf rb rk (nI j) x2 x3 (fun r2 _ _ _ _ _ => r = r2)) := by
  obtain ⟨⟨⟨g1, g2, g3, g4⟩, g5, g6, g7, g8⟩, s1, s2, s3, s4, s5⟩ := h.2.2 j hj
  have hN := h.1
  have h12 : 2 ^ n j ≤ 2 ^ 12 := Nat.pow_le_pow_right (by decide) g2
  unfold wp_X11_merge_s
  refine sp_hasState g2 (fun p hp' e => b_F ne10 ?_) (fun hno => b_T rfl ?_)
  · subst e
    refine sp_hasState g2 (fun q hq' e => b_F ne10 ?_) (fun hno => b_T rfl ?_)
    · subst e
      refine b_ne (by omega) (by omega) (fun c => ?_) (fun c => ?_)
      · refine sp_loadP g1 g2 g4 g5 (fun le' L l1 l2 l3 => sp_lengthOf (by omega) (by omega) ?_)
        unfold wp_X12_merge
        refine rS1 h hj hp' (b_F ne10 (rS1 h hj hq' (b_F ne10 (b_nT (fun z => c ((nI_eq (by omega) (by omega)).mp z)) ?_))))
        rw [nI_shl1 (by omega), nI_shl1 (by omega), nI_or]
        obtain ⟨hS, hS2⟩ := two_set hp' hq'
        refine sp_looks g2 g4 (by omega) s1 s2 s3 g5 WR0 hS hS2 (fun q' f b z hb hbl hr => ?_)
        rcases pair_look g2 g4 g5 hp' hq' c with ⟨r1, r2⟩ | ⟨r1, d, d1, d2, d3, -⟩
        · rw [r1]
          refine b_nF rfl ?_
          exact l1.none hp' hq' (r2 L)
        · have hT : (bfs (stp (n j) (mv j)) one (k j) (2 ^ p ||| 2 ^ q)).1 < 4096 := by
            obtain ⟨i, hi, e⟩ := d2.1 0 (Nat.zero_le _)
            have := (hb.1 i hi).2.1
            rw [e] at this
            exact this
          refine b_nT (fun y => r1 ((nI_eq (by omega) (by omega)).mp y)) (sp_longTo hb hr d2 d1 ?_)
          exact l1.got g2 g5 l2 (by omega) hp' hq' d3
      · unfold wp_X12_merge
        exact rS1 h hj hp' (b_F ne10 (rS1 h hj hq' (b_F ne10 (b_nF (by rw [c]) rfl))))
    · unfold wp_X12_merge
      exact rS1 h hj hp' (b_F ne10 (rS0 h hj hno (b_T rfl rfl)))
  · unfold wp_X12_merge
    exact rS0 h hj hno (b_T rfl rfl)
end PMG
