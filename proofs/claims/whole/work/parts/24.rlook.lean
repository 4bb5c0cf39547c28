/-! the reference's reads and its search -/
theorem sp_in {x0 x1 x2 : Int32} {Q : Int32 → Prop} (h0 : (x0 < x1 ∨ x2 < x0) → Q (nI 0)) (h1 : ¬ x0 < x1 → ¬ x2 < x0 → Q (nI 1)) : wp_X12_in x0 x1 x2 Q := by
  unfold wp_X12_in
  exact b_if (fun c => h0 (Or.inl c)) (fun c => b_if (fun d => h0 (Or.inr d)) (fun d => h1 c d))
theorem nI_0m1 : nI 0 - nI 1 = -1 := by decide
/-- x lies from 0 to n - 1 -/
theorem rng0 {x : Int32} {n : Nat} (hn : n < 2 ^ 31) (h : x < nI 0 ∨ nI n - nI 1 < x) : ¬ ∃ j, j < n ∧ x = nI j := by
  rintro ⟨j, hj, rfl⟩
  rcases h with h | h
  · exact nI_nlt0 (by omega) h
  · rw [pk_sub (by omega)] at h
    have := (nI_ltI (by omega) (by omega)).mp h
    omega
theorem rng1 {x : Int32} {n : Nat} (hn : n < 2 ^ 31) (h1 : ¬ x < nI 0) (h2 : ¬ nI n - nI 1 < x) : ∃ j, j < n ∧ x = nI j := by
  obtain ⟨j, hj, rfl⟩ := nI_of (x := x) h1
  refine ⟨j, ?_, rfl⟩
  rcases Nat.eq_zero_or_pos n with e | e
  · subst e
    rw [nI_0m1] at h2
    exact absurd (m1_lt hj) h2
  · rw [pk_sub (by omega)] at h2
    have : ¬ n - 1 < j := fun q => h2 ((nI_ltI (by omega) hj).mpr q)
    omega
theorem sp_isMachine {N : Nat} {a b c x : Int32} {Q : Int32 → Prop} (hN : N ≤ 6) (h1 : ∀ j, j < N → x = nI j → Q (nI 1)) (h0 : (¬ ∃ j, j < N ∧ x = nI j) → Q (nI 0)) : wp_X12_isMachine (nI N) a b c x Q := by
  unfold wp_X12_isMachine
  refine sp_in (fun d => ⟨Or.inl rfl, h0 (rng0 (by omega) d)⟩) (fun d1 d2 => ⟨Or.inr rfl, ?_⟩)
  obtain ⟨j, hj, e⟩ := rng1 (by omega) d1 d2
  exact h1 j hj e
theorem sp_rState {N : Nat} {a b c x x2 : Int32} {st : Nat → Int32} {n : Nat → Nat} {Q : Int32 → Prop} (hN : N ≤ 6) (hs : ∀ j, j < N → st j = nI (n j) ∧ n j ≤ 12) (h1 : ∀ j q, j < N → x = nI j → q < n j → x2 = nI q → Q (nI 1)) (h0 : (¬ ∃ j q, j < N ∧ x = nI j ∧ q < n j ∧ x2 = nI q) → Q (nI 0)) : wp_X12_isState (nI N) a b c st x x2 Q := by
  unfold wp_X12_isState
  refine sp_isMachine hN (fun j hj e => b_F ne10 ?_) (fun d => b_T rfl (h0 ?_))
  · subst e
    refine ⟨vin (by omega) (by omega), ?_⟩
    rw [nI_clamp (by omega), (hs j hj).1]
    have := (hs j hj).2
    refine sp_in (fun d => b_T rfl (h0 ?_)) (fun d1 d2 => b_F ne10 ?_)
    · rintro ⟨j2, q, hj2, e2, hq, rfl⟩
      have : j = j2 := (nI_eq (by omega) (by omega)).mp e2
      subst this
      exact rng0 (by omega) d ⟨q, hq, rfl⟩
    · obtain ⟨q, hq, e⟩ := rng1 (by omega) d1 d2
      exact h1 j q hj rfl hq e
  · rintro ⟨j, q, hj, e, -, -⟩
    exact d ⟨j, hj, e⟩
theorem sp_rLetter {N : Nat} {a b c x x2 : Int32} {st : Nat → Int32} {n : Nat → Nat} {Q : Int32 → Prop} (hN : N ≤ 6) (hs : ∀ j, j < N → st j = nI (n j) ∧ n j ≤ 12) (h1 : ∀ j q, j < N → x = nI j → q < n j → x2 = nI q → Q (nI 1)) (h0 : (¬ ∃ j q, j < N ∧ x = nI j ∧ q < n j ∧ x2 = nI q) → Q (nI 0)) : wp_X12_isLetter (nI N) a b c st x x2 Q := by
  unfold wp_X12_isLetter
  refine sp_isMachine hN (fun j hj e => b_F ne10 ?_) (fun d => b_T rfl (h0 ?_))
  · subst e
    refine ⟨vin (by omega) (by omega), ?_⟩
    rw [nI_clamp (by omega), (hs j hj).1]
    have := (hs j hj).2
    refine sp_in (fun d => b_T rfl (h0 ?_)) (fun d1 d2 => b_F ne10 ?_)
    · rintro ⟨j2, q, hj2, e2, hq, rfl⟩
      have : j = j2 := (nI_eq (by omega) (by omega)).mp e2
      subst this
      exact rng0 (by omega) d ⟨q, hq, rfl⟩
    · obtain ⟨q, hq, e⟩ := rng1 (by omega) d1 d2
      exact h1 j q hj rfl hq e
  · rintro ⟨j, q, hj, e, -, -⟩
    exact d ⟨j, hj, e⟩
theorem sp_rSet {N : Nat} {a b c x x2 : Int32} {st : Nat → Int32} {n : Nat → Nat} {Q : Int32 → Prop} (hN : N ≤ 6) (hs : ∀ j, j < N → st j = nI (n j) ∧ n j ≤ 12) (h1 : ∀ j S, j < N → x = nI j → 0 < S → S < 2 ^ n j → x2 = nI S → Q (nI 1)) (h0 : (¬ ∃ j S, j < N ∧ x = nI j ∧ 0 < S ∧ S < 2 ^ n j ∧ x2 = nI S) → Q (nI 0)) : wp_X12_isSet (nI N) a b c st x x2 Q := by
  unfold wp_X12_isSet
  refine sp_isMachine hN (fun j hj e => b_F ne10 ?_) (fun d => b_T rfl (h0 ?_))
  · subst e
    refine ⟨vin (by omega) (by omega), ?_⟩
    obtain ⟨hs1, hs2⟩ := hs j hj
    have h12 : 2 ^ n j ≤ 2 ^ 12 := Nat.pow_le_pow_right (by decide) hs2
    have h13 : 0 < 2 ^ n j := Nat.two_pow_pos _
    rw [nI_clamp (by omega), hs1, nI_shl1 (by omega), pk_sub (by omega)]
    refine sp_in (fun d => b_T rfl (h0 ?_)) (fun d1 d2 => b_F ne10 ?_)
    · rintro ⟨j2, S, hj2, e2, hS, hS2, rfl⟩
      have : j = j2 := (nI_eq (by omega) (by omega)).mp e2
      subst this
      rcases d with d | d
      · have := (nI_ltI (by omega) (by omega)).mp d; omega
      · have := (nI_ltI (by omega) (by omega)).mp d; omega
    · have d0 : ¬ x2 < nI 0 := fun q => d1 (by
        rw [Int32.lt_iff_toInt_lt] at q ⊢
        rw [nI_toInt (by omega)] at q ⊢
        omega)
      obtain ⟨S, hS, rfl⟩ := nI_of (x := x2) d0
      have a1 : ¬ S < 1 := fun q => d1 ((nI_ltI hS (by omega)).mpr q)
      have a2 : ¬ 2 ^ n j - 1 < S := fun q => d2 ((nI_ltI (by omega) hS).mpr q)
      exact h1 j S hj rfl (by omega) (by omega) rfl
  · rintro ⟨j, q, hj, e, -, -⟩
    exact d ⟨j, hj, e⟩
theorem sp_hasSet {n : Nat} {k x : Int32} {Q : Int32 → Prop} (hn : n ≤ 12) (h1 : ∀ S, 0 < S → S < 2 ^ n → x = nI S → Q (nI 1)) (h0 : (¬ ∃ S, 0 < S ∧ S < 2 ^ n ∧ x = nI S) → Q (nI 0)) : wp_X4_hasSet (nI n) k x Q := by
  have h12 : 2 ^ n ≤ 2 ^ 12 := Nat.pow_le_pow_right (by decide) hn
  unfold wp_X4_hasSet
  refine b_if (fun c => h0 ?_) (fun c => ?_)
  · rintro ⟨S, hS, hS2, rfl⟩
    have := (nI_leI (by omega) (by omega)).mp c
    omega
  · have d0 : ¬ x < nI 0 := fun q => c (by
      rw [Int32.lt_iff_toInt_lt] at q
      rw [Int32.le_iff_toInt_le]
      omega)
    obtain ⟨S, hS, rfl⟩ := nI_of (x := x) d0
    have c0 : ¬ S ≤ 0 := fun q => c ((nI_leI hS (by omega)).mpr q)
    refine b_le (by omega) hS (fun d => h0 ?_) (fun d => ?_)
    · rintro ⟨S2, a1, a2, e⟩
      have := (nI_eq hS (by omega)).mp e
      omega
    · rw [nI_shr hS (by omega)]
      refine b_ne (Nat.lt_of_le_of_lt (Nat.div_le_self _ _) hS) (by omega) (fun e => h0 ?_) (fun e => ?_)
      · rintro ⟨S2, a1, a2, e2⟩
        have := (nI_eq hS (by omega)).mp e2
        subst this
        exact e (Nat.div_eq_of_lt a2)
      · refine h1 S (by omega) ?_ rfl
        rcases Nat.lt_or_ge S (2 ^ n) with q | q
        · exact q
        · have := Nat.div_pos q (Nat.two_pow_pos n)
          omega
/-- the reference's moves of a machine are ours -/
def RMv (n k m : Nat) (moves mv : Nat → Int32) : Prop := ∀ q l, q < n → l < k → moves (48 * m + 4 * q + l) = mv (q * 4 + l)
theorem stp_miss {n q l S : Nat} {mv : Nat → Int32} (hq : q < n) (hb : S.testBit q = true) (h : mv (q * 4 + l) = -1) : stp n mv S l = 0 := by
  unfold stp
  refine if_neg (fun c => ?_)
  have : (orf (fun q => mt mv q l) S n).testBit 12 = true := orf_bit.mpr ⟨q, hq, hb, by rw [mt_m h]; decide⟩
  have := Nat.ge_two_pow_of_testBit this
  omega
theorem sp_next {n k m S l : Nat} {a b c d : Int32} {st moves mv : Nat → Int32} {Q : Int32 → Prop} (hn : n ≤ 12) (hk : k ≤ 4) (hm6 : m < 6) (hst : st m = nI n) (hr : RMv n k m moves mv) (hm : MV n k mv) (hl : l < k) (hS : S < 2 ^ 31) (h : Q (nI (stp n mv S l))) : wp_X12_next a b c d st moves (nI m) (nI S) (nI l) Q := by
  unfold wp_X12_next
  refine pk_loop (fun f q (s : Int32) => L_X12_next_6 st moves (nI m) (nI S) (nI l) Q f s (nI q)) (fun q s => s = nI (orf (fun q => mt mv q l) S q) ∧ orf (fun q => mt mv q l) S q < 4096) n 0 (nI 0) (Nat.zero_le _) ⟨rfl, by show 0 < 4096; omega⟩ ?_ ?_
  · rintro f s ⟨rfl, h2⟩
    show L_X12_next_6 st moves (nI m) (nI S) (nI l) Q (f + 1) _ (nI n)
    unfold L_X12_next_6
    rw [nI_clamp (by omega), hst]
    refine ⟨vin hm6 (by omega), b_T (nI_le (Nat.le_refl _) (by omega)) ?_⟩
    unfold stp at h
    rw [if_pos h2] at h
    exact h
  · rintro f q s hq ⟨rfl, h2⟩ ih
    show L_X12_next_6 st moves (nI m) (nI S) (nI l) Q (f + 1) _ (nI q)
    unfold L_X12_next_6
    rw [nI_clamp (by omega), hst]
    refine ⟨vin hm6 (by omega), b_F (nI_ge hq (by omega)) ?_⟩
    rw [nI_shr hS (by omega), nI_bit, pk_mul, pk_mul, nI_add, nI_add, nI_clamp (by omega)]
    have hmod : S / 2 ^ q % 2 < 2 := Nat.mod_lt _ (by decide)
    refine b_ne (by omega) (by omega) (fun e => ?_) (fun e => ?_)
    · unfold J_X12_next_58
      rw [nI_1']
      have e0 : S.testBit q = false := by
        cases z : S.testBit q
        · rfl
        · exact absurd ((tb_div S q).mpr z) e
      refine ih _ ⟨?_, ?_⟩
      · rw [orf, e0]; simp
      · rw [orf, e0]; simpa using h2
    · have e1 : S.testBit q = true := (tb_div S q).mp e
      refine ⟨vin (by omega) (by omega), ?_⟩
      rw [hr q l hq hl]
      rcases hm q l hq hl with z | ⟨t, ht, z⟩
      · rw [z]
        refine b_nF rfl ?_
        rw [stp_miss hq e1 z] at h
        exact h
      · rw [z]
        refine b_nT (nI_m1 (by omega)) ?_
        unfold J_X12_next_58
        rw [nI_shl1 (by omega), nI_or, nI_1']
        have e2 : orf (fun q => mt mv q l) S q ||| 2 ^ t = orf (fun q => mt mv q l) S (q + 1) := by
          rw [orf, if_pos e1, mt_t (by omega) z]
        rw [e2]
        refine ih _ ⟨rfl, ?_⟩
        rw [← e2]
        exact Nat.or_lt_two_pow (n := 12) h2 (Nat.pow_lt_pow_right (by decide) (by omega))
theorem pop_step : ∀ x, x < 4096 → pop x = x % 2 + pop (x / 2) := dec64 (by decide +kernel)
theorem pop_0 : pop 0 = 0 := rfl
theorem sp_many {S : Nat} {Q : Int32 → Prop} (hS : S < 4096) (h : Q (nI (pop S))) : wp_X12_many (nI S) Q := by
  unfold wp_X12_many
  refine loop_m (fun f (s : Nat × Nat) => L_X12_many_4 Q f (nI s.1) (nI s.2)) (fun s => s.1 + pop s.2 = pop S ∧ s.2 < 4096) (fun s => s.2) ?_ (0, S) ⟨Nat.zero_add _, hS⟩
  rintro f ⟨x, v⟩ ⟨a1, a2⟩ ih
  have a1 : x + pop v = pop S := a1
  have a2 : v < 4096 := a2
  show L_X12_many_4 Q (f + 1) (nI x) (nI v)
  have hp := (one_pop S hS).2.2
  unfold L_X12_many_4
  refine b_le (by omega) (by omega) (fun c => ?_) (fun c => ?_)
  · have : v = 0 := by omega
    subst this
    rw [pop_0] at a1
    rw [show x = pop S by omega]
    exact h
  · rw [nI_bit, nI_add, nI_shr (by omega) (by decide)]
    refine ih (x + v % 2, v / 2 ^ 1) ⟨?_, ?_⟩ ?_
    · have := pop_step v a2
      show x + v % 2 + pop (v / 2 ^ 1) = pop S
      rw [show v / 2 ^ 1 = v / 2 from rfl]
      omega
    · show v / 2 ^ 1 < 4096
      rw [show v / 2 ^ 1 = v / 2 from rfl]; omega
    · show v / 2 ^ 1 < v
      rw [show v / 2 ^ 1 = v / 2 from rfl]; omega
def WR (x : Int32) (w : Nat → Bool) : Prop := (x < nI 0 ∧ ∀ T, w T = false) ∨ (¬ x < nI 0 ∧ ∀ T, 0 < T → T < 4096 → ∀ (a b c d : Int32) (Q : Int32 → Prop), Q (if w T = true then nI 1 else nI 0) → wp_X12_isWanted a b c d (nI T) x Q)
theorem WR0 : WR (nI 0) (fun T => decide (pop T = 1)) := Or.inr ⟨by decide, fun T h0 h1 a b c d Q h => by
  unfold wp_X12_isWanted
  have hp := (one_pop T h1).2.2
  refine b_nF rfl (sp_many h1 (b_ne (by omega) (by omega) (fun c => ?_) (fun c => ?_)))
  · rw [if_neg (by simpa using c)] at h; exact h
  · rw [if_pos (decide_eq_true c)] at h; exact h⟩
theorem WRv {v : Nat} (hv : 0 < v) (hv2 : v < 2 ^ 31) : WR (nI v) (fun T => decide (T = v)) := Or.inr ⟨nI_nlt0 hv2, fun T h0 h1 a b c d Q h => by
  unfold wp_X12_isWanted
  refine b_nT (fun q => by have := (nI_eq hv2 (by omega)).mp q; omega) (b_ne (by omega) hv2 (fun c => ?_) (fun c => ?_))
  · rw [if_neg (by simpa using c)] at h; exact h
  · rw [if_pos (decide_eq_true c)] at h; exact h⟩
theorem WRm : WR (-1) (fun _ => false) := Or.inl ⟨by decide, fun _ => rfl⟩
def RR (b : BS) (size : Int32) (queue from_ by_ known : Nat → Int32) : Prop := size = nI b.2.1 ∧ (∀ i, i < b.2.1 → queue i = nI (b.1 i)) ∧ (∀ T, 0 < T → T < 4096 → known T = if inb b T = true then nI 1 else nI 0) ∧ (∀ i, i < b.2.1 → from_ (b.1 i) = nI (b.2.2.1 (b.1 i))) ∧ ∀ i, 0 < i → i < b.2.1 → by_ (b.1 i) = nI (b.2.2.2 (b.1 i))
theorem RR.push {b : BS} {size : Int32} {queue from_ by_ known : Nat → Int32} {T S l : Nat} (h : RR b size queue from_ by_ known) (hn : inb b T = false) : RR (bpush b T S l) (nI (b.2.1 + 1)) (upd queue b.2.1 (nI T)) (upd from_ T (nI S)) (upd by_ T (nI l)) (upd known T (nI 1)) := by
  obtain ⟨-, h2, h3, h4, h5⟩ := h
  refine ⟨rfl, fun i hi => ?_, fun X a0 a1 => ?_, fun i hi => ?_, fun i h0 hi => ?_⟩
  · have hi2 : i < b.2.1 + 1 := hi
    by_cases c : i = b.2.1
    · subst c; rw [bpush_new, pk_us]
    · rw [bpush_old (by omega), pk_un c]; exact h2 i (by omega)
  · by_cases c : X = T
    · subst c; rw [pk_us, if_pos (inb_push.mpr (Or.inl rfl))]
    · rw [pk_un c, h3 X a0 a1]
      by_cases d : inb b X = true
      · rw [if_pos d, if_pos (inb_push.mpr (Or.inr d))]
      · rw [if_neg d, if_neg (fun q => (inb_push.mp q).elim c d)]
  · have hi2 : i < b.2.1 + 1 := hi
    by_cases c : i = b.2.1
    · subst c; rw [bpush_new, pk_us]; show _ = nI (if T = T then S else _); rw [if_pos rfl]
    · have hne := inb_no hn (show i < b.2.1 by omega)
      rw [bpush_old (by omega), pk_un hne, h4 i (by omega)]; show _ = nI (if b.1 i = T then S else _); rw [if_neg hne]
  · have hi2 : i < b.2.1 + 1 := hi
    by_cases c : i = b.2.1
    · subst c; rw [bpush_new, pk_us]; show _ = nI (if T = T then l else _); rw [if_pos rfl]
    · have hne := inb_no hn (show i < b.2.1 by omega)
      rw [bpush_old (by omega), pk_un hne, h5 i h0 (by omega)]; show _ = nI (if b.1 i = T then l else _); rw [if_neg hne]
theorem vnz0 : vp_nar .boolean (nI 0) = nI 0 := rfl
theorem vnz1 : vp_nar .boolean (nI 1) = nI 1 := rfl
theorem sp_rlet {n k m S i : Nat} {a1 a2 a3 x3 : Int32} {st le moves mv : Nat → Int32} {w : Nat → Bool} {b : BS} {size : Int32} {queue from_ by_ known : Nat → Int32} {R : Int32 → Int32 → (Nat → Int32) → (Nat → Int32) → (Nat → Int32) → (Nat → Int32) → Prop} {Q : Int32 → Int32 → (Nat → Int32) → (Nat → Int32) → (Nat → Int32) → (Nat → Int32) → Prop}
    (hn : n ≤ 12) (hk : k ≤ 4) (hm6 : m < 6) (hst : st m = nI n) (hle : le m = nI k) (hrm : RMv n k m moves mv) (hm : MV n k mv) (hw : WR x3 w) (hb : BOK b) (hbl : BL (2 ^ n) b) (hi : i < b.2.1) (hS : b.1 i = S) (hr : RR b size queue from_ by_ known)
    (h0 : ∀ q f y z, (blet (stp n mv) w S k k b).1 = 0 → BOK (blet (stp n mv) w S k k b).2 → BL (2 ^ n) (blet (stp n mv) w S k k b).2 → RR (blet (stp n mv) w S k k b).2 (nI (blet (stp n mv) w S k k b).2.2.1) q f y z → R (nI (i + 1)) (nI (blet (stp n mv) w S k k b).2.2.1) q f y z)
    (h1 : ∀ q f y z, (blet (stp n mv) w S k k b).1 ≠ 0 → BOK (blet (stp n mv) w S k k b).2 → BL (2 ^ n) (blet (stp n mv) w S k k b).2 → RR (blet (stp n mv) w S k k b).2 (nI (blet (stp n mv) w S k k b).2.2.1) q f y z → Q (nI (blet (stp n mv) w S k k b).1) (nI (blet (stp n mv) w S k k b).2.2.1) q f y z) :
    ∃ f, L_X12_looks_81 a1 a2 a3 st le moves (nI m) x3 (nI i) R Q f (nI 0) size queue from_ by_ known := by
  have h12 : 2 ^ n ≤ 2 ^ 12 := Nat.pow_le_pow_right (by decide) hn
  have hsz0 := hb.sz
  refine pk_loop (fun f l (s : Int32 × (Nat → Int32) × (Nat → Int32) × (Nat → Int32) × (Nat → Int32)) => L_X12_looks_81 a1 a2 a3 st le moves (nI m) x3 (nI i) R Q f (nI l) s.1 s.2.1 s.2.2.1 s.2.2.2.1 s.2.2.2.2) (fun l s => ∃ b', BOK b' ∧ BL (2 ^ n) b' ∧ i < b'.2.1 ∧ b'.1 i = S ∧ RR b' s.1 s.2.1 s.2.2.1 s.2.2.2.1 s.2.2.2.2 ∧ blet (stp n mv) w S k (k - l) b' = blet (stp n mv) w S k k b) k 0 (size, queue, from_, by_, known) (Nat.zero_le _) ⟨b, hb, hbl, hi, hS, hr, by rw [Nat.sub_zero]⟩ ?_ ?_
  · rintro f ⟨s1, s2, s3, s4, s5⟩ ⟨b', g1, g2, g3, g4, g5, g6⟩
    show L_X12_looks_81 a1 a2 a3 st le moves (nI m) x3 (nI i) R Q (f + 1) (nI k) s1 s2 s3 s4 s5
    have g5 : RR b' s1 s2 s3 s4 s5 := g5
    unfold L_X12_looks_81
    rw [nI_clamp (by omega), hle]
    refine ⟨vin hm6 (by omega), b_T (nI_le (Nat.le_refl _) (by omega)) ?_⟩
    unfold J_X12_looks_198
    rw [nI_1']
    rw [Nat.sub_self, blet] at g6
    rw [← g6] at h0
    rw [show s1 = nI b'.2.1 from g5.1]
    exact h0 _ _ _ _ rfl g1 g2 ⟨rfl, g5.2⟩
  · rintro f l ⟨s1, s2, s3, s4, s5⟩ hl ⟨b', g1, g2, g3, g4, g5, g6⟩ ih
    show L_X12_looks_81 a1 a2 a3 st le moves (nI m) x3 (nI i) R Q (f + 1) (nI l) s1 s2 s3 s4 s5
    have g5 : RR b' s1 s2 s3 s4 s5 := g5
    have hsz := g1.sz
    unfold L_X12_looks_81
    rw [nI_clamp (by omega), hle]
    refine ⟨vin hm6 (by omega), b_F (nI_ge hl (by omega)) ⟨vin (by omega) (by omega), ?_⟩⟩
    have hS0 := g1.1 i g3
    have hSl := g2 i g3
    rw [g4] at hS0 hSl
    rw [nI_clamp (n := i) (by omega), g5.2.1 i g3, g4]
    refine sp_next hn hk hm6 hst hrm hm hl (by omega) ?_
    rw [blet_at hl] at g6
    have hT : stp n mv S l < 2 ^ n := stp_lt2 hm hn hl
    generalize stp n mv S l = T at g6 hT ⊢
    refine b_le (by omega) (by omega) (fun c => ?_) (fun c => ?_)
    · rw [if_pos (Or.inl (by omega))] at g6
      unfold J_X12_looks_192
      rw [nI_1']
      exact ih (s1, s2, s3, s4, s5) ⟨b', g1, g2, g3, g4, g5, g6⟩
    · refine ⟨vin (by omega) (by omega), ?_⟩
      rw [nI_clamp (n := T) (by omega), g5.2.2.1 T (by omega) (by omega)]
      by_cases d : inb b' T = true
      · rw [if_pos d]
        rw [if_pos (Or.inr d)] at g6
        refine b_nT ne10 ?_
        unfold J_X12_looks_192
        rw [nI_1']
        exact ih (s1, s2, s3, s4, s5) ⟨b', g1, g2, g3, g4, g5, g6⟩
      · rw [if_neg d]
        have d2 : inb b' T = false := by cases e : inb b' T; rfl; exact absurd e d
        rw [if_neg (fun q => q.elim (by omega) d)] at g6
        rw [show s1 = nI b'.2.1 from g5.1, nI_clamp (n := b'.2.1) (by omega), nI_1', vnz1]
        refine b_nF rfl ⟨vin (by omega) (by omega), vin (by omega) (by omega), vin (by omega) (by omega), vin (by omega) (by omega), vin (by omega) (by omega), ?_⟩
        have hp := g1.push (S := S) (l := l) (T := T) (by omega) (by omega) d2 g3 g4 (by omega)
        have hrp := g5.push (T := T) (S := S) (l := l) d2
        have hgo : w T = false → J_X12_looks_192 (L_X12_looks_81 a1 a2 a3 st le moves (nI m) x3 (nI i) R Q f) (nI l) (nI (b'.2.1 + 1)) (upd s2 b'.2.1 (nI T)) (upd s3 T (nI S)) (upd s4 T (nI l)) (upd s5 T (nI 1)) := fun cw => by
          rw [if_neg (by rw [cw]; decide)] at g6
          unfold J_X12_looks_192
          rw [nI_1']
          exact ih (_, _, _, _, _) ⟨_, hp, g2.push hT, Nat.lt_succ_of_lt g3, (bpush_old g3).trans g4, hrp, g6⟩
        rcases hw with ⟨hw1, hw2⟩ | ⟨hw1, hw2⟩
        · exact b_T hw1 (hgo (hw2 T))
        · refine b_F hw1 (hw2 T (by omega) (by omega) _ _ _ _ _ ?_)
          by_cases cw : w T = true
          · rw [if_pos cw] at g6 ⊢
            refine b_F ne10 ?_
            rw [← g6] at h1
            exact h1 _ _ _ _ (by show T ≠ 0; omega) hp (g2.push hT) hrp
          · rw [if_neg cw]
            exact b_T rfl (hgo (by cases e : w T; rfl; exact absurd e cw))
theorem sp_looks {n k m S : Nat} {a1 a2 a3 a4 x3 : Int32} {st le moves mv : Nat → Int32} {w : Nat → Bool} {queue from_ by_ known : Nat → Int32} {Q : Int32 → Int32 → (Nat → Int32) → (Nat → Int32) → (Nat → Int32) → (Nat → Int32) → Prop}
    (hn : n ≤ 12) (hk : k ≤ 4) (hm6 : m < 6) (hst : st m = nI n) (hle : le m = nI k) (hrm : RMv n k m moves mv) (hm : MV n k mv) (hw : WR x3 w) (hS : 0 < S) (hS2 : S < 2 ^ n)
    (h : ∀ q f y z, BOK (bfs (stp n mv) w k S).2 → BL (2 ^ n) (bfs (stp n mv) w k S).2 → RR (bfs (stp n mv) w k S).2 (nI (bfs (stp n mv) w k S).2.2.1) q f y z → Q (nI (bfs (stp n mv) w k S).1) (nI (bfs (stp n mv) w k S).2.2.1) q f y z) : wp_X12_looks a1 a2 a3 a4 st le moves queue from_ by_ known (nI m) (nI S) x3 Q := by
  have h12 : 2 ^ n ≤ 2 ^ 12 := Nat.pow_le_pow_right (by decide) hn
  unfold wp_X12_looks
  refine pk_loop (fun f i (s : Nat → Int32) => L_X12_looks_3 a1 a2 a4 st le moves queue from_ by_ (nI m) (nI S) x3 Q f (nI i) s) (fun i s => ∀ j, j < i → s j = nI 0) 4096 0 known (by omega) (fun j hj => absurd hj (by omega)) ?_ ?_
  · rintro f s hs
    show L_X12_looks_3 a1 a2 a4 st le moves queue from_ by_ (nI m) (nI S) x3 Q (f + 1) (nI 4096) s
    unfold L_X12_looks_3
    refine b_T (nI_le (by omega) (by omega)) ?_
    unfold J_X12_looks_25
    rw [nI_clamp (n := 0) (by omega), nI_clamp (by omega), vnz1]
    refine ⟨vin (by omega) (by omega), vin (by omega) (by omega), vin (by omega) (by omega), ?_⟩
    have hst0 : RR (b0 S) (nI 1) (upd queue 0 (nI S)) (upd from_ S (nI 0)) by_ (upd s S (nI 1)) := by
      refine ⟨rfl, fun i hi => ?_, fun T c0 c1 => ?_, fun i hi => ?_, fun i i0 hi => ?_⟩
      · have : i = 0 := by have : i < 1 := hi; omega
        subst this; rw [pk_us]; rfl
      · by_cases e : T = S
        · subst e; rw [pk_us, if_pos (inb_iff.mpr ⟨0, Nat.zero_lt_one, rfl⟩ : inb (b0 T) T = true)]
        · rw [pk_un e, hs T c1, if_neg (fun q => by
            obtain ⟨i, hi, e2⟩ := inb_iff.mp q
            have : i = 0 := by have : i < 1 := hi; omega
            subst this
            exact e e2.symm)]
      · have : i = 0 := by have : i < 1 := hi; omega
        subst this
        show upd from_ S (nI 0) S = _
        rw [pk_us]; rfl
      · have : i < 1 := hi; omega
    have hgo : w S = false → J_X12_looks_66 a1 a2 a4 st le moves (nI m) x3 Q (nI 1) (upd queue 0 (nI S)) (upd from_ S (nI 0)) by_ (upd s S (nI 1)) := fun cw => by
      unfold bfs at h
      rw [if_neg (by rw [cw]; decide)] at h
      unfold J_X12_looks_66
      generalize hR : bout (stp n mv) w k 4096 0 (b0 S) = R at h
      refine loop_m (fun f (s : Nat × Int32 × (Nat → Int32) × (Nat → Int32) × (Nat → Int32) × (Nat → Int32)) => L_X12_looks_69 a1 a2 a4 st le moves (nI m) x3 Q f (nI s.1) s.2.1 s.2.2.1 s.2.2.2.1 s.2.2.2.2.1 s.2.2.2.2.2) (fun s => ∃ b', BOK b' ∧ BL (2 ^ n) b' ∧ s.1 ≤ b'.2.1 ∧ RR b' s.2.1 s.2.2.1 s.2.2.2.1 s.2.2.2.2.1 s.2.2.2.2.2 ∧ bout (stp n mv) w k (4096 - s.1) s.1 b' = R) (fun s => 4096 - s.1) ?_ (0, nI 1, _, _, _, _) ⟨b0 S, BOK.start hS (by omega), fun i hi => by
        have : i = 0 := by have : i < 1 := hi; omega
        subst this
        exact hS2, Nat.zero_le _, hst0, hR⟩
      rintro f ⟨i, s1, s2, s3, s4, s5⟩ ⟨b', c1, c2, c3, c4, c5⟩ ih
      show L_X12_looks_69 a1 a2 a4 st le moves (nI m) x3 Q (f + 1) (nI i) s1 s2 s3 s4 s5
      have hsz := c1.sz
      have c3 : i ≤ b'.2.1 := c3
      have c4 : RR b' s1 s2 s3 s4 s5 := c4
      have c5 : bout (stp n mv) w k (4096 - i) i b' = R := c5
      rw [bout_at (by omega)] at c5
      unfold L_X12_looks_69
      rw [show s1 = nI b'.2.1 from c4.1]
      refine b_le (by omega) (by omega) (fun e => ?_) (fun e => ?_)
      · rw [if_neg (by omega)] at c5
        rw [← c5] at h
        exact h _ _ _ _ c1 c2 ⟨rfl, c4.2⟩
      · have e' : i < b'.2.1 := by omega
        rw [if_pos e'] at c5
        have hlt := (blet_ok (w := w) hk (fun S l hl => (Nat.lt_of_lt_of_le (stp_lt2 hm hn hl) (by omega) : stp n mv S l < 4096)) k b' (Nat.le_refl _) c1 e' rfl).2
        refine sp_rlet (S := b'.1 i) hn hk hm6 hst hle hrm hm hw c1 c2 e' rfl ⟨rfl, c4.2⟩ (fun q2 f2 y2 z2 u0 u1 u2 u3 => ?_) (fun q2 f2 y2 z2 u0 u1 u2 u3 => ?_)
        · rw [if_pos u0] at c5
          refine ih (i + 1, _, _, _, _, _) ⟨_, u1, u2, ?_, u3, c5⟩ ?_
          · show i + 1 ≤ _; omega
          · show 4096 - (i + 1) < 4096 - i; omega
        · rw [if_neg u0] at c5
          rw [← c5] at h
          exact h _ _ _ _ u1 u2 u3
    rcases hw with ⟨hw1, hw2⟩ | ⟨hw1, hw2⟩
    · exact b_T hw1 (hgo (hw2 S))
    · refine b_F hw1 (hw2 S hS (by omega) _ _ _ _ _ ?_)
      by_cases cw : w S = true
      · rw [if_pos cw]
        refine b_F ne10 ?_
        unfold bfs at h
        rw [if_pos cw] at h
        exact h _ _ _ _ (BOK.start hS (by omega)) (fun i hi => by
          have : i = 0 := by have : i < 1 := hi; omega
          subst this
          exact hS2) hst0
      · rw [if_neg cw]
        exact b_T rfl (hgo (by cases e : w S; rfl; exact absurd e cw))
  · rintro f i s hi hs ih
    show L_X12_looks_3 a1 a2 a4 st le moves queue from_ by_ (nI m) (nI S) x3 Q (f + 1) (nI i) s
    unfold L_X12_looks_3
    refine b_F (nI_ge hi (by omega)) ⟨vin hi (by omega), ?_⟩
    rw [nI_clamp (by omega), nI_1', vnz0]
    refine ih _ (fun j hj => ?_)
    by_cases e : j = i
    · subst e; exact pk_us
    · rw [pk_un e]; exact hs j (by omega)
