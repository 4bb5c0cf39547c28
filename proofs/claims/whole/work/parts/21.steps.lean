/-! the machine's own reads; sets that go by a letter -/
theorem out1 {x : Int32} {n : Nat} (hn : n < 2 ^ 31) (c : x < nI 0) : ¬ ∃ j, j < n ∧ x = nI j := by
  rintro ⟨j, hj, rfl⟩
  exact nI_nlt0 (by omega) c
theorem out2 {x : Int32} {n m : Nat} (c : nI m ≤ x) (hnm : n ≤ m) (hm : m < 2 ^ 31) : ¬ ∃ j, j < n ∧ x = nI j := by
  rintro ⟨j, hj, rfl⟩
  have := (nI_leI hm (by omega)).mp c
  omega
theorem in3 {x : Int32} {n : Nat} (hn : n < 2 ^ 31) (c1 : ¬ x < nI 0) (c2 : ¬ nI n ≤ x) : ∃ j, j < n ∧ x = nI j := by
  rcases pk_ix x hn with h | h | h
  · exact absurd h c1
  · exact absurd h c2
  · exact h
theorem ne10 : ¬ nI 1 = nI 0 := by decide
theorem sp_hasState {n : Nat} {k x : Int32} {Q : Int32 → Prop} (hn : n ≤ 12) (h1 : ∀ j, j < n → x = nI j → Q (nI 1)) (h0 : (¬ ∃ j, j < n ∧ x = nI j) → Q (nI 0)) : wp_X4_hasState (nI n) k x Q := by
  unfold wp_X4_hasState
  refine b_if (fun c => h0 (out1 (by omega) c)) (fun c1 => b_if (fun c => h0 (out2 c (Nat.le_refl _) (by omega))) (fun c2 => b_if (fun c => h0 (out2 c hn (by omega))) (fun _ => ?_)))
  obtain ⟨j, hj, e⟩ := in3 (by omega) c1 c2
  exact h1 j hj e
theorem sp_hasState1 {n j : Nat} {k : Int32} {Q : Int32 → Prop} (hn : n ≤ 12) (hj : j < n) (h : Q (nI 1)) : wp_X4_hasState (nI n) k (nI j) Q := sp_hasState hn (fun _ _ _ => h) (fun q => absurd ⟨j, hj, rfl⟩ q)
theorem sp_hasState0 {n j : Nat} {k : Int32} {Q : Int32 → Prop} (hn : n ≤ 12) (hj : n ≤ j) (hj2 : j < 2 ^ 31) (h : Q (nI 0)) : wp_X4_hasState (nI n) k (nI j) Q := sp_hasState hn (fun i hi e => by have := (nI_eq hj2 (by omega)).mp e; omega) (fun _ => h)
theorem sp_hasLetter {k : Nat} {n x : Int32} {Q : Int32 → Prop} (hk : k ≤ 4) (h1 : ∀ j, j < k → x = nI j → Q (nI 1)) (h0 : (¬ ∃ j, j < k ∧ x = nI j) → Q (nI 0)) : wp_X4_hasLetter n (nI k) x Q := by
  unfold wp_X4_hasLetter
  refine b_if (fun c => h0 (out1 (by omega) c)) (fun c1 => b_if (fun c => h0 (out2 c (Nat.le_refl _) (by omega))) (fun c2 => b_if (fun c => h0 (out2 c hk (by omega))) (fun _ => ?_)))
  obtain ⟨j, hj, e⟩ := in3 (by omega) c1 c2
  exact h1 j hj e
theorem sp_hasLetter1 {k j : Nat} {n : Int32} {Q : Int32 → Prop} (hk : k ≤ 4) (hj : j < k) (h : Q (nI 1)) : wp_X4_hasLetter n (nI k) (nI j) Q := sp_hasLetter hk (fun _ _ _ => h) (fun q => absurd ⟨j, hj, rfl⟩ q)
theorem sp_target {n k q l : Nat} {mv : Nat → Int32} {Q : Int32 → Prop} (hn : n ≤ 12) (hk : k ≤ 4) (hq : q < n) (hl : l < k) (h : Q (mv (q * 4 + l))) : wp_X4_target (nI n) (nI k) mv (nI q) (nI l) Q := by
  unfold wp_X4_target
  refine b_F (nI_nlt0 (by omega)) (b_F (nI_ge hq (by omega)) (b_F (nI_ge (by omega) (by omega)) (b_F (nI_nlt0 (by omega)) (b_F (nI_ge hl (by omega)) (b_F (nI_ge (by omega) (by omega)) ?_)))))
  unfold J_X4_target_40
  refine b_F ne10 ?_
  rw [pk_mul, nI_add, nI_clamp (by omega)]
  exact ⟨vin (by omega) (by omega), h⟩
theorem sp_fill {n : Nat} {c : Nat → Int32} {v : Int32} {Q : (Nat → Int32) → Prop} (hn : n < 2 ^ 31) (h : Q (fun j => if j < n then v else c j)) : wp_J7_fill_53178 n c v Q := by
  unfold wp_J7_fill_53178
  refine pk_loop (fun f i s => L_J7_fill_53178_5 n v (nI n) Q f (nI i) s) (fun i s => s = fun j => if j < i then v else c j) n 0 c (Nat.zero_le _) (by funext j; simp) ?_ ?_
  · rintro f s rfl
    show L_J7_fill_53178_5 n v (nI n) Q (f + 1) (nI n) _
    unfold L_J7_fill_53178_5
    exact b_T (nI_le (Nat.le_refl _) hn) h
  · rintro f i s hi rfl ih
    show L_J7_fill_53178_5 n v (nI n) Q (f + 1) (nI i) _
    unfold L_J7_fill_53178_5
    refine b_F (nI_ge hi hn) ⟨vin hi hn, ?_⟩
    rw [nI_clamp (by omega), nI_1']
    refine ih _ ?_
    funext j
    by_cases h1 : j = i
    · subst h1; rw [pk_us, if_pos (by omega)]
    · rw [pk_un h1]
      by_cases h2 : j < i
      · rw [if_pos h2, if_pos (by omega)]
      · rw [if_neg h2, if_neg (by omega)]
theorem sp_fillL {n : Nat} {c : Nat → Int64} {v : Int64} {Q : (Nat → Int64) → Prop} (hn : n < 2 ^ 31) (h : Q (fun j => if j < n then v else c j)) : wp_J7_fill_d0a16 n c v Q := by
  unfold wp_J7_fill_d0a16
  refine pk_loop (fun f i s => L_J7_fill_d0a16_6 n v (nI n) Q f (nI i) s) (fun i s => s = fun j => if j < i then v else c j) n 0 c (Nat.zero_le _) (by funext j; simp) ?_ ?_
  · rintro f s rfl
    show L_J7_fill_d0a16_6 n v (nI n) Q (f + 1) (nI n) _
    unfold L_J7_fill_d0a16_6
    exact b_T (nI_le (Nat.le_refl _) hn) h
  · rintro f i s hi rfl ih
    show L_J7_fill_d0a16_6 n v (nI n) Q (f + 1) (nI i) _
    unfold L_J7_fill_d0a16_6
    refine b_F (nI_ge hi hn) ⟨vin hi hn, ?_⟩
    rw [nI_clamp (by omega), nI_1']
    refine ih _ ?_
    funext j
    by_cases h1 : j = i
    · subst h1; rw [pk_uLs, if_pos (by omega)]
    · rw [pk_uLn h1]
      by_cases h2 : j < i
      · rw [if_pos h2, if_pos (by omega)]
      · rw [if_neg h2, if_neg (by omega)]
/-- a machine's moves: missing, or to a state -/
def MV (n k : Nat) (mv : Nat → Int32) : Prop := ∀ q l, q < n → l < k → mv (q * 4 + l) = -1 ∨ ∃ t, t < n ∧ mv (q * 4 + l) = nI t
/-- a move as a bit; 4096: missing -/
def mt (mv : Nat → Int32) (q l : Nat) : Nat := if mv (q * 4 + l) = -1 then 4096 else 2 ^ (mv (q * 4 + l)).toNatClampNeg
theorem mt_m {mv : Nat → Int32} {q l : Nat} (h : mv (q * 4 + l) = -1) : mt mv q l = 4096 := if_pos h
theorem mt_t {mv : Nat → Int32} {q l t : Nat} (ht : t < 2 ^ 31) (h : mv (q * 4 + l) = nI t) : mt mv q l = 2 ^ t := by
  unfold mt
  rw [h, if_neg (nI_m1 ht), nI_clamp ht]
theorem mt_lt {n k : Nat} {mv : Nat → Int32} (hm : MV n k mv) (hn : n ≤ 12) {q l : Nat} (hq : q < n) (hl : l < k) : mt mv q l < 8192 := by
  rcases hm q l hq hl with h | ⟨t, ht, h⟩
  · rw [mt_m h]; omega
  · rw [mt_t (by omega) h]
    have : 2 ^ t ≤ 2 ^ 12 := Nat.pow_le_pow_right (by decide) (by omega)
    omega
/-- the bits f q of the q below m that are in S -/
def orf (f : Nat → Nat) (S : Nat) : Nat → Nat
  | 0 => 0
  | q + 1 => orf f S q ||| (if S.testBit q = true then f q else 0)
theorem orf_lt {f : Nat → Nat} {S e : Nat} : ∀ {m : Nat}, (∀ q, q < m → f q < 2 ^ e) → orf f S m < 2 ^ e
  | 0, _ => Nat.two_pow_pos e
  | m + 1, h => by
    refine Nat.or_lt_two_pow (orf_lt (fun q hq => h q (by omega))) ?_
    by_cases hb : S.testBit m = true
    · rw [if_pos hb]; exact h m (by omega)
    · rw [if_neg hb]; exact Nat.two_pow_pos e
theorem orf_bit {f : Nat → Nat} {S i : Nat} : ∀ {m : Nat}, (orf f S m).testBit i = true ↔ ∃ q, q < m ∧ S.testBit q = true ∧ (f q).testBit i = true
  | 0 => by simp [orf]
  | m + 1 => by
    rw [orf, Nat.testBit_or, Bool.or_eq_true, orf_bit]
    constructor
    · rintro (⟨q, h1, h2, h3⟩ | h)
      · exact ⟨q, by omega, h2, h3⟩
      · by_cases hb : S.testBit m = true
        · rw [if_pos hb] at h; exact ⟨m, by omega, hb, h⟩
        · rw [if_neg hb] at h; simp at h
    · rintro ⟨q, h1, h2, h3⟩
      by_cases hq : q = m
      · subst hq; right; rw [if_pos h2]; exact h3
      · left; exact ⟨q, by omega, h2, h3⟩
theorem orf_cong {f g : Nat → Nat} {S T : Nat} : ∀ {m : Nat}, (∀ q, q < m → f q = g q ∧ S.testBit q = T.testBit q) → orf f S m = orf g T m
  | 0, _ => rfl
  | m + 1, h => by rw [orf, orf, orf_cong (fun q hq => h q (by omega)), (h m (by omega)).1, (h m (by omega)).2]
theorem orf_top {f : Nat → Nat} {p m : Nat} (hp : p < 2 ^ m) : orf f (p + 2 ^ m) (m + 1) = orf f p m ||| f m := by
  have e : p + 2 ^ m = 2 ^ m + p := Nat.add_comm _ _
  rw [orf, e, if_pos (Nat.testBit_two_pow_add_eq p m ▸ by rw [Nat.testBit_lt_two_pow hp]; rfl)]
  congr 1
  exact orf_cong (fun q hq => ⟨rfl, Nat.testBit_two_pow_add_gt hq p⟩)
theorem orf_low {f : Nat → Nat} {p m : Nat} (hp : p < 2 ^ m) : orf f p (m + 1) = orf f p m := by
  rw [orf, Nat.testBit_lt_two_pow hp]; simp
theorem orf_split (f : Nat → Nat) (S : Nat) : ∀ c : Nat, orf f S (6 + c) = orf f (S % 64) 6 ||| orf (fun i => f (6 + i)) (S / 64) c
  | 0 => by
    show orf f S 6 = _ ||| 0
    rw [Nat.or_zero]
    exact orf_cong (fun q hq => ⟨rfl, by rw [show (64 : Nat) = 2 ^ 6 from rfl, Nat.testBit_mod_two_pow]; simp [hq]⟩)
  | c + 1 => by
    rw [show 6 + (c + 1) = (6 + c) + 1 by omega, orf, orf_split f S c, orf, Nat.or_assoc]
    congr 2
    rw [show (64 : Nat) = 2 ^ 6 from rfl, Nat.testBit_div_two_pow, Nat.add_comm c 6]
/-- the set to which a set goes by a letter; 0: it doesn't -/
def stp (n : Nat) (mv : Nat → Int32) (S l : Nat) : Nat := if orf (fun q => mt mv q l) S n < 4096 then orf (fun q => mt mv q l) S n else 0
theorem stp_lt {n : Nat} {mv : Nat → Int32} {S l : Nat} : stp n mv S l < 4096 := by
  unfold stp
  by_cases h : orf (fun q => mt mv q l) S n < 4096
  · rw [if_pos h]; exact h
  · rw [if_neg h]; omega
theorem stp_lt2 {n k : Nat} {mv : Nat → Int32} (hm : MV n k mv) (hn : n ≤ 12) {S l : Nat} (hl : l < k) : stp n mv S l < 2 ^ n := by
  unfold stp
  by_cases h : orf (fun q => mt mv q l) S n < 4096
  · rw [if_pos h]
    refine Nat.lt_pow_two_of_testBit _ (fun i hi => ?_)
    cases hb : (orf (fun q => mt mv q l) S n).testBit i with
    | false => rfl
    | true =>
      exfalso
      obtain ⟨q, h1, h2, h3⟩ := orf_bit.mp hb
      rcases hm q l h1 hl with e | ⟨t, ht, e⟩
      · have e2 : mt mv q l = 2 ^ 12 := mt_m e
        rw [e2, Nat.testBit_two_pow] at h3
        have hi12 : i = 12 := by simpa [eq_comm] using h3
        rw [hi12] at hb
        have := Nat.ge_two_pow_of_testBit hb
        omega
      · rw [mt_t (by omega) e, Nat.testBit_two_pow] at h3
        have : t = i := by simpa using h3
        omega
  · rw [if_neg h]; exact Nat.two_pow_pos n
/-- the half tables hold what the moves say -/
def TB (n k : Nat) (mv low high : Nat → Int32) : Prop := ∀ l, l < k → (∀ p, p < 2 ^ min 6 n → low (l * 64 + p) = nI (orf (fun q => mt mv q l) p (min 6 n))) ∧ ∀ p, p < 2 ^ (n - 6) → high (l * 64 + p) = nI (orf (fun q => mt mv (6 + q) l) p (n - 6))
def TZ (low high : Nat → Int32) : Prop := ∀ l, l < 4 → low (l * 64) = nI 0 ∧ high (l * 64) = nI 0
theorem fill_in {n k : Nat} {tb : Nat → Int32} {row i m x5 : Nat} {R : Int32 → (Nat → Int32) → Prop} (hr : row + 64 ≤ 256) (hi : i < 6) (hx : x5 < 2 ^ 30)
    (h : R (nI (x5 + 1)) (fun j => if row + 2 ^ i ≤ j ∧ j < row + 2 ^ i + 2 ^ i then tb (j - 2 ^ i) ||| nI m else tb j)) : ∃ f, L_X8_fill_65 256 (nI row) (nI x5) (nI m) (nI (2 ^ i)) R f (nI 0) tb := by
  have h32 : 2 ^ i ≤ 2 ^ 5 := Nat.pow_le_pow_right (by decide) (by omega)
  have hpos : 0 < 2 ^ i := Nat.two_pow_pos i
  generalize 2 ^ i = w at h h32 hpos ⊢
  refine pk_loop (fun f p s => L_X8_fill_65 256 (nI row) (nI x5) (nI m) (nI w) R f (nI p) s) (fun p s => s = fun j => if row + w ≤ j ∧ j < row + w + p then tb (j - w) ||| nI m else tb j) w 0 tb (Nat.zero_le _) (by funext j; rw [if_neg (by omega)]) ?_ ?_
  · rintro f s rfl
    show L_X8_fill_65 256 (nI row) (nI x5) (nI m) (nI w) R (f + 1) (nI w) _
    unfold L_X8_fill_65
    refine b_T (nI_le (Nat.le_refl _) (by omega)) ?_
    unfold J_X8_fill_114
    rw [nI_add]
    exact h
  · rintro f p s hp rfl ih
    show L_X8_fill_65 256 (nI row) (nI x5) (nI m) (nI w) R (f + 1) (nI p) _
    unfold L_X8_fill_65
    rw [nI_add, nI_add]
    refine b_F (nI_ge hp (by omega)) (b_F (nI_nlt0 (by omega)) (b_F (nI_ge (by omega) (by omega)) ⟨vin (by omega) (by omega), vin (by omega) (by omega), ?_⟩))
    unfold J_X8_fill_108
    rw [nI_clamp (by omega), nI_clamp (by omega), nI_add]
    refine ih _ ?_
    funext j
    by_cases h1 : j = row + p + w
    · subst h1
      rw [pk_us, if_pos (by omega), show row + p + w - w = row + p by omega]
      show (if row + w ≤ row + p ∧ row + p < row + w + p then _ else tb (row + p)) ||| nI m = _
      rw [if_neg (by omega)]
    · rw [pk_un h1]
      by_cases h2 : row + w ≤ j ∧ j < row + w + p
      · rw [if_pos h2, if_pos (by omega)]
      · rw [if_neg h2, if_neg (by omega)]
theorem sp_fill8 {n k l first : Nat} {mv tb : Nat → Int32} {Q : (Nat → Int32) → Prop} (hn : n ≤ 12) (hk : k ≤ 4) (hm : MV n k mv) (hl : l < k) (hf : first = 0 ∨ first = 6) (h0 : tb (l * 64) = nI 0)
    (h : ∀ tb', (∀ p, p < 2 ^ min 6 (n - first) → tb' (l * 64 + p) = nI (orf (fun q => mt mv (first + q) l) p (min 6 (n - first)))) → (∀ j, (j < l * 64 ∨ l * 64 + 64 ≤ j) → tb' j = tb j) → Q tb') : wp_X8_fill 256 tb (nI n) (nI k) mv (nI l) (nI first) Q := by
  unfold wp_X8_fill
  rw [pk_mul]
  refine pk_loop (fun f i s => L_X8_fill_9 256 (nI n) (nI k) mv (nI l) (nI first) (nI (l * 64)) Q f (nI i) s) (fun i s => (∀ p, p < 2 ^ i → s (l * 64 + p) = nI (orf (fun q => mt mv (first + q) l) p i)) ∧ ∀ j, (j < l * 64 ∨ l * 64 + 64 ≤ j) → s j = tb j) (min 6 (n - first)) 0 tb (Nat.zero_le _) ⟨fun p hp => by
    have : p = 0 := by simpa using hp
    subst this; exact h0, fun j _ => rfl⟩ ?_ ?_
  · rintro f s ⟨s1, s2⟩
    show L_X8_fill_9 256 (nI n) (nI k) mv (nI l) (nI first) (nI (l * 64)) Q (f + 1) (nI (min 6 (n - first))) s
    unfold L_X8_fill_9
    by_cases c : 6 ≤ n - first
    · exact b_T (nI_le (by omega) (by omega)) (h s s1 s2)
    · refine b_F (nI_ge (by omega) (by omega)) ?_
      rw [nI_add]
      exact sp_hasState0 hn (by omega) (by omega) (b_T rfl (h s s1 s2))
  · rintro f i s hi ⟨s1, s2⟩ ih
    show L_X8_fill_9 256 (nI n) (nI k) mv (nI l) (nI first) (nI (l * 64)) Q (f + 1) (nI i) s
    unfold L_X8_fill_9
    refine b_F (nI_ge (by omega) (by omega)) ?_
    rw [nI_add]
    refine sp_hasState1 hn (by omega) (b_F ne10 (sp_target hn hk (by omega) hl ?_))
    have key : ∃ fz, L_X8_fill_65 256 (nI (l * 64)) (nI i) (nI (mt mv (first + i) l)) (nI (2 ^ i)) (L_X8_fill_9 256 (nI n) (nI k) mv (nI l) (nI first) (nI (l * 64)) Q f) fz (nI 0) s := by
      have hw : 2 ^ i ≤ 2 ^ 5 := Nat.pow_le_pow_right (by decide) (by omega)
      refine fill_in (n := n) (k := k) (by omega) (by omega) (by omega) (ih _ ⟨fun p hp => ?_, fun j hj => ?_⟩)
      · rw [Nat.pow_succ] at hp
        by_cases c : p < 2 ^ i
        · rw [if_neg (by omega), s1 p c, orf_low c]
        · have e : p = (p - 2 ^ i) + 2 ^ i := by omega
          rw [if_pos (by omega), show l * 64 + p - 2 ^ i = l * 64 + (p - 2 ^ i) by omega, s1 _ (by omega), nI_or, e, orf_top (by omega), ← e]
      · rw [if_neg (by omega)]
        exact s2 j hj
    rcases hm (first + i) l (by omega) hl with e | ⟨t, ht, e⟩
    · rw [e]
      refine b_nF rfl ?_
      unfold J_X8_fill_54
      rw [nI_shl1 (by omega)]
      rw [mt_m e] at key
      exact key
    · rw [e]
      refine b_nT (nI_m1 (by omega)) ?_
      unfold J_X8_fill_54
      rw [nI_shl1 (by omega), nI_shl1 (by omega)]
      rw [mt_t (by omega) e] at key
      exact key
theorem sp_load {n k : Nat} {mv low high : Nat → Int32} {c : Int32} {Q : Int32 → (Nat → Int32) → (Nat → Int32) → Prop} (hn : n ≤ 12) (hk : k ≤ 4) (hm : MV n k mv) (hz : TZ low high)
    (h : ∀ low' high', TB n k mv low' high' → TZ low' high' → Q (nI k) low' high') : wp_X8_load c low high (nI n) (nI k) mv Q := by
  unfold wp_X8_load
  refine pk_loop (fun f i (s : (Nat → Int32) × (Nat → Int32)) => L_X8_load_10 (nI k) (nI n) (nI k) mv Q f (nI i) s.1 s.2) (fun i s => TB n i mv s.1 s.2 ∧ TZ s.1 s.2) k 0 (low, high) (Nat.zero_le _) ⟨fun l hl => absurd hl (by omega), hz⟩ ?_ ?_
  · rintro f ⟨s1, s2⟩ ⟨h1, h2⟩
    show L_X8_load_10 (nI k) (nI n) (nI k) mv Q (f + 1) (nI k) s1 s2
    unfold L_X8_load_10
    exact b_T (nI_le (Nat.le_refl _) (by omega)) (h s1 s2 h1 h2)
  · rintro f i ⟨s1, s2⟩ hi ⟨h1, h2⟩ ih
    show L_X8_load_10 (nI k) (nI n) (nI k) mv Q (f + 1) (nI i) s1 s2
    unfold L_X8_load_10
    refine b_F (nI_ge hi (by omega)) ?_
    refine sp_fill8 hn hk hm hi (Or.inl rfl) (h2 i (by omega)).1 (fun t1 a1 a2 => ?_)
    refine sp_fill8 hn hk hm hi (Or.inr rfl) (h2 i (by omega)).2 (fun t2 b1 b2 => ?_)
    rw [nI_add]
    refine ih (t1, t2) ⟨fun l hl => ?_, fun l hl => ?_⟩
    · by_cases e : l = i
      · subst e
        refine ⟨fun p hp => ?_, fun p hp => ?_⟩
        · have := a1 p (by rw [Nat.sub_zero]; exact hp)
          rw [Nat.sub_zero] at this
          refine (show (t1, t2).1 (l * 64 + p) = t1 (l * 64 + p) from rfl).trans (this.trans ?_)
          congr 1
          exact orf_cong (fun q _ => ⟨by rw [Nat.zero_add], rfl⟩)
        · have e6 : min 6 (n - 6) = n - 6 := by omega
          rw [e6] at b1
          exact b1 p hp
      · have p6 : 2 ^ min 6 n ≤ 2 ^ 6 := Nat.pow_le_pow_right (by decide) (by omega)
        have p7 : 2 ^ (n - 6) ≤ 2 ^ 6 := Nat.pow_le_pow_right (by decide) (by omega)
        refine ⟨fun p hp => ?_, fun p hp => ?_⟩
        · rw [show (t1, t2).1 (l * 64 + p) = s1 (l * 64 + p) from a2 _ (by omega)]
          exact (h1 l (by omega)).1 p hp
        · rw [show (t1, t2).2 (l * 64 + p) = s2 (l * 64 + p) from b2 _ (by omega)]
          exact (h1 l (by omega)).2 p hp
    · by_cases e : l = i
      · subst e
        have z1 := a1 0 (Nat.two_pow_pos _)
        have z2 := b1 0 (Nat.two_pow_pos _)
        rw [Nat.add_zero] at z1 z2
        have oz : ∀ (f : Nat → Nat) (m : Nat), orf f 0 m = 0 := fun f m => by
          induction m with
          | zero => rfl
          | succ m ihm => rw [orf, ihm]; simp
        rw [oz] at z1 z2
        exact ⟨z1, z2⟩
      · exact ⟨(a2 _ (by omega)).trans (h2 l hl).1, (b2 _ (by omega)).trans (h2 l hl).2⟩
theorem sp_after {n k S l : Nat} {mv low high : Nat → Int32} {c : Int32} {Q : Int32 → Prop} (hn : n ≤ 12) (hk : k ≤ 4) (hm : MV n k mv) (ht : TB n k mv low high) (hS : 0 < S) (hS2 : S < 2 ^ n) (hl : l < k) (h : Q (nI (stp n mv S l))) : wp_X8_after c low high (nI S) (nI l) Q := by
  have h12 : 2 ^ n ≤ 2 ^ 12 := Nat.pow_le_pow_right (by decide) hn
  unfold wp_X8_after
  refine b_F (nI_ge hS (by omega)) (b_F (nI_ge (by omega) (by omega)) (b_F (nI_nlt0 (by omega)) (b_T (nI_lt (by omega) (by omega)) ?_)))
  have e1 : nI S &&& nI 63 = nI (S % 64) := by rw [nI_and, show (63 : Nat) = 2 ^ 6 - 1 from rfl, Nat.and_two_pow_sub_one_eq_mod]
  have e2 : nI S >>> (nI 6 &&& 31) = nI (S / 64) := nI_shr (by omega) (by decide)
  rw [e1, e2, pk_mul, nI_add, nI_add, nI_clamp (by omega), nI_clamp (by omega)]
  refine ⟨vin (by omega) (by omega), vin (by omega) (by omega), ?_⟩
  have hlo : S % 64 < 2 ^ min 6 n := by
    by_cases c6 : n ≤ 6
    · rw [Nat.min_eq_right c6]; exact Nat.lt_of_le_of_lt (Nat.mod_le _ _) hS2
    · rw [Nat.min_eq_left (by omega)]; exact Nat.mod_lt _ (by decide)
  have hhi : S / 64 < 2 ^ (n - 6) := by
    by_cases c6 : n ≤ 6
    · rw [show n - 6 = 0 by omega]
      have : 2 ^ n ≤ 2 ^ 6 := Nat.pow_le_pow_right (by decide) c6
      exact Nat.div_lt_of_lt_mul (by omega)
    · apply Nat.div_lt_of_lt_mul
      rw [show (64 : Nat) = 2 ^ 6 from rfl, ← Nat.pow_add, show 6 + (n - 6) = n by omega]
      exact hS2
  rw [(ht l hl).1 _ hlo, (ht l hl).2 _ hhi, nI_or]
  have e3 : orf (fun q => mt mv q l) (S % 64) (min 6 n) ||| orf (fun q => mt mv (6 + q) l) (S / 64) (n - 6) = orf (fun q => mt mv q l) S n := by
    by_cases c6 : n ≤ 6
    · rw [Nat.min_eq_right c6, show n - 6 = 0 by omega]
      show _ ||| 0 = _
      rw [Nat.or_zero]
      exact orf_cong (fun q hq => ⟨rfl, by rw [show (64 : Nat) = 2 ^ 6 from rfl, Nat.testBit_mod_two_pow]; simp [show q < 6 by omega]⟩)
    · rw [Nat.min_eq_left (by omega)]
      have := orf_split (fun q => mt mv q l) S (n - 6)
      rw [show 6 + (n - 6) = n by omega] at this
      exact this.symm
  rw [e3]
  have hb : orf (fun q => mt mv q l) S n < 8192 := orf_lt (e := 13) (fun q hq => mt_lt hm hn hq hl)
  unfold stp at h
  refine b_lt (by omega) (by omega) (fun c => ?_) (fun c => ?_)
  · rw [if_pos c] at h; exact h
  · rw [if_neg c] at h; exact h
