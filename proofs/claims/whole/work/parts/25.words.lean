/-! the word by which a search came to a set -/
def itp (pf : Nat → Nat) : Nat → Nat → Nat
  | 0, T => T
  | m + 1, T => itp pf m (pf T)
theorem itp_s (pf : Nat → Nat) : ∀ (m T : Nat), itp pf (m + 1) T = pf (itp pf m T)
  | 0, _ => rfl
  | m + 1, T => itp_s pf m (pf T)
/-- from T back to the start are n letters -/
def CH (b : BS) (T n : Nat) : Prop := (∀ j, j ≤ n → ∃ i, i < b.2.1 ∧ b.1 i = itp b.2.2.1 j T) ∧ itp b.2.2.1 (n + 1) T = 0
theorem CH.ex {b : BS} (hb : BOK b) : ∀ (N i : Nat), i < N → i < b.2.1 → ∃ n, n ≤ i ∧ CH b (b.1 i) n
  | 0, i, h, _ => absurd h (by omega)
  | N + 1, i, h, hi => by
    rcases Nat.eq_zero_or_pos i with e | e
    · subst e
      refine ⟨0, Nat.le_refl _, fun j hj => ?_, ?_⟩
      · have : j = 0 := by omega
        subst this
        exact ⟨0, hi, rfl⟩
      · exact hb.2.2.2.2
    · obtain ⟨j, hj, e2⟩ := hb.2.2.1 i e hi
      obtain ⟨n, hn, g1, g2⟩ := CH.ex hb N j (by omega) (by omega)
      refine ⟨n + 1, by omega, fun c hc => ?_, ?_⟩
      · rcases Nat.eq_zero_or_pos c with z | z
        · subst z; exact ⟨i, hi, rfl⟩
        · obtain ⟨d, rfl⟩ : ∃ d, c = d + 1 := ⟨c - 1, by omega⟩
          show ∃ i_1, _ ∧ _ = itp _ d (b.2.2.1 (b.1 i))
          rw [← e2]
          exact g1 d (by omega)
      · show itp _ (n + 1) (b.2.2.1 (b.1 i)) = 0
        rw [← e2]
        exact g2
/-- letter i of it -/
def wdl (b : BS) (T n : Nat) : Nat → Nat := fun i => b.2.2.2 (itp b.2.2.1 (n - 1 - i) T)
theorem am1 (x : Int32) : x + (-1) = x - nI 1 := by
  show x + (-1) = x - 1
  rw [Int32.sub_eq_add_neg]
theorem X_s {n m : Nat} (hm : m < n) : nI (n - m) - nI 1 = nI (n - 1 - m) := by
  rw [pk_sub (by omega), show n - m - 1 = n - 1 - m by omega]
theorem X_n {n m : Nat} (hm : m < n) : nI (n - 1 - m) + (-1) = nI (n - (m + 1)) - nI 1 := by
  rw [am1, show n - 1 - m = n - (m + 1) by omega]
theorem sp_before {b : BS} {size : Int32} {from_ queue : Nat → Int32} {T i : Nat} {Q : Int32 → Prop} (hb : BOK b) (h : RC b size from_ queue) (hi : i < b.2.1) (e : b.1 i = T) (hq : Q (nI (b.2.2.1 T))) : wp_X9_before from_ (nI T) Q := by
  have hT := hb.1 i hi
  rw [e] at hT
  have hin : inb b T = true := inb_iff.mpr ⟨i, hi, e⟩
  unfold wp_X9_before
  refine sp_knows (size := size) (queue := queue) hb h hT.1 hT.2.1 ?_
  rw [if_pos hin]
  refine b_F ne10 ⟨vin hT.2.1 (by omega), ?_⟩
  rw [nI_clamp (by omega), h.2.2 T hT.1 hT.2.1, if_pos hin, pk_div (by omega) (by omega) (by omega)]
  rw [show (b.2.2.1 T * 4 + b.2.2.2 T) / 4 = b.2.2.1 T by omega]
  exact hq
theorem sp_lengthTo {b : BS} {size : Int32} {from_ queue : Nat → Int32} {T n : Nat} {Q : Int32 → Prop} (hb : BOK b) (h : RC b size from_ queue) (hc : CH b T n) (hn : n < 4096) (hq : Q (nI n)) : wp_X9_lengthTo from_ (nI T) Q := by
  unfold wp_X9_lengthTo
  obtain ⟨i, hi, e⟩ := hc.1 0 (Nat.zero_le _)
  refine sp_before hb h hi e ?_
  refine pk_loop (fun f j (_ : Unit) => L_X9_lengthTo_11 from_ Q f (nI j) (nI (itp b.2.2.1 (j + 1) T)) (nI j)) (fun _ _ => True) n 0 () (Nat.zero_le _) trivial ?_ ?_
  · rintro f _ _
    show L_X9_lengthTo_11 from_ Q (f + 1) (nI n) (nI (itp b.2.2.1 (n + 1) T)) (nI n)
    unfold L_X9_lengthTo_11
    rw [hc.2]
    exact b_F (nI_ge hn (by omega)) (b_T rfl hq)
  · rintro f j _ hj _ ih
    show L_X9_lengthTo_11 from_ Q (f + 1) (nI j) (nI (itp b.2.2.1 (j + 1) T)) (nI j)
    unfold L_X9_lengthTo_11
    obtain ⟨i2, hi2, e2⟩ := hc.1 (j + 1) (by omega)
    have h2 := hb.1 i2 hi2
    rw [e2] at h2
    refine b_F (nI_ge (by omega) (by omega)) (b_F (fun q => by have := (nI_eq (by omega) (by omega)).mp q; omega) ?_)
    refine sp_before hb h hi2 e2 ?_
    rw [← itp_s b.2.2.1 (j + 1) T, nI_1']
    exact ih () trivial
theorem sp_resize {n : Nat} {c : Int32} {Q : Int32 → Prop} (hn : n ≤ 600) (h : Q (nI n)) : wp_X10_resize c (nI n) Q := by
  unfold wp_X10_resize
  refine b_T (nI_le (by omega) (by omega)) ?_
  unfold J_X10_resize_16
  rw [if_neg (fun q => by have := (nI_ltI (by omega) (by omega)).mp q; omega)]
  exact h
theorem sp_put {L i : Nat} {row : Nat → Int32} {v : Int32} {Q : (Nat → Int32) → Prop} (hi : i < L) (hL : L ≤ 600) (h : Q (upd row i v)) : wp_X10_put (nI L) row (nI i) v Q := by
  unfold wp_X10_put
  refine b_F (nI_nlt0 (by omega)) (b_F (nI_ge hi (by omega)) (b_F (nI_ge (by omega) (by omega)) ⟨vin (by omega) (by omega), ?_⟩))
  rw [nI_clamp (by omega)]
  exact h
theorem sp_at {L i : Nat} {row : Nat → Int32} {Q : Int32 → Prop} (hi : i < L) (hL : L ≤ 600) (h : Q (row i)) : wp_X10_at (nI L) row (nI i) Q := by
  unfold wp_X10_at
  refine b_F (nI_nlt0 (by omega)) (b_F (nI_ge hi (by omega)) (b_F (nI_ge (by omega) (by omega)) ⟨vin (by omega) (by omega), ?_⟩))
  rw [nI_clamp (by omega)]
  exact h
theorem sp_giveWord {b : BS} {size c : Int32} {from_ queue row : Nat → Int32} {T n : Nat} {Q : Int32 → (Nat → Int32) → Prop} (hb : BOK b) (h : RC b size from_ queue) (hc : CH b T n) (hn : n ≤ 600) (hq : ∀ row', (∀ i, i < n → row' i = nI (wdl b T n i)) → Q (nI n) row') : wp_X9_giveWord from_ c row (nI T) (nI n) Q := by
  unfold wp_X9_giveWord
  refine sp_resize hn ?_
  refine pk_loop (fun f m (s : Nat → Int32) => L_X9_giveWord_13 from_ (nI n) Q f (nI (itp b.2.2.1 m T)) (nI (n - m) - nI 1) s) (fun m s => ∀ i, n - m ≤ i → i < n → s i = nI (wdl b T n i)) n 0 row (Nat.zero_le _) (fun i h1 h2 => absurd h2 (by omega)) ?_ ?_
  · rintro f s hs
    show L_X9_giveWord_13 from_ (nI n) Q (f + 1) (nI (itp b.2.2.1 n T)) (nI (n - n) - nI 1) s
    unfold L_X9_giveWord_13
    rw [Nat.sub_self, nI_0m1]
    exact b_T (m1_lt (by omega)) (hq s (fun i hi => hs i (by omega) hi))
  · rintro f m s hm hs ih
    show L_X9_giveWord_13 from_ (nI n) Q (f + 1) (nI (itp b.2.2.1 m T)) (nI (n - m) - nI 1) s
    unfold L_X9_giveWord_13
    rw [X_s hm]
    obtain ⟨i2, hi2, e2⟩ := hc.1 m (by omega)
    have h2 := hb.1 i2 hi2
    rw [e2] at h2
    have hin : inb b (itp b.2.2.1 m T) = true := inb_iff.mpr ⟨i2, hi2, e2⟩
    refine b_F (nI_nlt0 (by omega)) ?_
    refine sp_knows (size := size) (queue := queue) hb h h2.1 h2.2.1 ?_
    rw [if_pos hin]
    refine b_F ne10 ⟨vin h2.2.1 (by omega), ?_⟩
    rw [nI_clamp (by omega), h.2.2 _ h2.1 h2.2.1, if_pos hin, pk_rem (by omega) (by omega) (by omega)]
    refine sp_put (by omega) hn ?_
    refine sp_before hb h hi2 e2 ?_
    rw [← itp_s b.2.2.1 m T, X_n hm]
    refine ih _ (fun i h3 h4 => ?_)
    by_cases c : i = n - 1 - m
    · subst c
      rw [pk_us]
      unfold wdl
      rw [show n - 1 - (n - 1 - m) = m by omega, show (itp b.2.2.1 (m + 1) T * 4 + b.2.2.2 (itp b.2.2.1 m T)) % 4 = b.2.2.2 (itp b.2.2.1 m T) by omega]
    · rw [pk_un c]
      exact hs i (by omega) h4
theorem sp_tell {b : BS} {size m wl : Int32} {from_ queue row : Nat → Int32} {T n : Nat} {Q : Int32 → Int32 → (Nat → Int32) → Prop} (hb : BOK b) (h : RC b size from_ queue) (hc : CH b T n) (hn : n < 4096) (h1 : n ≤ 600 → ∀ row', (∀ i, i < n → row' i = nI (wdl b T n i)) → Q (nI n) (nI n) row') (h2 : 600 < n → Q (nI n) wl row) : wp_X11_tellWordTo m wl row from_ (nI T) Q := by
  obtain ⟨i, hi, e⟩ := hc.1 0 (Nat.zero_le _)
  have hT := hb.1 i hi
  rw [e] at hT
  have hT : 0 < T ∧ T < 4096 := ⟨hT.1, hT.2.1⟩
  unfold wp_X11_tellWordTo
  refine b_nT (fun q => by have := (nI_eq (by omega) (by omega)).mp q; omega) ?_
  refine sp_lengthTo hb h hc hn ?_
  refine b_lt (by omega) (by omega) (fun c => h2 c) (fun c => ?_)
  exact sp_giveWord hb h hc (by omega) (h1 (by omega))
/-- the reference's -/
theorem sp_longTo {b : BS} {a1 a2 a3 a4 size : Int32} {queue from_ by_ known : Nat → Int32} {T n : Nat} {Q : Int32 → Prop} (hb : BOK b) (h : RR b size queue from_ by_ known) (hc : CH b T n) (hn : n < 4096) (hq : Q (nI n)) : wp_X12_longTo a1 a2 a3 a4 from_ (nI T) Q := by
  obtain ⟨i, hi, e⟩ := hc.1 0 (Nat.zero_le _)
  have hT := hb.1 i hi
  rw [e] at hT
  have hT : 0 < T ∧ T < 4096 := ⟨hT.1, hT.2.1⟩
  have e : b.1 i = T := e
  unfold wp_X12_longTo
  refine ⟨vin hT.2 (by omega), ?_⟩
  have hf := h.2.2.2.1 i hi
  rw [e] at hf
  rw [nI_clamp (by omega), hf]
  refine pk_loop (fun f j (_ : Unit) => L_X12_longTo_9 from_ Q f (nI j) (nI (itp b.2.2.1 (j + 1) T))) (fun _ _ => True) n 0 () (Nat.zero_le _) trivial ?_ ?_
  · rintro f _ _
    show L_X12_longTo_9 from_ Q (f + 1) (nI n) (nI (itp b.2.2.1 (n + 1) T))
    unfold L_X12_longTo_9
    rw [hc.2]
    exact b_T (nI_le (Nat.le_refl _) (by omega)) hq
  · rintro f j _ hj _ ih
    show L_X12_longTo_9 from_ Q (f + 1) (nI j) (nI (itp b.2.2.1 (j + 1) T))
    unfold L_X12_longTo_9
    obtain ⟨i2, hi2, e2⟩ := hc.1 (j + 1) (by omega)
    have h2 := hb.1 i2 hi2
    rw [e2] at h2
    have hf2 := h.2.2.2.1 i2 hi2
    rw [e2] at hf2
    refine b_F (nI_ge h2.1 (by omega)) ⟨vin h2.2.1 (by omega), ?_⟩
    rw [nI_clamp (by omega), hf2, ← itp_s b.2.2.1 (j + 1) T, nI_1']
    exact ih () trivial
theorem CH.by {b : BS} {size : Int32} {queue from_ by_ known : Nat → Int32} {T n m : Nat} (hb : BOK b) (h : RR b size queue from_ by_ known) (hc : CH b T n) (hm : m < n) : 0 < itp b.2.2.1 m T ∧ itp b.2.2.1 m T < 4096 ∧ from_ (itp b.2.2.1 m T) = nI (itp b.2.2.1 (m + 1) T) ∧ by_ (itp b.2.2.1 m T) = nI (b.2.2.2 (itp b.2.2.1 m T)) := by
  obtain ⟨i2, hi2, e2⟩ := hc.1 m (by omega)
  obtain ⟨i3, hi3, e3⟩ := hc.1 (m + 1) (by omega)
  have h3 := hb.1 i3 hi3
  have h2 := hb.1 i2 hi2
  have hf2 := h.2.2.2.1 i2 hi2
  have hi0 : 0 < i2 := by
    rcases Nat.eq_zero_or_pos i2 with z | z
    · subst z
      have := hb.2.2.2.2
      rw [e2, ← itp_s b.2.2.1 m T, ← e3] at this
      omega
    · exact z
  have hb2 := h.2.2.2.2 i2 hi0 hi2
  rw [e2] at h2 hf2 hb2
  exact ⟨h2.1, h2.2.1, by rw [itp_s]; exact hf2, hb2⟩
theorem sp_becomes {b : BS} {a1 a2 a3 wl size : Int32} {queue from_ by_ known word : Nat → Int32} {T n : Nat} {Q : Int32 → Int32 → (Nat → Int32) → Prop} (hb : BOK b) (h : RR b size queue from_ by_ known) (hc : CH b T n) (hn : n < 4096) (h1 : n ≤ 600 → ∀ w', (∀ i, i < n → w' i = nI (wdl b T n i)) → Q (nI n) (nI n) w') (h2 : 600 < n → Q (nI n) wl word) : wp_X12_becomesWord a1 wl a2 a3 word from_ by_ (nI T) Q := by
  unfold wp_X12_becomesWord
  refine sp_longTo hb h hc hn ?_
  refine b_lt (by omega) (by omega) (fun c => h2 c) (fun c => ?_)
  refine pk_loop (fun f m (s : Nat → Int32) => L_X12_becomesWord_25 (nI n) from_ by_ (nI n) Q f (nI (itp b.2.2.1 m T)) (nI (n - m) - nI 1) s) (fun m s => ∀ i, n - m ≤ i → i < n → s i = nI (wdl b T n i)) n 0 word (Nat.zero_le _) (fun i h1 h2 => absurd h2 (by omega)) ?_ ?_
  · rintro f s hs
    show L_X12_becomesWord_25 (nI n) from_ by_ (nI n) Q (f + 1) (nI (itp b.2.2.1 n T)) (nI (n - n) - nI 1) s
    unfold L_X12_becomesWord_25
    rw [Nat.sub_self, nI_0m1]
    exact b_T (m1_lt (by omega)) (h1 (by omega) s (fun i hi => hs i (by omega) hi))
  · rintro f m s hm hs ih
    show L_X12_becomesWord_25 (nI n) from_ by_ (nI n) Q (f + 1) (nI (itp b.2.2.1 m T)) (nI (n - m) - nI 1) s
    unfold L_X12_becomesWord_25
    obtain ⟨g1, g2, g3, g4⟩ := CH.by hb h hc hm
    rw [X_s hm, nI_clamp (by omega), nI_clamp (by omega), g3, g4, X_n hm]
    refine b_F (nI_nlt0 (by omega)) ⟨vin g2 (by omega), vin (by omega) (by omega), vin g2 (by omega), ih _ (fun i h3 h4 => ?_)⟩
    by_cases c : i = n - 1 - m
    · subst c
      rw [pk_us]
      unfold wdl
      rw [show n - 1 - (n - 1 - m) = m by omega]
    · rw [pk_un c]
      exact hs i (by omega) h4
