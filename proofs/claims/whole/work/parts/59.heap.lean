/-! the class's heap and the reference's, over like keys -/
def HC (m : Nat) (K : Nat → Prop) (keys : Nat → Int32) : Prop := ∃ A, HP A m K ∧ ∀ i, i < m → A i < 2 ^ 31 ∧ keys i = nI (A i)
def HR (m : Nat) (K : Nat → Prop) (hs ht : Nat → Int32) : Prop := ∃ A, HP A m K ∧ ∀ i, i < m → A i < 2 ^ 31 ∧ hs i = nI (A i / 4096) ∧ ht i = nI (A i % 4096)
section HEC
variable {m x : Nat} {K : Nat → Prop} {keys : Nat → Int32}
theorem sp_addKey {Q : Int32 → (Nat → Int32) → Prop} (hm : m < 16385) (hx : x < 2 ^ 31) (h : HC m K keys) (hno : ¬ K x) (hQ : ∀ keys', HC (m + 1) (fun y => K y ∨ y = x) keys' → Q (nI (m + 1)) keys') : wp_X6_addKey (nI m) keys (nI x) Q := by
  obtain ⟨A, ⟨h1, h2, h3⟩, h4⟩ := h
  have hno' : ¬ CT A m x := fun z => hno ((h3 x).mpr z)
  unfold wp_X6_addKey
  rw [nI_1']
  refine b_F (nI_nlt0 (by omega)) (b_T (nI_lt hm (by omega)) ?_)
  refine loop_m (fun f (s : Nat × Nat × (Nat → Int32)) => L_X6_addKey_35 (nI (m + 1)) (nI x) Q f (nI s.1) (nI s.2.1) s.2.2) (fun s => ∃ B, s.1 + s.2.1 ≤ m ∧ SU B (m + 1) s.1 ∧ IJ B (m + 1) ∧ (∀ y, CT B (m + 1) y ↔ CT A m y ∨ y = x) ∧ B s.1 = x ∧ (∀ i, i < m + 1 → B i < 2 ^ 31) ∧ ∀ i, i < m + 1 → i ≠ s.1 → s.2.2 i = nI (B i)) (fun s => s.1) ?_ (m, 0, keys) ⟨psh A m x, by show m + 0 ≤ m; omega, psh_su h1, psh_ij h2 hno', fun y => psh_ct, psh_m, fun i hi => ?_, fun i hi hn => by
    have hn' : i ≠ m := hn
    show keys i = nI (psh A m x i)
    rw [psh_n hn']; exact (h4 i (by omega)).2⟩
  · rintro f ⟨p, t, ks⟩ ⟨B, b1, b2, b3, b4, b5, b6, b7⟩ ih
    have b1' : p + t ≤ m := b1
    have b2' : SU B (m + 1) p := b2
    have b5' : B p = x := b5
    have b7' : ∀ i, i < m + 1 → i ≠ p → ks i = nI (B i) := b7
    show L_X6_addKey_35 (nI (m + 1)) (nI x) Q (f + 1) (nI p) (nI t) ks
    have fin : HO B (m + 1) → vp_in (nI p) 16385 ∧ Q (nI (m + 1)) (upd ks (Int32.toNatClampNeg (nI p)) (nI x)) := fun ho => by
      rw [nI_clamp (by omega)]
      refine ⟨vin (by omega) (by omega), hQ _ ⟨B, ⟨ho, b3, fun y => (or_congr (h3 y) Iff.rfl).trans (b4 y).symm⟩, fun i hi => ⟨b6 i hi, ?_⟩⟩⟩
      by_cases c : i = p
      · subst c; rw [pk_us, b5']
      · rw [pk_un c]; exact b7' i hi c
    unfold L_X6_addKey_35 J_X6_addKey_64 J_X6_addKey_89
    refine b_F (nI_ge (by omega) (by omega)) (b_le (by omega) (by omega) (fun c => fin (b2'.stop (Or.inl (by omega)))) (fun c => ?_))
    rw [nI_1', pk_sub (by omega), pk_div (by omega) (by omega) (by omega), nI_clamp (n := (p - 1) / 2) (by omega), nI_clamp (n := p) (by omega), b7' ((p - 1) / 2) (by omega) (by omega)]
    have hb := b6 ((p - 1) / 2) (by omega)
    refine ⟨vin (by omega) (by omega), b_lt hx hb (fun d => ⟨vin (by omega) (by omega), vin (by omega) (by omega), ?_⟩) (fun d => ?_)⟩
    · refine ih ((p - 1) / 2, t + 1, _) ⟨swp B p ((p - 1) / 2), by show (p - 1) / 2 + (t + 1) ≤ m; omega, b2'.step (by omega) (by omega) (by omega), swp_ij (by omega) (by omega) b3, fun y => by rw [swp_ct (by omega) (by omega)]; exact b4 y, by show swp B p ((p - 1) / 2) ((p - 1) / 2) = x; rw [swp_r]; exact b5', fun i hi => b6 _ (sg_lt (by omega) (by omega) hi), fun i hi hn => ?_⟩ (by show (p - 1) / 2 < p; omega)
      have hn' : i ≠ (p - 1) / 2 := hn
      show upd ks p _ i = _
      by_cases c : i = p
      · subst c; rw [pk_us, swp_l]
      · rw [pk_un c, swp_n c hn']; exact b7' i hi c
    · have := fin (b2'.stop (Or.inr (by omega)))
      rw [nI_clamp (n := p) (by omega)] at this
      exact this
  · by_cases c : i = m
    · subst c; rw [psh_m]; exact hx
    · rw [psh_n c]; exact (h4 i (by omega)).1
theorem sp_takeKey {Q : Int32 → Int32 → (Nat → Int32) → Prop} (hm : m < 16385) (h : HC (m + 1) K keys) (hQ : ∀ x keys', K x → (∀ y, K y → x ≤ y) → x < 2 ^ 31 → HC m (fun y => K y ∧ y ≠ x) keys' → Q (nI x) (nI m) keys') : wp_X6_takeKey (nI (m + 1)) keys Q := by
  obtain ⟨A, ⟨h1, h2, h3⟩, h4⟩ := h
  unfold wp_X6_takeKey
  rw [pk_sub (by omega), show m + 1 - 1 = m by omega, nI_clamp (by omega), nI_clamp (by omega), (h4 m (by omega)).2, (h4 0 (by omega)).2]
  refine b_F (nI_ge (by omega) (by omega)) (b_T (nI_le (by omega) (by omega)) ⟨vin (by omega) (by omega), vin (by omega) (by omega), ?_⟩)
  have hmin : ∀ y, K y → A 0 ≤ y := fun y hy => by
    obtain ⟨i, hi, e⟩ := (h3 y).mp hy
    rw [← e]
    exact h1.min (i + 1) i (Nat.lt_succ_self i) hi
  have hQ' := fun keys' => hQ (A 0) keys' ((h3 _).mpr ⟨0, by omega, rfl⟩) hmin (h4 0 (by omega)).1
  unfold wp_X6_sink
  have hxm := (h4 m (by omega)).1
  refine loop_m (fun f (s : Nat × (Nat → Int32)) => L_X6_sink_4 (nI m) (nI (A m)) (fun keys' => Q (nI (A 0)) (nI m) keys') f (nI s.1) (nI (2 * s.1 + 1)) s.2) (fun s => ∃ B, (s.1 < m ∨ s.1 = 0) ∧ SD B m s.1 ∧ IJ B m ∧ (∀ y, CT B m y ↔ CT A (m + 1) y ∧ y ≠ A 0) ∧ (s.1 < m → B s.1 = A m) ∧ (∀ i, i < m → B i < 2 ^ 31) ∧ ∀ i, i < m → i ≠ s.1 → s.2 i = nI (B i)) (fun s => m - s.1) ?_ (0, keys) ⟨pul A m, Or.inr rfl, pul_sd h1, pul_ij h2, fun y => pul_ct h2, fun _ => pul_0, fun i hi => ?_, fun i hi hn => by
    have hn' : i ≠ 0 := hn
    show keys i = nI (pul A m i)
    rw [pul_n hn']; exact (h4 i (by omega)).2⟩
  · rintro f ⟨p, ks⟩ ⟨B, b1, b2, b3, b4, b5, b6, b7⟩ ih
    have b1' : p < m ∨ p = 0 := b1
    have b2' : SD B m p := b2
    have b5' : p < m → B p = A m := b5
    have b7' : ∀ i, i < m → i ≠ p → ks i = nI (B i) := b7
    show L_X6_sink_4 (nI m) (nI (A m)) _ (f + 1) (nI p) (nI (2 * p + 1)) ks
    have fin : HO B m → vp_in (nI p) 16385 ∧ Q (nI (A 0)) (nI m) (upd ks (Int32.toNatClampNeg (nI p)) (nI (A m))) := fun ho => by
      rw [nI_clamp (by omega)]
      refine ⟨vin (by omega) (by omega), hQ' _ ⟨B, ⟨ho, b3, fun y => (and_congr (h3 y) Iff.rfl).trans (b4 y).symm⟩, fun i hi => ⟨b6 i hi, ?_⟩⟩⟩
      by_cases c : i = p
      · subst c; rw [pk_us, b5' hi]
      · rw [pk_un c]; exact b7' i hi c
    have go : ∀ c, p < c → c < m → (c - 1) / 2 = p → (∀ i, 0 < i → i < m → (i - 1) / 2 = p → B c ≤ B i) → J_X6_sink_58 (nI (A m)) (L_X6_sink_4 (nI m) (nI (A m)) (fun keys' => Q (nI (A 0)) (nI m) keys') f) (fun keys' => Q (nI (A 0)) (nI m) keys') (nI p) (nI c) ks := fun c hpc hc hcp hle => by
      unfold J_X6_sink_58
      have hb := b6 c hc
      rw [nI_clamp (n := c) (by omega), nI_clamp (n := p) (by omega), b7' c hc (by omega)]
      refine ⟨vin (by omega) (by omega), b_lt hb hxm (fun d => ⟨vin (by omega) (by omega), vin (by omega) (by omega), ?_⟩) (fun d => ?_)⟩
      · rw [pk_mul, nI_1']
        refine ih (c, _) ⟨swp B p c, Or.inl hc, b2'.step (by omega) hc hcp (by rw [b5' (by omega)]; exact d) hle, swp_ij (by omega) hc b3, fun y => by rw [swp_ct (by omega) hc]; exact b4 y, fun _ => by show swp B p c c = A m; rw [swp_r]; exact b5' (by omega), fun i hi => b6 _ (sg_lt (by omega) hc hi), fun i hi hn => ?_⟩ (by show m - c < m - p; omega)
        have hn' : i ≠ c := hn
        show upd ks p _ i = _
        by_cases e : i = p
        · subst e; rw [pk_us, swp_l]
        · rw [pk_un e, swp_n e hn']; exact b7' i hi e
      · unfold J_X6_sink_68 J_X6_sink_94
        have := fin (b2'.stop (fun i i0 im ip => by rw [b5' (by omega)]; have := hle i i0 im ip; omega))
        exact this
    unfold L_X6_sink_4 J_X6_sink_94
    refine b_le (by omega) (by omega) (fun c => fin (b2'.stop (fun i i0 im ip => by omega))) (fun c => b_F (nI_ge (by omega) (by omega)) ?_)
    rw [nI_1']
    have kid : ∀ i, 0 < i → (i - 1) / 2 = p → i = 2 * p + 1 ∨ i = 2 * p + 1 + 1 := fun i h0 e => by omega
    refine b_le (by omega) (by omega) (fun d => ?_) (fun d => b_F (nI_ge (by omega) (by omega)) ⟨vin (by omega) (by omega), vin (by omega) (by omega), ?_⟩)
    · exact go (2 * p + 1) (by omega) (by omega) (by omega) (fun i i0 im ip => by
        rcases kid i i0 ip with e | e
        · rw [e]; exact Nat.le_refl _
        · omega)
    · rw [nI_clamp (n := 2 * p + 1) (by omega), nI_clamp (n := 2 * p + 1 + 1) (by omega), b7' (2 * p + 1) (by omega) (by omega), b7' (2 * p + 1 + 1) (by omega) (by omega)]
      refine b_le (b6 _ (by omega)) (b6 _ (by omega)) (fun e => ?_) (fun e => ?_)
      · exact go (2 * p + 1) (by omega) (by omega) (by omega) (fun i i0 im ip => by
          rcases kid i i0 ip with z | z
          · rw [z]; exact Nat.le_refl _
          · rw [z]; exact e)
      · exact go (2 * p + 1 + 1) (by omega) (by omega) (by omega) (fun i i0 im ip => by
          rcases kid i i0 ip with z | z
          · rw [z]; omega
          · rw [z]; exact Nat.le_refl _)
  · by_cases c : i = 0
    · subst c; rw [pul_0]; exact hxm
    · rw [pul_n c]; exact (h4 i (by omega)).1
end HEC
section HER
variable {m : Nat} {K : Nat → Prop} {hs ht : Nat → Int32} {a b c d : Int32}
/-- keys of sum and set -/
def HK (A : Nat → Nat) (m : Nat) (hs ht : Nat → Int32) : Prop := ∀ i, i < m → A i < 2 ^ 31 ∧ hs i = nI (A i / 4096) ∧ ht i = nI (A i % 4096)
theorem sp_isLess {A : Nat → Nat} {i j : Nat} {Q : Int32 → Prop} (hm : m ≤ 17000) (h : HK A m hs ht) (hi : i < m) (hj : j < m) (h1 : A i < A j → Q (nI 1)) (h0 : ¬ A i < A j → Q (nI 0)) : wp_X12_isLess a b c d hs ht (nI i) (nI j) Q := by
  have g1 := h i hi
  have g2 := h j hj
  unfold wp_X12_isLess
  rw [nI_clamp (n := i) (by omega), nI_clamp (n := j) (by omega), g1.2.1, g1.2.2, g2.2.1, g2.2.2]
  refine ⟨vin (by omega) (by omega), vin (by omega) (by omega), b_lt (by omega) (by omega) (fun e => h1 (by omega)) (fun e => ⟨vin (by omega) (by omega), vin (by omega) (by omega), b_ne (by omega) (by omega) (fun f => h0 (by omega)) (fun f => ⟨vin (by omega) (by omega), vin (by omega) (by omega), b_le (by omega) (by omega) (fun g => h0 (by omega)) (fun g => h1 (by omega))⟩)⟩)⟩
theorem upd2 {A : Nat → Nat} {F : Nat → Int32} {f : Nat → Nat} {i j : Nat} (hm : ∀ x, x < m → F x = nI (f (A x))) (hi : i < m) (hj : j < m) : ∀ x, x < m → upd (upd F i (F j)) j (F i) x = nI (f (swp A i j x)) := fun x hx => by
  by_cases e : x = j
  · subst e; rw [pk_us, swp_r]; exact hm i hi
  · rw [pk_un e]
    by_cases e2 : x = i
    · subst e2; rw [pk_us, swp_l]; exact hm j hj
    · rw [pk_un e2, swp_n e2 e]; exact hm x hx
theorem sp_exch {A : Nat → Nat} {i j : Nat} {Q : (Nat → Int32) → (Nat → Int32) → Prop} (hm : m ≤ 17000) (h : HK A m hs ht) (hi : i < m) (hj : j < m) (hQ : ∀ hs' ht', HK (swp A i j) m hs' ht' → Q hs' ht') : wp_X12_exchange a b c d hs ht (nI i) (nI j) Q := by
  unfold wp_X12_exchange
  rw [nI_clamp (n := i) (by omega), nI_clamp (n := j) (by omega)]
  have v1 : vp_in (nI i) 17000 := vin (by omega) (by omega)
  have v2 : vp_in (nI j) 17000 := vin (by omega) (by omega)
  refine ⟨v1, v2, v1, v2, v1, v2, v1, v2, hQ _ _ (fun x hx => ⟨(h _ (sg_lt hi hj hx)).1, ?_, ?_⟩)⟩
  · exact upd2 (f := fun y => y / 4096) (fun x hx => (h x hx).2.1) hi hj x hx
  · exact upd2 (f := fun y => y % 4096) (fun x hx => (h x hx).2.2) hi hj x hx
theorem sp_heaps {v s : Nat} {Q : Int32 → (Nat → Int32) → (Nat → Int32) → Prop} (hm : m < 17000) (hx : v * 4096 + s < 2 ^ 31) (hs4 : s < 4096) (h : HR m K hs ht) (hno : ¬ K (v * 4096 + s)) (hQ : ∀ hs' ht', HR (m + 1) (fun y => K y ∨ y = v * 4096 + s) hs' ht' → Q (nI (m + 1)) hs' ht') : wp_X12_heaps a b c (nI m) hs ht (nI v) (nI s) Q := by
  obtain ⟨A, ⟨h1, h2, h3⟩, h4⟩ := h
  have hno' : ¬ CT A m (v * 4096 + s) := fun z => hno ((h3 _).mpr z)
  have ev : (v * 4096 + s) / 4096 = v := by omega
  have es : (v * 4096 + s) % 4096 = s := by omega
  generalize v * 4096 + s = x at *
  unfold wp_X12_heaps
  rw [nI_1', nI_clamp (by omega)]
  refine ⟨vin hm (by omega), vin hm (by omega), ?_⟩
  refine loop_m (fun f (y : Nat × (Nat → Int32) × (Nat → Int32)) => L_X12_heaps_29 a b c (nI (m + 1)) Q f (nI y.1) y.2.1 y.2.2) (fun y => ∃ B, y.1 < m + 1 ∧ SU B (m + 1) y.1 ∧ IJ B (m + 1) ∧ (∀ z, CT B (m + 1) z ↔ CT A m z ∨ z = x) ∧ HK B (m + 1) y.2.1 y.2.2) (fun y => y.1) ?_ (m, upd hs m (nI v), upd ht m (nI s)) ⟨psh A m x, Nat.lt_succ_self m, psh_su h1, psh_ij h2 hno', fun z => psh_ct, fun i hi => ?_⟩
  · rintro f ⟨p, gs, gt⟩ ⟨B, b1, b2, b3, b4, b5⟩ ih
    have b1' : p < m + 1 := b1
    have b2' : SU B (m + 1) p := b2
    have b5' : HK B (m + 1) gs gt := b5
    show L_X12_heaps_29 a b c (nI (m + 1)) Q (f + 1) (nI p) gs gt
    have fin : HO B (m + 1) → Q (nI (m + 1)) gs gt := fun ho => hQ _ _ ⟨B, ⟨ho, b3, fun y => (or_congr (h3 y) Iff.rfl).trans (b4 y).symm⟩, b5'⟩
    unfold L_X12_heaps_29
    refine b_le (by omega) (by omega) (fun e => fin (b2'.stop (Or.inl (by omega)))) (fun e => ?_)
    rw [pk_sub (by omega), pk_div (by omega) (by omega) (by omega)]
    refine sp_isLess (by omega) b5' (by omega) (by omega) (fun l => b_F ne10 ?_) (fun l => b_T rfl (fin (b2'.stop (Or.inr (by omega)))))
    refine sp_exch (by omega) b5' (by omega) (by omega) (fun gs' gt' hk => ih (_, gs', gt') ⟨swp B p ((p - 1) / 2), by show (p - 1) / 2 < m + 1; omega, b2'.step (by omega) (by omega) l, swp_ij (by omega) (by omega) b3, fun y => by rw [swp_ct (by omega) (by omega)]; exact b4 y, hk⟩ (by show (p - 1) / 2 < p; omega))
  · by_cases e : i = m
    · subst e
      show psh A i x i < 2 ^ 31 ∧ upd hs i (nI v) i = nI (psh A i x i / 4096) ∧ upd ht i (nI s) i = nI (psh A i x i % 4096)
      rw [psh_m, pk_us, pk_us, ev, es]
      exact ⟨hx, rfl, rfl⟩
    · show psh A m x i < 2 ^ 31 ∧ upd hs m (nI v) i = nI (psh A m x i / 4096) ∧ upd ht m (nI s) i = nI (psh A m x i % 4096)
      rw [psh_n e, pk_un e, pk_un e]
      exact h4 i (by omega)
theorem sp_leaves {Q : Int32 → Int32 → (Nat → Int32) → (Nat → Int32) → Prop} (hm : m < 17000) (h : HR (m + 1) K hs ht) (hQ : ∀ x hs' ht', K x → (∀ y, K y → x ≤ y) → x < 2 ^ 31 → HR m (fun y => K y ∧ y ≠ x) hs' ht' → Q (nI (x % 4096)) (nI m) hs' ht') : wp_X12_leaves a b c (nI (m + 1)) hs ht Q := by
  obtain ⟨A, ⟨h1, h2, h3⟩, h4⟩ := h
  have hmin : ∀ y, K y → A 0 ≤ y := fun y hy => by
    obtain ⟨i, hi, e⟩ := (h3 y).mp hy
    rw [← e]
    exact h1.min (i + 1) i (Nat.lt_succ_self i) hi
  have hQ' := fun hs' ht' => hQ (A 0) hs' ht' ((h3 _).mpr ⟨0, by omega, rfl⟩) hmin (h4 0 (by omega)).1
  unfold wp_X12_leaves
  rw [pk_sub (by omega), show m + 1 - 1 = m by omega, nI_clamp (by omega), (h4 0 (by omega)).2.2]
  refine ⟨vin (by omega) (by omega), sp_exch (by omega) h4 (by omega) (by omega) (fun gs gt hk => ?_)⟩
  refine loop_m (fun f (y : Nat × Int32 × (Nat → Int32) × (Nat → Int32)) => L_X12_leaves_30 a b c (nI m) (nI (A 0 % 4096)) Q f (nI y.1) y.2.1 y.2.2.1 y.2.2.2) (fun y => ∃ B, (y.1 < m ∨ y.1 = 0) ∧ IJ B m ∧ (∀ z, CT B m z ↔ CT A (m + 1) z ∧ z ≠ A 0) ∧ HK B (m + 1) y.2.2.1 y.2.2.2 ∧ ((y.2.1 = nI 1 ∧ SD B m y.1) ∨ (y.2.1 = nI 0 ∧ HO B m))) (fun y => 2 * (m - y.1) + (if y.2.1 = nI 0 then 0 else 1)) ?_ (0, nI 1, gs, gt) ⟨swp A 0 m, Or.inr rfl, ?_, fun z => ?_, hk, Or.inl ⟨rfl, ?_⟩⟩
  · rintro f ⟨p, e, ys, yt⟩ ⟨B, b1, b2, b3, b4, b5⟩ ih
    have b1' : p < m ∨ p = 0 := b1
    have b4' : HK B (m + 1) ys yt := b4
    have b5' : (e = nI 1 ∧ SD B m p) ∨ (e = nI 0 ∧ HO B m) := b5
    show L_X12_leaves_30 a b c (nI m) (nI (A 0 % 4096)) Q (f + 1) (nI p) e ys yt
    unfold L_X12_leaves_30
    rcases b5' with ⟨e1, b5'⟩ | ⟨e1, b5'⟩
    · subst e1
      refine b_F ne10 ?_
      have kid : ∀ i, 0 < i → (i - 1) / 2 = p → i = 2 * p + 1 ∨ i = 2 * p + 2 := fun i h0 e => by omega
      -- none less: it stops
      have stay : (∀ i, 0 < i → i < m → (i - 1) / 2 = p → B p ≤ B i) → J_X12_leaves_111 a b c (nI m) (L_X12_leaves_30 a b c (nI m) (nI (A 0 % 4096)) Q f) (nI p) ys yt (nI p) := fun hle => by
        unfold J_X12_leaves_111 J_X12_leaves_124
        refine b_T rfl (sp_exch (m := m + 1) (by omega) b4' (by omega) (by omega) (fun zs zt hk2 => ih (p, nI 0, zs, zt) ⟨B, b1', b2, b3, fun i hi => ?_, Or.inr ⟨rfl, b5'.stop hle⟩⟩ ?_))
        · have := hk2 i hi
          have es : swp B p p i = B i := by
            by_cases z : i = p
            · subst z; exact swp_l
            · exact swp_n z z
          rw [es] at this
          exact this
        · show 2 * (m - p) + (if nI 0 = nI 0 then 0 else 1) < 2 * (m - p) + (if nI 1 = nI 0 then 0 else 1)
          rw [if_pos rfl, if_neg ne10]; omega
      have go : ∀ i, p < i → i < m → (i - 1) / 2 = p → B i < B p → (∀ q, 0 < q → q < m → (q - 1) / 2 = p → B i ≤ B q) → J_X12_leaves_111 a b c (nI m) (L_X12_leaves_30 a b c (nI m) (nI (A 0 % 4096)) Q f) (nI p) ys yt (nI i) := fun i hpi hi hip hl hle => by
        unfold J_X12_leaves_111 J_X12_leaves_124
        refine b_F (fun z => by have := (nI_eq (by omega) (by omega)).mp z; omega) (sp_exch (m := m + 1) (by omega) b4' (by omega) (by omega) (fun zs zt hk2 => ih (i, nI 1, zs, zt) ⟨swp B p i, Or.inl hi, swp_ij (by omega) hi b2, fun y => by rw [swp_ct (by omega) hi]; exact b3 y, hk2, Or.inl ⟨rfl, b5'.step (by omega) hi hip hl hle⟩⟩ ?_))
        show 2 * (m - i) + (if nI 1 = nI 0 then 0 else 1) < 2 * (m - p) + (if nI 1 = nI 0 then 0 else 1)
        omega
      -- the second child beside the least so far
      have snd : ∀ t, (t = p ∨ (t = 2 * p + 1 ∧ t < m ∧ B t < B p)) → (2 * p + 1 < m → B t ≤ B (2 * p + 1)) → J_X12_leaves_73 a b c (nI m) (L_X12_leaves_30 a b c (nI m) (nI (A 0 % 4096)) Q f) (nI p) ys yt (nI t) := fun t ht2 hle => by
        unfold J_X12_leaves_73 J_X12_leaves_109
        have done : (2 * p + 2 < m → B t ≤ B (2 * p + 2)) → J_X12_leaves_111 a b c (nI m) (L_X12_leaves_30 a b c (nI m) (nI (A 0 % 4096)) Q f) (nI p) ys yt (nI t) := fun hle2 => by
          have hall : ∀ q, 0 < q → q < m → (q - 1) / 2 = p → B t ≤ B q := fun q q0 qm qp => by
            rcases kid q q0 qp with z | z
            · rw [z]; exact hle (by omega)
            · rw [z]; exact hle2 (by omega)
          rcases ht2 with z | ⟨z1, z2, z3⟩
          · subst z; exact stay hall
          · exact go t (by omega) z2 (by omega) z3 hall
        rw [pk_mul, nI_add]
        refine b_le (by omega) (by omega) (fun z => done (fun y => by omega)) (fun z => ?_)
        refine sp_isLess (m := m + 1) (by omega) b4' (by omega) (by omega) (fun l => b_F ne10 ?_) (fun l => b_T rfl (done (fun _ => by omega)))
        refine go (2 * p + 2) (by omega) (by omega) (by omega) ?_ (fun q q0 qm qp => ?_)
        · rcases ht2 with y | ⟨y1, y2, y3⟩
          · subst y; exact l
          · omega
        · rcases kid q q0 qp with y | y
          · rw [y]; have := hle (by omega); omega
          · rw [y]; exact Nat.le_refl _
      unfold J_X12_leaves_71
      rw [pk_mul, nI_add]
      refine b_le (by omega) (by omega) (fun z => snd p (Or.inl rfl) (fun y => by omega)) (fun z => ?_)
      exact sp_isLess (m := m + 1) (by omega) b4' (by omega) (by omega) (fun l => b_F ne10 (snd (2 * p + 1) (Or.inr ⟨rfl, by omega, l⟩) (fun _ => Nat.le_refl _))) (fun l => b_T rfl (snd p (Or.inl rfl) (fun _ => by omega)))
    · subst e1
      exact b_T rfl (hQ' _ _ ⟨B, ⟨b5', b2, fun y => (and_congr (h3 y) Iff.rfl).trans (b3 y).symm⟩, fun i hi => b4' i (by omega)⟩)
  · intro i j hi hj e
    exact swp_ij (by omega) (by omega) h2 i j (by omega) (by omega) e
  · have hpul : ∀ i, i < m → swp A 0 m i = pul A m i := fun i hi => by
      by_cases z : i = 0
      · subst z; rw [swp_l, pul_0]
      · rw [swp_n z (by omega), pul_n z]
    rw [← pul_ct h2]
    constructor
    · rintro ⟨i, hi, y⟩; exact ⟨i, hi, (hpul i hi).symm.trans y⟩
    · rintro ⟨i, hi, y⟩; exact ⟨i, hi, (hpul i hi).trans y⟩
  · have hpul : ∀ i, i < m → swp A 0 m i = pul A m i := fun i hi => by
      by_cases z : i = 0
      · subst z; rw [swp_l, pul_0]
      · rw [swp_n z (by omega), pul_n z]
    have hsd := pul_sd h1
    refine ⟨fun i i0 im ip => ?_, fun z => absurd z (by show ¬ 0 < 0; omega)⟩
    rw [hpul i im, hpul _ (by omega)]
    exact hsd.1 i i0 im ip
end HER
