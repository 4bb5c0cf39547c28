/-! random words: the class over the sets found -/
theorem sp_look2 {n k S : Nat} {mv low high : Nat → Int32} {c1 c2 x3 : Int32} {from_ queue : Nat → Int32} {w : Nat → Bool} {Q : Int32 → Int32 → Int32 → (Nat → Int32) → (Nat → Int32) → (Nat → Int32) → (Nat → Int32) → Prop} (hn : n ≤ 12) (hk : k ≤ 4) (hm : MV n k mv) (hz : TZ low high) (hS : 0 < S) (hS2 : S < 2 ^ n) (hw : WN x3 w)
    (h : ∀ low' high' from' queue', TZ low' high' → TB n k mv low' high' → BOK (bfs (stp n mv) w k S).2 → BL (2 ^ n) (bfs (stp n mv) w k S).2 → RC (bfs (stp n mv) w k S).2 (nI (bfs (stp n mv) w k S).2.2.1) from' queue' → Q (nI (bfs (stp n mv) w k S).1) (nI (bfs (stp n mv) w k S).2.2.1) (nI k) low' high' from' queue') : wp_X7_look c1 c2 low high from_ queue (nI n) (nI k) mv (nI S) x3 Q := by
  have h12 : 2 ^ n ≤ 2 ^ 12 := Nat.pow_le_pow_right (by decide) hn
  unfold wp_X7_look
  refine sp_load hn hk hm hz (fun low' high' ht hz' => sp_begin hS (by omega) (fun from' hf => ⟨vin (by omega) (by omega), ?_⟩))
  rw [nI_clamp (by omega)]
  have hst := RC.start (queue := queue) hf
  refine hw S hS (by omega) _ ?_
  unfold bfs at h
  by_cases cw : w S = true
  · rw [if_pos cw] at h ⊢
    exact b_F ne10 (h _ _ _ _ hz' ht (BOK.start hS (by omega)) (fun i hi => by
      have : i = 0 := by have : i < 1 := hi; omega
      subst this
      exact hS2) hst)
  · rw [if_neg cw] at h ⊢
    refine b_T rfl ?_
    generalize hR : bout (stp n mv) w k 4096 0 (b0 S) = R at h
    refine loop_m (fun f (s : Nat × Int32 × (Nat → Int32) × (Nat → Int32)) => L_X7_look_41 (nI k) low' high' x3 Q f (nI s.1) s.2.1 s.2.2.1 s.2.2.2) (fun s => ∃ b', BOK b' ∧ BL (2 ^ n) b' ∧ s.1 ≤ b'.2.1 ∧ RC b' s.2.1 s.2.2.1 s.2.2.2 ∧ bout (stp n mv) w k (4096 - s.1) s.1 b' = R) (fun s => 4096 - s.1) ?_ (0, nI 1, from', upd queue 0 (nI S)) ⟨b0 S, BOK.start hS (by omega), fun i hi => by
      have : i = 0 := by have : i < 1 := hi; omega
      subst this
      exact hS2, Nat.zero_le _, hst, hR⟩
    rintro f ⟨i, s1, s2, s3⟩ ⟨b', a1, a2, a3, a4, a5⟩ ih
    show L_X7_look_41 (nI k) low' high' x3 Q (f + 1) (nI i) s1 s2 s3
    have hsz := a1.sz
    have a3' : i ≤ b'.2.1 := a3
    have a4 : RC b' s1 s2 s3 := a4
    have a5' : bout (stp n mv) w k (4096 - i) i b' = R := a5
    rw [bout_at (by omega)] at a5'
    unfold L_X7_look_41
    rw [show s1 = nI b'.2.1 from a4.1]
    refine b_le (by omega) (by omega) (fun c => ?_) (fun c => ?_)
    · rw [if_neg (by omega)] at a5'
      rw [← a5'] at h
      exact h _ _ _ _ hz' ht a1 a2 ⟨rfl, a4.2⟩
    · have c' : i < b'.2.1 := by omega
      rw [if_pos c'] at a5'
      refine b_F (nI_ge (by omega) (by omega)) ⟨vin (by omega) (by omega), ?_⟩
      rw [nI_clamp (by omega), a4.2.1 i c']
      refine sp_lookFrom hn hk hm ht a1 a2 c' rfl hw ⟨rfl, a4.2⟩ (fun f' q' g1 g2 g3 => ?_)
      have hlt := (blet_ok (w := w) hk (fun S l hl => (Nat.lt_of_lt_of_le (stp_lt2 hm hn hl) (by omega) : stp n mv S l < 4096)) k b' (Nat.le_refl _) a1 c' rfl).2
      have hszR := g1.sz
      by_cases z : (blet (stp n mv) w (b'.1 i) k k b').1 = 0
      · rw [z]
        rw [if_pos z] at a5'
        refine b_T rfl ?_
        rw [nI_1']
        refine ih (i + 1, _, _, _) ⟨_, g1, g2, ?_, g3, a5'⟩ ?_
        · show i + 1 ≤ _; omega
        · show 4096 - (i + 1) < 4096 - i; omega
      · rw [if_neg z] at a5'
        have hr31 : (blet (stp n mv) w (b'.1 i) k k b').1 < 4096 := blet_r (fun l hl => (Nat.lt_of_lt_of_le (stp_lt2 hm hn hl) (by omega) : stp n mv (b'.1 i) l < 4096)) k b' (Nat.le_refl _)
        refine b_F (fun q => z ((nI_eq (by omega) (by omega)).mp q)) ?_
        rw [← a5'] at h
        exact h _ _ _ _ hz' ht g1 g2 g3
theorem blet_f {nx : Nat → Nat → Nat} {S k : Nat} : ∀ (m : Nat) (b : BS), m ≤ k → (blet nx (fun _ => false) S k m b).1 = 0 ∧ b.2.1 ≤ (blet nx (fun _ => false) S k m b).2.2.1 ∧ (∀ i, i < b.2.1 → (blet nx (fun _ => false) S k m b).2.1 i = b.1 i) ∧ ∀ l, k - m ≤ l → l < k → nx S l = 0 ∨ inb (blet nx (fun _ => false) S k m b).2 (nx S l) = true
  | 0, b, _ => ⟨rfl, Nat.le_refl _, fun _ _ => rfl, fun l h1 h2 => by omega⟩
  | m + 1, b, hm => by
    rw [blet]
    by_cases c : nx S (k - (m + 1)) = 0 ∨ inb b (nx S (k - (m + 1))) = true
    · rw [if_pos c]
      obtain ⟨r1, r2, r3, r4⟩ := blet_f (nx := nx) (S := S) (k := k) m b (by omega)
      refine ⟨r1, r2, r3, fun l h1 h2 => ?_⟩
      by_cases e : l = k - (m + 1)
      · subst e
        refine c.imp id (fun q => ?_)
        obtain ⟨i, hi, e⟩ := inb_iff.mp q
        exact inb_iff.mpr ⟨i, by omega, by rw [r3 i hi, e]⟩
      · exact r4 l (by omega) h2
    · rw [if_neg c, if_neg (by decide)]
      obtain ⟨r1, r2, r3, r4⟩ := blet_f (nx := nx) (S := S) (k := k) m (bpush b (nx S (k - (m + 1))) S (k - (m + 1))) (by omega)
      have hs : (bpush b (nx S (k - (m + 1))) S (k - (m + 1))).2.1 = b.2.1 + 1 := rfl
      rw [hs] at r2 r3
      refine ⟨r1, by omega, fun i hi => by rw [r3 i (by omega), bpush_old hi], fun l h1 h2 => ?_⟩
      by_cases e : l = k - (m + 1)
      · subst e
        exact Or.inr (inb_iff.mpr ⟨b.2.1, by omega, by rw [r3 _ (by omega), bpush_new]⟩)
      · exact r4 l (by omega) h2
def CLO (nx : Nat → Nat → Nat) (k : Nat) (b : BS) : Prop := ∀ i l, i < b.2.1 → l < k → nx (b.1 i) l = 0 ∨ inb b (nx (b.1 i) l) = true
theorem bout_f {nx : Nat → Nat → Nat} {k : Nat} (hk : k ≤ 4) (hx : NX nx k) : ∀ (f i : Nat) (b : BS), BOK b → 4096 - i ≤ f → i ≤ b.2.1 → (∀ i' l, i' < i → l < k → nx (b.1 i') l = 0 ∨ inb b (nx (b.1 i') l) = true) → CLO nx k (bout nx (fun _ => false) k f i b).2 ∧ (bout nx (fun _ => false) k f i b).2.1 0 = b.1 0
  | 0, i, b, hb, hf, hi, h => by have := hb.sz; omega
  | f + 1, i, b, hb, hf, hi, h => by
    rw [bout]
    by_cases c : i < b.2.1
    · rw [if_pos c]
      obtain ⟨r1, r2, r3, r4⟩ := blet_f (nx := nx) (S := b.1 i) (k := k) k b (Nat.le_refl _)
      rw [if_pos r1]
      have hb' := (blet_ok (w := fun _ => false) hk hx k b (Nat.le_refl _) hb c rfl).1
      have := bout_f hk hx f (i + 1) (blet nx (fun _ => false) (b.1 i) k k b).2 hb' (by omega) (by omega) (fun i' l h1 h2 => ?_)
      · refine ⟨this.1, this.2.trans (r3 0 hb.2.2.2.1)⟩
      · rw [r3 i' (by omega)]
        by_cases e : i' = i
        · subst e; exact r4 l (by omega) h2
        · refine (h i' l (by omega) h2).imp id (fun q => ?_)
          obtain ⟨x, hx2, e2⟩ := inb_iff.mp q
          exact inb_iff.mpr ⟨x, by omega, by rw [r3 x hx2, e2]⟩
    · rw [if_neg c]
      exact ⟨fun i' l h1 h2 => h i' l (by have h1' : i' < b.2.1 := h1; omega) h2, rfl⟩
theorem bfs_clo {nx : Nat → Nat → Nat} {k S : Nat} (hk : k ≤ 4) (hx : NX nx k) (hS : 0 < S) (hS2 : S < 4096) : CLO nx k (bfs nx (fun _ => false) k S).2 ∧ (bfs nx (fun _ => false) k S).2.1 0 = S := by
  unfold bfs
  rw [if_neg (fun q => by cases q)]
  exact bout_f hk hx 4096 0 (b0 S) (BOK.start hS hS2) (by omega) (Nat.zero_le _) (fun i' l h1 _ => by omega)
theorem wch_out {nx : Nat → Nat → Nat} {k M S0 : Nat} {s : Nat → Nat} {b : BS} (hc : CLO nx k b) (h0 : inb b S0 = true) : ∀ t S, inb b S = false → wch nx k s M S0 t S = 0
  | 0, S, h => if_neg (fun e => by rw [e, h0] at h; cases h)
  | t + 1, T, h => by
    show (if T = 0 then 0 else _) = 0
    by_cases c : T = 0
    · exact if_pos c
    · rw [if_neg c]
      refine sm_zero M (fun S _ => ?_)
      by_cases d : inb b S = true
      · obtain ⟨i, hi, e⟩ := inb_iff.mp d
        have : giv nx k s S T = 0 := sm_zero k (fun l hl => if_neg (fun q => by
          rcases hc i l hi hl with z | z
          · rw [e, q] at z; exact c z
          · rw [e, q, h] at z; cases z))
        rw [this, Nat.mul_zero]
      · rw [wch_out hc h0 t S (by cases z : inb b S; rfl; exact absurd z d), Nat.zero_mul]
theorem lN_ne0 {a : Nat} (h : a < 2 ^ 63) : lg_cmp (lN a) (lN 0) = nI 0 ↔ a = 0 := by
  rw [show nI 0 = 0 from nI_0, lg_cmp_eq]
  exact pk_lEQ h (by decide)
theorem lN_le0 {a : Nat} (h : a < 2 ^ 63) : lg_cmp (lN a) (lN 0) ≤ nI 0 ↔ a = 0 := by
  rw [show nI 0 = 0 from nI_0, lg_cmp_le, pk_lLE h (by decide)]
  omega
section SPR
variable {n k : Nat} {mv low high sh : Nat → Int32} {s : Nat → Nat} {b : BS} {from_ queue : Nat → Int32} {W V : Nat → Nat}
theorem spr_let {i : Nat} {c : Int32} {now next : Nat → Int64} {R : Int32 → (Nat → Int64) → Prop} (hn : n ≤ 12) (hk : k ≤ 4) (hm : MV n k mv) (ht : TB n k mv low high) (hs : ∀ l, l < k → s l ≤ 5 ∧ sh l = nI (s l)) (hb : BOK b) (hbl : BL (2 ^ n) b) (hi : i < b.2.1) (hnow : now (b.1 i) = lN (W (b.1 i))) (hx : ∀ T, 0 < T → T < 4096 → next T = lN (V T))
    (h : ∀ next', (∀ T, 0 < T → T < 4096 → next' T = lN (V T + W (b.1 i) * giv (stp n mv) k s (b.1 i) T)) → R (nI (i + 1)) next') : ∃ f, L_X0_spread_50 (nI k) low high now c (nI k) sh (nI i) (nI (b.1 i)) R f (nI 0) next := by
  have h12 : 2 ^ n ≤ 2 ^ 12 := Nat.pow_le_pow_right (by decide) hn
  have hS0 := hb.1 i hi
  have hSl := hbl i hi
  refine pk_loop (fun f l (t : Nat → Int64) => L_X0_spread_50 (nI k) low high now c (nI k) sh (nI i) (nI (b.1 i)) R f (nI l) t) (fun l t => ∀ T, 0 < T → T < 4096 → t T = lN (V T + W (b.1 i) * sm (fun l => if stp n mv (b.1 i) l = T then s l else 0) l)) k 0 next (Nat.zero_le _) (fun T h0 h1 => by rw [sm, Nat.mul_zero, Nat.add_zero]; exact hx T h0 h1) ?_ ?_
  · intro f t hT
    show L_X0_spread_50 (nI k) low high now c (nI k) sh (nI i) (nI (b.1 i)) R (f + 1) (nI k) t
    unfold L_X0_spread_50
    refine b_T (nI_le (Nat.le_refl _) (by omega)) ?_
    unfold J_X0_spread_117
    rw [nI_1']
    exact h t hT
  · intro f l t hl hT ih
    show L_X0_spread_50 (nI k) low high now c (nI k) sh (nI i) (nI (b.1 i)) R (f + 1) (nI l) t
    unfold L_X0_spread_50
    refine b_F (nI_ge hl (by omega)) (sp_after hn hk hm ht hS0.1 hSl hl ?_)
    have hlt : stp n mv (b.1 i) l < 2 ^ n := stp_lt2 hm hn hl
    unfold J_X0_spread_111
    rw [nI_1']
    refine b_le (by omega) (by omega) (fun e => ih _ (fun T h0 h1 => ?_)) (fun e => b_F (nI_ge (by omega) (by omega)) ⟨vin (by omega) (by omega), vin (by omega) (by omega), ?_⟩)
    · rw [hT T h0 h1, sm, if_neg (show ¬ stp n mv (b.1 i) l = T by omega), Nat.add_zero]
    · unfold wp_X4_shareOf
      refine sp_hasLetter1 hk hl (b_F ne10 ⟨vin (by omega) (by omega), vin (by omega) (by omega), ih _ (fun T h0 h1 => ?_)⟩)
      rw [nI_clamp (by omega), nI_clamp (by omega), nI_clamp (by omega), hnow, (hs l hl).2, nI_l (by have := (hs l hl).1; omega), lN_mul, sm]
      by_cases e2 : T = stp n mv (b.1 i) l
      · subst e2
        rw [pk_uLs, hT _ h0 h1, lN_add, if_pos rfl, Nat.mul_add, Nat.add_assoc]
      · rw [pk_uLn e2, hT T h0 h1, if_neg (fun q => e2 q.symm), Nat.add_zero]
theorem sp_spread {c : Int32} {now next : Nat → Int64} {Q : (Nat → Int64) → (Nat → Int64) → Prop} (hn : n ≤ 12) (hk : k ≤ 4) (hm : MV n k mv) (ht : TB n k mv low high) (hs : ∀ l, l < k → s l ≤ 5 ∧ sh l = nI (s l)) (hb : BOK b) (hbl : BL (2 ^ n) b) (hr : RC b (nI b.2.1) from_ queue) (hW : ∀ i, i < b.2.1 → W (b.1 i) < 2 ^ 63 ∧ now (b.1 i) = lN (W (b.1 i))) (hx : ∀ T, 0 < T → T < 4096 → next T = lN 0) (hV : ∀ T, 0 < T → T < 4096 → V T = sm (fun i => W (b.1 i) * giv (stp n mv) k s (b.1 i) T) b.2.1) (hV0 : ∀ T, 0 < T → T < 4096 → inb b T = false → V T = 0)
    (h : ∀ now' next', (∀ i, i < b.2.1 → now' (b.1 i) = lN (V (b.1 i))) → (∀ T, 0 < T → T < 4096 → next' T = lN 0) → Q now' next') : wp_X0_spread (nI k) low high (nI b.2.1) queue now next c (nI k) sh Q := by
  have hsz := hb.sz
  unfold wp_X0_spread
  refine pk_loop (fun f i (t : Nat → Int64) => L_X0_spread_2 (nI k) low high (nI b.2.1) queue now c (nI k) sh Q f (nI i) t) (fun i t => ∀ T, 0 < T → T < 4096 → t T = lN (sm (fun i => W (b.1 i) * giv (stp n mv) k s (b.1 i) T) i)) b.2.1 0 next (Nat.zero_le _) (fun T h0 h1 => by rw [sm]; exact hx T h0 h1) ?_ ?_
  · intro f t hT
    show L_X0_spread_2 (nI k) low high (nI b.2.1) queue now c (nI k) sh Q (f + 1) (nI b.2.1) t
    unfold L_X0_spread_2
    refine b_T (nI_le (Nat.le_refl _) (by omega)) ?_
    unfold J_X0_spread_123
    refine pk_loop (fun f i (u : (Nat → Int64) × (Nat → Int64)) => L_X0_spread_125 (nI b.2.1) queue Q f (nI i) u.1 u.2) (fun i u => (∀ i', i' < i → u.1 (b.1 i') = lN (V (b.1 i'))) ∧ (∀ i', i ≤ i' → i' < b.2.1 → u.2 (b.1 i') = lN (V (b.1 i'))) ∧ ∀ T, 0 < T → T < 4096 → u.2 T = lN 0 ∨ ∃ i', i ≤ i' ∧ i' < b.2.1 ∧ b.1 i' = T) b.2.1 0 (now, t) (Nat.zero_le _) ⟨fun i' hi => by omega, fun i' _ hi => ?_, fun T h0 h1 => ?_⟩ ?_ ?_
    · have g := hb.1 i' hi
      show t _ = _
      rw [hT _ g.1 g.2.1, ← hV _ g.1 g.2.1]
    · by_cases d : inb b T = true
      · obtain ⟨i', hi', e⟩ := inb_iff.mp d
        exact Or.inr ⟨i', Nat.zero_le _, hi', e⟩
      · refine Or.inl ?_
        show t T = _
        rw [hT T h0 h1, ← hV T h0 h1, hV0 T h0 h1 (by cases z : inb b T; rfl; exact absurd z d)]
    · rintro f ⟨u1, u2⟩ ⟨a1, a2, a3⟩
      show L_X0_spread_125 (nI b.2.1) queue Q (f + 1) (nI b.2.1) u1 u2
      unfold L_X0_spread_125
      refine b_T (nI_le (Nat.le_refl _) (by omega)) (h _ _ a1 (fun T h0 h1 => (a3 T h0 h1).resolve_right (fun ⟨i', q1, q2, _⟩ => by omega)))
    · rintro f i ⟨u1, u2⟩ hi ⟨a1, a2, a3⟩ ih
      show L_X0_spread_125 (nI b.2.1) queue Q (f + 1) (nI i) u1 u2
      have g := hb.1 i hi
      unfold L_X0_spread_125 J_X0_spread_175
      refine b_F (nI_ge hi (by omega)) (sp_found hb hr hi (b_F (nI_nlt0 (by omega)) (b_F (nI_ge (by omega) (by omega)) ⟨vin (by omega) (by omega), vin (by omega) (by omega), vin (by omega) (by omega), ?_⟩)))
      rw [nI_clamp (by omega), nI_1']
      refine ih (_, _) ⟨fun i' hi' => ?_, fun i' h1 h2 => ?_, fun T h0 h1 => ?_⟩
      · show vp_updL u1 (b.1 i) (u2 (b.1 i)) (b.1 i') = _
        by_cases e : i' = i
        · subst e; rw [pk_uLs]; exact a2 i' (Nat.le_refl _) hi
        · rw [pk_uLn (hb.2.1 i' i (by omega) hi)]; exact a1 i' (by omega)
      · show vp_updL u2 (b.1 i) (lN 0) (b.1 i') = _
        rw [pk_uLn (fun q => hb.2.1 i i' (by omega) h2 q.symm)]
        exact a2 i' (by omega) h2
      · show vp_updL u2 (b.1 i) (lN 0) T = _ ∨ _
        by_cases e : T = b.1 i
        · subst e; exact Or.inl pk_uLs
        · rw [pk_uLn e]
          refine (a3 T h0 h1).imp id (fun ⟨i', q1, q2, q3⟩ => ⟨i', ?_, q2, q3⟩)
          have : i' ≠ i := fun z => e (by rw [← q3, z])
          omega
  · intro f i t hi hT ih
    show L_X0_spread_2 (nI k) low high (nI b.2.1) queue now c (nI k) sh Q (f + 1) (nI i) t
    have g := hb.1 i hi
    obtain ⟨w1, w2⟩ := hW i hi
    unfold L_X0_spread_2
    refine b_F (nI_ge hi (by omega)) (sp_found hb hr hi (b_F (nI_nlt0 (by omega)) (b_F (nI_ge (by omega) (by omega)) ⟨vin (by omega) (by omega), ?_⟩)))
    rw [nI_clamp (by omega), w2]
    refine b_nif (fun _ => ?_) (fun e => ?_)
    · exact spr_let (V := fun T => sm (fun i => W (b.1 i) * giv (stp n mv) k s (b.1 i) T) i) hn hk hm ht hs hb hbl hi w2 hT (fun next' hn' => ih next' hn')
    · unfold J_X0_spread_117
      rw [nI_1']
      refine ih t (fun T h0 h1 => ?_)
      rw [hT T h0 h1, sm, (lN_ne0 w1).mp e, Nat.zero_mul, Nat.add_zero]
end SPR
