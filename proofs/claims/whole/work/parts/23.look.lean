/-! the class's search from set to set -/
theorem inb_push {b : BS} {T S l X : Nat} : inb (bpush b T S l) X = true ↔ X = T ∨ inb b X = true := by
  rw [inb_iff, inb_iff]
  constructor
  · rintro ⟨i, hi, e⟩
    have hi2 : i < b.2.1 + 1 := hi
    by_cases c : i = b.2.1
    · subst c; rw [bpush_new] at e; exact Or.inl e.symm
    · rw [bpush_old (by omega)] at e; exact Or.inr ⟨i, by omega, e⟩
  · rintro (e | ⟨i, hi, e⟩)
    · exact ⟨b.2.1, Nat.lt_succ_self _, by rw [bpush_new, e]⟩
    · exact ⟨i, Nat.lt_succ_of_lt hi, by rw [bpush_old hi, e]⟩
theorem blet_at {nx : Nat → Nat → Nat} {w : Nat → Bool} {S k l : Nat} {b : BS} (hl : l < k) : blet nx w S k (k - l) b = if nx S l = 0 ∨ inb b (nx S l) = true then blet nx w S k (k - (l + 1)) b else if w (nx S l) = true then (nx S l, bpush b (nx S l) S l) else blet nx w S k (k - (l + 1)) (bpush b (nx S l) S l) := by
  obtain ⟨m, hm⟩ : ∃ m, k - l = m + 1 := ⟨k - l - 1, by omega⟩
  have e1 : k - (m + 1) = l := by omega
  have e2 : k - (l + 1) = m := by omega
  rw [hm, blet, e1, e2]
theorem bout_at {nx : Nat → Nat → Nat} {w : Nat → Bool} {k i : Nat} {b : BS} (hi : i < 4096) : bout nx w k (4096 - i) i b = if i < b.2.1 then (if (blet nx w (b.1 i) k k b).1 = 0 then bout nx w k (4096 - (i + 1)) (i + 1) (blet nx w (b.1 i) k k b).2 else blet nx w (b.1 i) k k b) else (0, b) := by
  obtain ⟨m, hm⟩ : ∃ m, 4096 - i = m + 1 := ⟨4096 - i - 1, by omega⟩
  rw [hm, bout, show 4096 - (i + 1) = m by omega]
theorem blet_r {nx : Nat → Nat → Nat} {w : Nat → Bool} {S k : Nat} (hx : ∀ l, l < k → nx S l < 4096) : ∀ (m : Nat) (b : BS), m ≤ k → (blet nx w S k m b).1 < 4096
  | 0, _, _ => by show 0 < 4096; omega
  | m + 1, b, hm => by
    rw [blet]
    by_cases c : nx S (k - (m + 1)) = 0 ∨ inb b (nx S (k - (m + 1))) = true
    · rw [if_pos c]; exact blet_r hx m b (by omega)
    · rw [if_neg c]
      by_cases cw : w (nx S (k - (m + 1))) = true
      · rw [if_pos cw]; exact hx _ (by omega)
      · rw [if_neg cw]; exact blet_r hx m _ (by omega)
def BL (N : Nat) (b : BS) : Prop := ∀ i, i < b.2.1 → b.1 i < N
theorem BL.push {N : Nat} {b : BS} {T S l : Nat} (h : BL N b) (hT : T < N) : BL N (bpush b T S l) := fun i hi => by
  have hi2 : i < b.2.1 + 1 := hi
  by_cases c : i = b.2.1
  · subst c; rw [bpush_new]; exact hT
  · rw [bpush_old (by omega)]; exact h i (by omega)
def RC (b : BS) (size : Int32) (from_ queue : Nat → Int32) : Prop := size = nI b.2.1 ∧ (∀ i, i < b.2.1 → queue i = nI (b.1 i)) ∧ ∀ T, 0 < T → T < 4096 → from_ T = if inb b T = true then nI (b.2.2.1 T * 4 + b.2.2.2 T) else nI 0
theorem RC.push {b : BS} {size : Int32} {from_ queue : Nat → Int32} {T S l : Nat} (h : RC b size from_ queue) : RC (bpush b T S l) (nI (b.2.1 + 1)) (upd from_ T (nI (S * 4 + l))) (upd queue b.2.1 (nI T)) := by
  refine ⟨rfl, fun i hi => ?_, fun X h0 h1 => ?_⟩
  · have hi2 : i < b.2.1 + 1 := hi
    by_cases c : i = b.2.1
    · subst c; rw [bpush_new, pk_us]
    · rw [bpush_old (by omega), pk_un c]; exact h.2.1 i (by omega)
  · by_cases c : X = T
    · subst c
      rw [pk_us, if_pos (inb_push.mpr (Or.inl rfl))]
      show _ = nI ((if X = X then S else _) * 4 + (if X = X then l else _))
      rw [if_pos rfl, if_pos rfl]
    · rw [pk_un c, h.2.2 X h0 h1]
      show _ = if _ then nI ((if X = T then S else b.2.2.1 X) * 4 + (if X = T then l else b.2.2.2 X)) else _
      rw [if_neg c, if_neg c]
      by_cases d : inb b X = true
      · rw [if_pos d, if_pos (inb_push.mpr (Or.inr d))]
      · rw [if_neg d, if_neg (fun q => (inb_push.mp q).elim c d)]
theorem sp_knows {b : BS} {size : Int32} {from_ queue : Nat → Int32} {T : Nat} {Q : Int32 → Prop} (hb : BOK b) (h : RC b size from_ queue) (h0 : 0 < T) (h1 : T < 4096) (hq : Q (if inb b T = true then nI 1 else nI 0)) : wp_X9_knows from_ (nI T) Q := by
  unfold wp_X9_knows
  refine b_F (nI_ge h0 (by omega)) (b_F (nI_ge h1 (by omega)) ⟨vin h1 (by omega), ?_⟩)
  rw [nI_clamp (by omega), h.2.2 T h0 h1]
  by_cases c : inb b T = true
  · rw [if_pos c] at hq ⊢
    obtain ⟨i, hi, e⟩ := inb_iff.mp c
    have := hb.1 i hi
    rw [e] at this
    exact b_F (fun q => by have := (nI_eq (by omega) (by omega)).mp q; omega) hq
  · rw [if_neg c] at hq ⊢
    exact b_T rfl hq
def WN (x : Int32) (w : Nat → Bool) : Prop := ∀ T, 0 < T → T < 4096 → ∀ Q : Int32 → Prop, Q (if w T = true then nI 1 else nI 0) → wp_X7_isWanted (nI T) x Q
theorem sp_isOne {T : Nat} {Q : Int32 → Prop} (h0 : 0 < T) (h1 : T < 4096) (h : Q (if pop T = 1 then nI 1 else nI 0)) : wp_X7_isOne (nI T) Q := by
  unfold wp_X7_isOne
  refine b_F (nI_ge h0 (by omega)) ?_
  rw [pk_sub (by omega), nI_and]
  have hle : T &&& (T - 1) ≤ T := Nat.and_le_left
  refine b_ne (by omega) (by omega) (fun c => ?_) (fun c => ?_)
  · rw [if_neg (fun e => c ((one_pop T h1).1.mpr e).2)] at h; exact h
  · rw [if_pos ((one_pop T h1).1.mp ⟨h0, c⟩)] at h; exact h
theorem WN0 : WN (nI 0) (fun T => decide (pop T = 1)) := fun T h0 h1 Q h => by
  unfold wp_X7_isWanted
  refine b_nF rfl (sp_isOne h0 h1 ?_)
  by_cases c : pop T = 1
  · rw [if_pos c]; rw [if_pos (decide_eq_true c)] at h; exact ⟨Or.inr rfl, h⟩
  · rw [if_neg c]; rw [if_neg (by simpa using c)] at h; exact ⟨Or.inl rfl, h⟩
theorem WNv {v : Nat} (hv : 0 < v) (hv2 : v < 2 ^ 31) : WN (nI v) (fun T => decide (T = v)) := fun T h0 h1 Q h => by
  unfold wp_X7_isWanted
  refine b_nT (fun q => by have := (nI_eq hv2 (by omega)).mp q; omega) (b_ne (by omega) hv2 (fun c => ?_) (fun c => ?_))
  · rw [if_neg (by simpa using c)] at h; exact h
  · rw [if_pos (decide_eq_true c)] at h; exact h
theorem WNm : WN (-1) (fun _ => false) := fun T h0 h1 Q h => by
  unfold wp_X7_isWanted
  exact b_nT (m1_nI (by omega)) (b_nT (nI_m1 (by omega)) h)
theorem sp_lookFrom {n k S i : Nat} {mv low high : Nat → Int32} {b : BS} {x2 size : Int32} {from_ queue : Nat → Int32} {w : Nat → Bool} {Q : Int32 → Int32 → (Nat → Int32) → (Nat → Int32) → Prop} (hn : n ≤ 12) (hk : k ≤ 4) (hm : MV n k mv) (ht : TB n k mv low high) (hb : BOK b) (hbl : BL (2 ^ n) b) (hi : i < b.2.1) (hS : b.1 i = S) (hw : WN x2 w) (hr : RC b size from_ queue)
    (h : ∀ from' queue', BOK (blet (stp n mv) w S k k b).2 → BL (2 ^ n) (blet (stp n mv) w S k k b).2 → RC (blet (stp n mv) w S k k b).2 (nI (blet (stp n mv) w S k k b).2.2.1) from' queue' → Q (nI (blet (stp n mv) w S k k b).1) (nI (blet (stp n mv) w S k k b).2.2.1) from' queue') : wp_X7_lookFrom size (nI k) low high from_ queue (nI S) x2 Q := by
  have h12 : 2 ^ n ≤ 2 ^ 12 := Nat.pow_le_pow_right (by decide) hn
  unfold wp_X7_lookFrom
  refine pk_loop (fun f l (s : Int32 × (Nat → Int32) × (Nat → Int32)) => L_X7_lookFrom_2 (nI k) low high (nI S) x2 Q f (nI l) s.1 s.2.1 s.2.2) (fun l s => ∃ b', BOK b' ∧ BL (2 ^ n) b' ∧ i < b'.2.1 ∧ b'.1 i = S ∧ RC b' s.1 s.2.1 s.2.2 ∧ blet (stp n mv) w S k (k - l) b' = blet (stp n mv) w S k k b) k 0 (size, from_, queue) (Nat.zero_le _) ⟨b, hb, hbl, hi, hS, hr, by rw [Nat.sub_zero]⟩ ?_ ?_
  · rintro f ⟨s1, s2, s3⟩ ⟨b', a1, a2, a3, a4, a5, a6⟩
    show L_X7_lookFrom_2 (nI k) low high (nI S) x2 Q (f + 1) (nI k) s1 s2 s3
    unfold L_X7_lookFrom_2
    refine b_T (nI_le (Nat.le_refl _) (by omega)) ?_
    rw [Nat.sub_self, blet] at a6
    rw [← a6] at h
    have := h s2 s3 a1 a2 ⟨rfl, a5.2.1, a5.2.2⟩
    rw [show s1 = nI b'.2.1 from a5.1]
    exact this
  · rintro f l ⟨s1, s2, s3⟩ hl ⟨b', a1, a2, a3, a4, a5, a6⟩ ih
    show L_X7_lookFrom_2 (nI k) low high (nI S) x2 Q (f + 1) (nI l) s1 s2 s3
    unfold L_X7_lookFrom_2
    refine b_F (nI_ge hl (by omega)) ?_
    have hS0 := a1.1 i a3
    have hSl := a2 i a3
    rw [a4] at hS0 hSl
    refine sp_after hn hk hm ht hS0.1 hSl hl ?_
    rw [blet_at hl] at a6
    have hT : stp n mv S l < 2 ^ n := stp_lt2 hm hn hl
    generalize stp n mv S l = T at a6 hT ⊢
    refine b_eq (by omega) (by omega) (fun c => ?_) (fun c => ?_)
    · rw [if_pos (Or.inl c)] at a6
      unfold J_X7_lookFrom_98
      rw [nI_1']
      exact ih (s1, s2, s3) ⟨b', a1, a2, a3, a4, a5, a6⟩
    · refine sp_knows (size := s1) (queue := s3) a1 a5 (by omega) (by omega) ?_
      by_cases d : inb b' T = true
      · rw [if_pos d]
        rw [if_pos (Or.inr d)] at a6
        refine b_nT ne10 ?_
        unfold J_X7_lookFrom_98
        rw [nI_1']
        exact ih (s1, s2, s3) ⟨b', a1, a2, a3, a4, a5, a6⟩
      · rw [if_neg d]
        rw [if_neg (fun q => q.elim c d)] at a6
        refine b_nF rfl ?_
        have hsz := a1.sz
        rw [show s1 = nI b'.2.1 from a5.1]
        refine b_T (nI_lt (by omega) (by omega)) ?_
        unfold wp_X9_mark
        refine b_F (nI_ge (by omega) (by omega)) (b_F (nI_ge (by omega) (by omega)) ⟨vin (by omega) (by omega), vin (by omega) (by omega), ?_⟩)
        rw [nI_clamp (by omega), nI_clamp (by omega), pk_mul, nI_add, nI_add]
        have hp := a1.push (S := S) (l := l) (T := T) (by omega) (by omega) (by cases e : inb b' T; rfl; exact absurd e d) a3 a4 (by omega)
        have hrp := a5.push (T := T) (S := S) (l := l)
        refine hw T (by omega) (by omega) _ ?_
        by_cases cw : w T = true
        · rw [if_pos cw] at a6 ⊢
          refine b_F ne10 ?_
          rw [← a6] at h
          exact h _ _ hp (a2.push hT) hrp
        · rw [if_neg cw] at a6 ⊢
          refine b_T rfl ?_
          unfold J_X7_lookFrom_98
          rw [nI_1']
          exact ih (_, _, _) ⟨_, hp, a2.push hT, Nat.lt_succ_of_lt a3, (bpush_old a3).trans a4, hrp, a6⟩
theorem sp_begin {S : Nat} {c : Nat → Int32} {Q : (Nat → Int32) → Prop} (h0 : 0 < S) (h1 : S < 4096) (h : ∀ from', (∀ T, 0 < T → T < 4096 → from' T = if T = S then nI 1 else nI 0) → Q from') : wp_X9_begin c (nI S) Q := by
  unfold wp_X9_begin
  refine sp_fill (by omega) ?_
  refine b_F (nI_ge h0 (by omega)) (b_F (nI_ge h1 (by omega)) ⟨vin h1 (by omega), ?_⟩)
  rw [nI_clamp (by omega)]
  refine h _ (fun T a b => ?_)
  by_cases e : T = S
  · subst e; rw [pk_us, if_pos rfl]
  · rw [pk_un e, if_neg e]; exact if_pos b
theorem RC.start {S : Nat} {from_ queue : Nat → Int32} (h : ∀ T, 0 < T → T < 4096 → from_ T = if T = S then nI 1 else nI 0) : RC (b0 S) (nI 1) from_ (upd queue 0 (nI S)) := by
  refine ⟨rfl, fun i hi => ?_, fun T a b => ?_⟩
  · have : i = 0 := by have : i < 1 := hi; omega
    subst this
    rw [pk_us]; rfl
  · rw [h T a b]
    by_cases e : T = S
    · rw [if_pos e, if_pos (inb_iff.mpr ⟨0, by show 0 < 1; omega, e.symm⟩)]; rfl
    · rw [if_neg e, if_neg (fun q => by
        obtain ⟨i, hi, e2⟩ := inb_iff.mp q
        have : i = 0 := by have : i < 1 := hi; omega
        subst this
        exact e e2.symm)]
theorem sp_look {n k S : Nat} {mv low high : Nat → Int32} {c1 c2 x3 : Int32} {from_ queue : Nat → Int32} {w : Nat → Bool} {Q : Int32 → Int32 → Int32 → (Nat → Int32) → (Nat → Int32) → (Nat → Int32) → (Nat → Int32) → Prop} (hn : n ≤ 12) (hk : k ≤ 4) (hm : MV n k mv) (hz : TZ low high) (hS : 0 < S) (hS2 : S < 2 ^ n) (hw : WN x3 w)
    (h : ∀ low' high' from' queue', TZ low' high' → BOK (bfs (stp n mv) w k S).2 → RC (bfs (stp n mv) w k S).2 (nI (bfs (stp n mv) w k S).2.2.1) from' queue' → Q (nI (bfs (stp n mv) w k S).1) (nI (bfs (stp n mv) w k S).2.2.1) (nI k) low' high' from' queue') : wp_X7_look c1 c2 low high from_ queue (nI n) (nI k) mv (nI S) x3 Q := by
  have h12 : 2 ^ n ≤ 2 ^ 12 := Nat.pow_le_pow_right (by decide) hn
  unfold wp_X7_look
  refine sp_load hn hk hm hz (fun low' high' ht hz' => sp_begin hS (by omega) (fun from' hf => ⟨vin (by omega) (by omega), ?_⟩))
  rw [nI_clamp (by omega)]
  have hst := RC.start (queue := queue) hf
  refine hw S hS (by omega) _ ?_
  unfold bfs at h
  by_cases cw : w S = true
  · rw [if_pos cw] at h ⊢
    exact b_F ne10 (h _ _ _ _ hz' (BOK.start hS (by omega)) hst)
  · rw [if_neg cw] at h ⊢
    refine b_T rfl ?_
    generalize hR : bout (stp n mv) w k 4096 0 (b0 S) = R at h
    refine loop_m (fun f (s : Nat × Int32 × (Nat → Int32) × (Nat → Int32)) => L_X7_look_41 (nI k) low' high' x3 Q f (nI s.1) s.2.1 s.2.2.1 s.2.2.2) (fun s => ∃ b', BOK b' ∧ BL (2 ^ n) b' ∧ s.1 ≤ b'.2.1 ∧ RC b' s.2.1 s.2.2.1 s.2.2.2 ∧ bout (stp n mv) w k (4096 - s.1) s.1 b' = R) (fun s => 4096 - s.1) ?_ (0, nI 1, from', upd queue 0 (nI S)) ⟨b0 S, BOK.start hS (by omega), fun i hi => by
      have : i = 0 := by have : i < 1 := hi; omega
      subst this
      exact hS2, Nat.zero_le _, hst, hR⟩
    rintro f ⟨i, s1, s2, s3⟩ ⟨b', a1, a2, a3, a4, a5⟩ ih
    show L_X7_look_41 (nI k) low' high' x3 Q (f + 1) (nI i) s1 s2 s3
    have hsz := a1.sz
    have a3' : i ≤ b'.2.1 := a3
    have a4 : RC b' s1 s2 s3 := a4
    have a5' : bout (stp n mv) w k (4096 - i) i b' = R := a5
    rw [bout_at (by omega)] at a5'
    unfold L_X7_look_41
    rw [show s1 = nI b'.2.1 from a4.1]
    refine b_le (by omega) (by omega) (fun c => ?_) (fun c => ?_)
    · rw [if_neg (by omega)] at a5'
      rw [← a5'] at h
      exact h _ _ _ _ hz' a1 ⟨rfl, a4.2⟩
    · have c' : i < b'.2.1 := by omega
      rw [if_pos c'] at a5'
      refine b_F (nI_ge (by omega) (by omega)) ⟨vin (by omega) (by omega), ?_⟩
      rw [nI_clamp (by omega), a4.2.1 i c']
      refine sp_lookFrom hn hk hm ht a1 a2 c' rfl hw ⟨rfl, a4.2⟩ (fun f' q' g1 g2 g3 => ?_)
      have hlt := (blet_ok (w := w) hk (fun S l hl => (Nat.lt_of_lt_of_le (stp_lt2 hm hn hl) (by omega) : stp n mv S l < 4096)) k b' (Nat.le_refl _) a1 c' rfl).2
      have hszR := g1.sz
      by_cases z : (blet (stp n mv) w (b'.1 i) k k b').1 = 0
      · rw [z]
        rw [if_pos z] at a5'
        refine b_T rfl ?_
        rw [nI_1']
        refine ih (i + 1, _, _, _) ⟨_, g1, g2, ?_, g3, a5'⟩ ?_
        · show i + 1 ≤ _; omega
        · show 4096 - (i + 1) < 4096 - i; omega
      · rw [if_neg z] at a5'
        have hr31 : (blet (stp n mv) w (b'.1 i) k k b').1 < 4096 := blet_r (fun l hl => (Nat.lt_of_lt_of_le (stp_lt2 hm hn hl) (by omega) : stp n mv (b'.1 i) l < 4096)) k b' (Nat.le_refl _)
        refine b_F (fun q => z ((nI_eq (by omega) (by omega)).mp q)) ?_
        rw [← a5'] at h
        exact h _ _ _ _ hz' g1 g3
