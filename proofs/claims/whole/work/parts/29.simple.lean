/-! machines made and told: machine, ring, move, light, price, share, about, moveOf, the word's own calls -/
theorem RSt.add {N : Nat} {n k : Nat → Nat} {mv li pr sh : Nat → Nat → Int32} {ma : Int32} {st le mo lt pc sr st' le' mo' lt' pc' sr' : Nat → Int32} {a b : Nat} {mv' li' pr' sh' : Nat → Int32} (h : RSt N n k mv li pr sh ma st le mo lt pc sr) (hN : N < 6) (ho : OKM a b mv' li' pr' sh')
    (e1 : st' = upd st N (nI a)) (e2 : le' = upd le N (nI b)) (e3 : ∀ i, i < 48 * N → mo' i = mo i) (e4 : ∀ i, i < 12 * N → lt' i = lt i) (e5 : ∀ i, i < 4 * N → pc' i = pc i ∧ sr' i = sr i)
    (f1 : RMv a b N mo' mv') (f2 : ∀ q, q < a → lt' (12 * N + q) = li' q) (f3 : ∀ l, l < b → pc' (4 * N + l) = pr' l ∧ sr' (4 * N + l) = sh' l) :
    RSt (N + 1) (va_up n N a) (va_up k N b) (va_up mv N mv') (va_up li N li') (va_up pr N pr') (va_up sh N sh') (nI (N + 1)) st' le' mo' lt' pc' sr' := by
  refine ⟨by omega, rfl, fun j hj => ?_⟩
  by_cases c : j = N
  · subst c
    simp only [va_up, if_true]
    rw [e1, e2]
    exact ⟨ho, pk_us, pk_us, f1, f2, f3⟩
  · have hj2 : j < N := by omega
    obtain ⟨g1, g2, g3, g4, g5, g6⟩ := h.2.2 j hj2
    obtain ⟨⟨b1, b2, b3, b4⟩, -⟩ := id g1
    simp only [va_up, if_neg c]
    refine ⟨g1, by rw [e1, pk_un c]; exact g2, by rw [e2, pk_un c]; exact g3, fun q l hq hl => ?_, fun q hq => ?_, fun l hl => ?_⟩
    · rw [e3 _ (by omega)]; exact g4 q l hq hl
    · rw [e4 _ (by omega)]; exact g5 q hq
    · rw [(e5 _ (by omega)).1, (e5 _ (by omega)).2]; exact g6 l hl
theorem sp_begins {N : Nat} {a b c x1 x2 : Int32} {st le mo lt pc sr : Nat → Int32} {Q : Int32 → Int32 → (Nat → Int32) → (Nat → Int32) → (Nat → Int32) → (Nat → Int32) → (Nat → Int32) → (Nat → Int32) → Prop} (hN : N < 6)
    (h : ∀ mo' lt' pc' sr', (∀ i, mo' i = if 48 * N ≤ i ∧ i < 48 * N + 48 then -1 else mo i) → (∀ i, lt' i = if 12 * N ≤ i ∧ i < 12 * N + 12 then nI 0 else lt i) → (∀ i, pc' i = if 4 * N ≤ i ∧ i < 4 * N + 4 then nI 1 else pc i) → (∀ i, sr' i = if 4 * N ≤ i ∧ i < 4 * N + 4 then nI 1 else sr i) → Q (nI N) (nI (N + 1)) (upd st N x1) (upd le N x2) mo' lt' pc' sr') : wp_X12_begins (nI N) a b c st le mo lt pc sr x1 x2 Q := by
  unfold wp_X12_begins
  refine b_nT (fun q => by have := (nI_eq (by omega) (by omega)).mp q; omega) ⟨vin hN (by omega), vin hN (by omega), ?_⟩
  rw [nI_clamp (by omega)]
  refine pk_loop (fun f i (s : Nat → Int32) => L_X12_begins_34 (nI N) (upd st N x1) (upd le N x2) lt pc sr (nI N) Q f (nI i) s) (fun i s => ∀ d, s d = if 48 * N ≤ d ∧ d < 48 * N + i then -1 else mo d) 48 0 mo (by omega) (fun d => by rw [if_neg (by omega)]) ?_ ?_
  · rintro f mo' hmo
    show L_X12_begins_34 (nI N) (upd st N x1) (upd le N x2) lt pc sr (nI N) Q (f + 1) (nI 48) mo'
    unfold L_X12_begins_34
    refine b_T (nI_le (by omega) (by omega)) ?_
    unfold J_X12_begins_60
    refine pk_loop (fun f i (s : Nat → Int32) => L_X12_begins_63 (nI N) (upd st N x1) (upd le N x2) mo' pc sr (nI N) Q f (nI i) s) (fun i s => ∀ d, s d = if 12 * N ≤ d ∧ d < 12 * N + i then nI 0 else lt d) 12 0 lt (by omega) (fun d => by rw [if_neg (by omega)]) ?_ ?_
    · rintro f lt' hlt
      show L_X12_begins_63 (nI N) (upd st N x1) (upd le N x2) mo' pc sr (nI N) Q (f + 1) (nI 12) lt'
      unfold L_X12_begins_63
      refine b_T (nI_le (by omega) (by omega)) ?_
      unfold J_X12_begins_89
      refine pk_loop (fun f i (s : (Nat → Int32) × (Nat → Int32)) => L_X12_begins_92 (nI N) (upd st N x1) (upd le N x2) mo' lt' (nI N) Q f (nI i) s.1 s.2) (fun i s => (∀ d, s.1 d = if 4 * N ≤ d ∧ d < 4 * N + i then nI 1 else pc d) ∧ ∀ d, s.2 d = if 4 * N ≤ d ∧ d < 4 * N + i then nI 1 else sr d) 4 0 (pc, sr) (by omega) ⟨fun d => by rw [if_neg (by omega)], fun d => by rw [if_neg (by omega)]⟩ ?_ ?_
      · rintro f ⟨pc', sr'⟩ ⟨h1, h2⟩
        show L_X12_begins_92 (nI N) (upd st N x1) (upd le N x2) mo' lt' (nI N) Q (f + 1) (nI 4) pc' sr'
        unfold L_X12_begins_92
        refine b_T (nI_le (by omega) (by omega)) ?_
        unfold J_X12_begins_128
        rw [nI_1']
        exact h _ _ _ _ hmo hlt h1 h2
      · rintro f i ⟨s1, s2⟩ hi ⟨h1, h2⟩ ih
        have h1 : ∀ d, s1 d = if 4 * N ≤ d ∧ d < 4 * N + i then nI 1 else pc d := h1
        have h2 : ∀ d, s2 d = if 4 * N ≤ d ∧ d < 4 * N + i then nI 1 else sr d := h2
        show L_X12_begins_92 (nI N) (upd st N x1) (upd le N x2) mo' lt' (nI N) Q (f + 1) (nI i) s1 s2
        unfold L_X12_begins_92
        rw [pk_mul, nI_add, nI_clamp (by omega), nI_1']
        refine b_F (nI_ge hi (by omega)) ⟨vin (by omega) (by omega), vin (by omega) (by omega), ih (_, _) ⟨fun d => ?_, fun d => ?_⟩⟩
        · show upd s1 _ _ d = _
          by_cases e : d = 4 * N + i
          · subst e; rw [pk_us, if_pos (by omega)]
          · rw [pk_un e, h1 d]
            by_cases g : 4 * N ≤ d ∧ d < 4 * N + i
            · rw [if_pos g, if_pos (by omega)]
            · rw [if_neg g, if_neg (by omega)]
        · show upd s2 _ _ d = _
          by_cases e : d = 4 * N + i
          · subst e; rw [pk_us, if_pos (by omega)]
          · rw [pk_un e, h2 d]
            by_cases g : 4 * N ≤ d ∧ d < 4 * N + i
            · rw [if_pos g, if_pos (by omega)]
            · rw [if_neg g, if_neg (by omega)]
    · rintro f i s hi hs ih
      show L_X12_begins_63 (nI N) (upd st N x1) (upd le N x2) mo' pc sr (nI N) Q (f + 1) (nI i) s
      unfold L_X12_begins_63
      rw [pk_mul, nI_add, nI_clamp (by omega), nI_1']
      refine b_F (nI_ge hi (by omega)) ⟨vin (by omega) (by omega), ih _ (fun d => ?_)⟩
      by_cases e : d = 12 * N + i
      · subst e; rw [pk_us, if_pos (by omega)]
      · rw [pk_un e, hs d]
        by_cases g : 12 * N ≤ d ∧ d < 12 * N + i
        · rw [if_pos g, if_pos (by omega)]
        · rw [if_neg g, if_neg (by omega)]
  · rintro f i s hi hs ih
    show L_X12_begins_34 (nI N) (upd st N x1) (upd le N x2) lt pc sr (nI N) Q (f + 1) (nI i) s
    unfold L_X12_begins_34
    rw [pk_mul, nI_add, nI_clamp (by omega), nI_1']
    refine b_F (nI_ge hi (by omega)) ⟨vin (by omega) (by omega), ih _ (fun d => ?_)⟩
    by_cases e : d = 48 * N + i
    · subst e; rw [pk_us, if_pos (by omega)]
    · rw [pk_un e, hs d]
      by_cases g : 48 * N ≤ d ∧ d < 48 * N + i
      · rw [if_pos g, if_pos (by omega)]
      · rw [if_neg g, if_neg (by omega)]
theorem sp_lead {n k q l : Nat} {mv : Nat → Int32} {x : Int32} {Q : (Nat → Int32) → Prop} (hn : n ≤ 12) (hk : k ≤ 4) (hq : q < n) (hl : l < k) (hx : x = -1 ∨ ∃ t, t < n ∧ x = nI t) (h : Q (upd mv (q * 4 + l) x)) : wp_X4_lead (nI n) (nI k) mv (nI q) (nI l) x Q := by
  unfold wp_X4_lead
  refine sp_hasState1 hn hq (b_F ne10 (sp_hasLetter1 hk hl (b_F ne10 (sp_hasState hn (fun t ht e => b_F ne10 ?_) (fun hno => b_T rfl ?_)))))
  · unfold J_X4_lead_38
    rw [pk_mul, nI_add, nI_clamp (by omega)]
    exact ⟨vin (by omega) (by omega), h⟩
  · rcases hx with e | e
    · subst e
      unfold J_X4_lead_38
      rw [pk_mul, nI_add, nI_clamp (by omega)]
      exact ⟨vin (by omega) (by omega), h⟩
    · exact absurd e hno
theorem sp_mono_hasState {a b x : Int32} {Q Q' : Int32 → Prop} (h : wp_X4_hasState a b x Q) (hq : ∀ r, Q r → Q' r) : wp_X4_hasState a b x Q' := by
  unfold wp_X4_hasState at h ⊢
  exact ⟨fun c => hq _ (h.1 c), fun c => ⟨fun d => hq _ ((h.2 c).1 d), fun d => ⟨fun e => hq _ (((h.2 c).2 d).1 e), fun e => hq _ (((h.2 c).2 d).2 e)⟩⟩⟩
theorem sp_mono_hasLetter {a b x : Int32} {Q Q' : Int32 → Prop} (h : wp_X4_hasLetter a b x Q) (hq : ∀ r, Q r → Q' r) : wp_X4_hasLetter a b x Q' := by
  unfold wp_X4_hasLetter at h ⊢
  exact ⟨fun c => hq _ (h.1 c), fun c => ⟨fun d => hq _ ((h.2 c).1 d), fun d => ⟨fun e => hq _ (((h.2 c).2 d).1 e), fun e => hq _ (((h.2 c).2 d).2 e)⟩⟩⟩
theorem sp_mono_lead {a b x y z : Int32} {mv : Nat → Int32} {Q Q' : (Nat → Int32) → Prop} (h : wp_X4_lead a b mv x y z Q) (hq : ∀ r, Q r → Q' r) : wp_X4_lead a b mv x y z Q' := by
  unfold wp_X4_lead at h ⊢
  refine sp_mono_hasState h (fun r h => ⟨fun c => hq _ (h.1 c), fun c => sp_mono_hasLetter (h.2 c) (fun r h => ⟨fun c => hq _ (h.1 c), fun c => sp_mono_hasState (h.2 c) (fun r h => ⟨fun c => ?_, fun c => ?_⟩)⟩)⟩)
  · have := h.1 c
    unfold J_X4_lead_38 at this ⊢
    exact ⟨this.1, hq _ this.2⟩
  · have := h.2 c
    unfold J_X4_lead_38 at this ⊢
    exact ⟨this.1, hq _ this.2⟩
section PR
variable {N : Nat} {n k : Nat → Nat} {mv li pr sh : Nat → Nat → Int32} {ma : Int32} {st le mo lt pc sr : Nat → Int32} {j : Nat}
variable {made wl wl2 qd hp x1 x2 x3 x4 : Int32} {mch : Nat → Option Nat} {row word : Nat → Int32}
theorem lt1 {x : Int32} {a : Nat} (h : ¬ x < nI a) (ha : 0 < a) (ha2 : a < 2 ^ 31) : ∃ i, a ≤ i ∧ i < 2 ^ 31 ∧ x = nI i := by
  have d0 : ¬ x < nI 0 := fun q => h (by
    rw [Int32.lt_iff_toInt_lt] at q ⊢
    rw [nI_toInt (by omega)] at q ⊢
    omega)
  obtain ⟨i, hi, rfl⟩ := nI_of (x := x) d0
  exact ⟨i, by rcases Nat.lt_or_ge i a with q | q; exact absurd ((nI_ltI hi ha2).mpr q) h; exact q, hi, rfl⟩
theorem OKM.new {a b : Nat} (ha : 1 ≤ a ∧ a ≤ 12) (hb : 1 ≤ b ∧ b ≤ 4) {mv' : Nat → Int32} (hm : MV a b mv') : OKM a b mv' (fun _ => 0) (fun j => if j < 4 then nI 1 else 0) (fun j => if j < 4 then nI 1 else 0) :=
  ⟨⟨ha.1, ha.2, hb.1, hb.2⟩, hm, fun _ _ => ⟨0, by omega, rfl⟩, fun l hl => ⟨1, by omega, by omega, if_pos (by omega)⟩, fun l hl => ⟨1, by omega, if_pos (by omega)⟩⟩
theorem pr_machine_a (h : RSt N n k mv li pr sh ma st le mo lt pc sr) (hN : N < 6) {a b : Nat} (ha : 1 ≤ a ∧ a ≤ 12) (hb : 1 ≤ b ∧ b ≤ 4) : wp_X11_machine_a (nI N) mch (nI a) (nI b) (fun r ad made' mch' s l mv' li' pr' sh' => made' = nI (N + 1) ∧ mch' = va_up mch N (some ad) ∧ s = nI a ∧ l = nI b ∧ wp_X12_machine ma wl2 qd hp st le mo lt pc sr (nI a) (nI b) (fun r2 ma' st' le' mo' lt' pc' sr' => r = r2 ∧ RSt (N + 1) (va_up n N a) (va_up k N b) (va_up mv N mv') (va_up li N li') (va_up pr N pr') (va_up sh N sh') ma' st' le' mo' lt' pc' sr')) := by
  unfold wp_X11_machine_a
  refine b_F (nI_nlt (by omega) (by omega)) (b_F (nI_nlt (by omega) (by omega)) (b_F (nI_nlt (by omega) (by omega)) (b_T (nI_le (by omega) (by omega)) (b_T (nI_lt hN (by omega)) (fun ad => ?_)))))
  unfold wp_X4_init
  refine sp_fill (by omega) (sp_fill (by omega) (sp_fill (by omega) ?_))
  unfold wp_X11_add
  refine b_T (nI_lt hN (by omega)) ⟨vin hN (by omega), ?_⟩
  rw [nI_clamp (by omega), nI_1', pk_sub (by omega), Nat.add_sub_cancel]
  refine ⟨rfl, rfl, rfl, rfl, ?_⟩
  unfold wp_X12_machine
  refine sp_in (fun c => absurd c ?_) (fun _ _ => b_F ne10 (sp_in (fun c => absurd c ?_) (fun _ _ => b_nT ne10 ?_)))
  · exact fun c => c.elim (nI_nlt (by omega) (by omega)) (nI_nlt (by omega) (by omega))
  · exact fun c => c.elim (nI_nlt (by omega) (by omega)) (nI_nlt (by omega) (by omega))
  · rw [h.2.1]
    refine sp_begins hN (fun mo' lt' pc' sr' z1 z2 z3 z4 => ⟨rfl, ?_⟩)
    refine h.add hN (OKM.new ha hb (fun q l hq hl => Or.inl (if_pos (by omega)))) rfl rfl (fun i hi => by rw [z1, if_neg (by omega)]) (fun i hi => by rw [z2, if_neg (by omega)]) (fun i hi => ⟨by rw [z3, if_neg (by omega)], by rw [z4, if_neg (by omega)]⟩) (fun q l hq hl => ?_) (fun q hq => ?_) (fun l hl => ⟨?_, ?_⟩)
    · rw [z1, if_pos (by omega), if_pos (by omega)]
    · rw [z2, if_pos (by omega)]; rfl
    · rw [z3, if_pos (by omega), if_pos (by omega)]
    · rw [z4, if_pos (by omega), if_pos (by omega)]
theorem pr_machine_f (h : RSt N n k mv li pr sh ma st le mo lt pc sr) (hno : ¬ (N < 6 ∧ (∃ a, 1 ≤ a ∧ a ≤ 12 ∧ x1 = nI a) ∧ ∃ b, 1 ≤ b ∧ b ≤ 4 ∧ x2 = nI b)) : wp_X11_machine_f (nI N) mch x1 x2 (fun r made' mch' => made' = nI N ∧ mch' = mch ∧ wp_X12_machine ma wl2 qd hp st le mo lt pc sr x1 x2 (fun r2 ma' st' le' mo' lt' pc' sr' => r = r2 ∧ RSt N n k mv li pr sh ma' st' le' mo' lt' pc' sr')) := by
  have hN6 := h.1
  have bad : (x1 < nI 1 ∨ nI 12 < x1) → wp_X12_machine ma wl2 qd hp st le mo lt pc sr x1 x2 (fun r2 ma' st' le' mo' lt' pc' sr' => -2 = r2 ∧ RSt N n k mv li pr sh ma' st' le' mo' lt' pc' sr') := fun c => by
    unfold wp_X12_machine
    exact sp_in (fun _ => b_T rfl ⟨rfl, h⟩) (fun c1 c2 => absurd c (fun q => q.elim c1 c2))
  have bad2 : ¬ x1 < nI 1 → ¬ nI 12 < x1 → (x2 < nI 1 ∨ nI 4 < x2) → wp_X12_machine ma wl2 qd hp st le mo lt pc sr x1 x2 (fun r2 ma' st' le' mo' lt' pc' sr' => -2 = r2 ∧ RSt N n k mv li pr sh ma' st' le' mo' lt' pc' sr') := fun a1 a2 c => by
    unfold wp_X12_machine
    exact sp_in (fun q => absurd q (fun q => q.elim a1 a2)) (fun _ _ => b_F ne10 (sp_in (fun _ => b_nF rfl ⟨rfl, h⟩) (fun c1 c2 => absurd c (fun q => q.elim c1 c2))))
  unfold wp_X11_machine_f
  refine b_if (fun c => ⟨rfl, rfl, bad (Or.inl c)⟩) (fun c1 => b_if (fun c => ⟨rfl, rfl, bad (Or.inr c)⟩) (fun c2 => b_if (fun c => ⟨rfl, rfl, bad2 c1 c2 (Or.inl c)⟩) (fun c3 => b_if (fun c4 => ?_) (fun c4 => ⟨rfl, rfl, bad2 c1 c2 (Or.inr ?_)⟩))))
  · obtain ⟨a, ha, ha2, rfl⟩ := lt1 c1 (by omega) (by omega)
    obtain ⟨b, hb, hb2, rfl⟩ := lt1 c3 (by omega) (by omega)
    have a12 : ¬ 12 < a := fun q => c2 ((nI_ltI (by omega) ha2).mpr q)
    have b4 := (nI_leI hb2 (by omega)).mp c4
    have e6 : ¬ N < 6 := fun q => hno ⟨q, ⟨a, ha, by omega, rfl⟩, ⟨b, hb, b4, rfl⟩⟩
    have e6 : N = 6 := by omega
    refine b_F (nI_nlt (by omega) (by omega)) ⟨rfl, rfl, ?_⟩
    unfold wp_X12_machine
    refine sp_in (fun q => absurd q (fun q => q.elim c1 c2)) (fun _ _ => b_F ne10 (sp_in (fun q => absurd q (fun q => q.elim c3 (nI_nlt b4 (by omega)))) (fun _ _ => b_nT ne10 ?_)))
    unfold wp_X12_begins
    have hma := h.2.1
    exact b_nF (by rw [hma, e6]) ⟨rfl, h⟩
  · rw [Int32.lt_iff_toInt_lt]
    rw [Int32.le_iff_toInt_le] at c4
    omega
/-- the moves of a ring -/
def RG (a : Nat) (mv : Nat → Int32) : Prop := ∀ q, q < a → mv (q * 4) = nI ((q + 1) % a) ∧ mv (q * 4 + 1) = nI (if q + 1 = a then 0 else q)
theorem RG.mvs {a : Nat} {m : Nat → Int32} (h : RG a m) (ha : 2 ≤ a) : MV a 2 m := fun q l hq hl => by
  obtain ⟨h1, h2⟩ := h q hq
  rcases (show l = 0 ∨ l = 1 by omega) with e | e
  · subst e; exact Or.inr ⟨_, Nat.mod_lt _ (by omega), h1⟩
  · subst e; refine Or.inr ⟨_, ?_, h2⟩; by_cases c : q + 1 = a
    · rw [if_pos c]; omega
    · rw [if_neg c]; exact hq
theorem pr_ring_a (h : RSt N n k mv li pr sh ma st le mo lt pc sr) (hN : N < 6) {a : Nat} (ha : 2 ≤ a ∧ a ≤ 12) : wp_X11_ring_a (nI N) mch (nI a) (fun r ad made' mch' s l mv' li' pr' sh' => made' = nI (N + 1) ∧ mch' = va_up mch N (some ad) ∧ s = nI a ∧ l = nI 2 ∧ wp_X12_ring ma wl2 qd hp st le mo lt pc sr (nI a) (fun r2 ma' st' le' mo' lt' pc' sr' => r = r2 ∧ RSt (N + 1) (va_up n N a) (va_up k N 2) (va_up mv N mv') (va_up li N li') (va_up pr N pr') (va_up sh N sh') ma' st' le' mo' lt' pc' sr')) := by
  unfold wp_X11_ring_a
  refine b_F (nI_nlt (by omega) (by omega)) (b_T (nI_le (by omega) (by omega)) (b_T (nI_lt hN (by omega)) (fun ad => ?_)))
  unfold wp_X4_init
  refine sp_fill (by omega) (sp_fill (by omega) (sp_fill (by omega) ?_))
  refine pk_loop (fun f i (s : Nat → Int32) => L_X11_ring_a_38 ad (nI N) mch (nI a) (nI 2) (fun _ => 0) (fun j => if j < 4 then nI 1 else (fun _ => 0) j) (fun j => if j < 4 then nI 1 else (fun _ => 0) j) (nI a) _ f (nI i) s) (fun i s => ∀ q, q < i → s (q * 4) = nI ((q + 1) % a) ∧ s (q * 4 + 1) = nI (if q + 1 = a then 0 else q)) a 0 (fun j => if j < 48 then -1 else (fun _ => 0) j) (Nat.zero_le _) (fun q hq => absurd hq (by omega)) ?_ ?_
  · rintro f m hm
    show L_X11_ring_a_38 ad (nI N) mch (nI a) (nI 2) _ _ _ (nI a) _ (f + 1) (nI a) m
    unfold L_X11_ring_a_38
    refine b_T (nI_le (Nat.le_refl _) (by omega)) ?_
    unfold J_X11_ring_a_97
    unfold wp_X11_add
    refine b_T (nI_lt hN (by omega)) ⟨vin hN (by omega), ?_⟩
    rw [nI_clamp (by omega), nI_1', pk_sub (by omega), Nat.add_sub_cancel]
    refine ⟨rfl, rfl, rfl, rfl, ?_⟩
    have hrg : RG a m := hm
    unfold wp_X12_ring
    refine sp_in (fun c => absurd c ?_) (fun _ _ => b_nT ne10 ?_)
    · exact fun c => c.elim (nI_nlt (by omega) (by omega)) (nI_nlt (by omega) (by omega))
    · rw [h.2.1]
      refine sp_begins hN (fun mo' lt' pc' sr' z1 z2 z3 z4 => ?_)
      refine pk_loop (fun f i (s : Nat → Int32) => L_X12_ring_22 (nI (N + 1)) (upd st N (nI a)) (upd le N (nI 2)) lt' pc' sr' (nI a) (nI N) _ f (nI i) s) (fun i s => (∀ d, d < 48 * N → s d = mo d) ∧ ∀ q, q < i → s (48 * N + 4 * q) = nI ((q + 1) % a) ∧ s (48 * N + 4 * q + 1) = nI (if q + 1 = a then 0 else q)) a 0 mo' (Nat.zero_le _) ⟨fun d hd => by rw [z1, if_neg (by omega)], fun q hq => absurd hq (by omega)⟩ ?_ ?_
      · rintro f2 s ⟨u1, u2⟩
        show L_X12_ring_22 (nI (N + 1)) (upd st N (nI a)) (upd le N (nI 2)) lt' pc' sr' (nI a) (nI N) _ (f2 + 1) (nI a) s
        unfold L_X12_ring_22
        refine b_T (nI_le (Nat.le_refl _) (by omega)) ⟨rfl, ?_⟩
        refine h.add hN (OKM.new ⟨by omega, ha.2⟩ ⟨by omega, by omega⟩ (hrg.mvs ha.1)) rfl rfl u1 (fun i hi => by rw [z2, if_neg (by omega)]) (fun i hi => ⟨by rw [z3, if_neg (by omega)], by rw [z4, if_neg (by omega)]⟩) (fun q l hq hl => ?_) (fun q hq => ?_) (fun l hl => ⟨?_, ?_⟩)
        · rcases (show l = 0 ∨ l = 1 by omega) with e | e
          · subst e; exact (u2 q hq).1.trans (hrg q hq).1.symm
          · subst e; exact (u2 q hq).2.trans (hrg q hq).2.symm
        · rw [z2, if_pos (by omega)]; rfl
        · rw [z3, if_pos (by omega), if_pos (by omega)]
        · rw [z4, if_pos (by omega), if_pos (by omega)]
      · rintro f2 i s hi ⟨u1, u2⟩ ih
        show L_X12_ring_22 (nI (N + 1)) (upd st N (nI a)) (upd le N (nI 2)) lt' pc' sr' (nI a) (nI N) _ (f2 + 1) (nI i) s
        unfold L_X12_ring_22
        refine b_F (nI_ge hi (by omega)) (b_F (nI_nlt0 (by omega)) ⟨fun q => by have := (nI_eq (a := a) (b := 0) (by omega) (by omega)).mp q; omega, ?_⟩)
        rw [pk_mul, pk_mul, nI_add, nI_add, nI_add, nI_1', nI_clamp (by omega), pk_rem (by omega) (by omega) (by omega), pk_sub (by omega), Nat.add_zero]
        refine ⟨vin (by omega) (by omega), ?_⟩
        have fin : ∀ v : Nat, v = (if i + 1 = a then 0 else i) → J_X12_ring_69 (L_X12_ring_22 (nI (N + 1)) (upd st N (nI a)) (upd le N (nI 2)) lt' pc' sr' (nI a) (nI N) (fun r4 ma' st' le' mo' lt' pc' sr' => nI N = r4 ∧ RSt (N + 1) (va_up n N a) (va_up k N 2) (va_up mv N m) (va_up li N (fun _ => 0)) (va_up pr N (fun j => if j < 4 then nI 1 else 0)) (va_up sh N (fun j => if j < 4 then nI 1 else 0)) ma' st' le' mo' lt' pc' sr') f2) (nI i) (upd s (48 * N + 4 * i) (nI ((i + 1) % a))) (nI v) (nI (48 * N + 4 * i + 1)) := fun v hv => by
          unfold J_X12_ring_69
          rw [nI_clamp (by omega), nI_1']
          refine ⟨vin (by omega) (by omega), ih _ ⟨fun d hd => ?_, fun q hq => ?_⟩⟩
          · rw [pk_un (by omega), pk_un (by omega)]; exact u1 d hd
          · by_cases c : q = i
            · subst c
              refine ⟨?_, ?_⟩
              · rw [pk_un (by omega), pk_us]
              · rw [pk_us, hv]
            · obtain ⟨v1, v2⟩ := u2 q (by omega)
              refine ⟨?_, ?_⟩
              · rw [pk_un (by omega), pk_un (by omega)]; exact v1
              · rw [pk_un (by omega), pk_un (by omega)]; exact v2
        refine b_ne (by omega) (by omega) (fun c => ?_) (fun c => ?_)
        · exact fin i (by rw [if_neg (by omega)])
        · exact fin 0 (by rw [if_pos (by omega)])
  · rintro f i s hi hs ih
    show L_X11_ring_a_38 ad (nI N) mch (nI a) (nI 2) _ _ _ (nI a) _ (f + 1) (nI i) s
    unfold L_X11_ring_a_38
    refine b_F (nI_ge hi (by omega)) ?_
    rw [pk_sub (by omega)]
    have hmod : (i + 1) % a = if i + 1 = a then 0 else i + 1 := by
      by_cases c : i + 1 = a
      · rw [if_pos c, c, Nat.mod_self]
      · rw [if_neg c, Nat.mod_eq_of_lt (by omega)]
    have fin : ∀ (Q : Int32 → (Nat → Int32) → Prop), (∀ s', (∀ q, q < i + 1 → s' (q * 4) = nI ((q + 1) % a) ∧ s' (q * 4 + 1) = nI (if q + 1 = a then 0 else q)) → Q (nI (i + 1)) s') → ∀ u v : Nat, u = (if i + 1 = a then 0 else i + 1) → v = (if i + 1 = a then 0 else i) → wp_X4_lead (nI a) (nI 2) s (nI i) (nI 0) (nI u) (fun s2 => wp_X4_lead (nI a) (nI 2) s2 (nI i) (nI 1) (nI v) (fun s3 => Q (nI i + nI 1) s3)) := by
      intro Q hQ u v hu hv
      have hu2 : u < a := by rw [hu]; by_cases c : i + 1 = a; rw [if_pos c]; omega; rw [if_neg c]; omega
      have hv2 : v < a := by rw [hv]; by_cases c : i + 1 = a; rw [if_pos c]; omega; rw [if_neg c]; omega
      refine sp_lead ha.2 (by omega) hi (by omega) (Or.inr ⟨u, hu2, rfl⟩) (sp_lead ha.2 (by omega) hi (by omega) (Or.inr ⟨v, hv2, rfl⟩) ?_)
      rw [nI_1']
      refine hQ _ (fun q hq => ?_)
      by_cases c : q = i
      · subst c
        refine ⟨?_, ?_⟩
        · rw [pk_un (by omega), Nat.add_zero, pk_us, hu, hmod]
        · rw [pk_us, hv]
      · obtain ⟨v1, v2⟩ := hs q (by omega)
        refine ⟨?_, ?_⟩
        · rw [pk_un (by omega), pk_un (by omega)]; exact v1
        · rw [pk_un (by omega), pk_un (by omega)]; exact v2
    refine b_ne (by omega) (by omega) (fun c => ?_) (fun c => ?_)
    · unfold J_X11_ring_a_55
      refine b_T rfl ?_
      unfold J_X11_ring_a_72
      rw [nI_1']
      have g := fin _ ih (i + 1) i (by rw [if_neg (by omega)]) (by rw [if_neg (by omega)])
      refine sp_mono_lead g (fun s2 h2 => ?_)
      refine b_T rfl ?_
      unfold J_X11_ring_a_88
      exact h2
    · unfold J_X11_ring_a_55
      refine b_F ne10 ?_
      unfold J_X11_ring_a_72
      have g := fin _ ih 0 0 (by rw [if_pos (by omega)]) (by rw [if_pos (by omega)])
      refine sp_mono_lead g (fun s2 h2 => ?_)
      refine b_F ne10 ?_
      unfold J_X11_ring_a_88
      exact h2
end PR
