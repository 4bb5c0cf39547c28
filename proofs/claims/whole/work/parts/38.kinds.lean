/-! the kinds: the class's reads -/
theorem popf_mono : ∀ (f X Y : Nat), (∀ i, X.testBit i = true → Y.testBit i = true) → popf f X ≤ popf f Y ∧ (popf f X = popf f Y → ∀ i, i < f → X.testBit i = Y.testBit i)
  | 0, _, _, _ => ⟨Nat.le_refl _, fun _ i hi => by omega⟩
  | f + 1, X, Y, h => by
    have h0 : X % 2 ≤ Y % 2 := by
      have := h 0
      rw [Nat.testBit_zero, Nat.testBit_zero, decide_eq_true_iff, decide_eq_true_iff] at this
      omega
    obtain ⟨a, b⟩ := popf_mono f (X / 2) (Y / 2) (fun i hi => by
      rw [← Nat.testBit_succ] at hi ⊢
      exact h (i + 1) hi)
    refine ⟨Nat.add_le_add h0 a, fun e i hi => ?_⟩
    have e2 : X % 2 + popf f (X / 2) = Y % 2 + popf f (Y / 2) := e
    cases i with
    | zero =>
      rw [Nat.testBit_zero, Nat.testBit_zero]
      have : X % 2 = Y % 2 := by omega
      rw [this]
    | succ i =>
      rw [Nat.testBit_succ, Nat.testBit_succ]
      exact b (by omega) i (by omega)
theorem pop_mono {X Y : Nat} (hX : X < 4096) (hY : Y < 4096) (h : ∀ i, X.testBit i = true → Y.testBit i = true) : pop X ≤ pop Y ∧ (pop X = pop Y → X = Y) := by
  obtain ⟨a, b⟩ := popf_mono 12 X Y h
  refine ⟨a, fun e => Nat.eq_of_testBit_eq (fun i => ?_)⟩
  by_cases c : i < 12
  · exact b e i c
  · have h12 : 2 ^ 12 ≤ 2 ^ i := Nat.pow_le_pow_right (by decide) (by omega)
    rw [Nat.testBit_lt_two_pow (Nat.lt_of_lt_of_le hX h12), Nat.testBit_lt_two_pow (Nat.lt_of_lt_of_le hY h12)]
theorem pop_all : ∀ n, n < 13 → pop (2 ^ n - 1) = n := by decide +kernel
theorem pop_full {n X : Nat} (hn : n ≤ 12) (hX : X < 2 ^ n) : pop X = n ↔ X = 2 ^ n - 1 := by
  have h12 : 2 ^ n ≤ 2 ^ 12 := Nat.pow_le_pow_right (by decide) hn
  have hp := Nat.two_pow_pos n
  constructor
  · intro e
    refine (pop_mono (by omega) (by omega) (fun i hi => ?_)).2 (by rw [e, pop_all n (by omega)])
    rw [Nat.testBit_two_pow_sub_one]
    by_cases c : i < n
    · exact decide_eq_true c
    · rw [Nat.testBit_lt_two_pow (Nat.lt_of_lt_of_le hX (Nat.pow_le_pow_right (by decide) (by omega)))] at hi
      cases hi
  · rintro rfl; exact pop_all n (by omega)
def swl (mv : Nat → Int32) (q X : Nat) : Nat → Nat
  | 0 => X
  | l + 1 => if (swl mv q X l).testBit (tg mv q l) = true then swl mv q X l ||| 2 ^ q else swl mv q X l
def sws (mv : Nat → Int32) (k X : Nat) : Nat → Nat
  | 0 => X
  | q + 1 => swl mv q (sws mv k X q) k
def itx (f : Nat → Nat) (X : Nat) : Nat → Nat
  | 0 => X
  | m + 1 => f (itx f X m)
def staysB (mv : Nat → Int32) (k q : Nat) : Bool := allB (fun l => decide (tg mv q l = q)) k
def reachB (n k : Nat) (mv : Nat → Int32) (q : Nat) : Bool := decide (itx (fun X => sws mv k X n) (2 ^ q) 12 = 2 ^ n - 1)
theorem swl_lt {mv : Nat → Int32} {n q X : Nat} (hq : q < n) (hX : X < 2 ^ n) : ∀ l, swl mv q X l < 2 ^ n
  | 0 => hX
  | l + 1 => by
    rw [swl]
    split
    · exact Nat.or_lt_two_pow (swl_lt hq hX l) (Nat.pow_lt_pow_right (by decide) hq)
    · exact swl_lt hq hX l
theorem sws_lt {mv : Nat → Int32} {n k X : Nat} (hX : X < 2 ^ n) : ∀ q, q ≤ n → sws mv k X q < 2 ^ n
  | 0, _ => hX
  | q + 1, h => swl_lt (by omega) (sws_lt hX q (by omega)) k
theorem swl_sub {mv : Nat → Int32} {q X i : Nat} (h : X.testBit i = true) : ∀ l, (swl mv q X l).testBit i = true
  | 0 => h
  | l + 1 => by
    rw [swl]
    split
    · rw [Nat.testBit_or, swl_sub h l]; rfl
    · exact swl_sub h l
theorem sws_sub {mv : Nat → Int32} {k X i : Nat} (h : X.testBit i = true) : ∀ q, (sws mv k X q).testBit i = true
  | 0 => h
  | q + 1 => swl_sub (sws_sub h q) k
theorem itx_lt {mv : Nat → Int32} {n k X : Nat} (hX : X < 2 ^ n) : ∀ m, itx (fun X => sws mv k X n) X m < 2 ^ n
  | 0 => hX
  | m + 1 => sws_lt (itx_lt hX m) n (Nat.le_refl _)
/-- once a sweep adds none, none is added -/
theorem itx_fix {f : Nat → Nat} {X m : Nat} (h : f (itx f X m) = itx f X m) : ∀ d, itx f X (m + d) = itx f X m
  | 0 => rfl
  | d + 1 => by
    show f (itx f X (m + d)) = _
    rw [itx_fix h d, h]
theorem itx_pop {mv : Nat → Int32} {n k q : Nat} (hn : n ≤ 12) (hq : q < n) : ∀ m, (∃ i, i < m ∧ sws mv k (itx (fun X => sws mv k X n) (2 ^ q) i) n = itx (fun X => sws mv k X n) (2 ^ q) i) ∨ m + 1 ≤ pop (itx (fun X => sws mv k X n) (2 ^ q) m)
  | 0 => Or.inr (by
    show 0 + 1 ≤ pop (2 ^ q)
    rw [pop_p2 q (by omega)]; exact Nat.le_refl _)
  | m + 1 => by
    have h12 : 2 ^ n ≤ 2 ^ 12 := Nat.pow_le_pow_right (by decide) hn
    have hp : 2 ^ q < 2 ^ n := Nat.pow_lt_pow_right (by decide) hq
    rcases itx_pop hn hq m with ⟨i, hi, e⟩ | h
    · exact Or.inl ⟨i, by omega, e⟩
    · have a1 := itx_lt (mv := mv) (k := k) hp m
      have a2 := itx_lt (mv := mv) (k := k) hp (m + 1)
      obtain ⟨b1, b2⟩ := pop_mono (X := itx (fun X => sws mv k X n) (2 ^ q) m) (Y := itx (fun X => sws mv k X n) (2 ^ q) (m + 1)) (by omega) (by omega) (fun i hi => sws_sub hi n)
      by_cases c : pop (itx (fun X => sws mv k X n) (2 ^ q) m) = pop (itx (fun X => sws mv k X n) (2 ^ q) (m + 1))
      · exact Or.inl ⟨m, by omega, (b2 c).symm⟩
      · exact Or.inr (by omega)
theorem itx_12 {mv : Nat → Int32} {n k q m : Nat} (hn : n ≤ 12) (hq : q < n) (h : sws mv k (itx (fun X => sws mv k X n) (2 ^ q) m) n = itx (fun X => sws mv k X n) (2 ^ q) m) : itx (fun X => sws mv k X n) (2 ^ q) m = itx (fun X => sws mv k X n) (2 ^ q) 12 := by
  have h12 : 2 ^ n ≤ 2 ^ 12 := Nat.pow_le_pow_right (by decide) hn
  have hp : 2 ^ q < 2 ^ n := Nat.pow_lt_pow_right (by decide) hq
  have hx : ∃ i, i ≤ 12 ∧ sws mv k (itx (fun X => sws mv k X n) (2 ^ q) i) n = itx (fun X => sws mv k X n) (2 ^ q) i := by
    rcases itx_pop (mv := mv) (k := k) hn hq 12 with ⟨i, hi, e⟩ | c
    · exact ⟨i, by omega, e⟩
    · have a1 := itx_lt (mv := mv) (k := k) hp 12
      have := (one_pop _ (show itx (fun X => sws mv k X n) (2 ^ q) 12 < 4096 by omega)).2.2
      omega
  obtain ⟨i, hi, e⟩ := hx
  have f1 := itx_fix (f := fun X => sws mv k X n) (X := 2 ^ q) h
  have f2 := itx_fix (f := fun X => sws mv k X n) (X := 2 ^ q) e
  rw [← f1 (i + 12), ← show i + (12 - i) = 12 by omega, f2 (12 - i), ← f2 (m + 12), show m + (i + (i + (12 - i))) = i + (m + 12) by omega]
section KCL
variable {n k l q : Nat} {mv : Nat → Int32} {Q : Int32 → Prop}
theorem mt_tg (hw : WM n k mv) (hn : n ≤ 12) (hq : q < n) (hl : l < k) : mt mv q l = 2 ^ tg mv q l := by
  unfold mt
  rw [if_neg (by rw [(hw q l hq hl).1]; exact nI_m1 (by have := (hw q l hq hl).2; omega))]
  rfl
theorem sp_isSwap (hw : WM n k mv) (hn : n ≤ 12) (hk : k ≤ 4) (hl : l < k) (h : Q (bI (swapB n mv l))) : wp_X3_isSwap (nI n) (nI k) mv (nI l) Q := by
  have h12 : 2 ^ n ≤ 2 ^ 12 := Nat.pow_le_pow_right (by decide) hn
  unfold wp_X3_isSwap
  refine pk_loop (fun f q (x : Int32) => L_X3_isSwap_4 (nI n) (nI k) mv (nI l) Q f x (nI q)) (fun q x => x = nI (orf (fun q => mt mv q l) (2 ^ n - 1) q)) n 0 (nI 0) (Nat.zero_le _) rfl ?_ ?_
  · rintro f x rfl
    show L_X3_isSwap_4 (nI n) (nI k) mv (nI l) Q (f + 1) _ (nI n)
    unfold L_X3_isSwap_4
    refine b_T (nI_le (Nat.le_refl _) (by omega)) ?_
    unfold J_X3_isSwap_29
    have hX := (orf_full hw hn hl).1
    refine sp_bitCount (by omega) ?_
    have hp := (one_pop _ (show orf (fun q => mt mv q l) (2 ^ n - 1) n < 4096 by omega)).2.2
    unfold swapB at h
    refine b_ne (by omega) (by omega) (fun c => ?_) (fun c => ?_)
    · rw [decide_eq_false (fun e => c ((pop_full hn hX).mpr e))] at h; exact h
    · rw [decide_eq_true ((pop_full hn hX).mp c)] at h; exact h
  · rintro f q x hq rfl ih
    show L_X3_isSwap_4 (nI n) (nI k) mv (nI l) Q (f + 1) _ (nI q)
    unfold L_X3_isSwap_4
    refine b_F (nI_ge hq (by omega)) (sp_target hn hk hq hl ?_)
    have ht := hw q l hq hl
    rw [ht.1, nI_shl1 (by omega), nI_or, nI_1']
    refine ih _ ?_
    rw [orf, if_pos (by rw [Nat.testBit_two_pow_sub_one]; exact decide_eq_true hq)]
    show _ = nI (_ ||| mt mv q l)
    rw [mt_tg hw hn hq hl]
/-- who comes back to 0 with the n-th step and none before has passed each state -/
theorem ring_on (h0 : 0 < n) (hf : ∀ q, q < n → tg mv q l < n) (h1 : ∀ i, 0 < i → i < n → itf (fun q => tg mv q l) i ≠ 0) (h3 : itf (fun q => tg mv q l) n = 0) : ∀ t, t < n → ∃ q, q < n ∧ tg mv q l = t := by
  intro t ht
  have hadd : ∀ d a b, itf (fun q => tg mv q l) a = itf (fun q => tg mv q l) b → itf (fun q => tg mv q l) (a + d) = itf (fun q => tg mv q l) (b + d) := by
    intro d
    induction d with
    | zero => intro a b e; exact e
    | succ d ih =>
      intro a b e
      show tg mv (itf (fun q => tg mv q l) (a + d)) l = tg mv (itf (fun q => tg mv q l) (b + d)) l
      rw [ih a b e]
  obtain ⟨i, hi, e⟩ := fb_onto (n := n) (f := fun i => itf (fun q => tg mv q l) (i + 1)) (fun i _ => itf_lt h0 hf _) (fun i j hij hj e => by
    have z := hadd (n - 1 - j) (i + 1) (j + 1) e
    rw [show j + 1 + (n - 1 - j) = n by omega, h3] at z
    exact h1 (i + 1 + (n - 1 - j)) (by omega) (by omega) z) ht
  exact ⟨itf (fun q => tg mv q l) i, itf_lt h0 hf i, e⟩
theorem sp_isRound (hw : WM n k mv) (h0 : 0 < n) (hn : n ≤ 12) (hk : k ≤ 4) (hl : l < k) (h : Q (bI (ringB n mv l))) : wp_X3_isRound (nI n) (nI k) mv (nI l) Q := by
  have hf : ∀ q, q < n → tg mv q l < n := fun q hq => (hw q l hq hl).2
  have hno : ¬ ((∀ i, 0 < i → i < n → itf (fun q => tg mv q l) i ≠ 0) ∧ (∀ t, t < n → ∃ q, q < n ∧ tg mv q l = t) ∧ itf (fun q => tg mv q l) n = 0) → Q (nI 0) := fun c => by
    cases e : ringB n mv l
    · rw [e] at h; exact h
    · exact absurd ((ringB_iff hw h0 hl).mp e) c
  unfold wp_X3_isRound
  refine pk_loop (fun f i (x : Int32) => L_X3_isRound_4 (nI n) (nI k) mv (nI l) Q f x (nI i)) (fun i x => 0 < i ∧ x = nI (itf (fun q => tg mv q l) (i - 1)) ∧ ∀ i', 0 < i' → i' < i → itf (fun q => tg mv q l) i' ≠ 0) n 1 (nI 0) h0 ⟨by omega, rfl, fun i' _ _ => by omega⟩ ?_ ?_
  · rintro f x ⟨_, rfl, hx⟩
    show L_X3_isRound_4 (nI n) (nI k) mv (nI l) Q (f + 1) _ (nI n)
    unfold L_X3_isRound_4
    refine b_T (nI_le (Nat.le_refl _) (by omega)) ?_
    unfold J_X3_isRound_31
    have hlt := itf_lt h0 hf (n - 1)
    refine sp_target hn hk hlt hl ?_
    rw [(hw _ l hlt hl).1]
    have e2 : itf (fun q => tg mv q l) n = tg mv (itf (fun q => tg mv q l) (n - 1)) l := by
      have : itf (fun q => tg mv q l) (n - 1 + 1) = tg mv (itf (fun q => tg mv q l) (n - 1)) l := rfl
      rw [show n - 1 + 1 = n by omega] at this
      exact this
    have := (hw _ l hlt hl).2
    refine b_ne (by omega) (by omega) (fun c => hno (fun z => c (by rw [← e2]; exact z.2.2))) (fun c => ?_)
    have e3 : itf (fun q => tg mv q l) n = 0 := by rw [e2]; exact c
    rw [(ringB_iff hw h0 hl).mpr ⟨fun i h1 h2 => hx i h1 h2, ring_on h0 hf (fun i h1 h2 => hx i h1 h2) e3, e3⟩] at h
    exact h
  · rintro f i x hi ⟨z, rfl, hx⟩ ih
    show L_X3_isRound_4 (nI n) (nI k) mv (nI l) Q (f + 1) _ (nI i)
    unfold L_X3_isRound_4
    have hlt := itf_lt h0 hf (i - 1)
    have ht := hw _ l hlt hl
    refine b_F (nI_ge hi (by omega)) (sp_target hn hk hlt hl ?_)
    rw [ht.1, nI_1']
    have e2 : itf (fun q => tg mv q l) i = tg mv (itf (fun q => tg mv q l) (i - 1)) l := by
      have : itf (fun q => tg mv q l) (i - 1 + 1) = tg mv (itf (fun q => tg mv q l) (i - 1)) l := rfl
      rw [show i - 1 + 1 = i by omega] at this
      exact this
    refine b_ne (by omega) (by omega) (fun c => ih _ ⟨by omega, by rw [← e2]; rfl, fun i' a b => ?_⟩) (fun c => hno (fun zz => zz.1 i z hi (by rw [e2]; exact c)))
    by_cases d : i' = i
    · subst d; rw [e2]; exact c
    · exact hx i' a (by omega)
theorem sp_hasLoop (hw : WM n k mv) (hn : n ≤ 12) (hk : k ≤ 4) (hl : l < k) (h : Q (bI (loopB n mv l))) : wp_X3_hasLoop (nI n) (nI k) mv (nI l) Q := by
  unfold wp_X3_hasLoop
  refine pk_loop (fun f q (_ : Unit) => L_X3_hasLoop_2 (nI n) (nI k) mv (nI l) Q f (nI q)) (fun q _ => anyB (fun q => decide (tg mv q l = q)) q = false) n 0 () (Nat.zero_le _) rfl ?_ ?_
  · rintro f _ hx
    show L_X3_hasLoop_2 (nI n) (nI k) mv (nI l) Q (f + 1) (nI n)
    unfold L_X3_hasLoop_2
    unfold loopB at h
    rw [hx] at h
    exact b_T (nI_le (Nat.le_refl _) (by omega)) h
  · rintro f q _ hq hx ih
    show L_X3_hasLoop_2 (nI n) (nI k) mv (nI l) Q (f + 1) (nI q)
    unfold L_X3_hasLoop_2
    have ht := hw q l hq hl
    refine b_F (nI_ge hq (by omega)) (sp_target hn hk hq hl ?_)
    rw [ht.1, nI_1']
    refine b_ne (by omega) (by omega) (fun c => ih () ?_) (fun c => ?_)
    · rw [anyB, hx, decide_eq_false c]; rfl
    · unfold loopB at h
      rw [anyB_up hq (decide_eq_true c)] at h
      exact h
theorem sp_isInOrder (hw : WM n k mv) (h0 : 0 < n) (hn : n ≤ 12) (hk : k ≤ 4) (hl : l < k) (h : Q (bI (orderB n mv l))) : wp_X3_isInOrder (nI n) (nI k) mv (nI l) Q := by
  unfold wp_X3_isInOrder
  refine pk_loop (fun f q (_ : Unit) => L_X3_isInOrder_2 (nI n) (nI k) mv (nI l) Q f (nI q)) (fun q _ => 0 < q ∧ allB (fun q => decide (q = 0 ∨ tg mv (q - 1) l ≤ tg mv q l)) q = true) n 1 () h0 ⟨by omega, rfl⟩ ?_ ?_
  · rintro f _ ⟨_, hx⟩
    show L_X3_isInOrder_2 (nI n) (nI k) mv (nI l) Q (f + 1) (nI n)
    unfold L_X3_isInOrder_2
    unfold orderB at h
    rw [hx] at h
    exact b_T (nI_le (Nat.le_refl _) (by omega)) h
  · rintro f q _ hq ⟨hq0, hx⟩ ih
    show L_X3_isInOrder_2 (nI n) (nI k) mv (nI l) Q (f + 1) (nI q)
    unfold L_X3_isInOrder_2
    have ht := hw q l hq hl
    have ht1 := hw (q - 1) l (by omega) hl
    refine b_F (nI_ge hq (by omega)) ?_
    rw [pk_sub (by omega)]
    refine sp_target hn hk (by omega) hl (sp_target hn hk hq hl ?_)
    rw [ht.1, ht1.1, nI_1']
    refine b_le (by omega) (by omega) (fun c => ih () ⟨by omega, ?_⟩) (fun c => ?_)
    · rw [allB, hx, decide_eq_true (Or.inr c)]; rfl
    · unfold orderB at h
      rw [allB_dn hq (decide_eq_false (fun z => z.elim (by omega) c))] at h
      exact h
theorem sp_stays (hw : WM n k mv) (hn : n ≤ 12) (hk : k ≤ 4) (hq : q < n) (h : Q (bI (staysB mv k q))) : wp_X3_staysByAll (nI n) (nI k) mv (nI q) Q := by
  unfold wp_X3_staysByAll
  refine pk_loop (fun f l (_ : Unit) => L_X3_staysByAll_2 (nI n) (nI k) mv (nI q) Q f (nI l)) (fun l _ => allB (fun l => decide (tg mv q l = q)) l = true) k 0 () (Nat.zero_le _) rfl ?_ ?_
  · rintro f _ hx
    show L_X3_staysByAll_2 (nI n) (nI k) mv (nI q) Q (f + 1) (nI k)
    unfold L_X3_staysByAll_2
    unfold staysB at h
    rw [hx] at h
    exact b_T (nI_le (Nat.le_refl _) (by omega)) h
  · rintro f l _ hl hx ih
    show L_X3_staysByAll_2 (nI n) (nI k) mv (nI q) Q (f + 1) (nI l)
    unfold L_X3_staysByAll_2
    have ht := hw q l hq hl
    refine b_F (nI_ge hl (by omega)) (sp_target hn hk hq hl ?_)
    rw [ht.1, nI_1']
    refine b_eq (by omega) (by omega) (fun c => ih () ?_) (fun c => ?_)
    · rw [allB, hx, decide_eq_true c]; rfl
    · unfold staysB at h
      rw [allB_dn hl (decide_eq_false c)] at h
      exact h
theorem sp_reached (hw : WM n k mv) (hn : n ≤ 12) (hk : k ≤ 4) (hq : q < n) (h : Q (bI (reachB n k mv q))) : wp_X3_isReachedByAll (nI n) (nI k) mv (nI q) Q := by
  have h12 : 2 ^ n ≤ 2 ^ 12 := Nat.pow_le_pow_right (by decide) hn
  have hp : 2 ^ q < 2 ^ n := Nat.pow_lt_pow_right (by decide) hq
  unfold wp_X3_isReachedByAll
  rw [nI_shl1 (by omega)]
  refine pk_loop (fun f i (x : Int32) => L_X3_isReachedByAll_6 (nI n) (nI k) mv Q f x (nI i)) (fun i x => x = nI (itx (fun X => sws mv k X n) (2 ^ q) i)) 12 0 (nI (2 ^ q)) (Nat.zero_le _) rfl ?_ ?_
  · rintro f x rfl
    show L_X3_isReachedByAll_6 (nI n) (nI k) mv Q (f + 1) _ (nI 12)
    unfold L_X3_isReachedByAll_6
    refine b_T (nI_le (Nat.le_refl _) (by omega)) ?_
    unfold J_X3_isReachedByAll_76
    have a1 := itx_lt (mv := mv) (k := k) hp 12
    have hp0 := Nat.two_pow_pos n
    rw [nI_shl1 (by omega), pk_sub (by omega)]
    unfold reachB at h
    refine b_ne (by omega) (by omega) (fun c => ?_) (fun c => ?_)
    · rw [decide_eq_false c] at h; exact h
    · rw [decide_eq_true c] at h; exact h
  · rintro f i x hi rfl ih
    show L_X3_isReachedByAll_6 (nI n) (nI k) mv Q (f + 1) _ (nI i)
    unfold L_X3_isReachedByAll_6
    have a1 := itx_lt (mv := mv) (k := k) hp i
    have ih' := ih (nI (itx (fun X => sws mv k X n) (2 ^ q) (i + 1))) rfl
    have hexp : itx (fun X => sws mv k X n) (2 ^ q) (i + 1) = sws mv k (itx (fun X => sws mv k X n) (2 ^ q) i) n := rfl
    rw [hexp] at ih'
    generalize itx (fun X => sws mv k X n) (2 ^ q) i = X at a1 ih' ⊢
    refine b_F (nI_ge hi (by omega)) ?_
    refine pk_loop (fun f q (x : Int32) => L_X3_isReachedByAll_15 (nI n) (nI k) mv (nI i) _ f x (nI q)) (fun q x => x = nI (sws mv k X q)) n 0 (nI X) (Nat.zero_le _) rfl ?_ ?_
    · rintro f1 x rfl
      show L_X3_isReachedByAll_15 (nI n) (nI k) mv (nI i) _ (f1 + 1) _ (nI n)
      unfold L_X3_isReachedByAll_15
      refine b_T (nI_le (Nat.le_refl _) (by omega)) ?_
      unfold J_X3_isReachedByAll_70
      rw [nI_1']
      exact ih'
    · rintro f1 s x hs rfl ih1
      show L_X3_isReachedByAll_15 (nI n) (nI k) mv (nI i) _ (f1 + 1) _ (nI s)
      unfold L_X3_isReachedByAll_15
      refine b_F (nI_ge hs (by omega)) ?_
      have a2 := sws_lt (mv := mv) (k := k) a1 s (by omega)
      refine pk_loop (fun f l (x : Int32) => L_X3_isReachedByAll_27 (nI n) (nI k) mv (nI s) _ f x (nI l)) (fun l x => x = nI (swl mv s (sws mv k X s) l)) k 0 _ (Nat.zero_le _) rfl ?_ ?_
      · rintro f2 x rfl
        show L_X3_isReachedByAll_27 (nI n) (nI k) mv (nI s) _ (f2 + 1) _ (nI k)
        unfold L_X3_isReachedByAll_27
        refine b_T (nI_le (Nat.le_refl _) (by omega)) ?_
        unfold J_X3_isReachedByAll_64
        rw [nI_1']
        exact ih1 _ rfl
      · rintro f2 l x hl rfl ih2
        show L_X3_isReachedByAll_27 (nI n) (nI k) mv (nI s) _ (f2 + 1) _ (nI l)
        unfold L_X3_isReachedByAll_27
        have ht := hw s l hs hl
        have a3 := swl_lt (mv := mv) hs a2 l
        refine b_F (nI_ge hl (by omega)) (sp_target hn hk hs hl ?_)
        rw [ht.1, nI_shr (by omega) (by omega), nI_bit, nI_shl1 (by omega), nI_or]
        unfold J_X3_isReachedByAll_58
        rw [nI_1']
        refine b_eq (by have := Nat.mod_lt (swl mv s (sws mv k X s) l / 2 ^ tg mv s l) (show 0 < 2 by decide); omega) (by omega) (fun c => ih2 _ ?_) (fun c => ih2 _ ?_)
        · rw [swl, if_neg (by rw [(tb_div0 _ _).mp c]; decide)]
        · rw [swl, if_pos ((tb_div _ _).mp (by have := Nat.mod_lt (swl mv s (sws mv k X s) l / 2 ^ tg mv s l) (show 0 < 2 by decide); omega))]
def sinkB (n k : Nat) (mv : Nat → Int32) : Bool := anyB (fun q => staysB mv k q && reachB n k mv q) n
theorem sp_hasSink (hw : WM n k mv) (hn : n ≤ 12) (hk : k ≤ 4) (h : Q (bI (sinkB n k mv))) : wp_X3_hasSink (nI n) (nI k) mv Q := by
  unfold wp_X3_hasSink
  refine pk_loop (fun f q (_ : Unit) => L_X3_hasSink_2 (nI n) (nI k) mv Q f (nI q)) (fun q _ => anyB (fun q => staysB mv k q && reachB n k mv q) q = false) n 0 () (Nat.zero_le _) rfl ?_ ?_
  · rintro f _ hx
    show L_X3_hasSink_2 (nI n) (nI k) mv Q (f + 1) (nI n)
    unfold L_X3_hasSink_2
    unfold sinkB at h
    rw [hx] at h
    exact b_T (nI_le (Nat.le_refl _) (by omega)) h
  · rintro f q _ hq hx ih
    show L_X3_hasSink_2 (nI n) (nI k) mv Q (f + 1) (nI q)
    unfold L_X3_hasSink_2 J_X3_hasSink_28
    rw [nI_1']
    refine b_F (nI_ge hq (by omega)) (sp_stays hw hn hk hq ?_)
    cases e1 : staysB mv k q
    · refine b_T rfl (ih () ?_)
      rw [anyB, hx, e1]; rfl
    · refine b_F ne10 (sp_reached hw hn hk hq ?_)
      cases e2 : reachB n k mv q
      · refine b_T rfl (ih () ?_)
        rw [anyB, hx, e1, e2]; rfl
      · refine b_F ne10 ?_
        unfold sinkB at h
        rw [anyB_up hq (by rw [e1, e2]; rfl)] at h
        exact h
def kinN (r s o w p : Bool) : Nat := (((bN r 1 ||| bN s 2) ||| bN o 4) ||| bN w 8) ||| bN p 16
theorem kin_up : ∀ r s p a b : Bool, (kinN r s false false p ||| bN a 1) ||| bN b 16 = kinN (r || a) s false false (p || b) := by decide
theorem kin_fin : ∀ r s p o w : Bool, (kinN r s false false p ||| bN o 4) ||| bN w 8 = kinN r s o w p := by decide
theorem bI_and : ∀ a b : Bool, bI a &&& bI b = bI (a && b) := by decide
theorem kin_lt : ∀ r s o w p : Bool, kinN r s o w p < 32 := by decide
def kinB (n k : Nat) (mv : Nat → Int32) : Nat := kinN (anyB (ringB n mv) k) (sinkB n k mv) (allB (orderB n mv) k) (allB (swapB n mv) k) (anyB (loopB n mv) k)
theorem sp_kindsOf (hw : WM n k mv) (h0 : 0 < n) (hn : n ≤ 12) (hk : k ≤ 4) (h : Q (nI (kinB n k mv))) : wp_X3_of (nI n) (nI k) mv Q := by
  unfold wp_X3_of
  have go : J_X3_of_12 (nI n) (nI k) mv Q (nI (bN (sinkB n k mv) 2)) := by
    unfold J_X3_of_12
    refine pk_loop (fun f l (x : Int32 × Int32 × Int32) => L_X3_of_20 (nI n) (nI k) mv Q f x.1 x.2.1 x.2.2 (nI l)) (fun l x => x.1 = nI (kinN (anyB (ringB n mv) l) (sinkB n k mv) false false (anyB (loopB n mv) l)) ∧ x.2.1 = bI (allB (orderB n mv) l) ∧ x.2.2 = bI (allB (swapB n mv) l)) k 0 (_, _, _) (Nat.zero_le _) ⟨?_, rfl, rfl⟩ ?_ ?_
    · show nI (bN (sinkB n k mv) 2) = nI (kinN false (sinkB n k mv) false false false)
      congr 1
      cases sinkB n k mv <;> decide
    · rintro f ⟨x1, x2, x3⟩ ⟨e1, e2, e3⟩
      show L_X3_of_20 (nI n) (nI k) mv Q (f + 1) x1 x2 x3 (nI k)
      have e1' : x1 = _ := e1
      have e2' : x2 = _ := e2
      have e3' : x3 = _ := e3
      rw [e1', e2', e3']
      unfold L_X3_of_20
      refine b_T (nI_le (Nat.le_refl _) (by omega)) ?_
      unfold kinB at h
      rw [← kin_fin, ← nI_or, ← nI_or] at h
      generalize nI (kinN (anyB (ringB n mv) k) (sinkB n k mv) false false (anyB (loopB n mv) k)) = X at h ⊢
      unfold J_X3_of_88 J_X3_of_98 J_X3_of_109
      generalize allB (orderB n mv) k = O at h ⊢
      generalize allB (swapB n mv) k = W at h ⊢
      cases O <;> cases W
      · exact b_T rfl (b_T rfl h)
      · exact b_T rfl (b_F ne10 h)
      · exact b_F ne10 (b_T rfl h)
      · exact b_F ne10 (b_F ne10 h)
    · rintro f l ⟨x1, x2, x3⟩ hl ⟨e1, e2, e3⟩ ih
      show L_X3_of_20 (nI n) (nI k) mv Q (f + 1) x1 x2 x3 (nI l)
      have e1' : x1 = _ := e1
      have e2' : x2 = _ := e2
      have e3' : x3 = _ := e3
      rw [e1', e2', e3']
      have fin : ∀ a b, a = ringB n mv l → b = loopB n mv l → L_X3_of_20 (nI n) (nI k) mv Q f ((nI (kinN (anyB (ringB n mv) l) (sinkB n k mv) false false (anyB (loopB n mv) l)) ||| nI (bN a 1)) ||| nI (bN b 16)) (bI (allB (orderB n mv) l) &&& bI (orderB n mv l)) (bI (allB (swapB n mv) l) &&& bI (swapB n mv l)) (nI (l + 1)) := fun a b ea eb => ih (_, _, _) ⟨by rw [nI_or, nI_or, kin_up, ea, eb]; rfl, bI_and _ _, bI_and _ _⟩
      unfold L_X3_of_20
      refine b_F (nI_ge hl (by omega)) (sp_isRound hw h0 hn hk hl ?_)
      have mid : ∀ a, a = ringB n mv l → J_X3_of_44 (nI n) (nI k) mv (L_X3_of_20 (nI n) (nI k) mv Q f) (bI (allB (orderB n mv) l)) (bI (allB (swapB n mv) l)) (nI l) (nI (bN a 1)) (nI (kinN (anyB (ringB n mv) l) (sinkB n k mv) false false (anyB (loopB n mv) l))) := fun a ea => by
        unfold J_X3_of_44
        refine sp_hasLoop hw hn hk hl ?_
        unfold J_X3_of_62
        cases eb : loopB n mv l
        · refine b_T rfl (sp_isInOrder hw h0 hn hk hl (sp_isSwap hw hn hk hl ?_))
          rw [nI_1']
          exact fin a false ea eb.symm
        · refine b_F ne10 (sp_isInOrder hw h0 hn hk hl (sp_isSwap hw hn hk hl ?_))
          rw [nI_1']
          exact fin a true ea eb.symm
      cases ea : ringB n mv l
      · exact b_T rfl (mid false ea.symm)
      · exact b_F ne10 (mid true ea.symm)
  refine sp_hasSink hw hn hk ?_
  cases e : sinkB n k mv
  · rw [e] at go; exact b_T rfl go
  · rw [e] at go; exact b_F ne10 go
end KCL
