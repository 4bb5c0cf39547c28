/-! the class's sweeps over pairs that come together -/
def mg (RL : Nat → Nat → Nat → Nat → Prop) : Nat → Nat → Nat → Prop
  | 0, p, q => p = q
  | d + 1, p, q => mg RL d p q ∨ ∃ a b, RL p q a b ∧ mg RL d a b
def tgs (mv : Nat → Int32) (q : Nat) : Nat → Nat
  | 0 => 0
  | l + 1 => tgs mv q l ||| 2 ^ tg mv q l
theorem tgs_bit {mv : Nat → Int32} {q b : Nat} : ∀ {m : Nat}, (tgs mv q m).testBit b = true ↔ ∃ l, l < m ∧ tg mv q l = b
  | 0 => by simp [tgs]
  | m + 1 => by
    rw [tgs, Nat.testBit_or, Bool.or_eq_true, tgs_bit, Nat.testBit_two_pow, decide_eq_true_iff]
    constructor
    · rintro (⟨l, hl, e⟩ | e)
      · exact ⟨l, by omega, e⟩
      · exact ⟨m, by omega, e⟩
    · rintro ⟨l, hl, e⟩
      by_cases c : l = m
      · subst c; exact Or.inr e
      · exact Or.inl ⟨l, by omega, e⟩
/-- all moves lead to states -/
def WT (n k : Nat) (m : Nat → Int32) : Prop := ∀ q l, q < n → l < k → m (q * 4 + l) = nI (tg m q l) ∧ tg m q l < n
section TOG
variable {n k : Nat} {pm mv : Nat → Int32} {V : Nat → Nat → Nat} {x4 : Int32}
theorem tgs_lt (hn : n ≤ 12) (hm : WT n k mv) {q : Nat} (hq : q < n) : ∀ m, m ≤ k → tgs mv q m < 4096
  | 0, _ => by show 0 < 4096; omega
  | m + 1, h => by
    have := (hm q m hq (by omega)).2
    exact Nat.or_lt_two_pow (n := 12) (tgs_lt hn hm hq m (by omega)) (Nat.pow_lt_pow_right (by decide) (by omega))
theorem sp_targets {q : Nat} {Q : Int32 → Prop} (hn : n ≤ 12) (hk : k ≤ 4) (hm : WT n k mv) (hq : q < n) (h : Q (nI (tgs mv q k))) : wp_X1_targets (nI n) (nI k) mv (nI q) Q := by
  unfold wp_X1_targets
  refine pk_loop (fun f l (s : Int32) => L_X1_targets_4 (nI n) (nI k) mv (nI q) Q f s (nI l)) (fun l s => s = nI (tgs mv q l)) k 0 (nI 0) (Nat.zero_le _) rfl ?_ ?_
  · rintro f s rfl
    show L_X1_targets_4 (nI n) (nI k) mv (nI q) Q (f + 1) _ (nI k)
    unfold L_X1_targets_4
    exact b_T (nI_le (Nat.le_refl _) (by omega)) h
  · rintro f l s hl rfl ih
    show L_X1_targets_4 (nI n) (nI k) mv (nI q) Q (f + 1) _ (nI l)
    unfold L_X1_targets_4
    obtain ⟨e1, e2⟩ := hm q l hq hl
    refine b_F (nI_ge hl (by omega)) (sp_target hn hk hq hl ?_)
    rw [e1, nI_shl1 (by omega), nI_or, nI_1']
    exact ih _ rfl
/-- what the second of two is come to, by a letter -/
def VO (n k : Nat) (pm mv : Nat → Int32) (x4 : Int32) (V : Nat → Nat → Nat) : Prop := (x4 = nI 0 ∧ ∀ q l, q < n → l < k → V q l = 2 ^ tg pm q l) ∨ (x4 = nI 1 ∧ ∀ q l, q < n → l < k → V q l = tgs mv q k)
theorem VO.bit (hm : WT n k mv) (hp : WT n k pm) (h : VO n k pm mv x4 V) {q l b : Nat} (hq : q < n) (hl : l < k) (hb : (V q l).testBit b = true) : b < n := by
  rcases h with ⟨-, h⟩ | ⟨-, h⟩
  · rw [h q l hq hl, Nat.testBit_two_pow, decide_eq_true_iff] at hb
    rw [← hb]; exact (hp q l hq hl).2
  · rw [h q l hq hl, tgs_bit] at hb
    obtain ⟨l2, hl2, e⟩ := hb
    rw [← e]; exact (hm q l2 hq hl2).2
theorem sp_come {p q : Nat} {tb : Nat → Nat} {to : Nat → Int32} {Q : Int32 → Prop} (hn : n ≤ 12) (hk : k ≤ 4) (hm : WT n k mv) (hp : WT n k pm) (hV : VO n k pm mv x4 V) (hb : ∀ a, a < 12 → to a = nI (tb a) ∧ tb a < 4096) (hpn : p < n) (hqn : q < n) (h1 : (∃ l, l < k ∧ tb (tg pm p l) &&& V q l ≠ 0) → Q (nI 1)) (h0 : (¬ ∃ l, l < k ∧ tb (tg pm p l) &&& V q l ≠ 0) → Q (nI 0)) : wp_X1_comeTogether to (nI 12) (nI 4) pm (nI n) (nI k) mv (nI p) (nI q) x4 Q := by
  unfold wp_X1_comeTogether
  refine pk_loop (fun f l (_ : Unit) => L_X1_comeTogether_3 to (nI 12) (nI 4) pm (nI n) (nI k) mv (nI p) (nI q) x4 Q f (nI l)) (fun l _ => ∀ x, x < l → ¬ tb (tg pm p x) &&& V q x ≠ 0) k 0 () (Nat.zero_le _) (fun x hx => absurd hx (by omega)) ?_ ?_
  · rintro f _ hx
    show L_X1_comeTogether_3 to (nI 12) (nI 4) pm (nI n) (nI k) mv (nI p) (nI q) x4 Q (f + 1) (nI k)
    unfold L_X1_comeTogether_3
    exact b_T (nI_le (Nat.le_refl _) (by omega)) (h0 (fun ⟨l, hl, e⟩ => hx l hl e))
  · rintro f l _ hl hx ih
    show L_X1_comeTogether_3 to (nI 12) (nI 4) pm (nI n) (nI k) mv (nI p) (nI q) x4 Q (f + 1) (nI l)
    unfold L_X1_comeTogether_3
    obtain ⟨e1, e2⟩ := hp p l hpn hl
    have key : ∀ W, W = V q l → J_X1_comeTogether_49 to (L_X1_comeTogether_3 to (nI 12) (nI 4) pm (nI n) (nI k) mv (nI p) (nI q) x4 Q f) Q (nI l) (nI (tg pm p l)) (nI W) := fun W hW => by
      unfold J_X1_comeTogether_49 J_X1_comeTogether_78
      obtain ⟨t1, t2⟩ := hb (tg pm p l) (by omega)
      rw [nI_clamp (by omega), t1, nI_and, nI_1']
      have hle : tb (tg pm p l) &&& W ≤ tb (tg pm p l) := Nat.and_le_left
      refine b_F (nI_nlt0 (by omega)) (b_F (nI_ge (by omega) (by omega)) ⟨vin (by omega) (by omega), b_eq (by omega) (by omega) (fun c => ih () (fun x hx2 => ?_)) (fun c => h1 ⟨l, hl, by rw [← hW]; exact c⟩)⟩)
      by_cases y : x = l
      · subst y; rw [← hW]; exact fun z => z c
      · exact hx x (by omega)
    refine b_F (nI_ge hl (by omega)) (sp_target (n := 12) (k := 4) (by omega) (by omega) (by omega) (by omega) ?_)
    rw [e1]
    rcases hV with ⟨rfl, h⟩ | ⟨rfl, h⟩
    · refine b_T rfl (sp_target (n := 12) (k := 4) (by omega) (by omega) (by omega) (by omega) ?_)
      obtain ⟨e3, e4⟩ := hp q l hqn hl
      rw [e3, nI_shl1 (by omega)]
      exact key _ (h q l hqn hl).symm
    · exact b_F ne10 (sp_targets hn hk hm hqn (key _ (h q l hqn hl).symm))
/-- one step of two -/
def RLV (n k : Nat) (pm : Nat → Int32) (V : Nat → Nat → Nat) (p q a b : Nat) : Prop := p < n ∧ q < n ∧ ∃ l, l < k ∧ a = tg pm p l ∧ (V q l).testBit b = true
def bj (tb : Nat → Nat) : Nat → Nat → Bool := fun p q => (tb p).testBit q
/-- joined so far -/
def TJ (n : Nat) (RL : Nat → Nat → Nat → Nat → Prop) (tb : Nat → Nat) (to : Nat → Int32) : Prop := (∀ a, a < 12 → to a = nI (tb a) ∧ tb a < 4096) ∧ (∀ a, a < n → bj tb a a = true) ∧ (∀ a b, a < n → b < n → bj tb a b = bj tb b a) ∧ ∀ a b, a < n → b < n → bj tb a b = true → ∃ d, mg RL d a b
def CLS (RL : Nat → Nat → Nat → Nat → Prop) (tb : Nat → Nat) (p q : Nat) : Prop := (∃ a b, RL p q a b ∧ bj tb a b = true) → bj tb p q = true
theorem mg_sym {RL : Nat → Nat → Nat → Nat → Prop} (hs : ∀ p q a b, RL p q a b → RL q p b a) : ∀ d p q, mg RL d p q → mg RL d q p
  | 0, _, _, h => Eq.symm h
  | d + 1, p, q, h => h.elim (fun h => Or.inl (mg_sym hs d p q h)) (fun ⟨a, b, h1, h2⟩ => Or.inr ⟨b, a, hs _ _ _ _ h1, mg_sym hs d a b h2⟩)
theorem CLS.all {RL : Nat → Nat → Nat → Nat → Prop} {tb : Nat → Nat} {to : Nat → Int32} (hs : ∀ p q a b, RL p q a b → RL q p b a) (hn : ∀ p q a b, RL p q a b → a < n ∧ b < n) (ht : TJ n RL tb to) (h : ∀ p q, p < q → q < n → CLS RL tb p q) : ∀ d p q, p < n → q < n → mg RL d p q → bj tb p q = true
  | 0, p, q, hp, _, e => by
    have e : p = q := e
    subst e; exact ht.2.1 p hp
  | d + 1, p, q, hp, hq, e => by
    rcases e with e | ⟨a, b, e1, e2⟩
    · exact CLS.all hs hn ht h d p q hp hq e
    · obtain ⟨ha, hb⟩ := hn _ _ _ _ e1
      have ih := CLS.all hs hn ht h d a b ha hb e2
      rcases Nat.lt_trichotomy p q with c | c | c
      · exact h p q c hq ⟨a, b, e1, ih⟩
      · subst c; exact ht.2.1 p hp
      · rw [ht.2.2.1 p q hp hq]
        exact h q p c hp ⟨b, a, hs _ _ _ _ e1, by rw [ht.2.2.1 b a hb ha]; exact ih⟩
theorem NJ_not {f : Nat → Nat → Bool} {p q : Nat} (hn : n < 13) (hpq : p < q) (hq : q < n) (h : f p q = false) : NJ n f < TT n := by
  have h1 := NJ_set (n := n) (f := f) (g := fun a b => if a = p ∧ b = q then true else f a b) hpq hq h (if_pos ⟨rfl, rfl⟩) (fun a b _ _ hne => if_neg hne)
  have h2 := NJ_le (n := n) (f := fun a b => if a = p ∧ b = q then true else f a b)
  rw [h1, NJ_all n hn] at h2
  exact h2
/-- in a sweep: how many were joined, and what is closed -/
def TSW (n : Nat) (RL : Nat → Nat → Nat → Nat → Prop) (N0 : Nat) (tb : Nat → Nat) (found : Nat) (to : Nat → Int32) (cl : Nat → Nat → Prop) : Prop := TJ n RL tb to ∧ NJ n (bj tb) = N0 + found ∧ (found = 0 → ∀ p q, p < q → q < n → cl p q → CLS RL tb p q)
theorem and_ne {x y : Nat} : x &&& y ≠ 0 ↔ ∃ b, x.testBit b = true ∧ y.testBit b = true := by
  constructor
  · intro h
    obtain ⟨b, hb⟩ := Nat.exists_testBit_of_ne_zero h
    rw [Nat.testBit_and, Bool.and_eq_true] at hb
    exact ⟨b, hb⟩
  · rintro ⟨b, h1, h2⟩ e
    have : (x &&& y).testBit b = true := by rw [Nat.testBit_and, h1, h2]; rfl
    rw [e] at this
    simp at this
theorem sw_row {p N0 : Nat} {tb0 : Nat → Nat} {found0 : Nat} {to : Nat → Int32} {R : Int32 → Int32 → (Nat → Int32) → Prop} (hn : n ≤ 12) (hk : k ≤ 4) (hm : WT n k mv) (hp : WT n k pm) (hV : VO n k pm mv x4 V) (hs : ∀ p q a b, RLV n k pm V p q a b → RLV n k pm V q p b a) (hpn : p < n) (h : TSW n (RLV n k pm V) N0 tb0 found0 to (fun a _ => a < p))
    (hR : ∀ tb found to', TSW n (RLV n k pm V) N0 tb found to' (fun a _ => a < p + 1) → R (nI found) (nI (p + 1)) to') : ∃ f, L_X1_sweepPairs_27 (nI 12) (nI 4) pm (nI n) (nI k) mv x4 (nI p) R f (nI found0) (nI (p + 1)) to := by
  refine pk_loop (fun f q (s : Int32 × (Nat → Int32)) => L_X1_sweepPairs_27 (nI 12) (nI 4) pm (nI n) (nI k) mv x4 (nI p) R f s.1 (nI q) s.2) (fun q s => p < q ∧ ∃ tb found, s.1 = nI found ∧ TSW n (RLV n k pm V) N0 tb found s.2 (fun a b => a < p ∨ (a = p ∧ b < q))) n (p + 1) (nI found0, to) (by omega) ⟨by omega, tb0, found0, rfl, h.1, h.2.1, fun z a b hab hb c => h.2.2 z a b hab hb (by omega)⟩ ?_ ?_
  · rintro f ⟨s1, s2⟩ ⟨-, tb, found, e1, e2⟩
    show L_X1_sweepPairs_27 (nI 12) (nI 4) pm (nI n) (nI k) mv x4 (nI p) R (f + 1) s1 (nI n) s2
    have e1' : s1 = nI found := e1
    rw [e1']
    unfold L_X1_sweepPairs_27 J_X1_sweepPairs_108
    rw [nI_1']
    exact b_T (nI_le (Nat.le_refl _) (by omega)) (hR tb found s2 ⟨e2.1, e2.2.1, fun z a b hab hb c => e2.2.2 z a b hab hb (by omega)⟩)
  · rintro f q ⟨s1, s2⟩ hq ⟨hpq, tb, found, e1, ⟨e2, e3, e4⟩⟩ ih
    show L_X1_sweepPairs_27 (nI 12) (nI 4) pm (nI n) (nI k) mv x4 (nI p) R (f + 1) s1 (nI q) s2
    have e1' : s1 = nI found := e1
    have e2' : TJ n (RLV n k pm V) tb s2 := e2
    rw [e1']
    unfold L_X1_sweepPairs_27 J_X1_sweepPairs_102
    obtain ⟨t1, t2⟩ := e2'.1 p (by omega)
    obtain ⟨t3, t4⟩ := e2'.1 q (by omega)
    rw [nI_clamp (n := p) (by omega), nI_clamp (n := q) (by omega), t1, bit1 (by omega) (by omega), nI_1', nI_1', nI_shl1 (by omega), nI_shl1 (by omega), nI_or]
    refine b_F (nI_ge hq (by omega)) (b_F (nI_ge (by omega) (by omega)) ⟨vin (by omega) (by omega), b_ne (by omega) (by omega) (fun c => ?_) (fun c => ?_)⟩)
    · refine ih (nI found, s2) ⟨by omega, tb, found, rfl, e2', e3, fun z a b hab hb hc => ?_⟩
      by_cases y : a = p ∧ b = q
      · obtain ⟨rfl, rfl⟩ := y
        have hlt : tb a / 2 ^ b % 2 < 2 := Nat.mod_lt _ (by decide)
        exact fun _ => (tb_div (tb a) b).mp (by omega)
      · exact e4 z a b hab hb (by omega)
    · have hold : bj tb p q = false := (tb_div0 (tb p) q).mp c
      refine sp_come (tb := tb) hn hk hm hp hV e2'.1 hpn hq (fun hc => b_F ne10 ?_) (fun hc => b_T rfl ?_)
      · obtain ⟨l, hl, hl2⟩ := hc
        obtain ⟨b, b1, b2⟩ := and_ne.mp hl2
        have hRL : RLV n k pm V p q (tg pm p l) b := ⟨hpn, hq, l, hl, rfl, b2⟩
        have hbn := hV.bit hm hp hq hl b2
        have hmg : ∃ d, mg (RLV n k pm V) d p q := by
          obtain ⟨d, hd⟩ := e2'.2.2.2 _ b (hp p l hpn hl).2 hbn b1
          exact ⟨d + 1, Or.inr ⟨_, b, hRL, hd⟩⟩
        have hmg2 : ∃ d, mg (RLV n k pm V) d q p := hmg.elim fun d hd => ⟨d, mg_sym hs d p q hd⟩
        have hne : q ≠ p := by omega
        have v1 : vp_in (nI p) 12 := vin (by omega) (by omega)
        have v2 : vp_in (nI q) 12 := vin (by omega) (by omega)
        have q2 : 2 ^ q < 2 ^ 12 := Nat.pow_lt_pow_right (by decide) (by omega)
        have p2 : 2 ^ p < 2 ^ 12 := Nat.pow_lt_pow_right (by decide) (by omega)
        rw [pk_un hne, t3, nI_or]
        have bval : ∀ a b, bj (fun a => if a = q then tb q ||| 2 ^ p else if a = p then tb p ||| 2 ^ q else tb a) a b = (bj tb a b || decide ((a = p ∧ b = q) ∨ (a = q ∧ b = p))) := fun a b => by
          show (if a = q then tb q ||| 2 ^ p else if a = p then tb p ||| 2 ^ q else tb a).testBit b = _
          by_cases y1 : a = q
          · subst y1
            rw [if_pos rfl, Nat.testBit_or, Nat.testBit_two_pow]
            have : (p = b) = ((a = p ∧ b = a) ∨ (a = a ∧ b = p)) := propext ⟨fun z => Or.inr ⟨rfl, z.symm⟩, fun z => z.elim (fun w => absurd w.1 hne) (fun w => w.2.symm)⟩
            simp only [this]
            rfl
          · rw [if_neg y1]
            by_cases y2 : a = p
            · subst y2
              rw [if_pos rfl, Nat.testBit_or, Nat.testBit_two_pow]
              have : (q = b) = ((a = a ∧ b = q) ∨ (a = q ∧ b = a)) := propext ⟨fun z => Or.inl ⟨rfl, z.symm⟩, fun z => z.elim (fun w => w.2.symm) (fun w => absurd w.1 y1)⟩
              simp only [this]
              rfl
            · rw [if_neg y2]
              have : ¬ ((a = p ∧ b = q) ∨ (a = q ∧ b = p)) := fun z => z.elim (fun w => y2 w.1) (fun w => y1 w.1)
              rw [decide_eq_false this, Bool.or_false]
              rfl
        have hNJ : NJ n (bj (fun a => if a = q then tb q ||| 2 ^ p else if a = p then tb p ||| 2 ^ q else tb a)) = NJ n (bj tb) + 1 := NJ_set hpq hq hold (by rw [bval]; simp) (fun a b hab hb hne2 => by
          rw [bval, decide_eq_false (fun z => z.elim hne2 (fun w => by omega)), Bool.or_false])
        refine ⟨v1, v1, v2, v2, ih (_, _) ⟨by omega, (fun a => if a = q then tb q ||| 2 ^ p else if a = p then tb p ||| 2 ^ q else tb a), found + 1, rfl, ⟨fun a ha => ⟨?_, ?_⟩, fun a ha => ?_, fun a b ha hb => ?_, fun a b ha hb hab => ?_⟩, ?_, fun z => absurd z (by omega)⟩⟩
        · show upd (upd s2 p _) q _ a = nI (if a = q then tb q ||| 2 ^ p else if a = p then tb p ||| 2 ^ q else tb a)
          by_cases y1 : a = q
          · subst y1; rw [pk_us, if_pos rfl]
          · rw [pk_un y1, if_neg y1]
            by_cases y2 : a = p
            · subst y2; rw [pk_us, if_pos rfl]
            · rw [pk_un y2, if_neg y2]; exact (e2'.1 a ha).1
        · show (if a = q then tb q ||| 2 ^ p else if a = p then tb p ||| 2 ^ q else tb a) < 4096
          by_cases y1 : a = q
          · rw [if_pos y1]; exact Nat.or_lt_two_pow (n := 12) t4 p2
          · rw [if_neg y1]
            by_cases y2 : a = p
            · rw [if_pos y2]; exact Nat.or_lt_two_pow (n := 12) t2 q2
            · rw [if_neg y2]; exact (e2'.1 a ha).2
        · rw [bval, e2'.2.1 a ha]; rfl
        · rw [bval, bval, e2'.2.2.1 a b ha hb]
          congr 1
          by_cases y : (a = p ∧ b = q) ∨ (a = q ∧ b = p)
          · rw [decide_eq_true y, decide_eq_true (show (b = p ∧ a = q) ∨ (b = q ∧ a = p) by omega)]
          · rw [decide_eq_false y, decide_eq_false (show ¬ ((b = p ∧ a = q) ∨ (b = q ∧ a = p)) by omega)]
        · rw [bval, Bool.or_eq_true, decide_eq_true_iff] at hab
          rcases hab with y | ⟨rfl, rfl⟩ | ⟨rfl, rfl⟩
          · exact e2'.2.2.2 a b ha hb y
          · exact hmg
          · exact hmg2
        · rw [hNJ, e3]; omega
      · refine ih (nI found, s2) ⟨by omega, tb, found, rfl, e2', e3, fun z a b hab hb hc2 => ?_⟩
        by_cases y : a = p ∧ b = q
        · obtain ⟨rfl, rfl⟩ := y
          rintro ⟨c1, c2, ⟨-, -, l, hl, e5, e6⟩, e7⟩
          subst e5
          exact absurd ⟨l, hl, and_ne.mpr ⟨c2, e7, e6⟩⟩ hc
        · exact e4 z a b hab hb (by omega)
end TOG
