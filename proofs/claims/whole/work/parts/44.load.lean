/-! the class's table of lengths, round by round -/
def PL (mv le : Nat → Int32) (L p q l : Nat) : Prop := mv (p * 4 + l) ≠ -1 ∧ mv (q * 4 + l) ≠ -1 ∧ le (tg mv p l * 12 + tg mv q l) = nI L
section LOD
variable {n k : Nat} {mv le : Nat → Int32} {w : Int32}
theorem sp_lengthN1 {x : Int32} {Q : Int32 → Prop} (h : Q (-1)) : wp_X5_lengthOf w le (-1) x Q := by
  unfold wp_X5_lengthOf
  exact b_T (m1_lt (by decide)) h
theorem sp_lengthN2 {a : Nat} {Q : Int32 → Prop} (ha : a < 12) (h : Q (-1)) : wp_X5_lengthOf w le (nI a) (-1) Q := by
  unfold wp_X5_lengthOf
  exact b_F (nI_nlt0 (by omega)) (b_F (nI_ge (by omega) (by omega)) (b_T (m1_lt (by decide)) h))
theorem sp_firstLetter {p q L : Nat} {Q : Int32 → Prop} (hn : n ≤ 12) (hk : k ≤ 4) (hm : MV n k mv) (hp : p < n) (hq : q < n) (hL : L < 2 ^ 30) (h1 : ∀ l, l < k → PL mv le L p q l → (∀ l', l' < l → ¬ PL mv le L p q l') → Q (nI l)) (h0 : (∀ l, l < k → ¬ PL mv le L p q l) → Q (-1)) : wp_X5_firstLetter w le (nI n) (nI k) mv (nI p) (nI q) (nI (L + 1)) Q := by
  unfold wp_X5_firstLetter
  refine pk_loop (fun f l (_ : Unit) => L_X5_firstLetter_3 w le (nI n) (nI k) mv (nI p) (nI q) (nI (L + 1)) Q f (nI l)) (fun l _ => ∀ l', l' < l → ¬ PL mv le L p q l') k 0 () (Nat.zero_le _) (fun l' hl => by omega) ?_ ?_
  · rintro f _ hx
    show L_X5_firstLetter_3 w le (nI n) (nI k) mv (nI p) (nI q) (nI (L + 1)) Q (f + 1) (nI k)
    unfold L_X5_firstLetter_3
    exact b_T (nI_le (Nat.le_refl _) (by omega)) (h0 hx)
  · rintro f l _ hl hx ih
    show L_X5_firstLetter_3 w le (nI n) (nI k) mv (nI p) (nI q) (nI (L + 1)) Q (f + 1) (nI l)
    unfold L_X5_firstLetter_3
    refine b_F (nI_ge hl (by omega)) (sp_target hn hk hp hl (sp_target hn hk hq hl ?_))
    rw [pk_sub (by omega), nI_1', show L + 1 - 1 = L by omega]
    have no : ¬ PL mv le L p q l → L_X5_firstLetter_3 w le (nI n) (nI k) mv (nI p) (nI q) (nI (L + 1)) Q f (nI (l + 1)) := fun c => ih () (fun l' hl' => by
      by_cases e : l' = l
      · subst e; exact c
      · exact hx l' (by omega))
    by_cases c1 : mv (p * 4 + l) = -1
    · rw [c1]
      exact sp_lengthN1 (b_nT (m1_nI (by omega)) (no (fun z => z.1 c1)))
    · obtain ⟨t1, e1⟩ := tg_of hn hm hp hl c1
      by_cases c2 : mv (q * 4 + l) = -1
      · rw [c2, e1]
        exact sp_lengthN2 (by omega) (b_nT (m1_nI (by omega)) (no (fun z => z.2.1 c2)))
      · obtain ⟨t2, e2⟩ := tg_of hn hm hq hl c2
        rw [e1, e2]
        refine sp_lengthOf (by omega) (by omega) (b_nif (fun c => no (fun z => c z.2.2)) (fun c => h1 l hl ⟨c1, c2, c⟩ hx))
/-- in a round: the pairs before (P, q) done -/
def LIN (n k : Nat) (mv le : Nat → Int32) (L P R : Nat) : Prop := (∀ a b, a < b → b < n → (le (a * 12 + b) = if a < P ∨ (a = P ∧ b < R) then dis mv k (L + 1) a b else dis mv k L a b) ∧ le (b * 12 + a) = le (a * 12 + b)) ∧ ∀ a, a < n → le (a * 12 + a) = nI 0
theorem LIN.got {L P R a b : Nat} (h : LIN n k mv le L P R) (hL : L < 1000) (ha : a < n) (hb : b < n) : le (a * 12 + b) = nI L ↔ exa mv k L a b := by
  have key : ∀ a b, a < b → b < n → (le (a * 12 + b) = nI L ↔ exa mv k L a b) := fun a b hab hb => by
    rw [(h.1 a b hab hb).1]
    by_cases c : a < P ∨ (a = P ∧ b < R)
    · rw [if_pos c]; exact dis_exa (by omega) (by omega) (by omega)
    · rw [if_neg c]; exact dis_exa (by omega) (by omega) (by omega)
  have hsym : ∀ a b, exa mv k L a b → exa mv k L b a := fun a b h => ⟨md_sym _ _ _ h.1, fun e he => by rw [md_syme]; exact h.2 e he⟩
  rcases Nat.lt_trichotomy a b with c | c | c
  · exact key a b c hb
  · subst c
    rw [h.2 a ha]
    constructor
    · intro e
      have : 0 = L := (nI_eq (by omega) (by omega)).mp e
      subst this
      exact ⟨md_refl, fun e he => by omega⟩
    · intro e
      rcases Nat.eq_zero_or_pos L with z | z
      · rw [z]
      · have := e.2 0 z; rw [md_refl] at this; cases this
  · rw [(h.1 b a c ha).2, key b a c ha]
    exact ⟨hsym b a, hsym a b⟩
theorem PL_md {L P R p q : Nat} (hn : n ≤ 12) (hm : MV n k mv) (h : LIN n k mv le L P R) (hL : L < 1000) (hp : p < n) (hq : q < n) (h0 : md mv k L p q = false) : (∃ l, l < k ∧ PL mv le L p q l) ↔ md mv k (L + 1) p q = true := by
  rw [md_s, h0]
  constructor
  · rintro ⟨l, hl, c1, c2, c3⟩
    exact Or.inr ⟨l, hl, c1, c2, ((h.got hL (tg_of hn hm hp hl c1).1 (tg_of hn hm hq hl c2).1).mp c3).1⟩
  · rintro (c | ⟨l, hl, c1, c2, c3⟩)
    · cases c
    · refine ⟨l, hl, c1, c2, (h.got hL (tg_of hn hm hp hl c1).1 (tg_of hn hm hq hl c2).1).mpr ⟨c3, fun e he => ?_⟩⟩
      cases y : md mv k e (tg mv p l) (tg mv q l)
      · rfl
      · have : md mv k (e + 1) p q = true := md_s.mpr (Or.inr ⟨l, hl, c1, c2, y⟩)
        rw [md_le this (show e + 1 ≤ L by omega)] at h0
        cases h0
def isL (le : Nat → Int32) : Nat → Nat → Bool := fun p q => decide (le (p * 12 + q) ≠ -1)
def TT (n : Nat) : Nat := n * (n - 1) / 2
/-- the state within a round -/
def LST (n k : Nat) (mv : Nat → Int32) (L N0 P R : Nat) (any wo : Int32) (le : Nat → Int32) : Prop := LIN n k mv le L P R ∧ wo = nI (TT n - NJ n (isL le)) ∧ ((any = nI 0 ∧ (∀ a b, a < b → b < n → (a < P ∨ (a = P ∧ b < R)) → md mv k (L + 1) a b = md mv k L a b)) ∨ any = nI 1 ∧ N0 + 1 ≤ NJ n (isL le)) ∧ N0 ≤ NJ n (isL le)
theorem find_in {L N0 P : Nat} {any wo : Int32} {G : Int32 → Int32 → Int32 → (Nat → Int32) → Prop} (hn : n ≤ 12) (hk : k ≤ 4) (hm : MV n k mv) (hL : L < 900) (hP : P < n) (h : LST n k mv L N0 P (P + 1) any wo le) (hG : ∀ any wo le, LST n k mv L N0 P n any wo le → G any (nI (P + 1)) wo le) : ∃ f, L_X5_findOf_20 (nI n) (nI k) mv (nI (L + 1)) (nI P) G f any (nI (P + 1)) wo le := by
  refine pk_loop (fun f q (x : Int32 × Int32 × (Nat → Int32)) => L_X5_findOf_20 (nI n) (nI k) mv (nI (L + 1)) (nI P) G f x.1 (nI q) x.2.1 x.2.2) (fun q x => P < q ∧ LST n k mv L N0 P q x.1 x.2.1 x.2.2) n (P + 1) (any, wo, le) (by omega) ⟨by omega, h⟩ ?_ ?_
  · rintro f ⟨x1, x2, x3⟩ ⟨-, hx⟩
    show L_X5_findOf_20 (nI n) (nI k) mv (nI (L + 1)) (nI P) G (f + 1) x1 (nI n) x2 x3
    unfold L_X5_findOf_20
    refine b_T (nI_le (Nat.le_refl _) (by omega)) ?_
    unfold J_X5_findOf_91
    rw [nI_1']
    exact hG _ _ _ hx
  · rintro f q ⟨x1, x2, le⟩ hq ⟨hPq, hx⟩ ih
    show L_X5_findOf_20 (nI n) (nI k) mv (nI (L + 1)) (nI P) G (f + 1) x1 (nI q) x2 le
    have hx' : LST n k mv L N0 P q x1 x2 le := hx
    obtain ⟨g1, g2, g3, g4⟩ := hx'
    unfold L_X5_findOf_20 J_X5_findOf_85
    rw [nI_1']
    have cur := (g1.1 P q hPq hq).1
    rw [if_neg (by omega)] at cur
    have split : ∀ a b, (a < P ∨ (a = P ∧ b < q + 1)) ↔ (a < P ∨ (a = P ∧ b < q)) ∨ (a = P ∧ b = q) := fun a b => by omega
    -- the entry stays
    have stay : dis mv k (L + 1) P q = dis mv k L P q → md mv k (L + 1) P q = md mv k L P q → L_X5_findOf_20 (nI n) (nI k) mv (nI (L + 1)) (nI P) G f x1 (nI (q + 1)) x2 le := by
      intro e1 e2
      refine ih (x1, x2, le) ⟨by omega, ⟨⟨fun a b hab hb => ⟨?_, (g1.1 a b hab hb).2⟩, g1.2⟩, g2, ?_, g4⟩⟩
      · show le (a * 12 + b) = _
        rw [(g1.1 a b hab hb).1]
        by_cases z : a < P ∨ (a = P ∧ b < q)
        · rw [if_pos z, if_pos ((split a b).mpr (Or.inl z))]
        · rw [if_neg z]
          by_cases y : a = P ∧ b = q
          · obtain ⟨rfl, rfl⟩ := y
            rw [if_pos ((split a b).mpr (Or.inr ⟨rfl, rfl⟩)), e1]
          · rw [if_neg (fun y2 => ((split a b).mp y2).elim z y)]
      · rcases g3 with ⟨z1, z2⟩ | z
        · refine Or.inl ⟨z1, fun a b hab hb c => ?_⟩
          rcases (split a b).mp c with z | ⟨ea, eb⟩
          · exact z2 a b hab hb z
          · rw [ea, eb]; exact e2
        · exact Or.inr z
    refine b_F (nI_ge hq (by omega)) (sp_lengthOf (by omega) (by omega) (b_nif (fun c => ?_) (fun c => ?_)))
    · rw [cur] at c
      rcases dis_spec (mv := mv) (k := k) L P q with ⟨-, b⟩ | ⟨a, -⟩
      · exact absurd b c
      · exact stay (by rw [dis, if_pos a]) (by rw [a, md_s.mpr (Or.inl a)])
    · rw [cur] at c
      have hmd : md mv k L P q = false := by
        rcases dis_spec (mv := mv) (k := k) L P q with ⟨a, -⟩ | ⟨-, d, hd, b, -⟩
        · exact a
        · rw [b] at c; exact absurd c (nI_m1 (by omega))
      refine sp_firstLetter hn hk hm (by omega) hq (by omega) (fun l hl hpl _ => ?_) (fun hno => ?_)
      · have hmd1 := (PL_md hn hm g1 (by omega) (by omega) hq hmd).mp ⟨l, hl, hpl⟩
        refine b_F (nI_m1 (by omega)) (sp_setLength (by omega) (by omega) (sp_setLength (by omega) (by omega) ?_))
        have hold : isL le P q = false := by unfold isL; rw [cur, c]; decide
        have hNJ : NJ n (isL (upd (upd le (P * 12 + q) (nI (L + 1))) (q * 12 + P) (nI (L + 1)))) = NJ n (isL le) + 1 := NJ_set hPq hq hold (by
          unfold isL
          rw [pk_un (by omega), pk_us]
          exact decide_eq_true (nI_m1 (by omega))) (fun a b hab hb hne => by
          unfold isL
          rw [pk_un (by omega), pk_un (by omega)])
        have hT := NJ_le (n := n) (f := isL (upd (upd le (P * 12 + q) (nI (L + 1))) (q * 12 + P) (nI (L + 1))))
        rw [NJ_all n (by omega)] at hT
        have hT' : NJ n (isL le) + 1 ≤ TT n := by rw [← hNJ]; exact hT
        rw [show x2 = nI (TT n - NJ n (isL le)) from g2, pk_sub (by omega)]
        refine ih (_, _, _) ⟨by omega, ⟨fun a b hab hb => ?_, fun a ha => ?_⟩, ?_, Or.inr ⟨rfl, ?_⟩, ?_⟩
        · show upd (upd le (P * 12 + q) (nI (L + 1))) (q * 12 + P) (nI (L + 1)) (a * 12 + b) = (if _ then _ else _) ∧ upd (upd le (P * 12 + q) (nI (L + 1))) (q * 12 + P) (nI (L + 1)) (b * 12 + a) = upd (upd le (P * 12 + q) (nI (L + 1))) (q * 12 + P) (nI (L + 1)) (a * 12 + b)
          by_cases e : a = P ∧ b = q
          · obtain ⟨rfl, rfl⟩ := e
            rw [pk_us, pk_un (by omega), pk_us, if_pos (by omega), dis, if_neg (by rw [hmd]; decide), if_pos hmd1]
            exact ⟨rfl, rfl⟩
          · rw [pk_un (by omega), pk_un (by omega), pk_un (by omega), pk_un (by omega)]
            refine ⟨?_, (g1.1 a b hab hb).2⟩
            rw [(g1.1 a b hab hb).1]
            by_cases z : a < P ∨ (a = P ∧ b < q)
            · rw [if_pos z, if_pos ((split a b).mpr (Or.inl z))]
            · rw [if_neg z, if_neg (fun y => ((split a b).mp y).elim z e)]
        · show upd (upd le (P * 12 + q) (nI (L + 1))) (q * 12 + P) (nI (L + 1)) (a * 12 + a) = nI 0
          rw [pk_un (by omega), pk_un (by omega)]
          exact g1.2 a ha
        · show nI (TT n - NJ n (isL le) - 1) = nI (TT n - NJ n (isL (upd (upd le (P * 12 + q) (nI (L + 1))) (q * 12 + P) (nI (L + 1)))))
          rw [hNJ, show TT n - NJ n (isL le) - 1 = TT n - (NJ n (isL le) + 1) by omega]
        · show N0 + 1 ≤ NJ n (isL (upd (upd le (P * 12 + q) (nI (L + 1))) (q * 12 + P) (nI (L + 1))))
          rw [hNJ]; omega
        · show N0 ≤ NJ n (isL (upd (upd le (P * 12 + q) (nI (L + 1))) (q * 12 + P) (nI (L + 1))))
          rw [hNJ]; omega
      · have hmd1 : md mv k (L + 1) P q = false := by
          cases z : md mv k (L + 1) P q
          · rfl
          · obtain ⟨l, hl, hpl⟩ := (PL_md hn hm g1 (by omega) (by omega) hq hmd).mpr z
            exact absurd hpl (hno l hl)
        exact b_T rfl (stay (by rw [dis, if_neg (by rw [hmd]; decide), if_neg (by rw [hmd1]; decide), c]) (by rw [hmd1, hmd]))
end LOD
