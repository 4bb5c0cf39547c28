/-! the class's table of lengths, whole -/
def LEN (n k : Nat) (mv le : Nat → Int32) (L : Nat) : Prop := (∀ a b, a < b → b < n → le (a * 12 + b) = dis mv k L a b ∧ le (b * 12 + a) = le (a * 12 + b)) ∧ ∀ a, a < n → le (a * 12 + a) = nI 0
def FIX (n k : Nat) (mv : Nat → Int32) (L : Nat) : Prop := ∀ a b, a < n → b < n → md mv k (L + 1) a b = md mv k L a b
section LOE
variable {n k : Nat} {mv le : Nat → Int32}
theorem FIX.all (hm : MV n k mv) (hn : n ≤ 12) {L : Nat} (h : FIX n k mv L) : ∀ (e a b : Nat), a < n → b < n → md mv k (L + e) a b = md mv k L a b
  | 0, _, _, _, _ => rfl
  | e + 1, a, b, ha, hb => by
    cases z : md mv k L a b
    · cases y : md mv k (L + (e + 1)) a b
      · rfl
      · rcases md_s.mp y with y | ⟨l, hl, c1, c2, c3⟩
        · have y' : md mv k (L + e) a b = true := y
          rw [FIX.all hm hn h e a b ha hb, z] at y'; cases y'
        · have c3 : md mv k (L + e) (tg mv a l) (tg mv b l) = true := c3
          rw [FIX.all hm hn h e _ _ (tg_of hn hm ha hl c1).1 (tg_of hn hm hb hl c2).1] at c3
          have := md_s.mpr (Or.inr ⟨l, hl, c1, c2, c3⟩)
          rw [h a b ha hb, z] at this
          cases this
    · exact md_up z (e + 1)
theorem FIX.any (hm : MV n k mv) (hn : n ≤ 12) {L d a b : Nat} (h : FIX n k mv L) (ha : a < n) (hb : b < n) (hd : md mv k d a b = true) : md mv k L a b = true := by
  rcases Nat.le_total d L with c | c
  · exact md_le hd c
  · have := FIX.all hm hn h (d - L) a b ha hb
    rw [show L + (d - L) = d by omega, hd] at this
    exact this.symm
theorem sp_findOf {L : Nat} {wo : Int32} {Q : Int32 → Int32 → (Nat → Int32) → Prop} (hn : n ≤ 12) (hk : k ≤ 4) (hm : MV n k mv) (hL : L < 900) (h : LEN n k mv le L) (hw : wo = nI (TT n - NJ n (isL le)))
    (hQ : ∀ any le', LEN n k mv le' (L + 1) → ((any = nI 0 ∧ FIX n k mv L) ∨ any = nI 1 ∧ NJ n (isL le) + 1 ≤ NJ n (isL le')) → Q any (nI (TT n - NJ n (isL le'))) le') : wp_X5_findOf wo le (nI n) (nI k) mv (nI (L + 1)) Q := by
  unfold wp_X5_findOf
  have start : LST n k mv L (NJ n (isL le)) 0 (0 + 1) (nI 0) wo le := ⟨⟨fun a b hab hb => ⟨by rw [if_neg (by omega)]; exact (h.1 a b hab hb).1, (h.1 a b hab hb).2⟩, h.2⟩, hw, Or.inl ⟨rfl, fun a b _ _ c => by omega⟩, Nat.le_refl _⟩
  have next : ∀ {P : Nat} {any wo : Int32} {le' : Nat → Int32}, P < n → LST n k mv L (NJ n (isL le)) P n any wo le' → LST n k mv L (NJ n (isL le)) (P + 1) (P + 1 + 1) any wo le' := fun {P any wo le'} hP g => by
    obtain ⟨g1, g2, g3, g4⟩ := g
    have hiff : ∀ x y, x < y → y < n → ((x < P + 1 ∨ (x = P + 1 ∧ y < P + 1 + 1)) ↔ (x < P ∨ (x = P ∧ y < n))) := fun x y _ _ => by omega
    refine ⟨⟨fun x y hxy hy => ⟨?_, (g1.1 x y hxy hy).2⟩, g1.2⟩, g2, ?_, g4⟩
    · rw [(g1.1 x y hxy hy).1]
      by_cases c : x < P ∨ (x = P ∧ y < n)
      · rw [if_pos c, if_pos ((hiff x y hxy hy).mpr c)]
      · rw [if_neg c, if_neg (fun z => c ((hiff x y hxy hy).mp z))]
    · rcases g3 with ⟨z1, z2⟩ | z
      · exact Or.inl ⟨z1, fun x y hxy hy c => z2 x y hxy hy ((hiff x y hxy hy).mp c)⟩
      · exact Or.inr z
  refine pk_loop (fun f p (x : Int32 × Int32 × (Nat → Int32)) => L_X5_findOf_5 (nI n) (nI k) mv (nI (L + 1)) Q f x.1 (nI p) x.2.1 x.2.2) (fun p x => LST n k mv L (NJ n (isL le)) p (p + 1) x.1 x.2.1 x.2.2) n 0 (nI 0, wo, le) (Nat.zero_le _) start ?_ ?_
  · rintro f ⟨x1, x2, x3⟩ hx
    show L_X5_findOf_5 (nI n) (nI k) mv (nI (L + 1)) Q (f + 1) x1 (nI n) x2 x3
    have hx' : LST n k mv L (NJ n (isL le)) n (n + 1) x1 x2 x3 := hx
    obtain ⟨g1, g2, g3, g4⟩ := hx'
    unfold L_X5_findOf_5
    refine b_T (nI_le (Nat.le_refl _) (by omega)) ⟨g3.imp (fun z => z.1) (fun z => z.1), ?_⟩
    rw [g2]
    refine hQ _ _ ⟨fun x y hxy hy => ⟨?_, (g1.1 x y hxy hy).2⟩, g1.2⟩ ?_
    · have := (g1.1 x y hxy hy).1
      rw [if_pos (by omega)] at this
      exact this
    · rcases g3 with ⟨z1, z2⟩ | z
      · refine Or.inl ⟨z1, fun x y hx hy => ?_⟩
        rcases Nat.lt_trichotomy x y with c | c | c
        · exact z2 x y c hy (by omega)
        · subst c; rw [md_refl, md_refl]
        · rw [md_syme, md_syme (p := x)]; exact z2 y x c hx (by omega)
      · exact Or.inr z
  · rintro f p ⟨x1, x2, x3⟩ hp hx ih
    show L_X5_findOf_5 (nI n) (nI k) mv (nI (L + 1)) Q (f + 1) x1 (nI p) x2 x3
    unfold L_X5_findOf_5
    rw [nI_1']
    exact b_F (nI_ge hp (by omega)) (find_in hn hk hm hL hp hx (fun any wo le' g => ih (any, wo, le') (next hp g)))
theorem sp_loadP {w : Int32} {Q : Int32 → (Nat → Int32) → Prop} (hn0 : 1 ≤ n) (hn : n ≤ 12) (hk : k ≤ 4) (hm : MV n k mv) (hQ : ∀ le' L, LEN n k mv le' L → FIX n k mv L → L ≤ 67 → Q (nI (TT n - NJ n (isL le'))) le') : wp_X5_load w le (nI n) (nI k) mv Q := by
  unfold wp_X5_load
  refine sp_fill (by omega) ?_
  refine pk_loop (fun f p (x : Nat → Int32) => L_X5_load_10 w (nI n) (nI k) mv Q f (nI p) x) (fun p x => (∀ a, a < p → x (a * 12 + a) = nI 0) ∧ ∀ a b, a < n → b < n → a ≠ b → x (a * 12 + b) = -1) n 0 _ (Nat.zero_le _) ⟨fun a ha => by omega, fun a b ha hb _ => if_pos (by omega)⟩ ?_ ?_
  · rintro f x ⟨h1, h2⟩
    show L_X5_load_10 w (nI n) (nI k) mv Q (f + 1) (nI n) x
    unfold L_X5_load_10
    refine b_T (nI_le (Nat.le_refl _) (by omega)) ?_
    unfold J_X5_load_31
    have e : nI n * (nI n - nI 1) / nI 2 = nI (TT n) := by
      have : n * (n - 1) ≤ 12 * 12 := Nat.mul_le_mul hn (by omega)
      rw [pk_sub hn0, pk_mul, pk_div (by omega) (by omega) (by omega)]
      rfl
    rw [e]
    have hz : NJ n (isL x) = 0 := NJ_none (fun a b hab hb => by
      unfold isL
      rw [h2 a b (by omega) hb (by omega)]; decide)
    have h66 := NJ_66 n (by omega)
    refine loop_m (fun f (s : Int32 × Nat × Int32 × (Nat → Int32)) => L_X5_load_52 (nI n) (nI k) mv Q f s.1 (nI (s.2.1 + 1)) s.2.2.1 s.2.2.2) (fun s => s.2.1 ≤ 67 ∧ LEN n k mv s.2.2.2 s.2.1 ∧ s.2.2.1 = nI (TT n - NJ n (isL s.2.2.2)) ∧ ((s.1 = nI 0 ∧ FIX n k mv s.2.1) ∨ s.1 = nI 1 ∧ s.2.1 ≤ NJ n (isL s.2.2.2))) (fun s => 146 - s.2.1) ?_ (nI 1, 0, _, x) ⟨Nat.zero_le _, ⟨fun a b hab hb => ⟨?_, ?_⟩, h1⟩, ?_, Or.inr ⟨rfl, Nat.zero_le _⟩⟩
    · rintro f ⟨x2, L, wo, le⟩ ⟨g0, g1, g2, g3⟩ ih
      show L_X5_load_52 (nI n) (nI k) mv Q (f + 1) x2 (nI (L + 1)) wo le
      have g0' : L ≤ 67 := g0
      have g1' : LEN n k mv le L := g1
      have g2' : wo = nI (TT n - NJ n (isL le)) := g2
      have g3' : (x2 = nI 0 ∧ FIX n k mv L) ∨ x2 = nI 1 ∧ L ≤ NJ n (isL le) := g3
      have hle := NJ_le (n := n) (f := isL le)
      rw [NJ_all n (by omega)] at hle
      unfold L_X5_load_52
      rcases g3' with ⟨e1, e2⟩ | ⟨e1, e2⟩
      · rw [e1, g2']
        refine b_if (fun _ => hQ le L g1' e2 (by omega)) (fun _ => b_T rfl (hQ le L g1' e2 (by omega)))
      · rw [e1]
        refine b_F (nI_nlt (by omega) (by omega)) (b_F ne10 ?_)
        rw [nI_1']
        refine sp_findOf hn hk hm (by omega) g1' g2' (fun any le' c1 c2 => ?_)
        refine ih (any, L + 1, _, le') ⟨?_, c1, rfl, ?_⟩ ?_
        · show L + 1 ≤ 67; omega
        · rcases c2 with ⟨z1, z2⟩ | ⟨z1, z2⟩
          · refine Or.inl ⟨z1, fun a b ha hb => ?_⟩
            have := FIX.all hm hn z2 2 a b ha hb
            rw [show L + 2 = (L + 1) + 1 by omega] at this
            rw [this, z2 a b ha hb]
          · refine Or.inr ⟨z1, ?_⟩
            show L + 1 ≤ NJ n (isL le')
            omega
        · show 146 - (L + 1) < 146 - L; omega
    · show x (a * 12 + b) = if a = b then nI 0 else -1
      rw [if_neg (by omega)]
      exact h2 a b (by omega) hb (by omega)
    · show x (b * 12 + a) = x (a * 12 + b)
      rw [h2 a b (by omega) hb (by omega), h2 b a hb (by omega) (by omega)]
    · show nI (TT n) = nI (TT n - NJ n (isL x))
      rw [hz, Nat.sub_zero]
  · rintro f p x hp ⟨h1, h2⟩ ih
    show L_X5_load_10 w (nI n) (nI k) mv Q (f + 1) (nI p) x
    unfold L_X5_load_10
    rw [nI_1']
    refine b_F (nI_ge hp (by omega)) (sp_setLength (by omega) (by omega) (ih _ ⟨fun a ha => ?_, fun a b ha hb hab => ?_⟩))
    · by_cases c : a = p
      · subst c; exact pk_us
      · rw [pk_un (by omega)]; exact h1 a (by omega)
    · rw [pk_un (by omega)]; exact h2 a b ha hb hab
end LOE
