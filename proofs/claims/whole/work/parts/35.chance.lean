/-! random words: the reference -/
section RCH
variable {n k j S t : Nat} {mv sh : Nat → Int32} {s : Nat → Nat} {st le mo sr : Nat → Int32} {a b c d : Int32}
theorem rch_let {X : Nat} {worth next : Nat → Int64} {W V : Nat → Nat} {R : Int32 → (Nat → Int64) → Prop} (hn : n ≤ 12) (hk : k ≤ 4) (hj : j < 6) (hst : st j = nI n) (hle : le j = nI k) (hr : RMv n k j mo mv) (hm : MV n k mv) (hs : ∀ l, l < k → s l ≤ 5 ∧ sr (4 * j + l) = nI (s l)) (hX : X < 2 ^ n) (hw : W X < 2 ^ 63 ∧ worth X = lN (W X)) (hx : ∀ T, 0 < T → T < 2 ^ n → next T = lN (V T))
    (h : ∀ next', (∀ T, 0 < T → T < 2 ^ n → next' T = lN (V T + W X * giv (stp n mv) k s X T)) → R (nI (X + 1)) next') : ∃ f, L_X12_chance_110 a b c d st le mo sr worth (nI j) (nI X) R f (nI 0) next := by
  have h12 : 2 ^ n ≤ 2 ^ 12 := Nat.pow_le_pow_right (by decide) hn
  refine pk_loop (fun f l (u : Nat → Int64) => L_X12_chance_110 a b c d st le mo sr worth (nI j) (nI X) R f (nI l) u) (fun l u => ∀ T, 0 < T → T < 2 ^ n → u T = lN (V T + W X * sm (fun l => if stp n mv X l = T then s l else 0) l)) k 0 next (Nat.zero_le _) (fun T h0 h1 => by rw [sm, Nat.mul_zero, Nat.add_zero]; exact hx T h0 h1) ?_ ?_
  · intro f u hT
    show L_X12_chance_110 a b c d st le mo sr worth (nI j) (nI X) R (f + 1) (nI k) u
    unfold L_X12_chance_110
    refine ⟨vin hj (by omega), ?_⟩
    rw [nI_clamp (by omega), hle]
    refine b_T (nI_le (Nat.le_refl _) (by omega)) ?_
    unfold J_X12_chance_176
    rw [nI_1']
    exact h u hT
  · intro f l u hl hT ih
    show L_X12_chance_110 a b c d st le mo sr worth (nI j) (nI X) R (f + 1) (nI l) u
    unfold L_X12_chance_110
    refine ⟨vin hj (by omega), ?_⟩
    rw [nI_clamp (by omega), hle]
    refine b_F (nI_ge hl (by omega)) ⟨vin (by omega) (by omega), ?_⟩
    rw [nI_clamp (by omega), hw.2]
    refine b_if (fun e => ?_) (fun e => ?_)
    · have e0 := (lN_le0 hw.1).mp e
      unfold J_X12_chance_176
      rw [nI_1']
      refine h u (fun T h0 h1 => ?_)
      rw [hT T h0 h1, e0, Nat.zero_mul, Nat.zero_mul]
    · refine sp_next hn hk hj hst hr hm hl (by omega) ?_
      have hlt : stp n mv X l < 2 ^ n := stp_lt2 hm hn hl
      rw [pk_mul, nI_add, nI_1', nI_clamp (by omega), nI_clamp (by omega), (hs l hl).2, nI_l (by have := (hs l hl).1; omega), lN_mul]
      refine ⟨vin (by omega) (by omega), vin (by omega) (by omega), vin (by omega) (by omega), vin (by omega) (by omega), ih _ (fun T h0 h1 => ?_)⟩
      rw [sm]
      by_cases e2 : T = stp n mv X l
      · subst e2
        rw [pk_uLs, hT _ h0 h1, lN_add, if_pos rfl, Nat.mul_add, Nat.add_assoc]
      · rw [pk_uLn e2, hT T h0 h1, if_neg (fun q => e2 q.symm), Nat.add_zero]
theorem sp_rChance {worth next : Nat → Int64} {Q : Int64 → (Nat → Int64) → (Nat → Int64) → Prop} (hn : n ≤ 12) (hk : k ≤ 4) (hj : j < 6) (hst : st j = nI n) (hle : le j = nI k) (hr : RMv n k j mo mv) (hm : MV n k mv) (hs : ∀ l, l < k → s l ≤ 5 ∧ sr (4 * j + l) = nI (s l)) (hS : 0 < S) (hS2 : S < 2 ^ n) (ht : t ≤ 12) (h : ∀ x y, Q (lN (cha (stp n mv) n k s S t)) x y) : ∃ f, L_X12_chance_33 a b c d st le mo sr next (nI j) (nI S) (nI t) (nI (2 ^ n)) Q f (nI 0) worth := by
  have h12 : 2 ^ n ≤ 2 ^ 12 := Nat.pow_le_pow_right (by decide) hn
  have hp : 0 < 2 ^ n := Nat.two_pow_pos n
  have hx2 : ∀ S l, S < 2 ^ n → l < k → stp n mv S l < 2 ^ n := fun S l _ hl => stp_lt2 hm hn hl
  have hwb : ∀ t, t ≤ 12 → ∀ T, T < 2 ^ n → wch (stp n mv) k s (2 ^ n) S t T < 2 ^ 63 := fun t ht T hT => wch_bound hS2 hx2 hk (fun l hl => (hs l hl).1) ht hT
  have hw0 : ∀ t, wch (stp n mv) k s (2 ^ n) S t 0 = 0 := fun t => by
    cases t with
    | zero => exact if_neg (by omega)
    | succ t => exact if_pos rfl
  refine pk_loop (fun f i (u : Nat → Int64) => L_X12_chance_33 a b c d st le mo sr next (nI j) (nI S) (nI t) (nI (2 ^ n)) Q f (nI i) u) (fun i u => ∀ T, T < i → u T = lN (if T = S then 1 else 0)) (2 ^ n) 0 worth (Nat.zero_le _) (fun T hT => by omega) ?_ ?_
  · intro f u hu
    show L_X12_chance_33 a b c d st le mo sr next (nI j) (nI S) (nI t) (nI (2 ^ n)) Q (f + 1) (nI (2 ^ n)) u
    unfold L_X12_chance_33
    refine b_T (nI_le (Nat.le_refl _) (by omega)) ?_
    unfold J_X12_chance_64
    refine pk_loop (fun f i (v : (Nat → Int64) × (Nat → Int64)) => L_X12_chance_67 a b c d st le mo sr (nI j) (nI t) (nI (2 ^ n)) Q f (nI i) v.1 v.2) (fun i v => ∀ T, T < 2 ^ n → v.1 T = lN (wch (stp n mv) k s (2 ^ n) S i T)) t 0 (u, next) (Nat.zero_le _) hu ?_ ?_
    · rintro f ⟨v1, v2⟩ hv
      show L_X12_chance_67 a b c d st le mo sr (nI j) (nI t) (nI (2 ^ n)) Q (f + 1) (nI t) v1 v2
      unfold L_X12_chance_67
      refine b_T (nI_le (Nat.le_refl _) (by omega)) ?_
      unfold J_X12_chance_227
      refine pk_loop (fun f i (x : Int64) => L_X12_chance_233 st v1 v2 (nI j) Q f x (nI i)) (fun i x => x = lN (sm (fun q => wch (stp n mv) k s (2 ^ n) S t (2 ^ q)) i)) n 0 (lN 0) (Nat.zero_le _) rfl ?_ ?_
      · rintro f x rfl
        show L_X12_chance_233 st v1 v2 (nI j) Q (f + 1) _ (nI n)
        unfold L_X12_chance_233
        refine ⟨vin hj (by omega), ?_⟩
        rw [nI_clamp (by omega), hst]
        exact b_T (nI_le (Nat.le_refl _) (by omega)) (h _ _)
      · rintro f i x hi rfl ih
        show L_X12_chance_233 st v1 v2 (nI j) Q (f + 1) _ (nI i)
        unfold L_X12_chance_233
        refine ⟨vin hj (by omega), ?_⟩
        have hq : 2 ^ i < 2 ^ n := Nat.pow_lt_pow_right (by decide) hi
        rw [nI_clamp (by omega), hst, nI_shl1 (by omega), nI_clamp (by omega), nI_1']
        refine b_F (nI_ge hi (by omega)) ⟨vin (by omega) (by omega), ih _ ?_⟩
        have hv' : v1 (2 ^ i) = lN (wch (stp n mv) k s (2 ^ n) S t (2 ^ i)) := hv (2 ^ i) hq
        rw [hv', lN_add, sm]
    · rintro f i ⟨v1, v2⟩ hi hv ih
      show L_X12_chance_67 a b c d st le mo sr (nI j) (nI t) (nI (2 ^ n)) Q (f + 1) (nI i) v1 v2
      have hv' : ∀ T, T < 2 ^ n → v1 T = lN (wch (stp n mv) k s (2 ^ n) S i T) := hv
      unfold L_X12_chance_67
      refine b_F (nI_ge hi (by omega)) ?_
      refine pk_loop (fun f X (x : Nat → Int64) => L_X12_chance_76 a b c d st le mo sr v1 (nI j) (nI (2 ^ n)) (nI i) (L_X12_chance_67 a b c d st le mo sr (nI j) (nI t) (nI (2 ^ n)) Q _) f (nI X) x) (fun X x => ∀ T, T < X → x T = lN 0) (2 ^ n) 0 v2 (Nat.zero_le _) (fun T hT => by omega) ?_ ?_
      · intro f1 x hx
        show L_X12_chance_76 a b c d st le mo sr v1 (nI j) (nI (2 ^ n)) (nI i) _ (f1 + 1) (nI (2 ^ n)) x
        unfold L_X12_chance_76
        refine b_T (nI_le (Nat.le_refl _) (by omega)) ?_
        unfold J_X12_chance_97
        refine pk_loop (fun f X (x : Nat → Int64) => L_X12_chance_100 a b c d st le mo sr v1 (nI j) (nI (2 ^ n)) (nI i) _ f (nI X) x) (fun X x => ∀ T, 0 < T → T < 2 ^ n → x T = lN (sm (fun X => wch (stp n mv) k s (2 ^ n) S i X * giv (stp n mv) k s X T) X)) (2 ^ n) 1 x hp (fun T h0 h1 => ?_) ?_ ?_
        · rw [sm, sm, hw0, Nat.zero_mul]; exact hx T h1
        · intro f2 y hy
          show L_X12_chance_100 a b c d st le mo sr v1 (nI j) (nI (2 ^ n)) (nI i) _ (f2 + 1) (nI (2 ^ n)) y
          unfold L_X12_chance_100
          refine b_T (nI_le (Nat.le_refl _) (by omega)) ?_
          unfold J_X12_chance_182
          refine pk_loop (fun f X (x : Nat → Int64) => L_X12_chance_185 y (nI (2 ^ n)) (nI i) _ f (nI X) x) (fun X x => ∀ T, T < X → x T = lN (wch (stp n mv) k s (2 ^ n) S (i + 1) T)) (2 ^ n) 0 v1 (Nat.zero_le _) (fun T hT => by omega) ?_ ?_
          · intro f3 z hz
            show L_X12_chance_185 y (nI (2 ^ n)) (nI i) _ (f3 + 1) (nI (2 ^ n)) z
            unfold L_X12_chance_185
            refine b_T (nI_le (Nat.le_refl _) (by omega)) ?_
            unfold J_X12_chance_221
            rw [nI_1']
            exact ih (z, y) hz
          · intro f3 X z hX hz ih3
            show L_X12_chance_185 y (nI (2 ^ n)) (nI i) _ (f3 + 1) (nI X) z
            unfold L_X12_chance_185 J_X12_chance_214
            rw [nI_1', nI_clamp (by omega)]
            refine b_F (nI_ge hX (by omega)) (b_ne (by omega) (by omega) (fun e => ⟨vin (by omega) (by omega), vin (by omega) (by omega), ih3 _ (fun T hT => ?_)⟩) (fun e => ⟨vin (by omega) (by omega), ih3 _ (fun T hT => ?_)⟩))
            · by_cases e2 : T = X
              · subst e2
                rw [pk_uLs, hy T (by omega) hX]
                show _ = lN (if T = 0 then 0 else _)
                rw [if_neg e]
              · rw [pk_uLn e2]; exact hz T (by omega)
            · by_cases e2 : T = X
              · subst e2
                rw [pk_uLs, e, hw0]
              · rw [pk_uLn e2]; exact hz T (by omega)
        · intro f2 X y hX hy ih2
          show L_X12_chance_100 a b c d st le mo sr v1 (nI j) (nI (2 ^ n)) (nI i) _ (f2 + 1) (nI X) y
          unfold L_X12_chance_100
          refine b_F (nI_ge hX (by omega)) ?_
          exact rch_let (W := wch (stp n mv) k s (2 ^ n) S i) hn hk hj hst hle hr hm hs hX ⟨hwb i (by omega) X hX, hv' X hX⟩ hy (fun y' hy' => ih2 y' hy')
      · intro f1 X x hX hx ih1
        show L_X12_chance_76 a b c d st le mo sr v1 (nI j) (nI (2 ^ n)) (nI i) _ (f1 + 1) (nI X) x
        unfold L_X12_chance_76
        rw [nI_1', nI_clamp (by omega)]
        refine b_F (nI_ge hX (by omega)) ⟨vin (by omega) (by omega), ih1 _ (fun T hT => ?_)⟩
        by_cases e2 : T = X
        · subst e2; exact pk_uLs
        · rw [pk_uLn e2]; exact hx T (by omega)
  · intro f i u hi hu ih
    show L_X12_chance_33 a b c d st le mo sr next (nI j) (nI S) (nI t) (nI (2 ^ n)) Q (f + 1) (nI i) u
    unfold L_X12_chance_33 J_X12_chance_57
    rw [nI_1', nI_clamp (by omega)]
    refine b_F (nI_ge hi (by omega)) (b_ne (by omega) (by omega) (fun e => ⟨vin (by omega) (by omega), ih _ (fun T hT => ?_)⟩) (fun e => ⟨vin (by omega) (by omega), ih _ (fun T hT => ?_)⟩))
    · by_cases e2 : T = i
      · subst e2; rw [pk_uLs, if_neg e]
      · rw [pk_uLn e2]; exact hu T (by omega)
    · by_cases e2 : T = i
      · subst e2; rw [pk_uLs, if_pos e]
      · rw [pk_uLn e2]; exact hu T (by omega)
end RCH
