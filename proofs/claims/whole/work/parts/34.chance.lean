/-! random words: the class's answer, the reference's, both as one sum -/
def cha (nx : Nat → Nat → Nat) (n k : Nat) (s : Nat → Nat) (S t : Nat) : Nat := sm (fun q => wch nx k s (2 ^ n) S t (2 ^ q)) n
theorem pop2 : ∀ x, x < 4096 → (pop x = 1 → ∃ q, q < 12 ∧ 2 ^ q = x) := dec64 (by decide +kernel)
theorem pop_p2 : ∀ q, q < 12 → pop (2 ^ q) = 1 := by decide +kernel
theorem cha_sum {nx : Nat → Nat → Nat} {n k S t : Nat} {s : Nat → Nat} (hn : n ≤ 12) : sm (fun T => if pop T = 1 then wch nx k s (2 ^ n) S t T else 0) (2 ^ n) = cha nx n k s S t := by
  have h12 : 2 ^ n ≤ 2 ^ 12 := Nat.pow_le_pow_right (by decide) hn
  unfold cha
  rw [← sm_queue (g := fun T => if pop T = 1 then wch nx k s (2 ^ n) S t T else 0) (qd := fun q => 2 ^ q) (n := n) (M := 2 ^ n) (fun q hq => Nat.pow_lt_pow_right (by decide) hq) (fun a b hab _ => Nat.ne_of_lt (Nat.pow_lt_pow_right (by decide) hab)) (fun T hT h => ?_)]
  · exact sm_congr n (fun q hq => if_pos (pop_p2 q (by omega)))
  · show (if pop T = 1 then _ else 0) = 0
    refine if_neg (fun e => ?_)
    obtain ⟨q, hq, e2⟩ := pop2 T (by omega) e
    refine h q ?_ e2
    rw [← e2] at hT
    exact (Nat.pow_lt_pow_iff_right (by decide)).mp hT
section RGT
variable {n k S t : Nat} {mv low high sh : Nat → Int32} {s : Nat → Nat}
theorem sp_right {c1 c2 : Int32} {from_ queue : Nat → Int32} {now next : Nat → Int64} {Q : Int64 → Int32 → (Nat → Int32) → (Nat → Int32) → Int32 → (Nat → Int32) → (Nat → Int32) → (Nat → Int64) → (Nat → Int64) → Prop} (hn : n ≤ 12) (hk : k ≤ 4) (hm : MV n k mv) (hz : TZ low high) (hS : 0 < S) (hS2 : S < 2 ^ n) (ht : t ≤ 12) (hs : ∀ l, l < k → s l ≤ 5 ∧ sh l = nI (s l))
    (h : ∀ low' high' z f q a b, TZ low' high' → Q (lN (cha (stp n mv) n k s S t)) (nI k) low' high' z f q a b) : wp_X0_right c1 low high c2 from_ queue now next (nI n) (nI k) mv sh (nI S) (nI t) Q := by
  have h12 : 2 ^ n ≤ 2 ^ 12 := Nat.pow_le_pow_right (by decide) hn
  have hnx : NX (stp n mv) k := fun S l hl => Nat.lt_of_lt_of_le (stp_lt2 hm hn hl) h12
  unfold wp_X0_right
  refine sp_look2 hn hk hm hz hS hS2 WNm (fun low' high' from' queue' hz' htb hb hbl hr => ?_)
  obtain ⟨hc1, hc2⟩ := bfs_clo (nx := stp n mv) (k := k) (S := S) hk hnx hS (by omega)
  generalize bfs (stp n mv) (fun _ => false) k S = R at hb hbl hr hc1 hc2
  have hsz := hb.sz
  have h0 : inb R.2 S = true := inb_iff.mpr ⟨0, hb.2.2.2.1, hc2⟩
  refine sp_fillL (by omega) (sp_fillL (by omega) (b_F (nI_ge hS (by omega)) (b_F (nI_ge (by omega) (by omega)) ⟨vin (by omega) (by omega), ?_⟩)))
  rw [nI_clamp (by omega)]
  unfold J_X0_right_45
  have hx2 : ∀ S l, S < 2 ^ n → l < k → stp n mv S l < 2 ^ n := fun S l _ hl => stp_lt2 hm hn hl
  have hwb : ∀ t, t ≤ 12 → ∀ T, T < 2 ^ n → wch (stp n mv) k s (2 ^ n) S t T < 2 ^ 63 := fun t ht T hT => wch_bound hS2 hx2 hk (fun l hl => (hs l hl).1) ht hT
  refine pk_loop (fun f i (u : (Nat → Int64) × (Nat → Int64)) => L_X0_right_48 (nI k) low' high' (nI R.2.2.1) from' queue' (nI n) (nI k) sh (nI t) Q f (nI i) u.1 u.2) (fun i u => (∀ x, x < R.2.2.1 → u.1 (R.2.1 x) = lN (wch (stp n mv) k s (2 ^ n) S i (R.2.1 x))) ∧ ∀ T, 0 < T → T < 4096 → u.2 T = lN 0) t 0 (_, _) (Nat.zero_le _) ⟨fun x hx => ?_, fun T _ hT => if_pos hT⟩ ?_ ?_
  · show vp_updL (fun j => if j < 4096 then lN 0 else now j) S (lN 1) (R.2.1 x) = lN (if R.2.1 x = S then 1 else 0)
    by_cases e : R.2.1 x = S
    · rw [e, pk_uLs, if_pos rfl]
    · rw [pk_uLn e, if_neg e]
      exact if_pos (hb.1 x hx).2.1
  · rintro f ⟨u1, u2⟩ ⟨a1, a2⟩
    show L_X0_right_48 (nI k) low' high' (nI R.2.2.1) from' queue' (nI n) (nI k) sh (nI t) Q (f + 1) (nI t) u1 u2
    unfold L_X0_right_48
    refine b_T (nI_le (Nat.le_refl _) (by omega)) ?_
    unfold J_X0_right_65
    refine pk_loop (fun f i (u : Int64) => L_X0_right_71 (nI k) low' high' (nI R.2.2.1) from' queue' u1 u2 Q f u (nI i)) (fun i u => u = lN (sm (fun x => if pop (R.2.1 x) = 1 then wch (stp n mv) k s (2 ^ n) S t (R.2.1 x) else 0) i)) R.2.2.1 0 (lN 0) (Nat.zero_le _) rfl ?_ ?_
    · rintro f u rfl
      show L_X0_right_71 (nI k) low' high' (nI R.2.2.1) from' queue' u1 u2 Q (f + 1) _ (nI R.2.2.1)
      unfold L_X0_right_71
      refine b_T (nI_le (Nat.le_refl _) (by omega)) ?_
      rw [sm_queue (g := fun T => if pop T = 1 then wch (stp n mv) k s (2 ^ n) S t T else 0) (qd := R.2.1) (n := R.2.2.1) (M := 2 ^ n) hbl hb.2.1 (fun T hT hno => ?_), cha_sum hn]
      · exact h _ _ _ _ _ _ _ hz'
      · have : inb R.2 T = false := by
          cases z : inb R.2 T
          · rfl
          · obtain ⟨x, hx, e⟩ := inb_iff.mp z
            exact absurd e (hno x hx)
        show (if pop T = 1 then _ else 0) = 0
        rw [wch_out hc1 h0 t T this]
        exact ite_self _
    · rintro f i u hi rfl ih
      show L_X0_right_71 (nI k) low' high' (nI R.2.2.1) from' queue' u1 u2 Q (f + 1) _ (nI i)
      have g := hb.1 i hi
      unfold L_X0_right_71 J_X0_right_122
      rw [nI_1']
      refine b_F (nI_ge hi (by omega)) (sp_found hb hr hi (sp_isOne g.1 g.2.1 ?_))
      by_cases e : pop (R.2.1 i) = 1
      · rw [if_pos e]
        refine b_F ne10 (b_F (nI_ge (by omega) (by omega)) ⟨vin (by omega) (by omega), ih _ ?_⟩)
        have a1' : ∀ x, x < R.2.2.1 → u1 (R.2.1 x) = lN (wch (stp n mv) k s (2 ^ n) S t (R.2.1 x)) := a1
        rw [nI_clamp (by omega), a1' i hi, lN_add, sm, if_pos e]
      · rw [if_neg e]
        refine b_T rfl (ih _ ?_)
        rw [sm, if_neg e, Nat.add_zero]
  · rintro f i ⟨u1, u2⟩ hi ⟨a1, a2⟩ ih
    show L_X0_right_48 (nI k) low' high' (nI R.2.2.1) from' queue' (nI n) (nI k) sh (nI t) Q (f + 1) (nI i) u1 u2
    unfold L_X0_right_48
    rw [nI_1']
    refine b_F (nI_ge hi (by omega)) (sp_spread (W := wch (stp n mv) k s (2 ^ n) S i) (V := wch (stp n mv) k s (2 ^ n) S (i + 1)) hn hk hm htb hs hb hbl hr (fun x hx => ⟨hwb i (by omega) _ (hbl x hx), a1 x hx⟩) a2 (fun T hT0 _ => ?_) (fun T _ _ hT => wch_out hc1 h0 (i + 1) T hT) (fun now' next' e1 e2 => ih (now', next') ⟨e1, e2⟩))
    show (if T = 0 then 0 else _) = _
    rw [if_neg (by omega)]
    refine (sm_queue (g := fun X => wch (stp n mv) k s (2 ^ n) S i X * giv (stp n mv) k s X T) hbl hb.2.1 (fun X hX hno => ?_)).symm
    have : inb R.2 X = false := by
      cases z : inb R.2 X
      · rfl
      · obtain ⟨x, hx, e⟩ := inb_iff.mp z
        exact absurd e (hno x hx)
    rw [wch_out hc1 h0 i X this, Nat.zero_mul]
end RGT
