/-! cheapest -/
section PCH
variable {N : Nat} {n k : Nat → Nat} {mv li pr sh : Nat → Nat → Int32} {ma : Int32} {st le mo lt pc sr : Nat → Int32} {j : Nat}
variable {made wl sl size wl2 qd hp x2 : Int32} {mch : Nat → Option Nat} {row low high from_ sums keys word rf rb su set hs ht : Nat → Int32}
theorem RGD.go {S : Nat} {Q2 : QD} (h : RSt N n k mv li pr sh ma st le mo lt pc sr) (hj : j < N) (hS : 0 < S) (hS2 : S < 2 ^ n j) (hg : RGD S ma wl2 qd st le mo pc word j Q2 1 (fun _ => 0, 0, fun _ => 0, fun _ => 1) (fun x => x = S) (fun s => if s = S then 1 else 0)) : wp_X12_cheapest ma wl2 qd hp st le mo pc word rf rb su set hs ht (nI j) (nI S) Q2 := by
  obtain ⟨⟨⟨g1, g2, g3, g4⟩, g5, -⟩, s1, s2, s3, -⟩ := h.2.2 j hj
  have hN := h.1
  have h12 : 2 ^ n j ≤ 2 ^ 12 := Nat.pow_le_pow_right (by decide) g2
  obtain ⟨g, hg⟩ := hg
  unfold wp_X12_cheapest
  refine rT1 h hj hS hS2 (b_nT ne10 ?_)
  refine pk_loop (fun f i (s : (Nat → Int32) × (Nat → Int32)) => L_X12_cheapest_14 ma wl2 qd hp st le mo pc word rf rb hs ht (nI j) (nI S) Q2 f (nI i) s.1 s.2) (fun i s => ∀ t, t < i → s.1 t = -1 ∧ s.2 t = nI 0) 4096 0 (su, set) (Nat.zero_le _) (fun t ht => absurd ht (by omega)) ?_ ?_
  · rintro f ⟨s1', s2'⟩ hs'
    show L_X12_cheapest_14 ma wl2 qd hp st le mo pc word rf rb hs ht (nI j) (nI S) Q2 (f + 1) (nI 4096) s1' s2'
    have hs2 : ∀ t, t < 4096 → s1' t = -1 ∧ s2' t = nI 0 := hs'
    unfold L_X12_cheapest_14 J_X12_cheapest_41
    refine b_T (nI_le (Nat.le_refl _) (by omega)) ⟨vin (by omega) (by omega), vin (by omega) (by omega), ?_⟩
    have hHR0 : HR 0 (fun _ => False) hs ht := ⟨fun _ => 0, ⟨fun i _ hi => absurd hi (by omega), fun i j hi => absurd hi (by omega), fun x => ⟨fun h => h.elim, fun ⟨i, hi, _⟩ => absurd hi (by omega)⟩⟩, fun i hi => absurd hi (by omega)⟩
    refine sp_heaps (v := 0) (by omega) (by omega) (by omega) hHR0 (fun h => h) (fun hs'' ht'' hh => ⟨g, hg _ _ _ _ _ _ (fun s s0 s1 => ?_) ?_⟩)
    · rw [nI_clamp (by omega)]
      show upd s1' S (nI 0) s = en (if s = S then 1 else 0) ∧ s2' s = (if inb (fun _ => 0, 0, fun _ => 0, fun _ => 1) s = true then nI 1 else nI 0) ∧ ((if s = S then 1 else 0) ≠ 0 → upd rf S (nI 0) s = nI 0 ∧ (s ≠ S → rb s = nI 1))
      have hno : ¬ inb ((fun _ => 0, 0, fun _ => 0, fun _ => 1) : BS) s = true := fun z => by
        obtain ⟨i, hi, -⟩ := inb_iff.mp z
        have : i < 0 := hi
        omega
      rw [if_neg hno]
      by_cases c : s = S
      · subst c
        rw [pk_us, pk_us, if_pos rfl]
        exact ⟨rfl, (hs2 s s1).2, fun _ => ⟨rfl, fun z => absurd rfl z⟩⟩
      · rw [pk_un c, if_neg c]
        exact ⟨(hs2 s s1).1, (hs2 s s1).2, fun z => absurd rfl z⟩
    · have hK : (fun y : Nat => False ∨ y = 0 * 4096 + S) = (fun y => y = S) := by
        funext y
        rw [Nat.zero_mul, Nat.zero_add]
        exact propext ⟨fun h => h.elim False.elim id, Or.inr⟩
      rw [hK] at hh
      exact hh
  · rintro f i ⟨s1', s2'⟩ hi hs' ih
    show L_X12_cheapest_14 ma wl2 qd hp st le mo pc word rf rb hs ht (nI j) (nI S) Q2 (f + 1) (nI i) s1' s2'
    have hs2 : ∀ t, t < i → s1' t = -1 ∧ s2' t = nI 0 := hs'
    unfold L_X12_cheapest_14
    rw [nI_1', nI_clamp (by omega), vnz0]
    refine b_F (nI_ge hi (by omega)) ⟨vin hi (by omega), vin hi (by omega), ih (_, _) (fun t ht => ?_)⟩
    show upd s1' i (-1) t = -1 ∧ upd s2' i (nI 0) t = nI 0
    by_cases c : t = i
    · subst c; rw [pk_us, pk_us]; exact ⟨rfl, rfl⟩
    · rw [pk_un c, pk_un c]; exact hs2 t (by omega)
theorem pr_cheapest (h : RSt N n k mv li pr sh ma st le mo lt pc sr) (hj : j < N) (hz : TZ low high) (hw : WD wl row wl2 word) : wp_X11_cheapest_s made mch wl row sl low high from_ size sums keys (nI (n j)) (nI (k j)) (mv j) (pr j) (nI j) x2 (fun r wl row _ low high _ _ _ _ => TZ low high ∧ wp_X12_cheapest ma wl2 qd hp st le mo pc word rf rb su set hs ht (nI j) x2 (fun r2 wl2 _ word _ _ _ _ _ _ => r = r2 ∧ WD wl row wl2 word)) := by
  obtain ⟨⟨⟨g1, g2, g3, g4⟩, g5, g6, g7, g8⟩, s1, s2, s3, s4, s5⟩ := h.2.2 j hj
  have hN := h.1
  unfold wp_X11_cheapest_s
  refine sp_hasSet g2 (fun S hS hS2 e => ?_) (fun hno => ?_)
  · subst e
    have hpv : ∀ l, l < k j → 1 ≤ (pr j l).toNatClampNeg ∧ (pr j l).toNatClampNeg ≤ 20 ∧ pr j l = nI (pr j l).toNatClampNeg := fun l hl => by
      obtain ⟨v, v1, v2, v3⟩ := g7 l hl
      rw [v3, nI_clamp (by omega)]
      exact ⟨v1, v2, rfl⟩
    have hpc : ∀ l, l < k j → 1 ≤ (pr j l).toNatClampNeg ∧ (pr j l).toNatClampNeg ≤ 20 ∧ pc (4 * j + l) = nI (pr j l).toNatClampNeg := fun l hl => by
      rw [(s5 l hl).1]; exact hpv l hl
    refine b_nT ne10 (sp_plook (G := fun Q2 => wp_X12_cheapest ma wl2 qd hp st le mo pc word rf rb su set hs ht (nI j) (nI S) Q2) (pv := fun l => (pr j l).toNatClampNeg) (wl2 := wl2) (word := word) g2 g4 (by omega) g5 s1 s2 s3 hz hpv hpc hS hS2 (fun Q2 hg => RGD.go h hj hS hS2 hg) (fun _ _ _ _ _ _ hz' hq => ?_) (fun F sz lo hi fr sums' ks sm b2 d f0 f1 hz' q1 q2 q3 q4 q5 hq => ?_))
    · exact b_nF rfl ⟨hz', hq _ (fun _ _ _ _ _ _ _ => ⟨rfl, hw⟩)⟩
    · refine b_nT (fun y => by have := (nI_eq (by omega) (by omega)).mp y; omega) ?_
      have fin : ∀ wl' row', OUT (F, b2) wl row (nI d) wl' row' → wp_X6_sumOf sz sums' (nI F) (fun r10 => TZ lo hi ∧ wp_X12_cheapest ma wl2 qd hp st le mo pc word rf rb su set hs ht (nI j) (nI S) (fun r2 wl2 _ word _ _ _ _ _ _ => r10 = r2 ∧ WD wl' row' wl2 word)) := fun wl' row' ho => by
        unfold wp_X6_sumOf
        rw [nI_clamp (by omega), q5]
        exact b_F (nI_ge f0 (by omega)) (b_F (nI_ge f1 (by omega)) ⟨vin f1 (by omega), hz', hq _ (fun _ _ _ _ _ _ _ _ _ ho2 => ⟨rfl, (OUT.eq q1 ho ho2 hw).2⟩)⟩)
      have fne : (F, b2).1 ≠ 0 := by show F ≠ 0; omega
      exact sp_tell q1 q2 q3 q4 (fun z row' hrow => fin _ _ (Or.inr ⟨fne, d, q3, rfl, Or.inl ⟨z, rfl, hrow⟩⟩)) (fun z => fin _ _ (Or.inr ⟨fne, d, q3, rfl, Or.inr ⟨z, rfl, rfl⟩⟩))
  · refine b_nF rfl ⟨hz, ?_⟩
    unfold wp_X12_cheapest
    exact rT0 h hj hno (b_nF rfl ⟨rfl, hw⟩)
end PCH
