/-! numbers: what a compare, a place, a shift says of numbers below 2^31 -/
theorem b_lt {a b : Nat} {A B : Prop} (ha : a < 2 ^ 31) (hb : b < 2 ^ 31) (f : a < b → A) (g : ¬ a < b → B) : (nI a < nI b → A) ∧ (¬ nI a < nI b → B) := ⟨fun h => f ((nI_ltI ha hb).mp h), fun h => g (fun q => h ((nI_ltI ha hb).mpr q))⟩
theorem b_le {a b : Nat} {A B : Prop} (ha : a < 2 ^ 31) (hb : b < 2 ^ 31) (f : a ≤ b → A) (g : ¬ a ≤ b → B) : (nI a ≤ nI b → A) ∧ (¬ nI a ≤ nI b → B) := ⟨fun h => f ((nI_leI ha hb).mp h), fun h => g (fun q => h ((nI_leI ha hb).mpr q))⟩
theorem b_eq {a b : Nat} {A B : Prop} (ha : a < 2 ^ 31) (hb : b < 2 ^ 31) (f : a = b → A) (g : ¬ a = b → B) : (nI a = nI b → A) ∧ (¬ nI a = nI b → B) := ⟨fun h => f ((nI_eq ha hb).mp h), fun h => g (fun q => h (by rw [q]))⟩
theorem b_ne {a b : Nat} {A B : Prop} (ha : a < 2 ^ 31) (hb : b < 2 ^ 31) (f : ¬ a = b → A) (g : a = b → B) : (¬ nI a = nI b → A) ∧ (nI a = nI b → B) := ⟨fun h => f (fun q => h (by rw [q])), fun h => g ((nI_eq ha hb).mp h)⟩
theorem b_T {c A B : Prop} (h : c) (a : A) : (c → A) ∧ (¬ c → B) := ⟨fun _ => a, fun q => absurd h q⟩
theorem b_F {c A B : Prop} (h : ¬ c) (b : B) : (c → A) ∧ (¬ c → B) := ⟨fun q => absurd q h, fun _ => b⟩
theorem b_nT {c A B : Prop} (h : ¬ c) (a : A) : (¬ c → A) ∧ (c → B) := ⟨fun _ => a, fun q => absurd q h⟩
theorem b_nF {c A B : Prop} (h : c) (b : B) : (¬ c → A) ∧ (c → B) := ⟨fun q => absurd h q, fun _ => b⟩
theorem b_if {c A B : Prop} (f : c → A) (g : ¬ c → B) : (c → A) ∧ (¬ c → B) := ⟨f, g⟩
theorem b_nif {c A B : Prop} (f : ¬ c → A) (g : c → B) : (¬ c → A) ∧ (c → B) := ⟨f, g⟩
theorem nI_m1 {a : Nat} (h : a < 2 ^ 31) : ¬ nI a = -1 := fun q => by
  have := congrArg Int32.toInt q
  rw [nI_toInt h] at this
  have h2 : (-1 : Int32).toInt = -1 := by decide
  omega
theorem m1_nI {a : Nat} (h : a < 2 ^ 31) : ¬ (-1 : Int32) = nI a := fun q => nI_m1 h q.symm
theorem m1_lt {a : Nat} (h : a < 2 ^ 31) : (-1 : Int32) < nI a := by
  rw [Int32.lt_iff_toInt_lt, nI_toInt h]
  have h2 : (-1 : Int32).toInt = -1 := by decide
  omega
theorem nI_nlt0 {a : Nat} (h : a < 2 ^ 31) : ¬ nI a < nI 0 := nI_pos h
theorem vin {i n : Nat} (h : i < n) (hn : n < 2 ^ 31) : vp_in (nI i) n := vp_in_nI h hn
theorem zs_l : ∀ n, n < 32 → ((nI n &&& 31).toBitVec.smod 32).toNat = n := by decide
theorem nI_or (a b : Nat) : nI a ||| nI b = nI (a ||| b) := by
  apply Int32.toBitVec_inj.mp
  show (Int32.ofNat a).toBitVec ||| (Int32.ofNat b).toBitVec = (Int32.ofNat (a ||| b)).toBitVec
  rw [Int32.toBitVec_ofNat', Int32.toBitVec_ofNat', Int32.toBitVec_ofNat']
  apply BitVec.eq_of_toNat_eq
  simp [Nat.or_mod_two_pow]
theorem nI_and (a b : Nat) : nI a &&& nI b = nI (a &&& b) := by
  apply Int32.toBitVec_inj.mp
  show (Int32.ofNat a).toBitVec &&& (Int32.ofNat b).toBitVec = (Int32.ofNat (a &&& b)).toBitVec
  rw [Int32.toBitVec_ofNat', Int32.toBitVec_ofNat', Int32.toBitVec_ofNat']
  apply BitVec.eq_of_toNat_eq
  simp [Nat.and_mod_two_pow]
theorem nI_shl {a k : Nat} (hk : k < 32) (h : a * 2 ^ k < 2 ^ 32) : nI a <<< (nI k &&& 31) = nI (a * 2 ^ k) := pk_shlN _ k (zs_l k hk) h
theorem nI_shl1 {k : Nat} (hk : k < 31) : nI 1 <<< (nI k &&& 31) = nI (2 ^ k) := by
  have h : 2 ^ k < 2 ^ 31 := Nat.pow_lt_pow_right (by decide) hk
  rw [nI_shl (by omega) (by omega), Nat.one_mul]
theorem nI_shr {a k : Nat} (ha : a < 2 ^ 31) (hk : k < 32) : nI a >>> (nI k &&& 31) = nI (a / 2 ^ k) := pk_shrN ha _ k (zs_l k hk)
theorem nI_bit (a : Nat) : nI a &&& nI 1 = nI (a % 2) := by rw [nI_and, Nat.and_one_is_mod]
/-- bits of a number, one place at a time -/
theorem tb_div (S q : Nat) : S / 2 ^ q % 2 = 1 ↔ S.testBit q = true := by
  rw [Nat.testBit_eq_decide_div_mod_eq]; simp
theorem tb_div0 (S q : Nat) : S / 2 ^ q % 2 = 0 ↔ S.testBit q = false := by
  rw [Nat.testBit_eq_decide_div_mod_eq]
  have : S / 2 ^ q % 2 < 2 := Nat.mod_lt _ (by decide)
  simp
theorem nI_1' (a : Nat) : nI a + nI 1 = nI (a + 1) := nI_add a 1
