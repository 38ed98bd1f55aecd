/-! SIM: bits -/
theorem sm_tbv (a : Nat) : (sm_n a).toBitVec = BitVec.ofNat 32 a := rfl
theorem sm_bor (a b : Nat) : sm_n a ||| sm_n b = sm_n (a ||| b) := by
  apply Int32.toBitVec_inj.mp
  rw [Int32.toBitVec_or, sm_tbv, sm_tbv, sm_tbv]
  apply BitVec.eq_of_toNat_eq
  simp [Nat.or_mod_two_pow]
theorem sm_band (a b : Nat) : sm_n a &&& sm_n b = sm_n (a &&& b) := by
  apply Int32.toBitVec_inj.mp
  rw [Int32.toBitVec_and, sm_tbv, sm_tbv, sm_tbv]
  apply BitVec.eq_of_toNat_eq
  simp [Nat.and_mod_two_pow]
theorem sm_31 : ∀ t : Fin 31, ((sm_n t.1 &&& 31).toBitVec.smod 32) = BitVec.ofNat 32 t.1 ∧ (1 : Int32) <<< (sm_n t.1 &&& 31) = sm_n (2 ^ t.1) := by decide
theorem sm_shl {t : Nat} (ht : t < 31) : (1 : Int32) <<< (sm_n t &&& 31) = sm_n (2 ^ t) := (sm_31 ⟨t, ht⟩).2
theorem sm_bit {a t : Nat} (ha : a < 2147483648) (ht : t < 31) : (sm_n a >>> (sm_n t &&& 31)) &&& 1 = sm_n (if a.testBit t = true then 1 else 0) := by
  apply Int32.toBitVec_inj.mp
  rw [Int32.toBitVec_and, Int32.toBitVec_shiftRight, (sm_31 ⟨t, ht⟩).1, sm_tbv, sm_tbv]
  have hm : (BitVec.ofNat 32 a).msb = false := by
    rw [BitVec.msb_eq_false_iff_two_mul_lt, BitVec.toNat_ofNat]
    omega
  show BitVec.sshiftRight _ _ &&& _ = _
  rw [BitVec.sshiftRight_eq_of_msb_false hm]
  apply BitVec.eq_of_toNat_eq
  have e1 : (BitVec.ofNat 32 t).toNat = t := by rw [BitVec.toNat_ofNat]; omega
  rw [e1]
  simp only [BitVec.toNat_and, BitVec.toNat_ushiftRight, BitVec.toNat_ofNat]
  rw [Nat.mod_eq_of_lt (show a < 2 ^ 32 by omega)]
  show (a >>> t) &&& 1 = _
  rw [Nat.and_one_is_mod, Nat.testBit_eq_decide_div_mod_eq, Nat.shiftRight_eq_div_pow]
  split <;> simp_all <;> omega
theorem sm_andn {a b : Nat} (ha : a < 2147483648) : (sm_n a &&& (sm_n b ^^^ (-1)) = 0 ↔ ∀ t, a.testBit t = true → b.testBit t = true) := by
  rw [Int32.xor_neg_one, ← Int32.toBitVec_inj, Int32.toBitVec_and, Int32.toBitVec_not, sm_tbv, sm_tbv]
  constructor
  · intro h t ht
    have h2 := congrArg (fun x => x.getLsbD t) h
    have t32 : t < 32 := by
      by_cases z : t < 32
      · exact z
      · rw [Nat.testBit_lt_two_pow (Nat.lt_of_lt_of_le ha (Nat.pow_le_pow_right (n := 2) (i := 31) (by decide) (by omega)))] at ht
        cases ht
    have ea : (BitVec.ofNat 32 a)[t] = true := by rw [← BitVec.getLsbD_eq_getElem, BitVec.getLsbD_ofNat, ht]; simp [t32]
    simp [t32] at h2
    have h3 := h2 ea
    rw [← BitVec.getLsbD_eq_getElem, BitVec.getLsbD_ofNat] at h3
    simpa [t32] using h3
  · intro h
    apply BitVec.eq_of_getLsbD_eq
    intro i hi
    simp [hi]
    intro hb
    rw [← BitVec.getLsbD_eq_getElem, BitVec.getLsbD_ofNat] at hb ⊢
    have := h i (by simpa [hi] using hb)
    simp [hi, this]
