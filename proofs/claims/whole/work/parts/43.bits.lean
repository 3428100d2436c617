theorem nI_and1 (x : Nat) : nI x &&& Int32.ofInt 1 = nI (x % 2) := by
  apply Int32.toBitVec_inj.mp
  apply BitVec.eq_of_toNat_eq
  show (BitVec.ofNat 32 x &&& 1#32).toNat = (BitVec.ofNat 32 (x % 2)).toNat
  simp only [BitVec.toNat_and, BitVec.toNat_ofNat]
  rw [show 1 % 2 ^ 32 = 1 from rfl, Nat.and_one_is_mod]
  omega
theorem nI_or (a b : Nat) : nI a ||| nI b = nI (a ||| b) := by
  apply Int32.toBitVec_inj.mp
  apply BitVec.eq_of_toNat_eq
  show (BitVec.ofNat 32 a ||| BitVec.ofNat 32 b).toNat = (BitVec.ofNat 32 (a ||| b)).toNat
  simp only [BitVec.toNat_or, BitVec.toNat_ofNat]
  rw [Nat.or_mod_two_pow]
theorem nI_shl1 : ∀ k, k < 16 → Int32.ofInt 1 <<< (nI k &&& 31) = nI (2 ^ k) := by decide +kernel
theorem and31 : ∀ k, k < 32 → nI k &&& 31 = nI k := by decide +kernel
theorem and31u : ∀ k, k < 32 → (nI k).toUInt32 &&& Int32.toUInt32 31 = UInt32.ofNat k := by decide +kernel
theorem nI_ushr {m k : Nat} (hm : m < 2 ^ 31) (hk : k < 32) : ((nI m).toUInt32 >>> ((nI k).toUInt32 &&& Int32.toUInt32 31)).toInt32 = nI (m / 2 ^ k) := by
  rw [and31u k hk]
  apply Int32.toBitVec_inj.mp
  apply BitVec.eq_of_toNat_eq
  show (BitVec.ofNat 32 m >>> (BitVec.ofNat 32 k % 32#32)).toNat = (BitVec.ofNat 32 (m / 2 ^ k)).toNat
  have e : (BitVec.ofNat 32 k % 32#32).toNat = k := by
    have : ∀ k, k < 32 → (BitVec.ofNat 32 k % 32#32).toNat = k := by decide +kernel
    exact this k hk
  have h2 : m / 2 ^ k ≤ m := Nat.div_le_self _ _
  simp only [BitVec.ushiftRight_eq', BitVec.toNat_ushiftRight, BitVec.toNat_ofNat, e]
  rw [Nat.shiftRight_eq_div_pow, Nat.mod_eq_of_lt (by omega : m < 2 ^ 32), Nat.mod_eq_of_lt (by omega : m / 2 ^ k < 2 ^ 32)]
theorem nI_sshr {m k : Nat} (hm : m < 2 ^ 31) (hk : k < 32) : nI m >>> (nI k &&& 31) = nI (m / 2 ^ k) := by
  rw [and31 k hk]
  apply Int32.toBitVec_inj.mp
  apply BitVec.eq_of_toNat_eq
  show ((BitVec.ofNat 32 m).sshiftRight' ((BitVec.ofNat 32 k).smod 32#32)).toNat = (BitVec.ofNat 32 (m / 2 ^ k)).toNat
  have e : ((BitVec.ofNat 32 k).smod 32#32).toNat = k := by
    have : ∀ k, k < 32 → ((BitVec.ofNat 32 k).smod 32#32).toNat = k := by decide +kernel
    exact this k hk
  have h2 : m / 2 ^ k ≤ m := Nat.div_le_self _ _
  have hmsb : (BitVec.ofNat 32 m).msb = false := by
    rw [BitVec.msb_eq_decide]
    simp only [BitVec.toNat_ofNat, decide_eq_false_iff_not]
    omega
  rw [BitVec.sshiftRight', e, BitVec.sshiftRight_eq_of_msb_false hmsb]
  simp only [BitVec.toNat_ushiftRight, BitVec.toNat_ofNat]
  rw [Nat.shiftRight_eq_div_pow, Nat.mod_eq_of_lt (by omega : m < 2 ^ 32), Nat.mod_eq_of_lt (by omega : m / 2 ^ k < 2 ^ 32)]
theorem nI_div {a b : Nat} (ha : a < 2 ^ 31) (hb : b < 2 ^ 31) : nI a / nI b = nI (a / b) := by
  apply Int32.toInt_inj.mp
  have h2 : a / b ≤ a := Nat.div_le_self _ _
  rw [Int32.toInt_div, nI_toInt ha, nI_toInt hb, nI_toInt (by omega)]
  rw [← Int.ofNat_tdiv]
  generalize a / b = q at h2 ⊢
  have h3 : ((q : Int)).bmod (2 ^ 32) = q := Int.bmod_eq_of_le (by omega) (by omega)
  exact h3
theorem nI_xor_ge {a b : Nat} (ha : a < 2 ^ 31) (hb : b < 2 ^ 31) : zcnd .ge (nI a ^^^ nI b) 0 = true := by
  have e : nI a ^^^ nI b = nI (a ^^^ b) := by
    apply Int32.toBitVec_inj.mp
    apply BitVec.eq_of_toNat_eq
    show (BitVec.ofNat 32 a ^^^ BitVec.ofNat 32 b).toNat = (BitVec.ofNat 32 (a ^^^ b)).toNat
    simp only [BitVec.toNat_xor, BitVec.toNat_ofNat]
    rw [Nat.xor_mod_two_pow]
  rw [e]
  simp only [zcnd, decide_eq_true_eq]
  exact nI_pos' (Nat.xor_lt_two_pow ha hb)
/-- the remainder as the machine makes it -/
theorem nI_rem {a b : Nat} (ha : a < 2 ^ 31) (hb : b < 2 ^ 31) : nI a - nI a / nI b * nI b = nI (a % b) := by
  rw [nI_div ha hb, nI_mul, nI_sub (Nat.div_mul_le_self a b)]
  congr 1
  have := Nat.div_add_mod a b
  rw [Nat.mul_comm] at this
  omega
