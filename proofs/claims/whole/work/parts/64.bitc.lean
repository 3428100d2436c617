theorem nI_and (a b : Nat) : nI a &&& nI b = nI (a &&& b) := by
  apply Int32.toBitVec_inj.mp
  apply BitVec.eq_of_toNat_eq
  show (BitVec.ofNat 32 a &&& BitVec.ofNat 32 b).toNat = (BitVec.ofNat 32 (a &&& b)).toNat
  simp only [BitVec.toNat_and, BitVec.toNat_ofNat]
  rw [Nat.and_mod_two_pow]
def bcI (i : Int32) : Int32 :=
  let a := i - (((i.toUInt32 >>> ((Int32.ofInt 1).toUInt32 &&& Int32.toUInt32 31)).toInt32) &&& (Int32.ofNat 1431655765))
  let b := (a &&& Int32.ofNat 858993459) + (((a.toUInt32 >>> ((Int32.ofInt 2).toUInt32 &&& Int32.toUInt32 31)).toInt32) &&& Int32.ofNat 858993459)
  let c := (b + ((b.toUInt32 >>> ((Int32.ofInt 4).toUInt32 &&& Int32.toUInt32 31)).toInt32)) &&& Int32.ofNat 252645135
  let d := c + ((c.toUInt32 >>> (((Int8.ofInt 8).toInt32).toUInt32 &&& Int32.toUInt32 31)).toInt32)
  let e := d + ((d.toUInt32 >>> (((Int8.ofInt 16).toInt32).toUInt32 &&& Int32.toUInt32 31)).toInt32)
  e &&& (Int8.ofInt 63).toInt32
def bcA (m : Nat) : Nat := m - (m / 2 &&& 1431655765)
def bcB (a : Nat) : Nat := (a &&& 858993459) + (a / 4 &&& 858993459)
def bcC (b : Nat) : Nat := (b + b / 16) &&& 252645135
def bcD (c : Nat) : Nat := c + c / 256
def bcE (d : Nat) : Nat := (d + d / 65536) &&& 63
theorem bcI_eq {m : Nat} (hm : m < 2 ^ 16) : bcI (nI m) = nI (bcE (bcD (bcC (bcB (bcA m))))) := by
  have hA : bcA m < 2 ^ 16 := by unfold bcA; omega
  have eA : nI m - (((nI m).toUInt32 >>> ((Int32.ofInt 1).toUInt32 &&& Int32.toUInt32 31)).toInt32 &&& Int32.ofNat 1431655765) = nI (bcA m) := by
    rw [c_1, nI_ushr (by omega) (by decide), o_n, nI_and, nI_sub]
    · rfl
    · have : m / 2 ^ 1 &&& 1431655765 ≤ m / 2 ^ 1 := Nat.and_le_left
      omega
  generalize hAe : bcA m = A at *
  have hB : bcB A < 2 ^ 18 := by
    unfold bcB
    have h1 : A &&& 858993459 ≤ A := Nat.and_le_left
    have h2 : A / 4 &&& 858993459 ≤ A / 4 := Nat.and_le_left
    omega
  have eB : (nI A &&& Int32.ofNat 858993459) + (((nI A).toUInt32 >>> ((Int32.ofInt 2).toUInt32 &&& Int32.toUInt32 31)).toInt32 &&& Int32.ofNat 858993459) = nI (bcB A) := by
    rw [c_2, nI_ushr (by omega) (by decide), o_n, nI_and, nI_and, nI_add]
    rfl
  generalize hBe : bcB A = Bv at *
  have hC : bcC Bv < 2 ^ 20 := by
    unfold bcC
    have h1 : (Bv + Bv / 16) &&& 252645135 ≤ Bv + Bv / 16 := Nat.and_le_left
    omega
  have eC : (nI Bv + ((nI Bv).toUInt32 >>> ((Int32.ofInt 4).toUInt32 &&& Int32.toUInt32 31)).toInt32) &&& Int32.ofNat 252645135 = nI (bcC Bv) := by
    rw [c_4, nI_ushr (by omega) (by decide), o_n, nI_add, nI_and]
    rfl
  generalize hCe : bcC Bv = C at *
  have hD : bcD C < 2 ^ 22 := by
    unfold bcD
    omega
  have eD : nI C + ((nI C).toUInt32 >>> (((Int8.ofInt 8).toInt32).toUInt32 &&& Int32.toUInt32 31)).toInt32 = nI (bcD C) := by
    rw [b_8, nI_ushr (by omega) (by decide), nI_add]
    rfl
  generalize hDe : bcD C = D at *
  have eE : (nI D + ((nI D).toUInt32 >>> (((Int8.ofInt 16).toInt32).toUInt32 &&& Int32.toUInt32 31)).toInt32) &&& (Int8.ofInt 63).toInt32 = nI (bcE D) := by
    rw [b_16, nI_ushr (by omega) (by decide), nI_add, b_63, nI_and]
    rfl
  unfold bcI
  dsimp only
  rw [eA, eB, eC, eD, eE]
def smn (f : Nat → Nat) : Nat → Nat → Nat → Nat
  | 0, _, acc => acc
  | k + 1, i, acc => smn f k (i + 1) (acc + f i)
theorem sm_nI (f : Nat → Nat) : ∀ (k i a : Nat), sm (fun x => nI (f x)) k i (nI a) = nI (smn f k i a)
  | 0, i, a => rfl
  | k + 1, i, a => by
    unfold sm smn
    rw [nI_add]
    exact sm_nI f k (i + 1) (a + f i)
def bcK (i : Nat) : Bool := (List.range 16).all fun h => (List.range 256).all fun l => Nat.beq (bcE (bcD (bcC (bcB (bcA (4096 * i + 256 * h + l)))))) (smn (fun k => (4096 * i + 256 * h + l) / 2 ^ k % 2) 16 0 0)
theorem bcK_0 : bcK 0 = true := by decide +kernel
theorem bcK_1 : bcK 1 = true := by decide +kernel
theorem bcK_2 : bcK 2 = true := by decide +kernel
theorem bcK_3 : bcK 3 = true := by decide +kernel
theorem bcK_4 : bcK 4 = true := by decide +kernel
theorem bcK_5 : bcK 5 = true := by decide +kernel
theorem bcK_6 : bcK 6 = true := by decide +kernel
theorem bcK_7 : bcK 7 = true := by decide +kernel
theorem bcK_8 : bcK 8 = true := by decide +kernel
theorem bcK_9 : bcK 9 = true := by decide +kernel
theorem bcK_10 : bcK 10 = true := by decide +kernel
theorem bcK_11 : bcK 11 = true := by decide +kernel
theorem bcK_12 : bcK 12 = true := by decide +kernel
theorem bcK_13 : bcK 13 = true := by decide +kernel
theorem bcK_14 : bcK 14 = true := by decide +kernel
theorem bcK_15 : bcK 15 = true := by decide +kernel
theorem bcK_all : ∀ i, i < 16 → bcK i = true
  | 0, _ => bcK_0
  | 1, _ => bcK_1
  | 2, _ => bcK_2
  | 3, _ => bcK_3
  | 4, _ => bcK_4
  | 5, _ => bcK_5
  | 6, _ => bcK_6
  | 7, _ => bcK_7
  | 8, _ => bcK_8
  | 9, _ => bcK_9
  | 10, _ => bcK_10
  | 11, _ => bcK_11
  | 12, _ => bcK_12
  | 13, _ => bcK_13
  | 14, _ => bcK_14
  | 15, _ => bcK_15
  | i + 16, h => absurd h (by omega)
theorem bc_sum {m : Nat} (hm : m < 2 ^ 16) : bcI (nI m) = sm (fun k => nI (m / 2 ^ k % 2)) 16 0 0 := by
  have h := bcK_all (m / 4096) (by omega)
  unfold bcK at h
  simp only [List.all_eq_true, List.mem_range] at h
  have h1 := Nat.eq_of_beq_eq_true (h (m / 256 % 16) (by omega) (m % 256) (by omega))
  rw [show 4096 * (m / 4096) + 256 * (m / 256 % 16) + m % 256 = m by omega] at h1
  rw [bcI_eq hm, h1]
  exact (sm_nI _ 16 0 0).symm
