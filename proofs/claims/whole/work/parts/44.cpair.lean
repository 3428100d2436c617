theorem nI_sub_neg {x f : Nat} (h : x < f) (hf : f < 2 ^ 31) : nI x - nI f < 0 := by
  rw [Int32.lt_iff_toInt_lt, Int32.toInt_sub, nI_toInt (by omega), nI_toInt hf, Int.bmod_eq_of_le (by omega) (by omega)]
  show _ < (0 : Int)
  omega
theorem zs_lt {x f : Nat} (hx : x < 2 ^ 31) (hf : f < 2 ^ 31) : zcnd .lt (nI x - nI f) 0 = decide (x < f) := by
  by_cases h : x < f
  · simp only [zcnd, nI_sub_neg h hf, h]
  · rw [nI_sub (by omega), c_z, zc_lt (by omega) (by omega)]
    simp [h]
/-- whether the number x is seen: floor f, bits m -/
def seen (m f x : Nat) : Bool := decide (x < f) || (decide (x - f < 16) && decide (m / 2 ^ (x - f) % 2 = 1))
def slide : Nat → Nat → Nat → Nat × Nat
  | 0, m, f => (m, f)
  | k + 1, m, f => if m % 2 = 1 then slide k (m / 2) (f + 1) else (m, f)
abbrev cn (x : Int32) : Nat := x.toNatClampNeg
/-- bits m and floor f put in -/
def aBits (α : Ks) (t o m f : Nat) : Ks := kup (kup α t (44 + 24 * o + 15) (nI m)) t (44 + 24 * o + 14) (nI f)
theorem aBits_bits {α : Ks} {t o m f : Nat} : aBits α t o m f t (44 + 24 * o + 15) = nI m := by
  unfold aBits
  rw [kup_ne (by omega), kup_same]
theorem aBits_floor {α : Ks} {t o m f : Nat} : aBits α t o m f t (44 + 24 * o + 14) = nI f := by
  unfold aBits
  rw [kup_same]
theorem aBits_up {α : Ks} {t o m f m' f' : Nat} : kup (kup (aBits α t o m f) t (44 + 24 * o + 15) (nI m')) t (44 + 24 * o + 14) (nI f') = aBits α t o m' f' := by
  unfold aBits
  funext x y
  simp only [kup]
  (repeat' split) <;> first | rfl | (exfalso; omega)
def aMark (α : Ks) (t o x : Nat) : Ks :=
  aBits α t o (slide 16 (cn (α t (44 + 24 * o + 15)) ||| 2 ^ (x - cn (α t (44 + 24 * o + 14)))) (cn (α t (44 + 24 * o + 14)))).1 (slide 16 (cn (α t (44 + 24 * o + 15)) ||| 2 ^ (x - cn (α t (44 + 24 * o + 14)))) (cn (α t (44 + 24 * o + 14)))).2
section CPAIR
variable {n L : Nat} {α β : Ks} {th ow : Int32} {sc : Nat → Int32} {g : List Nat} {cl : Bool} {t o c : Nat}
theorem c_hasSeen (hn : 2 ≤ n ∧ n ≤ 5) (ht : t < n) (ho : o < n) {m f x : Nat} (hm : α t (44 + 24 * o + 15) = nI m) (hf : α t (44 + 24 * o + 14) = nI f) (hm2 : m < 2 ^ 16) (hf2 : f < 2 ^ 30) (hx2 : x < 2 ^ 30) : ZR 38 0 [.val (.ref (kad n (14, 2 * t, o))), .val (.int (nI x)), .unset] [] (khp n L (St n α β th ow sc) g) cl (.inl (some (.int (if seen m f x = true then Int32.ofInt 1 else Int32.ofInt 0))), khp n L (St n α β th ow sc) g, cl) := by
  unfold seen
  by_cases h1 : x < f
  · rw [if_pos (by simp [h1])]
    exact s38_0_t hn (by omega) ho (by rw [gB (by omega) (by omega), hf, zs_lt (by omega) (by omega)]; simp [h1])
  · have e1 : zcnd .lt (nI x - St n α β th ow sc (2 * t) (44 + 24 * o + 14)) 0 = false := by
      rw [gB (by omega) (by omega), hf, zs_lt (by omega) (by omega)]; simp [h1]
    by_cases h2 : x - f < 16
    · have e2 : zcnd .ge (nI x - St n α β th ow sc (2 * t) (44 + 24 * o + 14)) (Int8.ofInt 16).toInt32 = false := by
        rw [gB (by omega) (by omega), hf, nI_sub (by omega), b_16, zc_ge (by omega) (by omega)]
        simp
        omega
      have e3 : ((((St n α β th ow sc (2 * t) (44 + 24 * o + 15)).toUInt32 >>> ((nI x - St n α β th ow sc (2 * t) (44 + 24 * o + 14)).toUInt32 &&& Int32.toUInt32 31)).toInt32) &&& Int32.ofInt 1) = nI (m / 2 ^ (x - f) % 2) := by
        rw [gB (by omega) (by omega), gB (by omega) (by omega), hf, hm, nI_sub (by omega), nI_ushr (by omega) (by omega), nI_and1]
      by_cases h3 : m / 2 ^ (x - f) % 2 = 1
      · rw [if_pos (by simp [h2, h3])]
        exact s38_0_fff hn (by omega) ho e1 e2 (by rw [e3, h3]; rfl)
      · rw [if_neg (by simp [h1, h3])]
        have h4 : m / 2 ^ (x - f) % 2 = 0 := by omega
        exact s38_0_fft hn (by omega) ho e1 e2 (by rw [e3, h4]; rfl)
    · rw [if_neg (by simp [h1, h2])]
      exact s38_0_ft hn (by omega) ho e1 (by rw [gB (by omega) (by omega), hf, nI_sub (by omega), b_16, zc_ge (by omega) (by omega)]; simp; omega)
theorem c_markSeen (hn : 2 ≤ n ∧ n ≤ 5) (ht : t < n) (ho : o < n) {m f x : Nat} (hm : α t (44 + 24 * o + 15) = nI m) (hf : α t (44 + 24 * o + 14) = nI f) (hm2 : m < 2 ^ 16) (hf2 : f < 2 ^ 30) (hx : f ≤ x) (hx2 : x < f + 16) : ZR 87 0 [.val (.ref (kad n (14, 2 * t, o))), .val (.int (nI x)), .unset] [] (khp n L (St n α β th ow sc) g) cl (.inl none, khp n L (St n (aMark α t o x) β th ow sc) g, false) := by
  have loop : ∀ k i m f, i + k = 16 → m < 2 ^ 31 → ZR 87 19 [.val (.ref (kad n (14, 2 * t, o))), .val (.int (nI x)), .val (.int (nI i))] [] (khp n L (St n (aBits α t o m f) β th ow sc) g) false (.inl none, khp n L (St n (aBits α t o (slide k m f).1 (slide k m f).2) β th ow sc) g, false) := by
    intro k
    induction k with
    | zero =>
      intro i m f hi hm
      exact s87_19_t hn (by omega) ho (by simp (disch := omega) only [gB, gK, gU, gN, gC, gM, gMK, gD, gL, g_th, g_n, g_ms, g_ls, g_ow, g_sc, uB, uK, uU, uN, uC, uM, uMK, uL, u_ms, u_ls, u_th, u_ow, kup_same, kup_ne, kup_krow2, krow_same, krow_ne, c_0, c_1, c_2, c_3, c_4, c_5, b_6, b_8, b_10, b_12, b_14, b_15, b_16, b_17, b_18, b_19, b_20, b_24, b_30, b_44, b_63, b_100, h_164, o_n, c_z, nI_add, nI_mul, zc_ge, zc_lt, zc_gt, zc_le, zc_eq, zc_ne, decide_eq_true_eq, decide_eq_false_iff_not] <;> omega)
    | succ k ih =>
      intro i m f hi hm
      unfold slide
      have e1 : zcnd .eq (St n (aBits α t o m f) β th ow sc (2 * t) (44 + 24 * o + 15) &&& Int32.ofInt 1) 0 = decide (m % 2 = 0) := by
        rw [gB (by omega) (by omega), aBits_bits, nI_and1, c_z, zc_eq (by omega) (by omega)]
      by_cases h : m % 2 = 1
      · rw [if_pos h]
        refine s87_19_ff hn (by omega) ho (by simp (disch := omega) only [gB, gK, gU, gN, gC, gM, gMK, gD, gL, g_th, g_n, g_ms, g_ls, g_ow, g_sc, uB, uK, uU, uN, uC, uM, uMK, uL, u_ms, u_ls, u_th, u_ow, kup_same, kup_ne, kup_krow2, krow_same, krow_ne, c_0, c_1, c_2, c_3, c_4, c_5, b_6, b_8, b_10, b_12, b_14, b_15, b_16, b_17, b_18, b_19, b_20, b_24, b_30, b_44, b_63, b_100, h_164, o_n, c_z, nI_add, nI_mul, zc_ge, zc_lt, zc_gt, zc_le, zc_eq, zc_ne, decide_eq_true_eq, decide_eq_false_iff_not] <;> omega) (by rw [e1]; simp [h]) ?_
        rw [nI_inc]
        refine zr_st ?_ (ih (i + 1) (m / 2) (f + 1) (by omega) (by omega))
        rw [gB (by omega) (by omega), aBits_bits, c_1, nI_ushr hm (by decide), uB (by omega) (by omega), gB (by omega) (by omega), uB (by omega) (by omega), kup_ne (by omega), aBits_floor, nI_add, aBits_up]
      · rw [if_neg h]
        exact s87_19_ft hn (by omega) ho (by simp (disch := omega) only [gB, gK, gU, gN, gC, gM, gMK, gD, gL, g_th, g_n, g_ms, g_ls, g_ow, g_sc, uB, uK, uU, uN, uC, uM, uMK, uL, u_ms, u_ls, u_th, u_ow, kup_same, kup_ne, kup_krow2, krow_same, krow_ne, c_0, c_1, c_2, c_3, c_4, c_5, b_6, b_8, b_10, b_12, b_14, b_15, b_16, b_17, b_18, b_19, b_20, b_24, b_30, b_44, b_63, b_100, h_164, o_n, c_z, nI_add, nI_mul, zc_ge, zc_lt, zc_gt, zc_le, zc_eq, zc_ne, decide_eq_true_eq, decide_eq_false_iff_not] <;> omega) (by rw [e1]; simp; omega)
  refine s87_0_r hn (by omega) ho ?_
  unfold aMark cn
  rw [hm, hf, nI_clamp (by omega), nI_clamp (by omega)]
  have hlt : m ||| 2 ^ (x - f) < 2 ^ 16 := Nat.or_lt_two_pow hm2 (Nat.pow_lt_pow_right (by omega) (by omega))
  refine zr_st ?_ (loop 16 0 (m ||| 2 ^ (x - f)) f (by omega) (by omega))
  rw [gB (by omega) (by omega), gB (by omega) (by omega), hm, hf, nI_sub hx, nI_shl1 _ (by omega), nI_or, uB (by omega) (by omega)]
  congr 1
  unfold aBits
  funext a b
  simp only [kup]
  by_cases h : a = t ∧ b = 44 + 24 * o + 14
  · rw [if_pos h, if_neg (by omega), h.1, h.2, hf]
  · rw [if_neg h]
def aCan (c N q : Nat) : Bool := decide (c = 0) || (decide (c < 4) && decide (N < q + 16))
theorem c_canOpen (hn : 2 ≤ n ∧ n ≤ 5) (ht : t < n) (ho : o < n) {N q : Nat} (hN : α t (44 + 24 * o) = nI N) (hc : α t (44 + 24 * o + 1) = nI c) (hq : 0 < c → α t (44 + 24 * o + 2) = nI q ∧ q ≤ N) (hc2 : c ≤ 4) (hN2 : N < 2 ^ 30) : ZR 76 0 [.val (.ref (kad n (14, 2 * t, o)))] [] (khp n L (St n α β th ow sc) g) cl (.inl (some (.int (if aCan c N q = true then Int32.ofInt 1 else Int32.ofInt 0))), khp n L (St n α β th ow sc) g, cl) := by
  unfold aCan
  by_cases h1 : c = 0
  · rw [if_pos (by simp [h1])]
    exact s76_0_t hn (by omega) ho (by simp (disch := omega) only [hc, gB, gK, gU, gN, gC, gM, gMK, gD, gL, g_th, g_n, g_ms, g_ls, g_ow, g_sc, uB, uK, uU, uN, uC, uM, uMK, uL, u_ms, u_ls, u_th, u_ow, kup_same, kup_ne, kup_krow2, krow_same, krow_ne, c_0, c_1, c_2, c_3, c_4, c_5, b_6, b_8, b_10, b_12, b_14, b_15, b_16, b_17, b_18, b_19, b_20, b_24, b_30, b_44, b_63, b_100, h_164, o_n, c_z, nI_add, nI_mul, zc_ge, zc_lt, zc_gt, zc_le, zc_eq, zc_ne, decide_eq_true_eq, decide_eq_false_iff_not] <;> omega)
  · obtain ⟨hq1, hq2⟩ := hq (by omega)
    by_cases h2 : c < 4
    · by_cases h3 : N < q + 16
      · rw [if_pos (by simp [h2, h3])]
        exact s76_0_fff (x3 := 0) hn (by omega) ho (by simp (disch := omega) only [hc, gB, gK, gU, gN, gC, gM, gMK, gD, gL, g_th, g_n, g_ms, g_ls, g_ow, g_sc, uB, uK, uU, uN, uC, uM, uMK, uL, u_ms, u_ls, u_th, u_ow, kup_same, kup_ne, kup_krow2, krow_same, krow_ne, c_0, c_1, c_2, c_3, c_4, c_5, b_6, b_8, b_10, b_12, b_14, b_15, b_16, b_17, b_18, b_19, b_20, b_24, b_30, b_44, b_63, b_100, h_164, o_n, c_z, nI_add, nI_mul, zc_ge, zc_lt, zc_gt, zc_le, zc_eq, zc_ne, decide_eq_true_eq, decide_eq_false_iff_not] <;> omega) (by simp (disch := omega) only [hc, gB, gK, gU, gN, gC, gM, gMK, gD, gL, g_th, g_n, g_ms, g_ls, g_ow, g_sc, uB, uK, uU, uN, uC, uM, uMK, uL, u_ms, u_ls, u_th, u_ow, kup_same, kup_ne, kup_krow2, krow_same, krow_ne, c_0, c_1, c_2, c_3, c_4, c_5, b_6, b_8, b_10, b_12, b_14, b_15, b_16, b_17, b_18, b_19, b_20, b_24, b_30, b_44, b_63, b_100, h_164, o_n, c_z, nI_add, nI_mul, zc_ge, zc_lt, zc_gt, zc_le, zc_eq, zc_ne, decide_eq_true_eq, decide_eq_false_iff_not] <;> omega) (zx (by simp (disch := omega) only [gB, gK, gU, gN, gC, gM, gMK, gD, gL, g_th, g_n, g_ms, g_ls, g_ow, g_sc, uB, uK, uU, uN, uC, uM, uMK, uL, u_ms, u_ls, u_th, u_ow, kup_same, kup_ne, kup_krow2, krow_same, krow_ne, c_0, c_1, c_2, c_3, c_4, c_5, b_6, b_8, b_10, b_12, b_14, b_15, b_16, b_17, b_18, b_19, b_20, b_24, b_30, b_44, b_63, b_100, h_164, o_n, c_z, nI_add, nI_mul] <;> first | rfl | (congr 1; omega)) (by omega) (by omega)) (by rw [gB (by omega) (by omega), gB (by omega) (by omega), hN, Nat.mul_zero, Nat.add_zero, hq1, nI_sub hq2, b_16, zc_ge (by omega) (by omega)]; simp; omega)
      · rw [if_neg (by simp [h1, h3])]
        exact s76_0_fft (x3 := 0) hn (by omega) ho (by simp (disch := omega) only [hc, gB, gK, gU, gN, gC, gM, gMK, gD, gL, g_th, g_n, g_ms, g_ls, g_ow, g_sc, uB, uK, uU, uN, uC, uM, uMK, uL, u_ms, u_ls, u_th, u_ow, kup_same, kup_ne, kup_krow2, krow_same, krow_ne, c_0, c_1, c_2, c_3, c_4, c_5, b_6, b_8, b_10, b_12, b_14, b_15, b_16, b_17, b_18, b_19, b_20, b_24, b_30, b_44, b_63, b_100, h_164, o_n, c_z, nI_add, nI_mul, zc_ge, zc_lt, zc_gt, zc_le, zc_eq, zc_ne, decide_eq_true_eq, decide_eq_false_iff_not] <;> omega) (by simp (disch := omega) only [hc, gB, gK, gU, gN, gC, gM, gMK, gD, gL, g_th, g_n, g_ms, g_ls, g_ow, g_sc, uB, uK, uU, uN, uC, uM, uMK, uL, u_ms, u_ls, u_th, u_ow, kup_same, kup_ne, kup_krow2, krow_same, krow_ne, c_0, c_1, c_2, c_3, c_4, c_5, b_6, b_8, b_10, b_12, b_14, b_15, b_16, b_17, b_18, b_19, b_20, b_24, b_30, b_44, b_63, b_100, h_164, o_n, c_z, nI_add, nI_mul, zc_ge, zc_lt, zc_gt, zc_le, zc_eq, zc_ne, decide_eq_true_eq, decide_eq_false_iff_not] <;> omega) (zx (by simp (disch := omega) only [gB, gK, gU, gN, gC, gM, gMK, gD, gL, g_th, g_n, g_ms, g_ls, g_ow, g_sc, uB, uK, uU, uN, uC, uM, uMK, uL, u_ms, u_ls, u_th, u_ow, kup_same, kup_ne, kup_krow2, krow_same, krow_ne, c_0, c_1, c_2, c_3, c_4, c_5, b_6, b_8, b_10, b_12, b_14, b_15, b_16, b_17, b_18, b_19, b_20, b_24, b_30, b_44, b_63, b_100, h_164, o_n, c_z, nI_add, nI_mul] <;> first | rfl | (congr 1; omega)) (by omega) (by omega)) (by rw [gB (by omega) (by omega), gB (by omega) (by omega), hN, Nat.mul_zero, Nat.add_zero, hq1, nI_sub hq2, b_16, zc_ge (by omega) (by omega)]; simp; omega)
    · rw [if_neg (by simp [h1, h2])]
      exact s76_0_ft hn (by omega) ho (by simp (disch := omega) only [hc, gB, gK, gU, gN, gC, gM, gMK, gD, gL, g_th, g_n, g_ms, g_ls, g_ow, g_sc, uB, uK, uU, uN, uC, uM, uMK, uL, u_ms, u_ls, u_th, u_ow, kup_same, kup_ne, kup_krow2, krow_same, krow_ne, c_0, c_1, c_2, c_3, c_4, c_5, b_6, b_8, b_10, b_12, b_14, b_15, b_16, b_17, b_18, b_19, b_20, b_24, b_30, b_44, b_63, b_100, h_164, o_n, c_z, nI_add, nI_mul, zc_ge, zc_lt, zc_gt, zc_le, zc_eq, zc_ne, decide_eq_true_eq, decide_eq_false_iff_not] <;> omega) (by simp (disch := omega) only [hc, gB, gK, gU, gN, gC, gM, gMK, gD, gL, g_th, g_n, g_ms, g_ls, g_ow, g_sc, uB, uK, uU, uN, uC, uM, uMK, uL, u_ms, u_ls, u_th, u_ow, kup_same, kup_ne, kup_krow2, krow_same, krow_ne, c_0, c_1, c_2, c_3, c_4, c_5, b_6, b_8, b_10, b_12, b_14, b_15, b_16, b_17, b_18, b_19, b_20, b_24, b_30, b_44, b_63, b_100, h_164, o_n, c_z, nI_add, nI_mul, zc_ge, zc_lt, zc_gt, zc_le, zc_eq, zc_ne, decide_eq_true_eq, decide_eq_false_iff_not] <;> omega)
/-- a voucher opened behind the c that are open -/
def aOpen (α : Ks) (t o c : Nat) (a u : Int32) : Ks := kup (kup (kup (kup (kup α t (44 + 24 * o + 2 + 3 * c) (α t (44 + 24 * o))) t (44 + 24 * o + 2 + 3 * c + 1) a) t (44 + 24 * o + 2 + 3 * c + 2) u) t (44 + 24 * o + 1) (nI (c + 1))) t (44 + 24 * o) (α t (44 + 24 * o) + nI 1)
theorem c_open (hn : 2 ≤ n ∧ n ≤ 5) (ht : t < n) (ho : o < n) (hc : α t (44 + 24 * o + 1) = nI c) (hc2 : c < 4) (a u : Int32) : ZR 78 0 [.val (.ref (kad n (14, 2 * t, o))), .val (.int a), .val (.int u), .unset] [] (khp n L (St n α β th ow sc) g) cl (.inl (some (.int (α t (44 + 24 * o)))), khp n L (St n (aOpen α t o c a u) β th ow sc) g, false) := by
  refine zr_rv ?_ ?_ (s78_0_r (x1 := c) (x2 := c) (x3 := c) hn (by omega) ho (zx (by simp (disch := omega) only [hc, gB, gK, gU, gN, gC, gM, gMK, gD, gL, g_th, g_n, g_ms, g_ls, g_ow, g_sc, uB, uK, uU, uN, uC, uM, uMK, uL, u_ms, u_ls, u_th, u_ow, kup_same, kup_ne, kup_krow2, krow_same, krow_ne, c_0, c_1, c_2, c_3, c_4, c_5, b_6, b_8, b_10, b_12, b_14, b_15, b_16, b_17, b_18, b_19, b_20, b_24, b_30, b_44, b_63, b_100, h_164, o_n, c_z, nI_add, nI_mul] <;> first | rfl | (congr 1; omega)) (by omega) (by omega)) (zx (by simp (disch := omega) only [hc, gB, gK, gU, gN, gC, gM, gMK, gD, gL, g_th, g_n, g_ms, g_ls, g_ow, g_sc, uB, uK, uU, uN, uC, uM, uMK, uL, u_ms, u_ls, u_th, u_ow, kup_same, kup_ne, kup_krow2, krow_same, krow_ne, c_0, c_1, c_2, c_3, c_4, c_5, b_6, b_8, b_10, b_12, b_14, b_15, b_16, b_17, b_18, b_19, b_20, b_24, b_30, b_44, b_63, b_100, h_164, o_n, c_z, nI_add, nI_mul] <;> first | rfl | (congr 1; omega)) (by omega) (by omega)) (zx (by simp (disch := omega) only [hc, gB, gK, gU, gN, gC, gM, gMK, gD, gL, g_th, g_n, g_ms, g_ls, g_ow, g_sc, uB, uK, uU, uN, uC, uM, uMK, uL, u_ms, u_ls, u_th, u_ow, kup_same, kup_ne, kup_krow2, krow_same, krow_ne, c_0, c_1, c_2, c_3, c_4, c_5, b_6, b_8, b_10, b_12, b_14, b_15, b_16, b_17, b_18, b_19, b_20, b_24, b_30, b_44, b_63, b_100, h_164, o_n, c_z, nI_add, nI_mul] <;> first | rfl | (congr 1; omega)) (by omega) (by omega)))
  · simp (disch := omega) only [hc, nI_add, gB, gK, gU, gN, gC, gM, gMK, gD, gL, g_th, g_n, g_ms, g_ls, g_ow, g_sc, uB, uK, uU, uN, uC, uM, uMK, uL, u_ms, u_ls, u_th, u_ow, kup_same, kup_ne, kup_krow2, krow_same, krow_ne, c_0, c_1, c_2, c_3, c_4, c_5, b_6, b_8, b_10, b_12, b_14, b_15, b_16, b_17, b_18, b_19, b_20, b_24, b_30, b_44, b_63, b_100, h_164, o_n]
    rfl
  · simp (disch := omega) only [gB, gK, gU, gN, gC, gM, gMK, gD, gL, g_th, g_n, g_ms, g_ls, g_ow, g_sc, uB, uK, uU, uN, uC, uM, uMK, uL, u_ms, u_ls, u_th, u_ow, kup_same, kup_ne, kup_krow2, krow_same, krow_ne, c_0, c_1, c_2, c_3, c_4, c_5, b_6, b_8, b_10, b_12, b_14, b_15, b_16, b_17, b_18, b_19, b_20, b_24, b_30, b_44, b_63, b_100, h_164, o_n]
/-- a record without its i-th open voucher to o, c are left -/
def remO (R : Nat → Int32) (o i c : Nat) : Nat → Int32 := rup (shf R (44 + 24 * o + 2 + 3 * i) (44 + 24 * o + 2 + 3 * c) 3) (44 + 24 * o + 1) (nI c)
theorem c_removeOpen (hn : 2 ≤ n ∧ n ≤ 5) (ht : t < n) (ho : o < n) {i : Nat} (hc : α t (44 + 24 * o + 1) = nI (c + 1)) (h6 : c + 1 ≤ 4) (hi : i ≤ c) : ZR 89 0 [.val (.ref (kad n (14, 2 * t, o))), .val (.int (nI i)), .unset] [] (khp n L (St n α β th ow sc) g) cl (.inl none, khp n L (St n (krow α t (remO (α t) o i c)) β th ow sc) g, false) := by
  have loop : ∀ k x, x + k = c → i ≤ x → ZR 89 12 [.val (.ref (kad n (14, 2 * t, o))), .val (.int (nI i)), .val (.int (nI x))] [] (khp n L (St n (krow α t (rup (shf (α t) (44 + 24 * o + 2 + 3 * i) (44 + 24 * o + 2 + 3 * x) 3) (44 + 24 * o + 1) (nI c))) β th ow sc) g) false (.inl none, khp n L (St n (krow α t (remO (α t) o i c)) β th ow sc) g, false) := by
    intro k
    induction k with
    | zero =>
      intro x hx hix
      have : x = c := by omega
      subst this
      exact s89_12_t hn (by omega) ho (by simp (disch := omega) only [rup_same, gB, gK, gU, gN, gC, gM, gMK, gD, gL, g_th, g_n, g_ms, g_ls, g_ow, g_sc, uB, uK, uU, uN, uC, uM, uMK, uL, u_ms, u_ls, u_th, u_ow, kup_same, kup_ne, kup_krow2, krow_same, krow_ne, c_0, c_1, c_2, c_3, c_4, c_5, b_6, b_8, b_10, b_12, b_14, b_15, b_16, b_17, b_18, b_19, b_20, b_24, b_30, b_44, b_63, b_100, h_164, o_n, c_z, nI_add, nI_mul, zc_ge, zc_lt, zc_gt, zc_le, zc_eq, zc_ne, decide_eq_true_eq, decide_eq_false_iff_not] <;> omega)
    | succ k ih =>
      intro x hx hix
      refine s89_12_f (x2 := x + 1) (x3 := x) hn (by omega) ho (by simp (disch := omega) only [rup_same, gB, gK, gU, gN, gC, gM, gMK, gD, gL, g_th, g_n, g_ms, g_ls, g_ow, g_sc, uB, uK, uU, uN, uC, uM, uMK, uL, u_ms, u_ls, u_th, u_ow, kup_same, kup_ne, kup_krow2, krow_same, krow_ne, c_0, c_1, c_2, c_3, c_4, c_5, b_6, b_8, b_10, b_12, b_14, b_15, b_16, b_17, b_18, b_19, b_20, b_24, b_30, b_44, b_63, b_100, h_164, o_n, c_z, nI_add, nI_mul, zc_ge, zc_lt, zc_gt, zc_le, zc_eq, zc_ne, decide_eq_true_eq, decide_eq_false_iff_not] <;> omega) (zx (by simp (disch := omega) only [gB, gK, gU, gN, gC, gM, gMK, gD, gL, g_th, g_n, g_ms, g_ls, g_ow, g_sc, uB, uK, uU, uN, uC, uM, uMK, uL, u_ms, u_ls, u_th, u_ow, kup_same, kup_ne, kup_krow2, krow_same, krow_ne, c_0, c_1, c_2, c_3, c_4, c_5, b_6, b_8, b_10, b_12, b_14, b_15, b_16, b_17, b_18, b_19, b_20, b_24, b_30, b_44, b_63, b_100, h_164, o_n, c_z, nI_add, nI_mul] <;> first | rfl | (congr 1; omega)) (by omega) (by omega)) (zix_nI (by omega) (by omega)) ?_
      rw [nI_inc]
      refine zr_st ?_ (ih (x + 1) (by omega) (by omega))
      simp (disch := omega) only [rup_ne, rup_same, gB, gK, gU, gN, gC, gM, gMK, gD, gL, g_th, g_n, g_ms, g_ls, g_ow, g_sc, uB, uK, uU, uN, uC, uM, uMK, uL, u_ms, u_ls, u_th, u_ow, kup_same, kup_ne, kup_krow2, krow_same, krow_ne, c_0, c_1, c_2, c_3, c_4, c_5, b_6, b_8, b_10, b_12, b_14, b_15, b_16, b_17, b_18, b_19, b_20, b_24, b_30, b_44, b_63, b_100, h_164, o_n]
      congr 2
      funext y
      simp only [rup, shf]
      (repeat' split) <;> first | rfl | (exfalso; omega) | (congr 1; omega)
  refine s89_0_r hn (by omega) ho ?_
  refine zr_st ?_ (loop (c - i) i (by omega) (Nat.le_refl _))
  simp (disch := omega) only [hc, nI_sub, Nat.add_sub_cancel, gB, gK, gU, gN, gC, gM, gMK, gD, gL, g_th, g_n, g_ms, g_ls, g_ow, g_sc, uB, uK, uU, uN, uC, uM, uMK, uL, u_ms, u_ls, u_th, u_ow, kup_same, kup_ne, kup_krow2, krow_same, krow_ne, c_0, c_1, c_2, c_3, c_4, c_5, b_6, b_8, b_10, b_12, b_14, b_15, b_16, b_17, b_18, b_19, b_20, b_24, b_30, b_44, b_63, b_100, h_164, o_n]
  rw [kup_krow]
  congr 2
  funext y
  simp only [rup, shf]
  (repeat' split) <;> first | rfl | (exfalso; omega) | (congr 1; omega)
/-- the vouchers from t to o without that of the number v -/
def aClose (α : Ks) (t o c : Nat) : Option Nat → Ks
  | none => α
  | some i => krow α t (remO (α t) o i (c - 1))
def zb (b : Bool) : Int32 := if b = true then Int32.ofInt 1 else Int32.ofInt 0
theorem c_close (hn : 2 ≤ n ∧ n ≤ 5) (ht : t < n) (ho : o < n) (hc : α t (44 + 24 * o + 1) = nI c) (h6 : c ≤ 4) (v : Int32) : ∃ cl', ZR 88 0 [.val (.ref (kad n (14, 2 * t, o))), .val (.int v), .unset] [] (khp n L (St n α β th ow sc) g) cl (.inl (some (.int (zb (fnd (fun i => α t (44 + 24 * o + 2 + 3 * i)) v c 0).isSome))), khp n L (St n (aClose α t o c (fnd (fun i => α t (44 + 24 * o + 2 + 3 * i)) v c 0)) β th ow sc) g, cl') := by
  have loop : ∀ k i, i + k = c → ∃ cl', ZR 88 2 [.val (.ref (kad n (14, 2 * t, o))), .val (.int v), .val (.int (nI i))] [] (khp n L (St n α β th ow sc) g) cl (.inl (some (.int (zb (fnd (fun i => α t (44 + 24 * o + 2 + 3 * i)) v k i).isSome))), khp n L (St n (aClose α t o c (fnd (fun i => α t (44 + 24 * o + 2 + 3 * i)) v k i)) β th ow sc) g, cl') := by
    intro k
    induction k with
    | zero =>
      intro i hi
      exact ⟨_, s88_2_t hn (by omega) ho (by simp (disch := omega) only [hc, gB, gK, gU, gN, gC, gM, gMK, gD, gL, g_th, g_n, g_ms, g_ls, g_ow, g_sc, uB, uK, uU, uN, uC, uM, uMK, uL, u_ms, u_ls, u_th, u_ow, kup_same, kup_ne, kup_krow2, krow_same, krow_ne, c_0, c_1, c_2, c_3, c_4, c_5, b_6, b_8, b_10, b_12, b_14, b_15, b_16, b_17, b_18, b_19, b_20, b_24, b_30, b_44, b_63, b_100, h_164, o_n, c_z, nI_add, nI_mul, zc_ge, zc_lt, zc_gt, zc_le, zc_eq, zc_ne, decide_eq_true_eq, decide_eq_false_iff_not] <;> omega)⟩
    | succ k ih =>
      intro i hi
      unfold fnd
      by_cases he : α t (44 + 24 * o + 2 + 3 * i) = v
      · rw [if_pos he]
        have hc' : α t (44 + 24 * o + 1) = nI (c - 1 + 1) := by rw [hc]; congr 1; omega
        exact ⟨_, s88_2_ff hn (by omega) ho (by simp (disch := omega) only [hc, gB, gK, gU, gN, gC, gM, gMK, gD, gL, g_th, g_n, g_ms, g_ls, g_ow, g_sc, uB, uK, uU, uN, uC, uM, uMK, uL, u_ms, u_ls, u_th, u_ow, kup_same, kup_ne, kup_krow2, krow_same, krow_ne, c_0, c_1, c_2, c_3, c_4, c_5, b_6, b_8, b_10, b_12, b_14, b_15, b_16, b_17, b_18, b_19, b_20, b_24, b_30, b_44, b_63, b_100, h_164, o_n, c_z, nI_add, nI_mul, zc_ge, zc_lt, zc_gt, zc_le, zc_eq, zc_ne, decide_eq_true_eq, decide_eq_false_iff_not] <;> omega) (zix_nI (a := i) (by omega) (by omega)) (zc_nef (by simp (disch := omega) only [gB, gK, gU, gN, gC, gM, gMK, gD, gL, g_th, g_n, g_ms, g_ls, g_ow, g_sc, uB, uK, uU, uN, uC, uM, uMK, uL, u_ms, u_ls, u_th, u_ow, kup_same, kup_ne, kup_krow2, krow_same, krow_ne, c_0, c_1, c_2, c_3, c_4, c_5, b_6, b_8, b_10, b_12, b_14, b_15, b_16, b_17, b_18, b_19, b_20, b_24, b_30, b_44, b_63, b_100, h_164, o_n]; exact he)) (c_removeOpen hn ht ho hc' (by omega) (by omega))⟩
      · rw [if_neg he]
        obtain ⟨cl', h⟩ := ih (i + 1) (by omega)
        refine ⟨cl', s88_2_ft hn (by omega) ho (by simp (disch := omega) only [hc, gB, gK, gU, gN, gC, gM, gMK, gD, gL, g_th, g_n, g_ms, g_ls, g_ow, g_sc, uB, uK, uU, uN, uC, uM, uMK, uL, u_ms, u_ls, u_th, u_ow, kup_same, kup_ne, kup_krow2, krow_same, krow_ne, c_0, c_1, c_2, c_3, c_4, c_5, b_6, b_8, b_10, b_12, b_14, b_15, b_16, b_17, b_18, b_19, b_20, b_24, b_30, b_44, b_63, b_100, h_164, o_n, c_z, nI_add, nI_mul, zc_ge, zc_lt, zc_gt, zc_le, zc_eq, zc_ne, decide_eq_true_eq, decide_eq_false_iff_not] <;> omega) (zix_nI (a := i) (by omega) (by omega)) (zc_net (by simp (disch := omega) only [gB, gK, gU, gN, gC, gM, gMK, gD, gL, g_th, g_n, g_ms, g_ls, g_ow, g_sc, uB, uK, uU, uN, uC, uM, uMK, uL, u_ms, u_ls, u_th, u_ow, kup_same, kup_ne, kup_krow2, krow_same, krow_ne, c_0, c_1, c_2, c_3, c_4, c_5, b_6, b_8, b_10, b_12, b_14, b_15, b_16, b_17, b_18, b_19, b_20, b_24, b_30, b_44, b_63, b_100, h_164, o_n]; exact he)) ?_⟩
        rw [nI_inc]
        exact h
  obtain ⟨cl', h⟩ := loop c 0 (by omega)
  exact ⟨cl', s88_0_r hn (by omega) ho h⟩
/-- news heard -/
def aHear (α : Ks) (t o a : Nat) (u s : Int32) : Ks := if α t (44 + 24 * o + 20 + a) < s then kup (kup α t (44 + 24 * o + 16 + a) u) t (44 + 24 * o + 20 + a) s else α
theorem c_hear (hn : 2 ≤ n ∧ n ≤ 5) (ht : t < n) (ho : o < n) {a : Nat} (ha : a < 4) (u s : Int32) : ∃ cl', ZR 90 0 [.val (.ref (kad n (14, 2 * t, o))), .val (.int (nI a)), .val (.int u), .val (.int s)] [] (khp n L (St n α β th ow sc) g) cl (.inl (some (.int (zb (decide (α t (44 + 24 * o + 20 + a) < s))))), khp n L (St n (aHear α t o a u s) β th ow sc) g, cl') := by
  unfold aHear zb
  by_cases h : α t (44 + 24 * o + 20 + a) < s
  · simp only [h, decide_true, if_true]
    refine ⟨_, zr_rv ?_ rfl (s90_0_t (x1 := a) hn (by omega) ho (zix_nI (by omega) (by omega)) (by rw [gB (by omega) (by omega)]; simp only [zcnd, h, decide_true]))⟩
    simp (disch := omega) only [gB, gK, gU, gN, gC, gM, gMK, gD, gL, g_th, g_n, g_ms, g_ls, g_ow, g_sc, uB, uK, uU, uN, uC, uM, uMK, uL, u_ms, u_ls, u_th, u_ow, kup_same, kup_ne, kup_krow2, krow_same, krow_ne, c_0, c_1, c_2, c_3, c_4, c_5, b_6, b_8, b_10, b_12, b_14, b_15, b_16, b_17, b_18, b_19, b_20, b_24, b_30, b_44, b_63, b_100, h_164, o_n]
  · simp only [h, decide_false, if_false]
    exact ⟨_, s90_0_f (x1 := a) hn (by omega) ho (zix_nI (by omega) (by omega)) (by rw [gB (by omega) (by omega)]; simp only [zcnd, h, decide_false])⟩
theorem c_repeat (hn : 2 ≤ n ∧ n ≤ 5) (hc : α 12 0 = nI c) (h6 : c < 24) {s : Nat} (hs : s < c) : ZR 27 0 [.val (.ref (kad n (20, 0, 0))), .val (.int (nI s))] [] (khp n L (St n α β th ow sc) g) cl (.inl none, khp n L (St n (aSend α (α 11 (6 * s)) (α 11 (6 * s + 1)) (α 11 (6 * s + 2)) (α 11 (6 * s + 3)) (α 11 (6 * s + 4)) (α 11 (6 * s + 5))) β th ow sc) g, false) := by
  have e1 : nI s * (Int8.ofInt 6).toInt32 = nI (6 * s) := by
    rw [b_6, nI_mul]
    congr 1
    omega
  have e2 : (St n α β th ow sc) 12 0 * (Int8.ofInt 6).toInt32 = nI (6 * c) := by
    rw [gC, hc, b_6, nI_mul]
    congr 1
    omega
  refine zr_rn ?_ (s27_0_r (σ1 := St n (kup (kup (kup (kup (kup (kup α 11 (6 * c) (α 11 (6 * s))) 11 (6 * c + 1) (α 11 (6 * s + 1))) 11 (6 * c + 2) (α 11 (6 * s + 2))) 11 (6 * c + 3) (α 11 (6 * s + 3))) 11 (6 * c + 4) (α 11 (6 * s + 4))) 11 (6 * c + 5) (α 11 (6 * s + 5))) β th ow sc) hn ?_)
  · unfold aSend
    dsimp only
    rw [hc, nI_clamp (by omega), if_pos h6]
    simp (disch := omega) only [hc, nI_add, gB, gK, gU, gN, gC, gM, gMK, gD, gL, g_th, g_n, g_ms, g_ls, g_ow, g_sc, uB, uK, uU, uN, uC, uM, uMK, uL, u_ms, u_ls, u_th, u_ow, kup_same, kup_ne, kup_krow2, krow_same, krow_ne, c_0, c_1, c_2, c_3, c_4, c_5, b_6, b_8, b_10, b_12, b_14, b_15, b_16, b_17, b_18, b_19, b_20, b_24, b_30, b_44, b_63, b_100, h_164, o_n]
  · rw [e1, e2, b_6]
    refine kcp_gen (r1 := 11) (r2 := 11) (f1 := fun s => s) (f2 := fun s => s) hn rfl rfl rfl (fun _ _ => rfl) (fun _ _ => rfl) (show _ ≤ 144 by omega) (show _ ≤ 144 by omega) (show 144 < _ by decide) (show 144 < _ by decide) ?_ ?_
    · intro x hx
      rw [gN, gN, gN]
      simp only [kup, true_and]
      by_cases h : 6 * c ≤ x ∧ x < 6 * c + 6
      · rw [if_pos h]
        have hd : x = 6 * c ∨ x = 6 * c + 1 ∨ x = 6 * c + 2 ∨ x = 6 * c + 3 ∨ x = 6 * c + 4 ∨ x = 6 * c + 5 := by omega
        rcases hd with rfl | rfl | rfl | rfl | rfl | rfl
        all_goals
          (repeat' split) <;> first | (exfalso; omega) | (congr 1; omega)
      · rw [if_neg h]
        (repeat' split) <;> first | rfl | (exfalso; omega)
    · intro x y h
      have h' : ∀ z, z < 144 → ¬ (x = 11 ∧ y = z) := h
      rw [← uN, ← uN, ← uN, ← uN, ← uN, ← uN]
      simp only [kup]
      have h0 := h' (6 * c) (by omega)
      have h1 := h' (6 * c + 1) (by omega)
      have h2 := h' (6 * c + 2) (by omega)
      have h3 := h' (6 * c + 3) (by omega)
      have h4 := h' (6 * c + 4) (by omega)
      have h5 := h' (6 * c + 5) (by omega)
      rw [if_neg h0, if_neg h1, if_neg h2, if_neg h3, if_neg h4, if_neg h5]
end CPAIR
