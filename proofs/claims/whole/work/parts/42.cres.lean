section CRES
variable {n L : Nat} {α β : Ks} {th ow : Int32} {sc : Nat → Int32} {g : List Nat} {cl : Bool} {t c : Nat}
theorem c_find (hn : 2 ≤ n ∧ n ≤ 5) (ht : t < n) (hc : α t 19 = nI c) (h6 : c ≤ 6) (id : Int32) : ZR 12 0 [.val (.ref (kad n (8, 2 * t, 0))), .val (.int id), .unset] [] (khp n L (St n α β th ow sc) g) cl (.inl (some (.int (fres (fnd (fun i => α t (20 + 4 * i)) id c 0)))), khp n L (St n α β th ow sc) g, cl) := by
  have loop : ∀ k i, i + k = c → ZR 12 2 [.val (.ref (kad n (8, 2 * t, 0))), .val (.int id), .val (.int (nI i))] [] (khp n L (St n α β th ow sc) g) cl (.inl (some (.int (fres (fnd (fun i => α t (20 + 4 * i)) id k i)))), khp n L (St n α β th ow sc) g, cl) := by
    intro k
    induction k with
    | zero =>
      intro i hi
      exact s12_2_t hn (by omega) (by simp (disch := omega) only [hc, gB, gK, gU, gN, gC, gM, gMK, gD, gL, g_th, g_n, g_ms, g_ls, g_ow, g_sc, uB, uK, uU, uN, uC, uM, uMK, uL, u_ms, u_ls, u_th, u_ow, kup_same, kup_ne, kup_krow2, krow_same, krow_ne, c_0, c_1, c_2, c_3, c_4, c_5, b_6, b_8, b_10, b_12, b_14, b_15, b_16, b_17, b_18, b_19, b_20, b_24, b_30, b_44, b_63, b_100, h_164, o_n, c_z, nI_add, nI_mul, zc_ge, zc_lt, zc_gt, zc_le, zc_eq, zc_ne, decide_eq_true_eq, decide_eq_false_iff_not] <;> omega)
    | succ k ih =>
      intro i hi
      unfold fnd
      by_cases he : α t (20 + 4 * i) = id
      · rw [if_pos he]
        exact s12_2_ff hn (by omega) (by simp (disch := omega) only [hc, gB, gK, gU, gN, gC, gM, gMK, gD, gL, g_th, g_n, g_ms, g_ls, g_ow, g_sc, uB, uK, uU, uN, uC, uM, uMK, uL, u_ms, u_ls, u_th, u_ow, kup_same, kup_ne, kup_krow2, krow_same, krow_ne, c_0, c_1, c_2, c_3, c_4, c_5, b_6, b_8, b_10, b_12, b_14, b_15, b_16, b_17, b_18, b_19, b_20, b_24, b_30, b_44, b_63, b_100, h_164, o_n, c_z, nI_add, nI_mul, zc_ge, zc_lt, zc_gt, zc_le, zc_eq, zc_ne, decide_eq_true_eq, decide_eq_false_iff_not] <;> omega) (zix_nI (a := i) (by omega) (by omega)) (zc_nef (by simp (disch := omega) only [gB, gK, gU, gN, gC, gM, gMK, gD, gL, g_th, g_n, g_ms, g_ls, g_ow, g_sc, uB, uK, uU, uN, uC, uM, uMK, uL, u_ms, u_ls, u_th, u_ow, kup_same, kup_ne, kup_krow2, krow_same, krow_ne, c_0, c_1, c_2, c_3, c_4, c_5, b_6, b_8, b_10, b_12, b_14, b_15, b_16, b_17, b_18, b_19, b_20, b_24, b_30, b_44, b_63, b_100, h_164, o_n]; exact he))
      · rw [if_neg he]
        refine s12_2_ft hn (by omega) (by simp (disch := omega) only [hc, gB, gK, gU, gN, gC, gM, gMK, gD, gL, g_th, g_n, g_ms, g_ls, g_ow, g_sc, uB, uK, uU, uN, uC, uM, uMK, uL, u_ms, u_ls, u_th, u_ow, kup_same, kup_ne, kup_krow2, krow_same, krow_ne, c_0, c_1, c_2, c_3, c_4, c_5, b_6, b_8, b_10, b_12, b_14, b_15, b_16, b_17, b_18, b_19, b_20, b_24, b_30, b_44, b_63, b_100, h_164, o_n, c_z, nI_add, nI_mul, zc_ge, zc_lt, zc_gt, zc_le, zc_eq, zc_ne, decide_eq_true_eq, decide_eq_false_iff_not] <;> omega) (zix_nI (a := i) (by omega) (by omega)) (zc_net (by simp (disch := omega) only [gB, gK, gU, gN, gC, gM, gMK, gD, gL, g_th, g_n, g_ms, g_ls, g_ow, g_sc, uB, uK, uU, uN, uC, uM, uMK, uL, u_ms, u_ls, u_th, u_ow, kup_same, kup_ne, kup_krow2, krow_same, krow_ne, c_0, c_1, c_2, c_3, c_4, c_5, b_6, b_8, b_10, b_12, b_14, b_15, b_16, b_17, b_18, b_19, b_20, b_24, b_30, b_44, b_63, b_100, h_164, o_n]; exact he)) ?_
        rw [nI_inc]
        exact ih (i + 1) (by omega)
  exact s12_0_r hn (by omega) (loop c 0 (by omega))
/-- the units of article a among c reservations -/
def rsv (α : Ks) (t : Nat) (a : Int32) (c : Nat) : Int32 := sm (fun i => if α t (20 + 4 * i + 1) = a then α t (20 + 4 * i + 2) else 0) c 0 0
theorem c_unitsOf (hn : 2 ≤ n ∧ n ≤ 5) (ht : t < n) (hc : α t 19 = nI c) (h6 : c ≤ 6) (a : Int32) : ZR 41 0 [.val (.ref (kad n (8, 2 * t, 0))), .val (.int a), .unset, .unset] [] (khp n L (St n α β th ow sc) g) cl (.inl (some (.int (rsv α t a c))), khp n L (St n α β th ow sc) g, cl) := by
  have loop : ∀ k i acc, i + k = c → ZR 41 4 [.val (.ref (kad n (8, 2 * t, 0))), .val (.int a), .val (.int acc), .val (.int (nI i))] [] (khp n L (St n α β th ow sc) g) cl (.inl (some (.int (sm (fun i => if α t (20 + 4 * i + 1) = a then α t (20 + 4 * i + 2) else 0) k i acc))), khp n L (St n α β th ow sc) g, cl) := by
    intro k
    induction k with
    | zero =>
      intro i acc hi
      exact s41_4_t hn (by omega) (by simp (disch := omega) only [hc, gB, gK, gU, gN, gC, gM, gMK, gD, gL, g_th, g_n, g_ms, g_ls, g_ow, g_sc, uB, uK, uU, uN, uC, uM, uMK, uL, u_ms, u_ls, u_th, u_ow, kup_same, kup_ne, kup_krow2, krow_same, krow_ne, c_0, c_1, c_2, c_3, c_4, c_5, b_6, b_8, b_10, b_12, b_14, b_15, b_16, b_17, b_18, b_19, b_20, b_24, b_30, b_44, b_63, b_100, h_164, o_n, c_z, nI_add, nI_mul, zc_ge, zc_lt, zc_gt, zc_le, zc_eq, zc_ne, decide_eq_true_eq, decide_eq_false_iff_not] <;> omega)
    | succ k ih =>
      intro i acc hi
      unfold sm
      by_cases he : α t (20 + 4 * i + 1) = a
      · rw [if_pos he]
        refine s41_4_ff hn (by omega) (by simp (disch := omega) only [hc, gB, gK, gU, gN, gC, gM, gMK, gD, gL, g_th, g_n, g_ms, g_ls, g_ow, g_sc, uB, uK, uU, uN, uC, uM, uMK, uL, u_ms, u_ls, u_th, u_ow, kup_same, kup_ne, kup_krow2, krow_same, krow_ne, c_0, c_1, c_2, c_3, c_4, c_5, b_6, b_8, b_10, b_12, b_14, b_15, b_16, b_17, b_18, b_19, b_20, b_24, b_30, b_44, b_63, b_100, h_164, o_n, c_z, nI_add, nI_mul, zc_ge, zc_lt, zc_gt, zc_le, zc_eq, zc_ne, decide_eq_true_eq, decide_eq_false_iff_not] <;> omega) (zix_nI (a := i) (by omega) (by omega)) (zc_nef (by simp (disch := omega) only [gB, gK, gU, gN, gC, gM, gMK, gD, gL, g_th, g_n, g_ms, g_ls, g_ow, g_sc, uB, uK, uU, uN, uC, uM, uMK, uL, u_ms, u_ls, u_th, u_ow, kup_same, kup_ne, kup_krow2, krow_same, krow_ne, c_0, c_1, c_2, c_3, c_4, c_5, b_6, b_8, b_10, b_12, b_14, b_15, b_16, b_17, b_18, b_19, b_20, b_24, b_30, b_44, b_63, b_100, h_164, o_n]; exact he)) ?_
        rw [nI_inc, gB (by omega) (by omega)]
        exact ih (i + 1) _ (by omega)
      · rw [if_neg he, Int32.add_zero]
        refine s41_4_ft hn (by omega) (by simp (disch := omega) only [hc, gB, gK, gU, gN, gC, gM, gMK, gD, gL, g_th, g_n, g_ms, g_ls, g_ow, g_sc, uB, uK, uU, uN, uC, uM, uMK, uL, u_ms, u_ls, u_th, u_ow, kup_same, kup_ne, kup_krow2, krow_same, krow_ne, c_0, c_1, c_2, c_3, c_4, c_5, b_6, b_8, b_10, b_12, b_14, b_15, b_16, b_17, b_18, b_19, b_20, b_24, b_30, b_44, b_63, b_100, h_164, o_n, c_z, nI_add, nI_mul, zc_ge, zc_lt, zc_gt, zc_le, zc_eq, zc_ne, decide_eq_true_eq, decide_eq_false_iff_not] <;> omega) (zix_nI (a := i) (by omega) (by omega)) (zc_net (by simp (disch := omega) only [gB, gK, gU, gN, gC, gM, gMK, gD, gL, g_th, g_n, g_ms, g_ls, g_ow, g_sc, uB, uK, uU, uN, uC, uM, uMK, uL, u_ms, u_ls, u_th, u_ow, kup_same, kup_ne, kup_krow2, krow_same, krow_ne, c_0, c_1, c_2, c_3, c_4, c_5, b_6, b_8, b_10, b_12, b_14, b_15, b_16, b_17, b_18, b_19, b_20, b_24, b_30, b_44, b_63, b_100, h_164, o_n]; exact he)) ?_
        rw [nI_inc]
        exact ih (i + 1) _ (by omega)
  exact s41_0_r hn (by omega) (loop c 0 _ (by omega))
/-- a record without its i-th reservation, c are left -/
def remR (R : Nat → Int32) (i c : Nat) : Nat → Int32 := rup (shf R (20 + 4 * i) (20 + 4 * c) 4) 19 (nI c)
theorem c_remove (hn : 2 ≤ n ∧ n ≤ 5) (ht : t < n) {i : Nat} (hc : α t 19 = nI (c + 1)) (h6 : c + 1 ≤ 6) (hi : i ≤ c) : ZR 13 0 [.val (.ref (kad n (8, 2 * t, 0))), .val (.int (nI i)), .unset] [] (khp n L (St n α β th ow sc) g) cl (.inl none, khp n L (St n (krow α t (remR (α t) i c)) β th ow sc) g, false) := by
  have loop : ∀ k x, x + k = c → i ≤ x → ZR 13 12 [.val (.ref (kad n (8, 2 * t, 0))), .val (.int (nI i)), .val (.int (nI x))] [] (khp n L (St n (krow α t (rup (shf (α t) (20 + 4 * i) (20 + 4 * x) 4) 19 (nI c))) β th ow sc) g) false (.inl none, khp n L (St n (krow α t (remR (α t) i c)) β th ow sc) g, false) := by
    intro k
    induction k with
    | zero =>
      intro x hx hix
      have : x = c := by omega
      subst this
      exact s13_12_t hn (by omega) (by simp (disch := omega) only [rup_same, gB, gK, gU, gN, gC, gM, gMK, gD, gL, g_th, g_n, g_ms, g_ls, g_ow, g_sc, uB, uK, uU, uN, uC, uM, uMK, uL, u_ms, u_ls, u_th, u_ow, kup_same, kup_ne, kup_krow2, krow_same, krow_ne, c_0, c_1, c_2, c_3, c_4, c_5, b_6, b_8, b_10, b_12, b_14, b_15, b_16, b_17, b_18, b_19, b_20, b_24, b_30, b_44, b_63, b_100, h_164, o_n, c_z, nI_add, nI_mul, zc_ge, zc_lt, zc_gt, zc_le, zc_eq, zc_ne, decide_eq_true_eq, decide_eq_false_iff_not] <;> omega)
    | succ k ih =>
      intro x hx hix
      refine s13_12_f (x2 := x + 1) (x3 := x) hn (by omega) (by simp (disch := omega) only [rup_same, gB, gK, gU, gN, gC, gM, gMK, gD, gL, g_th, g_n, g_ms, g_ls, g_ow, g_sc, uB, uK, uU, uN, uC, uM, uMK, uL, u_ms, u_ls, u_th, u_ow, kup_same, kup_ne, kup_krow2, krow_same, krow_ne, c_0, c_1, c_2, c_3, c_4, c_5, b_6, b_8, b_10, b_12, b_14, b_15, b_16, b_17, b_18, b_19, b_20, b_24, b_30, b_44, b_63, b_100, h_164, o_n, c_z, nI_add, nI_mul, zc_ge, zc_lt, zc_gt, zc_le, zc_eq, zc_ne, decide_eq_true_eq, decide_eq_false_iff_not] <;> omega) (zx (by simp (disch := omega) only [gB, gK, gU, gN, gC, gM, gMK, gD, gL, g_th, g_n, g_ms, g_ls, g_ow, g_sc, uB, uK, uU, uN, uC, uM, uMK, uL, u_ms, u_ls, u_th, u_ow, kup_same, kup_ne, kup_krow2, krow_same, krow_ne, c_0, c_1, c_2, c_3, c_4, c_5, b_6, b_8, b_10, b_12, b_14, b_15, b_16, b_17, b_18, b_19, b_20, b_24, b_30, b_44, b_63, b_100, h_164, o_n, c_z, nI_add, nI_mul] <;> first | rfl | (congr 1; omega)) (by omega) (by omega)) (zix_nI (by omega) (by omega)) ?_
      rw [nI_inc]
      refine zr_st ?_ (ih (x + 1) (by omega) (by omega))
      simp (disch := omega) only [rup_ne, rup_same, gB, gK, gU, gN, gC, gM, gMK, gD, gL, g_th, g_n, g_ms, g_ls, g_ow, g_sc, uB, uK, uU, uN, uC, uM, uMK, uL, u_ms, u_ls, u_th, u_ow, kup_same, kup_ne, kup_krow2, krow_same, krow_ne, c_0, c_1, c_2, c_3, c_4, c_5, b_6, b_8, b_10, b_12, b_14, b_15, b_16, b_17, b_18, b_19, b_20, b_24, b_30, b_44, b_63, b_100, h_164, o_n]
      congr 2
      funext y
      simp only [rup, shf]
      (repeat' split) <;> first | rfl | (exfalso; omega) | (congr 1; omega)
  refine s13_0_r hn (by omega) ?_
  refine zr_st ?_ (loop (c - i) i (by omega) (Nat.le_refl _))
  simp (disch := omega) only [hc, nI_sub, Nat.add_sub_cancel, gB, gK, gU, gN, gC, gM, gMK, gD, gL, g_th, g_n, g_ms, g_ls, g_ow, g_sc, uB, uK, uU, uN, uC, uM, uMK, uL, u_ms, u_ls, u_th, u_ow, kup_same, kup_ne, kup_krow2, krow_same, krow_ne, c_0, c_1, c_2, c_3, c_4, c_5, b_6, b_8, b_10, b_12, b_14, b_15, b_16, b_17, b_18, b_19, b_20, b_24, b_30, b_44, b_63, b_100, h_164, o_n]
  rw [kup_krow]
  congr 2
  funext y
  simp only [rup, shf]
  (repeat' split) <;> first | rfl | (exfalso; omega) | (congr 1; omega)
theorem c_isFullR (hn : 2 ≤ n ∧ n ≤ 5) (ht : t < n) (hc : α t 19 = nI c) (h6 : c ≤ 6) : ZR 63 0 [.val (.ref (kad n (8, 2 * t, 0)))] [] (khp n L (St n α β th ow sc) g) cl (.inl (some (.int (if c = 6 then Int32.ofInt 1 else Int32.ofInt 0))), khp n L (St n α β th ow sc) g, cl) := by
  by_cases h : c = 6
  · rw [if_pos h]
    exact s63_0_f hn (by omega) (by simp (disch := omega) only [hc, gB, gK, gU, gN, gC, gM, gMK, gD, gL, g_th, g_n, g_ms, g_ls, g_ow, g_sc, uB, uK, uU, uN, uC, uM, uMK, uL, u_ms, u_ls, u_th, u_ow, kup_same, kup_ne, kup_krow2, krow_same, krow_ne, c_0, c_1, c_2, c_3, c_4, c_5, b_6, b_8, b_10, b_12, b_14, b_15, b_16, b_17, b_18, b_19, b_20, b_24, b_30, b_44, b_63, b_100, h_164, o_n, c_z, nI_add, nI_mul, zc_ge, zc_lt, zc_gt, zc_le, zc_eq, zc_ne, decide_eq_true_eq, decide_eq_false_iff_not] <;> omega)
  · rw [if_neg h]
    exact s63_0_t hn (by omega) (by simp (disch := omega) only [hc, gB, gK, gU, gN, gC, gM, gMK, gD, gL, g_th, g_n, g_ms, g_ls, g_ow, g_sc, uB, uK, uU, uN, uC, uM, uMK, uL, u_ms, u_ls, u_th, u_ow, kup_same, kup_ne, kup_krow2, krow_same, krow_ne, c_0, c_1, c_2, c_3, c_4, c_5, b_6, b_8, b_10, b_12, b_14, b_15, b_16, b_17, b_18, b_19, b_20, b_24, b_30, b_44, b_63, b_100, h_164, o_n, c_z, nI_add, nI_mul, zc_ge, zc_lt, zc_gt, zc_le, zc_eq, zc_ne, decide_eq_true_eq, decide_eq_false_iff_not] <;> omega)
/-- a reservation put behind the c that are there -/
def aAdd (α : Ks) (t c : Nat) (a u e : Int32) : Ks := kup (kup (kup (kup (kup (kup α t (20 + 4 * c) (α t 17)) t (20 + 4 * c + 1) a) t (20 + 4 * c + 2) u) t (20 + 4 * c + 3) e) t 19 (nI (c + 1))) t 17 (α t 17 + nI 1)
theorem c_add (hn : 2 ≤ n ∧ n ≤ 5) (ht : t < n) (hc : α t 19 = nI c) (h6 : c < 6) (a u e : Int32) : ZR 64 0 [.val (.ref (kad n (8, 2 * t, 0))), .val (.int a), .val (.int u), .val (.int e), .unset] [] (khp n L (St n α β th ow sc) g) cl (.inl (some (.int (α t 17))), khp n L (St n (aAdd α t c a u e) β th ow sc) g, false) := by
  refine zr_rv ?_ ?_ (s64_0_r (x1 := c) (x2 := c) (x3 := c) (x4 := c) hn (by omega) (zx (by simp (disch := omega) only [hc, gB, gK, gU, gN, gC, gM, gMK, gD, gL, g_th, g_n, g_ms, g_ls, g_ow, g_sc, uB, uK, uU, uN, uC, uM, uMK, uL, u_ms, u_ls, u_th, u_ow, kup_same, kup_ne, kup_krow2, krow_same, krow_ne, c_0, c_1, c_2, c_3, c_4, c_5, b_6, b_8, b_10, b_12, b_14, b_15, b_16, b_17, b_18, b_19, b_20, b_24, b_30, b_44, b_63, b_100, h_164, o_n, c_z, nI_add, nI_mul] <;> first | rfl | (congr 1; omega)) (by omega) (by omega)) (zx (by simp (disch := omega) only [hc, gB, gK, gU, gN, gC, gM, gMK, gD, gL, g_th, g_n, g_ms, g_ls, g_ow, g_sc, uB, uK, uU, uN, uC, uM, uMK, uL, u_ms, u_ls, u_th, u_ow, kup_same, kup_ne, kup_krow2, krow_same, krow_ne, c_0, c_1, c_2, c_3, c_4, c_5, b_6, b_8, b_10, b_12, b_14, b_15, b_16, b_17, b_18, b_19, b_20, b_24, b_30, b_44, b_63, b_100, h_164, o_n, c_z, nI_add, nI_mul] <;> first | rfl | (congr 1; omega)) (by omega) (by omega)) (zx (by simp (disch := omega) only [hc, gB, gK, gU, gN, gC, gM, gMK, gD, gL, g_th, g_n, g_ms, g_ls, g_ow, g_sc, uB, uK, uU, uN, uC, uM, uMK, uL, u_ms, u_ls, u_th, u_ow, kup_same, kup_ne, kup_krow2, krow_same, krow_ne, c_0, c_1, c_2, c_3, c_4, c_5, b_6, b_8, b_10, b_12, b_14, b_15, b_16, b_17, b_18, b_19, b_20, b_24, b_30, b_44, b_63, b_100, h_164, o_n, c_z, nI_add, nI_mul] <;> first | rfl | (congr 1; omega)) (by omega) (by omega)) (zx (by simp (disch := omega) only [hc, gB, gK, gU, gN, gC, gM, gMK, gD, gL, g_th, g_n, g_ms, g_ls, g_ow, g_sc, uB, uK, uU, uN, uC, uM, uMK, uL, u_ms, u_ls, u_th, u_ow, kup_same, kup_ne, kup_krow2, krow_same, krow_ne, c_0, c_1, c_2, c_3, c_4, c_5, b_6, b_8, b_10, b_12, b_14, b_15, b_16, b_17, b_18, b_19, b_20, b_24, b_30, b_44, b_63, b_100, h_164, o_n, c_z, nI_add, nI_mul] <;> first | rfl | (congr 1; omega)) (by omega) (by omega)))
  · simp (disch := omega) only [hc, nI_add, gB, gK, gU, gN, gC, gM, gMK, gD, gL, g_th, g_n, g_ms, g_ls, g_ow, g_sc, uB, uK, uU, uN, uC, uM, uMK, uL, u_ms, u_ls, u_th, u_ow, kup_same, kup_ne, kup_krow2, krow_same, krow_ne, c_0, c_1, c_2, c_3, c_4, c_5, b_6, b_8, b_10, b_12, b_14, b_15, b_16, b_17, b_18, b_19, b_20, b_24, b_30, b_44, b_63, b_100, h_164, o_n]
    rfl
  · simp (disch := omega) only [gB, gK, gU, gN, gC, gM, gMK, gD, gL, g_th, g_n, g_ms, g_ls, g_ow, g_sc, uB, uK, uU, uN, uC, uM, uMK, uL, u_ms, u_ls, u_th, u_ow, kup_same, kup_ne, kup_krow2, krow_same, krow_ne, c_0, c_1, c_2, c_3, c_4, c_5, b_6, b_8, b_10, b_12, b_14, b_15, b_16, b_17, b_18, b_19, b_20, b_24, b_30, b_44, b_63, b_100, h_164, o_n]
/-- a message put behind those on their way, or lost -/
def aSend (α : Ks) (k f to x y z : Int32) : Ks :=
  let c := (α 12 0).toNatClampNeg
  if c < 24 then kup (kup (kup (kup (kup (kup (kup α 11 (6 * c) k) 11 (6 * c + 1) f) 11 (6 * c + 2) to) 11 (6 * c + 3) x) 11 (6 * c + 4) y) 11 (6 * c + 5) z) 12 0 (nI (c + 1))
  else kup α 12 1 (α 12 1 + nI 1)
theorem c_isFullN (hn : 2 ≤ n ∧ n ≤ 5) (hc : α 12 0 = nI c) (h6 : c ≤ 24) : ZR 26 0 [.val (.ref (kad n (20, 0, 0)))] [] (khp n L (St n α β th ow sc) g) cl (.inl (some (.int (if c < 24 then Int32.ofInt 0 else Int32.ofInt 1))), khp n L (St n α β th ow sc) g, cl) := by
  by_cases h : c < 24
  · rw [if_pos h]
    exact s26_0_t hn (by simp (disch := omega) only [hc, gB, gK, gU, gN, gC, gM, gMK, gD, gL, g_th, g_n, g_ms, g_ls, g_ow, g_sc, uB, uK, uU, uN, uC, uM, uMK, uL, u_ms, u_ls, u_th, u_ow, kup_same, kup_ne, kup_krow2, krow_same, krow_ne, c_0, c_1, c_2, c_3, c_4, c_5, b_6, b_8, b_10, b_12, b_14, b_15, b_16, b_17, b_18, b_19, b_20, b_24, b_30, b_44, b_63, b_100, h_164, o_n, c_z, nI_add, nI_mul, zc_ge, zc_lt, zc_gt, zc_le, zc_eq, zc_ne, decide_eq_true_eq, decide_eq_false_iff_not] <;> omega)
  · rw [if_neg h]
    exact s26_0_f hn (by simp (disch := omega) only [hc, gB, gK, gU, gN, gC, gM, gMK, gD, gL, g_th, g_n, g_ms, g_ls, g_ow, g_sc, uB, uK, uU, uN, uC, uM, uMK, uL, u_ms, u_ls, u_th, u_ow, kup_same, kup_ne, kup_krow2, krow_same, krow_ne, c_0, c_1, c_2, c_3, c_4, c_5, b_6, b_8, b_10, b_12, b_14, b_15, b_16, b_17, b_18, b_19, b_20, b_24, b_30, b_44, b_63, b_100, h_164, o_n, c_z, nI_add, nI_mul, zc_ge, zc_lt, zc_gt, zc_le, zc_eq, zc_ne, decide_eq_true_eq, decide_eq_false_iff_not] <;> omega)
theorem c_send (hn : 2 ≤ n ∧ n ≤ 5) (hc : α 12 0 = nI c) (h6 : c ≤ 24) (k f to x y z : Int32) : ZR 70 0 [.val (.ref (kad n (20, 0, 0))), .val (.int k), .val (.int f), .val (.int to), .val (.int x), .val (.int y), .val (.int z), .unset] [] (khp n L (St n α β th ow sc) g) cl (.inl none, khp n L (St n (aSend α k f to x y z) β th ow sc) g, false) := by
  unfold aSend
  dsimp only
  rw [hc, nI_clamp (by omega)]
  have h1 := c_isFullN (α := α) (β := β) (th := th) (ow := ow) (sc := sc) (L := L) (g := g) (cl := true) hn hc h6
  by_cases h : c < 24
  · rw [if_pos h] at h1 ⊢
    refine zr_rn ?_ (s70_0_t (x3 := 6 * c) (x4 := 6 * c + 1) (x5 := 6 * c + 2) (x6 := 6 * c + 3) (x7 := 6 * c + 4) (x8 := 6 * c + 5) hn h1 rfl (zx (by simp (disch := omega) only [hc, gB, gK, gU, gN, gC, gM, gMK, gD, gL, g_th, g_n, g_ms, g_ls, g_ow, g_sc, uB, uK, uU, uN, uC, uM, uMK, uL, u_ms, u_ls, u_th, u_ow, kup_same, kup_ne, kup_krow2, krow_same, krow_ne, c_0, c_1, c_2, c_3, c_4, c_5, b_6, b_8, b_10, b_12, b_14, b_15, b_16, b_17, b_18, b_19, b_20, b_24, b_30, b_44, b_63, b_100, h_164, o_n, c_z, nI_add, nI_mul] <;> first | rfl | (congr 1; omega)) (by omega) (by omega)) (zx (by simp (disch := omega) only [hc, gB, gK, gU, gN, gC, gM, gMK, gD, gL, g_th, g_n, g_ms, g_ls, g_ow, g_sc, uB, uK, uU, uN, uC, uM, uMK, uL, u_ms, u_ls, u_th, u_ow, kup_same, kup_ne, kup_krow2, krow_same, krow_ne, c_0, c_1, c_2, c_3, c_4, c_5, b_6, b_8, b_10, b_12, b_14, b_15, b_16, b_17, b_18, b_19, b_20, b_24, b_30, b_44, b_63, b_100, h_164, o_n, c_z, nI_add, nI_mul] <;> first | rfl | (congr 1; omega)) (by omega) (by omega)) (zx (by simp (disch := omega) only [hc, gB, gK, gU, gN, gC, gM, gMK, gD, gL, g_th, g_n, g_ms, g_ls, g_ow, g_sc, uB, uK, uU, uN, uC, uM, uMK, uL, u_ms, u_ls, u_th, u_ow, kup_same, kup_ne, kup_krow2, krow_same, krow_ne, c_0, c_1, c_2, c_3, c_4, c_5, b_6, b_8, b_10, b_12, b_14, b_15, b_16, b_17, b_18, b_19, b_20, b_24, b_30, b_44, b_63, b_100, h_164, o_n, c_z, nI_add, nI_mul] <;> first | rfl | (congr 1; omega)) (by omega) (by omega)) (zx (by simp (disch := omega) only [hc, gB, gK, gU, gN, gC, gM, gMK, gD, gL, g_th, g_n, g_ms, g_ls, g_ow, g_sc, uB, uK, uU, uN, uC, uM, uMK, uL, u_ms, u_ls, u_th, u_ow, kup_same, kup_ne, kup_krow2, krow_same, krow_ne, c_0, c_1, c_2, c_3, c_4, c_5, b_6, b_8, b_10, b_12, b_14, b_15, b_16, b_17, b_18, b_19, b_20, b_24, b_30, b_44, b_63, b_100, h_164, o_n, c_z, nI_add, nI_mul] <;> first | rfl | (congr 1; omega)) (by omega) (by omega)) (zx (by simp (disch := omega) only [hc, gB, gK, gU, gN, gC, gM, gMK, gD, gL, g_th, g_n, g_ms, g_ls, g_ow, g_sc, uB, uK, uU, uN, uC, uM, uMK, uL, u_ms, u_ls, u_th, u_ow, kup_same, kup_ne, kup_krow2, krow_same, krow_ne, c_0, c_1, c_2, c_3, c_4, c_5, b_6, b_8, b_10, b_12, b_14, b_15, b_16, b_17, b_18, b_19, b_20, b_24, b_30, b_44, b_63, b_100, h_164, o_n, c_z, nI_add, nI_mul] <;> first | rfl | (congr 1; omega)) (by omega) (by omega)) (zx (by simp (disch := omega) only [hc, gB, gK, gU, gN, gC, gM, gMK, gD, gL, g_th, g_n, g_ms, g_ls, g_ow, g_sc, uB, uK, uU, uN, uC, uM, uMK, uL, u_ms, u_ls, u_th, u_ow, kup_same, kup_ne, kup_krow2, krow_same, krow_ne, c_0, c_1, c_2, c_3, c_4, c_5, b_6, b_8, b_10, b_12, b_14, b_15, b_16, b_17, b_18, b_19, b_20, b_24, b_30, b_44, b_63, b_100, h_164, o_n, c_z, nI_add, nI_mul] <;> first | rfl | (congr 1; omega)) (by omega) (by omega)))
    simp (disch := omega) only [hc, nI_add, gB, gK, gU, gN, gC, gM, gMK, gD, gL, g_th, g_n, g_ms, g_ls, g_ow, g_sc, uB, uK, uU, uN, uC, uM, uMK, uL, u_ms, u_ls, u_th, u_ow, kup_same, kup_ne, kup_krow2, krow_same, krow_ne, c_0, c_1, c_2, c_3, c_4, c_5, b_6, b_8, b_10, b_12, b_14, b_15, b_16, b_17, b_18, b_19, b_20, b_24, b_30, b_44, b_63, b_100, h_164, o_n]
  · rw [if_neg h] at h1 ⊢
    refine zr_rn ?_ (s70_0_f hn h1 rfl)
    simp (disch := omega) only [gB, gK, gU, gN, gC, gM, gMK, gD, gL, g_th, g_n, g_ms, g_ls, g_ow, g_sc, uB, uK, uU, uN, uC, uM, uMK, uL, u_ms, u_ls, u_th, u_ow, kup_same, kup_ne, kup_krow2, krow_same, krow_ne, c_0, c_1, c_2, c_3, c_4, c_5, b_6, b_8, b_10, b_12, b_14, b_15, b_16, b_17, b_18, b_19, b_20, b_24, b_30, b_44, b_63, b_100, h_164, o_n]
theorem c_isSlot_t (hn : 2 ≤ n ∧ n ≤ 5) (hc : α 12 0 = nI c) (h6 : c ≤ 24) {s : Nat} (hs : s < c) : ZR 23 0 [.val (.ref (kad n (20, 0, 0))), .val (.int (nI s))] [] (khp n L (St n α β th ow sc) g) cl (.inl (some (.int (Int32.ofInt 1))), khp n L (St n α β th ow sc) g, cl) := s23_0_ff hn (by simp (disch := omega) only [gB, gK, gU, gN, gC, gM, gMK, gD, gL, g_th, g_n, g_ms, g_ls, g_ow, g_sc, uB, uK, uU, uN, uC, uM, uMK, uL, u_ms, u_ls, u_th, u_ow, kup_same, kup_ne, kup_krow2, krow_same, krow_ne, c_0, c_1, c_2, c_3, c_4, c_5, b_6, b_8, b_10, b_12, b_14, b_15, b_16, b_17, b_18, b_19, b_20, b_24, b_30, b_44, b_63, b_100, h_164, o_n, c_z, nI_add, nI_mul, zc_ge, zc_lt, zc_gt, zc_le, zc_eq, zc_ne, decide_eq_true_eq, decide_eq_false_iff_not] <;> omega) (by simp (disch := omega) only [hc, gB, gK, gU, gN, gC, gM, gMK, gD, gL, g_th, g_n, g_ms, g_ls, g_ow, g_sc, uB, uK, uU, uN, uC, uM, uMK, uL, u_ms, u_ls, u_th, u_ow, kup_same, kup_ne, kup_krow2, krow_same, krow_ne, c_0, c_1, c_2, c_3, c_4, c_5, b_6, b_8, b_10, b_12, b_14, b_15, b_16, b_17, b_18, b_19, b_20, b_24, b_30, b_44, b_63, b_100, h_164, o_n, c_z, nI_add, nI_mul, zc_ge, zc_lt, zc_gt, zc_le, zc_eq, zc_ne, decide_eq_true_eq, decide_eq_false_iff_not] <;> omega)
theorem c_isSlot_f (hn : 2 ≤ n ∧ n ≤ 5) {s : Int32} (hs : s < 0 ∨ α 12 0 ≤ s) : ZR 23 0 [.val (.ref (kad n (20, 0, 0))), .val (.int s)] [] (khp n L (St n α β th ow sc) g) cl (.inl (some (.int (Int32.ofInt 0))), khp n L (St n α β th ow sc) g, cl) := by
  by_cases h : s < 0
  · exact s23_0_t hn (by simp [zcnd, h])
  · exact s23_0_ft hn (by simp only [zcnd, h, decide_false]) (by simp (disch := omega) only [gB, gK, gU, gN, gC, gM, gMK, gD, gL, g_th, g_n, g_ms, g_ls, g_ow, g_sc, uB, uK, uU, uN, uC, uM, uMK, uL, u_ms, u_ls, u_th, u_ow, kup_same, kup_ne, kup_krow2, krow_same, krow_ne, c_0, c_1, c_2, c_3, c_4, c_5, b_6, b_8, b_10, b_12, b_14, b_15, b_16, b_17, b_18, b_19, b_20, b_24, b_30, b_44, b_63, b_100, h_164, o_n]; simp only [zcnd, decide_eq_true_eq]; exact hs.resolve_left h)
theorem c_cell (hn : 2 ≤ n ∧ n ≤ 5) {s w : Nat} (hs : s < 24) (hw : w < 6) : ZR 29 0 [.val (.ref (kad n (20, 0, 0))), .val (.int (nI s)), .val (.int (nI w))] [] (khp n L (St n α β th ow sc) g) cl (.inl (some (.int (α 11 (6 * s + w)))), khp n L (St n α β th ow sc) g, cl) := s29_0_r (x1 := 6 * s + w) hn (zx (by simp (disch := omega) only [gB, gK, gU, gN, gC, gM, gMK, gD, gL, g_th, g_n, g_ms, g_ls, g_ow, g_sc, uB, uK, uU, uN, uC, uM, uMK, uL, u_ms, u_ls, u_th, u_ow, kup_same, kup_ne, kup_krow2, krow_same, krow_ne, c_0, c_1, c_2, c_3, c_4, c_5, b_6, b_8, b_10, b_12, b_14, b_15, b_16, b_17, b_18, b_19, b_20, b_24, b_30, b_44, b_63, b_100, h_164, o_n, c_z, nI_add, nI_mul] <;> first | rfl | (congr 1; omega)) (by omega) (by omega))
/-- the messages without the s-th, c are left -/
def aTake (α : Ks) (s c : Nat) : Ks := krow (kup α 12 0 (nI c)) 11 (shf (α 11) (6 * s) (6 * c) 6)
theorem c_takeOut (hn : 2 ≤ n ∧ n ≤ 5) (hc : α 12 0 = nI (c + 1)) (h6 : c + 1 ≤ 24) {s : Nat} (hs : s ≤ c) : ZR 24 0 [.val (.ref (kad n (20, 0, 0))), .val (.int (nI s))] [] (khp n L (St n α β th ow sc) g) cl (.inl none, khp n L (St n (aTake α s c) β th ow sc) g, false) := by
  refine s24_0_r hn ?_
  have e1 : (nI s + Int32.ofInt 1) * (Int8.ofInt 6).toInt32 = nI (6 * s + 6) := by
    rw [c_1, b_6, nI_add, nI_mul]
    congr 1
    omega
  have e2 : nI s * (Int8.ofInt 6).toInt32 = nI (6 * s) := by
    rw [b_6, nI_mul]
    congr 1
    omega
  have e3 : kup (St n α β th ow sc) 12 0 (St n α β th ow sc 12 0 - Int32.ofInt 1) = St n (kup α 12 0 (nI c)) β th ow sc := by
    simp (disch := omega) only [hc, nI_sub, Nat.add_sub_cancel, gB, gK, gU, gN, gC, gM, gMK, gD, gL, g_th, g_n, g_ms, g_ls, g_ow, g_sc, uB, uK, uU, uN, uC, uM, uMK, uL, u_ms, u_ls, u_th, u_ow, kup_same, kup_ne, kup_krow2, krow_same, krow_ne, c_0, c_1, c_2, c_3, c_4, c_5, b_6, b_8, b_10, b_12, b_14, b_15, b_16, b_17, b_18, b_19, b_20, b_24, b_30, b_44, b_63, b_100, h_164, o_n]
  rw [e3, e1, e2]
  have e4 : ((St n (kup α 12 0 (nI c)) β th ow sc) 12 0 - nI s) * (Int8.ofInt 6).toInt32 = nI (6 * (c - s)) := by
    simp (disch := omega) only [nI_sub, nI_mul, gB, gK, gU, gN, gC, gM, gMK, gD, gL, g_th, g_n, g_ms, g_ls, g_ow, g_sc, uB, uK, uU, uN, uC, uM, uMK, uL, u_ms, u_ls, u_th, u_ow, kup_same, kup_ne, kup_krow2, krow_same, krow_ne, c_0, c_1, c_2, c_3, c_4, c_5, b_6, b_8, b_10, b_12, b_14, b_15, b_16, b_17, b_18, b_19, b_20, b_24, b_30, b_44, b_63, b_100, h_164, o_n]
    congr 1
    omega
  rw [e4]
  refine kcp_gen (r1 := 11) (r2 := 11) (f1 := fun s => s) (f2 := fun s => s) hn rfl rfl rfl (fun _ _ => rfl) (fun _ _ => rfl) (show _ ≤ 144 by omega) (show _ ≤ 144 by omega) (show 144 < _ by decide) (show 144 < _ by decide) ?_ ?_
  · intro x hx
    have hx : x < 144 := hx
    rw [gN, gN, gN]
    unfold aTake
    rw [krow_same, kup_ne (by omega), kup_ne (by omega)]
    unfold shf
    by_cases h : 6 * s ≤ x ∧ x < 6 * c
    · rw [if_pos h, if_pos (by omega)]
      congr 1
      omega
    · rw [if_neg h, if_neg (by omega)]
  · intro x y h
    unfold aTake
    have hxy : x ≠ 11 ∨ 144 ≤ y := by
      by_cases hx : x = 11
      · right
        by_cases hy : y < 144
        · exact absurd ⟨hx, rfl⟩ (h y hy)
        · omega
      · exact Or.inl hx
    rcases hxy with hx | hy
    · unfold St
      by_cases h1 : x < 10
      · simp only [if_pos h1]
        rw [krow_ne (by omega)]
      · simp only [if_neg h1]
        by_cases h2 : x < 20
        · simp only [if_pos h2]
          rw [krow_ne (by omega)]
        · simp only [if_neg h2]
    · by_cases hx : x = 11
      · subst hx
        rw [gN, gN, krow_same]
        unfold shf
        rw [if_neg (by omega), kup_ne (by omega)]
      · unfold St
        by_cases h1 : x < 10
        · simp only [if_pos h1]
          rw [krow_ne (by omega)]
        · simp only [if_neg h1]
          by_cases h2 : x < 20
          · simp only [if_pos h2]
            rw [krow_ne (by omega)]
          · simp only [if_neg h2]
end CRES
