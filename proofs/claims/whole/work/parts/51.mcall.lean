section MC
variable {n L : Nat} {α β : Ks} {th ow : Int32} {sc : Nat → Int32} {g : List Nat} {cl : Bool} {t o c a : Nat} {p q u : Int32}
theorem m_close (hn : 2 ≤ n ∧ n ≤ 5) (ht : t < n) (ho : o < n) (hc : β t (44 + 24 * o + 1) = nI c) (h6 : c ≤ 4) (v : Int32) : ∃ cl', ZR 105 0 [.val (.ref (kad n (22, 0, 0))), .val (.int (nI t)), .val (.int (nI o)), .val (.int v), .unset, .unset, .unset] [] (khp n L (St n α β th ow sc) g) cl (.inl (some (.int (zb (fnd (fun i => β t (44 + 24 * o + 2 + 3 * i)) v c 0).isSome))), khp n L (St n α (aClose β t o c (fnd (fun i => β t (44 + 24 * o + 2 + 3 * i)) v c 0)) th ow sc) g, cl') := by
  have z1 : zix (nI (164 * t + (44 + 24 * o)) + Int32.ofInt 1) 820 = some (164 * t + (44 + 24 * o + 1)) := (zx (by simp (disch := omega) only [gB, gK, gU, gN, gC, gM, gMK, gD, gL, g_th, g_n, g_ms, g_ls, g_ow, g_sc, uB, uK, uU, uN, uC, uM, uMK, uL, u_ms, u_ls, u_th, u_ow, kup_same, kup_ne, kup_krow2, krow_same, krow_ne, c_0, c_1, c_2, c_3, c_4, c_5, b_6, b_8, b_10, b_12, b_14, b_15, b_16, b_17, b_18, b_19, b_20, b_24, b_30, b_44, b_63, b_100, h_164, o_n, c_z, nI_add, nI_mul] <;> first | rfl | (congr 1; omega)) (by omega) (by omega))
  have shift : ∀ c i w, i ≤ c → c < 4 → ∀ k x, x + k = 44 + 24 * o + 2 + 3 * c → 44 + 24 * o + 2 + 3 * i ≤ x → ZR 105 88 [.val (.ref (kad n (22, 0, 0))), .val (.int (nI t)), .val (.int (nI o)), .val (.int v), .val (.int (nI (164 * t + (44 + 24 * o)))), .val (.int w), .val (.int (nI (164 * t + x)))] [] (khp n L (St n α (krow β t (rup (shf (β t) (44 + 24 * o + 2 + 3 * i) x 3) (44 + 24 * o + 1) (nI c))) th ow sc) g) false (.inl (some (.int (Int32.ofInt 1))), khp n L (St n α (krow β t (remO (β t) o i c)) th ow sc) g, false) := by
    intro c i w hi hc k
    induction k with
    | zero =>
      intro x hx hix
      have : x = 44 + 24 * o + 2 + 3 * c := by omega
      subst this
      exact s105_88_t hn z1 (by simp (disch := omega) only [rup_same, gB, gK, gU, gN, gC, gM, gMK, gD, gL, g_th, g_n, g_ms, g_ls, g_ow, g_sc, uB, uK, uU, uN, uC, uM, uMK, uL, u_ms, u_ls, u_th, u_ow, kup_same, kup_ne, kup_krow2, krow_same, krow_ne, c_0, c_1, c_2, c_3, c_4, c_5, b_6, b_8, b_10, b_12, b_14, b_15, b_16, b_17, b_18, b_19, b_20, b_24, b_30, b_44, b_63, b_100, h_164, o_n, c_z, nI_add, nI_mul, zc_ge, zc_lt, zc_gt, zc_le, zc_eq, zc_ne, decide_eq_true_eq, decide_eq_false_iff_not] <;> omega)
    | succ k ih =>
      intro x hx hix
      refine s105_88_f (x3 := 164 * t + (x + 3)) (x4 := 164 * t + x) hn z1 (by simp (disch := omega) only [rup_same, gB, gK, gU, gN, gC, gM, gMK, gD, gL, g_th, g_n, g_ms, g_ls, g_ow, g_sc, uB, uK, uU, uN, uC, uM, uMK, uL, u_ms, u_ls, u_th, u_ow, kup_same, kup_ne, kup_krow2, krow_same, krow_ne, c_0, c_1, c_2, c_3, c_4, c_5, b_6, b_8, b_10, b_12, b_14, b_15, b_16, b_17, b_18, b_19, b_20, b_24, b_30, b_44, b_63, b_100, h_164, o_n, c_z, nI_add, nI_mul, zc_ge, zc_lt, zc_gt, zc_le, zc_eq, zc_ne, decide_eq_true_eq, decide_eq_false_iff_not] <;> omega) (zx (by simp (disch := omega) only [gB, gK, gU, gN, gC, gM, gMK, gD, gL, g_th, g_n, g_ms, g_ls, g_ow, g_sc, uB, uK, uU, uN, uC, uM, uMK, uL, u_ms, u_ls, u_th, u_ow, kup_same, kup_ne, kup_krow2, krow_same, krow_ne, c_0, c_1, c_2, c_3, c_4, c_5, b_6, b_8, b_10, b_12, b_14, b_15, b_16, b_17, b_18, b_19, b_20, b_24, b_30, b_44, b_63, b_100, h_164, o_n, c_z, nI_add, nI_mul] <;> first | rfl | (congr 1; omega)) (by omega) (by omega)) (zix_nI (by omega) (by omega)) ?_
      rw [nI_inc]
      refine zr_st ?_ (ih (x + 1) (by omega) (by omega))
      simp (disch := omega) only [rup_ne, rup_same, gB, gK, gU, gN, gC, gM, gMK, gD, gL, g_th, g_n, g_ms, g_ls, g_ow, g_sc, uB, uK, uU, uN, uC, uM, uMK, uL, u_ms, u_ls, u_th, u_ow, kup_same, kup_ne, kup_krow2, krow_same, krow_ne, c_0, c_1, c_2, c_3, c_4, c_5, b_6, b_8, b_10, b_12, b_14, b_15, b_16, b_17, b_18, b_19, b_20, b_24, b_30, b_44, b_63, b_100, h_164, o_n]
      congr 2
      funext y
      simp only [rup, shf]
      (repeat' split) <;> first | rfl | (exfalso; omega) | (congr 1; omega)
  have loop : ∀ k i cl, i + k = c → ∃ cl', ZR 105 10 [.val (.ref (kad n (22, 0, 0))), .val (.int (nI t)), .val (.int (nI o)), .val (.int v), .val (.int (nI (164 * t + (44 + 24 * o)))), .val (.int (nI i)), .unset] [] (khp n L (St n α β th ow sc) g) cl (.inl (some (.int (zb (fnd (fun i => β t (44 + 24 * o + 2 + 3 * i)) v k i).isSome))), khp n L (St n α (aClose β t o c (fnd (fun i => β t (44 + 24 * o + 2 + 3 * i)) v k i)) th ow sc) g, cl') := by
    intro k
    induction k with
    | zero =>
      intro i cl hi
      exact ⟨_, s105_10_tf hn z1 (by simp (disch := omega) only [hc, gB, gK, gU, gN, gC, gM, gMK, gD, gL, g_th, g_n, g_ms, g_ls, g_ow, g_sc, uB, uK, uU, uN, uC, uM, uMK, uL, u_ms, u_ls, u_th, u_ow, kup_same, kup_ne, kup_krow2, krow_same, krow_ne, c_0, c_1, c_2, c_3, c_4, c_5, b_6, b_8, b_10, b_12, b_14, b_15, b_16, b_17, b_18, b_19, b_20, b_24, b_30, b_44, b_63, b_100, h_164, o_n, c_z, nI_add, nI_mul, zc_ge, zc_lt, zc_gt, zc_le, zc_eq, zc_ne, decide_eq_true_eq, decide_eq_false_iff_not] <;> omega) (by simp (disch := omega) only [hc, gB, gK, gU, gN, gC, gM, gMK, gD, gL, g_th, g_n, g_ms, g_ls, g_ow, g_sc, uB, uK, uU, uN, uC, uM, uMK, uL, u_ms, u_ls, u_th, u_ow, kup_same, kup_ne, kup_krow2, krow_same, krow_ne, c_0, c_1, c_2, c_3, c_4, c_5, b_6, b_8, b_10, b_12, b_14, b_15, b_16, b_17, b_18, b_19, b_20, b_24, b_30, b_44, b_63, b_100, h_164, o_n, c_z, nI_add, nI_mul, zc_ge, zc_lt, zc_gt, zc_le, zc_eq, zc_ne, decide_eq_true_eq, decide_eq_false_iff_not] <;> omega)⟩
    | succ k ih =>
      intro i cl hi
      have z3 : zix (nI (164 * t + (44 + 24 * o)) + Int32.ofInt 2 + Int32.ofInt 3 * nI i) 820 = some (164 * t + (44 + 24 * o + 2 + 3 * i)) := (zx (by simp (disch := omega) only [gB, gK, gU, gN, gC, gM, gMK, gD, gL, g_th, g_n, g_ms, g_ls, g_ow, g_sc, uB, uK, uU, uN, uC, uM, uMK, uL, u_ms, u_ls, u_th, u_ow, kup_same, kup_ne, kup_krow2, krow_same, krow_ne, c_0, c_1, c_2, c_3, c_4, c_5, b_6, b_8, b_10, b_12, b_14, b_15, b_16, b_17, b_18, b_19, b_20, b_24, b_30, b_44, b_63, b_100, h_164, o_n, c_z, nI_add, nI_mul] <;> first | rfl | (congr 1; omega)) (by omega) (by omega))
      unfold fnd
      by_cases he : β t (44 + 24 * o + 2 + 3 * i) = v
      · rw [if_pos he]
        refine ⟨false, s105_10_ftt hn z1 (by simp (disch := omega) only [hc, gB, gK, gU, gN, gC, gM, gMK, gD, gL, g_th, g_n, g_ms, g_ls, g_ow, g_sc, uB, uK, uU, uN, uC, uM, uMK, uL, u_ms, u_ls, u_th, u_ow, kup_same, kup_ne, kup_krow2, krow_same, krow_ne, c_0, c_1, c_2, c_3, c_4, c_5, b_6, b_8, b_10, b_12, b_14, b_15, b_16, b_17, b_18, b_19, b_20, b_24, b_30, b_44, b_63, b_100, h_164, o_n, c_z, nI_add, nI_mul, zc_ge, zc_lt, zc_gt, zc_le, zc_eq, zc_ne, decide_eq_true_eq, decide_eq_false_iff_not] <;> omega) z3 (zc_eqt (by simp (disch := omega) only [gB, gK, gU, gN, gC, gM, gMK, gD, gL, g_th, g_n, g_ms, g_ls, g_ow, g_sc, uB, uK, uU, uN, uC, uM, uMK, uL, u_ms, u_ls, u_th, u_ow, kup_same, kup_ne, kup_krow2, krow_same, krow_ne, c_0, c_1, c_2, c_3, c_4, c_5, b_6, b_8, b_10, b_12, b_14, b_15, b_16, b_17, b_18, b_19, b_20, b_24, b_30, b_44, b_63, b_100, h_164, o_n]; exact he)) (by simp (disch := omega) only [hc, gB, gK, gU, gN, gC, gM, gMK, gD, gL, g_th, g_n, g_ms, g_ls, g_ow, g_sc, uB, uK, uU, uN, uC, uM, uMK, uL, u_ms, u_ls, u_th, u_ow, kup_same, kup_ne, kup_krow2, krow_same, krow_ne, c_0, c_1, c_2, c_3, c_4, c_5, b_6, b_8, b_10, b_12, b_14, b_15, b_16, b_17, b_18, b_19, b_20, b_24, b_30, b_44, b_63, b_100, h_164, o_n, c_z, nI_add, nI_mul, zc_ge, zc_lt, zc_gt, zc_le, zc_eq, zc_ne, decide_eq_true_eq, decide_eq_false_iff_not] <;> omega) ?_⟩
        have e1 : nI (164 * t + (44 + 24 * o)) + Int32.ofInt 2 + Int32.ofInt 3 * nI i = nI (164 * t + (44 + 24 * o + 2 + 3 * i)) := by
          rw [c_2, c_3, nI_mul, nI_add, nI_add]
          congr 1
          omega
        rw [e1]
        refine zr_st ?_ (shift (c - 1) i (nI i) (by omega) (by omega) (3 * (c - 1) - 3 * i) (44 + 24 * o + 2 + 3 * i) (by omega) (Nat.le_refl _))
        simp (disch := omega) only [hc, nI_sub, gB, gK, gU, gN, gC, gM, gMK, gD, gL, g_th, g_n, g_ms, g_ls, g_ow, g_sc, uB, uK, uU, uN, uC, uM, uMK, uL, u_ms, u_ls, u_th, u_ow, kup_same, kup_ne, kup_krow2, krow_same, krow_ne, c_0, c_1, c_2, c_3, c_4, c_5, b_6, b_8, b_10, b_12, b_14, b_15, b_16, b_17, b_18, b_19, b_20, b_24, b_30, b_44, b_63, b_100, h_164, o_n]
        rw [kup_krow]
        congr 2
        funext y
        simp only [rup, shf]
        (repeat' split) <;> first | rfl | (exfalso; omega) | (congr 1; omega)
      · rw [if_neg he]
        obtain ⟨cl', h⟩ := ih (i + 1) cl (by omega)
        refine ⟨cl', s105_10_ff hn z1 (by simp (disch := omega) only [hc, gB, gK, gU, gN, gC, gM, gMK, gD, gL, g_th, g_n, g_ms, g_ls, g_ow, g_sc, uB, uK, uU, uN, uC, uM, uMK, uL, u_ms, u_ls, u_th, u_ow, kup_same, kup_ne, kup_krow2, krow_same, krow_ne, c_0, c_1, c_2, c_3, c_4, c_5, b_6, b_8, b_10, b_12, b_14, b_15, b_16, b_17, b_18, b_19, b_20, b_24, b_30, b_44, b_63, b_100, h_164, o_n, c_z, nI_add, nI_mul, zc_ge, zc_lt, zc_gt, zc_le, zc_eq, zc_ne, decide_eq_true_eq, decide_eq_false_iff_not] <;> omega) z3 (zc_eqf (by simp (disch := omega) only [gB, gK, gU, gN, gC, gM, gMK, gD, gL, g_th, g_n, g_ms, g_ls, g_ow, g_sc, uB, uK, uU, uN, uC, uM, uMK, uL, u_ms, u_ls, u_th, u_ow, kup_same, kup_ne, kup_krow2, krow_same, krow_ne, c_0, c_1, c_2, c_3, c_4, c_5, b_6, b_8, b_10, b_12, b_14, b_15, b_16, b_17, b_18, b_19, b_20, b_24, b_30, b_44, b_63, b_100, h_164, o_n]; exact he)) ?_⟩
        rw [nI_inc]
        exact h
  obtain ⟨cl', h⟩ := loop c 0 cl (by omega)
  exact ⟨cl', s105_0_r hn (m_other hn t o) h⟩
theorem m_told (hn : 2 ≤ n ∧ n ≤ 5) (ht : t < n) (ho : o < n) (ha : a < 4) (u s : Int32) : ∃ cl', ZR 106 0 [.val (.ref (kad n (22, 0, 0))), .val (.int (nI o)), .val (.int (nI t)), .val (.int (nI a)), .val (.int u), .val (.int s), .unset] [] (khp n L (St n α β th ow sc) g) cl (.inl (some (.int (zb (decide (β t (44 + 24 * o + 20 + a) < s))))), khp n L (St n α (aHear β t o a u s) th ow sc) g, cl') := by
  have z2 : zix (nI (164 * t + (44 + 24 * o)) + (Int8.ofInt 20).toInt32 + nI a) 820 = some (164 * t + (44 + 24 * o + 20 + a)) := (zx (by simp (disch := omega) only [gB, gK, gU, gN, gC, gM, gMK, gD, gL, g_th, g_n, g_ms, g_ls, g_ow, g_sc, uB, uK, uU, uN, uC, uM, uMK, uL, u_ms, u_ls, u_th, u_ow, kup_same, kup_ne, kup_krow2, krow_same, krow_ne, c_0, c_1, c_2, c_3, c_4, c_5, b_6, b_8, b_10, b_12, b_14, b_15, b_16, b_17, b_18, b_19, b_20, b_24, b_30, b_44, b_63, b_100, h_164, o_n, c_z, nI_add, nI_mul] <;> first | rfl | (congr 1; omega)) (by omega) (by omega))
  have z4 : zix (nI (164 * t + (44 + 24 * o)) + (Int8.ofInt 16).toInt32 + nI a) 820 = some (164 * t + (44 + 24 * o + 16 + a)) := (zx (by simp (disch := omega) only [gB, gK, gU, gN, gC, gM, gMK, gD, gL, g_th, g_n, g_ms, g_ls, g_ow, g_sc, uB, uK, uU, uN, uC, uM, uMK, uL, u_ms, u_ls, u_th, u_ow, kup_same, kup_ne, kup_krow2, krow_same, krow_ne, c_0, c_1, c_2, c_3, c_4, c_5, b_6, b_8, b_10, b_12, b_14, b_15, b_16, b_17, b_18, b_19, b_20, b_24, b_30, b_44, b_63, b_100, h_164, o_n, c_z, nI_add, nI_mul] <;> first | rfl | (congr 1; omega)) (by omega) (by omega))
  unfold aHear zb
  by_cases h : β t (44 + 24 * o + 20 + a) < s
  · simp only [h, decide_true, if_true]
    refine ⟨_, zr_rv ?_ rfl (s106_0_t hn (m_other hn t o) z2 (zc_gtT (by simp (disch := omega) only [gB, gK, gU, gN, gC, gM, gMK, gD, gL, g_th, g_n, g_ms, g_ls, g_ow, g_sc, uB, uK, uU, uN, uC, uM, uMK, uL, u_ms, u_ls, u_th, u_ow, kup_same, kup_ne, kup_krow2, krow_same, krow_ne, c_0, c_1, c_2, c_3, c_4, c_5, b_6, b_8, b_10, b_12, b_14, b_15, b_16, b_17, b_18, b_19, b_20, b_24, b_30, b_44, b_63, b_100, h_164, o_n]; exact h)) z4)⟩
    simp (disch := omega) only [gB, gK, gU, gN, gC, gM, gMK, gD, gL, g_th, g_n, g_ms, g_ls, g_ow, g_sc, uB, uK, uU, uN, uC, uM, uMK, uL, u_ms, u_ls, u_th, u_ow, kup_same, kup_ne, kup_krow2, krow_same, krow_ne, c_0, c_1, c_2, c_3, c_4, c_5, b_6, b_8, b_10, b_12, b_14, b_15, b_16, b_17, b_18, b_19, b_20, b_24, b_30, b_44, b_63, b_100, h_164, o_n]
    congr 1
    funext x y
    simp only [kup]
    (repeat' split) <;> first | rfl | (exfalso; omega) | (congr 1; omega)
  · simp only [h, decide_false, if_false]
    exact ⟨_, s106_0_f hn (m_other hn t o) z2 (zc_gtF (by simp (disch := omega) only [gB, gK, gU, gN, gC, gM, gMK, gD, gL, g_th, g_n, g_ms, g_ls, g_ow, g_sc, uB, uK, uU, uN, uC, uM, uMK, uL, u_ms, u_ls, u_th, u_ow, kup_same, kup_ne, kup_krow2, krow_same, krow_ne, c_0, c_1, c_2, c_3, c_4, c_5, b_6, b_8, b_10, b_12, b_14, b_15, b_16, b_17, b_18, b_19, b_20, b_24, b_30, b_44, b_63, b_100, h_164, o_n]; exact h))⟩
theorem m_canGive (hn : 2 ≤ n ∧ n ≤ 5) (ht : t < n) (ho : o < n) (ha : a < 4) (hup : UpOk β t) {N q : Nat} (hN : β t (44 + 24 * o) = nI N) (hc : β t (44 + 24 * o + 1) = nI c) (hq : 0 < c → β t (44 + 24 * o + 2) = nI q ∧ q ≤ N) (hc2 : c ≤ 4) (hN2 : N < 2 ^ 30) : ZR 108 0 [.val (.ref (kad n (22, 0, 0))), .val (.int (nI t)), .val (.int (nI o)), .val (.int (nI a)), .val (.int u), .unset, .unset] [] (khp n L (St n α β th ow sc) g) cl (.inl (some (.int (zb (!decide (β 10 t = 0) && !decide (β t a < u) && aCan c N q)))), khp n L (St n α β th ow sc) g, cl) := by
  have z2 : zix (nI (164 * t + (44 + 24 * o)) + Int32.ofInt 1) 820 = some (164 * t + (44 + 24 * o + 1)) := (zx (by simp (disch := omega) only [gB, gK, gU, gN, gC, gM, gMK, gD, gL, g_th, g_n, g_ms, g_ls, g_ow, g_sc, uB, uK, uU, uN, uC, uM, uMK, uL, u_ms, u_ls, u_th, u_ow, kup_same, kup_ne, kup_krow2, krow_same, krow_ne, c_0, c_1, c_2, c_3, c_4, c_5, b_6, b_8, b_10, b_12, b_14, b_15, b_16, b_17, b_18, b_19, b_20, b_24, b_30, b_44, b_63, b_100, h_164, o_n, c_z, nI_add, nI_mul] <;> first | rfl | (congr 1; omega)) (by omega) (by omega))
  have z4 : zix (nI (164 * t + (44 + 24 * o))) 820 = some (164 * t + (44 + 24 * o)) := (zx (by simp (disch := omega) only [gB, gK, gU, gN, gC, gM, gMK, gD, gL, g_th, g_n, g_ms, g_ls, g_ow, g_sc, uB, uK, uU, uN, uC, uM, uMK, uL, u_ms, u_ls, u_th, u_ow, kup_same, kup_ne, kup_krow2, krow_same, krow_ne, c_0, c_1, c_2, c_3, c_4, c_5, b_6, b_8, b_10, b_12, b_14, b_15, b_16, b_17, b_18, b_19, b_20, b_24, b_30, b_44, b_63, b_100, h_164, o_n, c_z, nI_add, nI_mul] <;> first | rfl | (congr 1; omega)) (by omega) (by omega))
  have z5 : zix (nI (164 * t + (44 + 24 * o)) + Int32.ofInt 2) 820 = some (164 * t + (44 + 24 * o + 2)) := (zx (by simp (disch := omega) only [gB, gK, gU, gN, gC, gM, gMK, gD, gL, g_th, g_n, g_ms, g_ls, g_ow, g_sc, uB, uK, uU, uN, uC, uM, uMK, uL, u_ms, u_ls, u_th, u_ow, kup_same, kup_ne, kup_krow2, krow_same, krow_ne, c_0, c_1, c_2, c_3, c_4, c_5, b_6, b_8, b_10, b_12, b_14, b_15, b_16, b_17, b_18, b_19, b_20, b_24, b_30, b_44, b_63, b_100, h_164, o_n, c_z, nI_add, nI_mul] <;> first | rfl | (congr 1; omega)) (by omega) (by omega))
  have z7 : zix (nI t) 5 = some t := zix_nI (by omega) (by omega)
  have z10 : zix (nI (164 * t) + nI a) 820 = some (164 * t + a) := (zx (by simp (disch := omega) only [gB, gK, gU, gN, gC, gM, gMK, gD, gL, g_th, g_n, g_ms, g_ls, g_ow, g_sc, uB, uK, uU, uN, uC, uM, uMK, uL, u_ms, u_ls, u_th, u_ow, kup_same, kup_ne, kup_krow2, krow_same, krow_ne, c_0, c_1, c_2, c_3, c_4, c_5, b_6, b_8, b_10, b_12, b_14, b_15, b_16, b_17, b_18, b_19, b_20, b_24, b_30, b_44, b_63, b_100, h_164, o_n, c_z, nI_add, nI_mul] <;> first | rfl | (congr 1; omega)) (by omega) (by omega))
  have m1 := m_other (α := α) (β := β) (th := th) (ow := ow) (sc := sc) (L := L) (g := g) (cl := true) hn t o
  have m9 := m_at (α := α) (β := β) (th := th) (ow := ow) (sc := sc) (L := L) (g := g) (cl := true) hn t
  have eA : St n α β th ow sc (20 + (164 * t + a) / 164) ((164 * t + a) % 164) = β t a := by simp (disch := omega) only [gB, gK, gU, gN, gC, gM, gMK, gD, gL, g_th, g_n, g_ms, g_ls, g_ow, g_sc, uB, uK, uU, uN, uC, uM, uMK, uL, u_ms, u_ls, u_th, u_ow, kup_same, kup_ne, kup_krow2, krow_same, krow_ne, c_0, c_1, c_2, c_3, c_4, c_5, b_6, b_8, b_10, b_12, b_14, b_15, b_16, b_17, b_18, b_19, b_20, b_24, b_30, b_44, b_63, b_100, h_164, o_n]
  unfold zb aCan
  by_cases hc0 : c = 0
  · have h3 : zcnd .eq (St n α β th ow sc (20 + (164 * t + (44 + 24 * o + 1)) / 164) ((164 * t + (44 + 24 * o + 1)) % 164)) 0 = true := (by simp (disch := omega) only [hc, gB, gK, gU, gN, gC, gM, gMK, gD, gL, g_th, g_n, g_ms, g_ls, g_ow, g_sc, uB, uK, uU, uN, uC, uM, uMK, uL, u_ms, u_ls, u_th, u_ow, kup_same, kup_ne, kup_krow2, krow_same, krow_ne, c_0, c_1, c_2, c_3, c_4, c_5, b_6, b_8, b_10, b_12, b_14, b_15, b_16, b_17, b_18, b_19, b_20, b_24, b_30, b_44, b_63, b_100, h_164, o_n, c_z, nI_add, nI_mul, zc_ge, zc_lt, zc_gt, zc_le, zc_eq, zc_ne, decide_eq_true_eq, decide_eq_false_iff_not] <;> omega)
    by_cases h1 : β 10 t = 0
    · rw [if_neg (by simp [h1])]
      exact s108_0_tt hn m1 z2 h3 z7 (dn_t h1)
    · by_cases h2 : β t a < u
      · rw [if_neg (by simp [h2])]
        exact s108_0_tft hn m1 z2 h3 z7 (dn_f hup h1) m9 z10 (by rw [eA]; exact zc_ltT h2)
      · rw [if_pos (by simp [h1, h2, hc0])]
        exact s108_0_tffff hn m1 z2 h3 z7 (dn_f hup h1) m9 z10 (by rw [eA]; exact zc_ltF h2) (by simp (disch := omega) only [hc, gB, gK, gU, gN, gC, gM, gMK, gD, gL, g_th, g_n, g_ms, g_ls, g_ow, g_sc, uB, uK, uU, uN, uC, uM, uMK, uL, u_ms, u_ls, u_th, u_ow, kup_same, kup_ne, kup_krow2, krow_same, krow_ne, c_0, c_1, c_2, c_3, c_4, c_5, b_6, b_8, b_10, b_12, b_14, b_15, b_16, b_17, b_18, b_19, b_20, b_24, b_30, b_44, b_63, b_100, h_164, o_n, c_z, nI_add, nI_mul, zc_ge, zc_lt, zc_gt, zc_le, zc_eq, zc_ne, decide_eq_true_eq, decide_eq_false_iff_not] <;> omega) rfl
  · obtain ⟨hq1, hq2⟩ := hq (by omega)
    have h3 : zcnd .eq (St n α β th ow sc (20 + (164 * t + (44 + 24 * o + 1)) / 164) ((164 * t + (44 + 24 * o + 1)) % 164)) 0 = false := (by simp (disch := omega) only [hc, gB, gK, gU, gN, gC, gM, gMK, gD, gL, g_th, g_n, g_ms, g_ls, g_ow, g_sc, uB, uK, uU, uN, uC, uM, uMK, uL, u_ms, u_ls, u_th, u_ow, kup_same, kup_ne, kup_krow2, krow_same, krow_ne, c_0, c_1, c_2, c_3, c_4, c_5, b_6, b_8, b_10, b_12, b_14, b_15, b_16, b_17, b_18, b_19, b_20, b_24, b_30, b_44, b_63, b_100, h_164, o_n, c_z, nI_add, nI_mul, zc_ge, zc_lt, zc_gt, zc_le, zc_eq, zc_ne, decide_eq_true_eq, decide_eq_false_iff_not] <;> omega)
    by_cases hnear : N < q + 16
    · have h6 : zcnd .ge (St n α β th ow sc (20 + (164 * t + (44 + 24 * o)) / 164) ((164 * t + (44 + 24 * o)) % 164)) (St n α β th ow sc (20 + (164 * t + (44 + 24 * o + 2)) / 164) ((164 * t + (44 + 24 * o + 2)) % 164) + (Int8.ofInt 16).toInt32) = false := (by simp (disch := omega) only [hN, hq1, gB, gK, gU, gN, gC, gM, gMK, gD, gL, g_th, g_n, g_ms, g_ls, g_ow, g_sc, uB, uK, uU, uN, uC, uM, uMK, uL, u_ms, u_ls, u_th, u_ow, kup_same, kup_ne, kup_krow2, krow_same, krow_ne, c_0, c_1, c_2, c_3, c_4, c_5, b_6, b_8, b_10, b_12, b_14, b_15, b_16, b_17, b_18, b_19, b_20, b_24, b_30, b_44, b_63, b_100, h_164, o_n, c_z, nI_add, nI_mul, zc_ge, zc_lt, zc_gt, zc_le, zc_eq, zc_ne, decide_eq_true_eq, decide_eq_false_iff_not] <;> omega)
      by_cases h1 : β 10 t = 0
      · rw [if_neg (by simp [h1])]
        exact s108_0_fft hn m1 z2 h3 z4 z5 h6 z7 (dn_t h1)
      · by_cases h2 : β t a < u
        · rw [if_neg (by simp [h2])]
          exact s108_0_ffft hn m1 z2 h3 z4 z5 h6 z7 (dn_f hup h1) m9 z10 (by rw [eA]; exact zc_ltT h2)
        · by_cases h4 : c < 4
          · rw [if_pos (by simp [h1, h2, h4, hnear])]
            exact s108_0_ffffff hn m1 z2 h3 z4 z5 h6 z7 (dn_f hup h1) m9 z10 (by rw [eA]; exact zc_ltF h2) (by simp (disch := omega) only [hc, gB, gK, gU, gN, gC, gM, gMK, gD, gL, g_th, g_n, g_ms, g_ls, g_ow, g_sc, uB, uK, uU, uN, uC, uM, uMK, uL, u_ms, u_ls, u_th, u_ow, kup_same, kup_ne, kup_krow2, krow_same, krow_ne, c_0, c_1, c_2, c_3, c_4, c_5, b_6, b_8, b_10, b_12, b_14, b_15, b_16, b_17, b_18, b_19, b_20, b_24, b_30, b_44, b_63, b_100, h_164, o_n, c_z, nI_add, nI_mul, zc_ge, zc_lt, zc_gt, zc_le, zc_eq, zc_ne, decide_eq_true_eq, decide_eq_false_iff_not] <;> omega) rfl
          · rw [if_neg (by simp [hc0, h4])]
            exact s108_0_fffft hn m1 z2 h3 z4 z5 h6 z7 (dn_f hup h1) m9 z10 (by rw [eA]; exact zc_ltF h2) (by simp (disch := omega) only [hc, gB, gK, gU, gN, gC, gM, gMK, gD, gL, g_th, g_n, g_ms, g_ls, g_ow, g_sc, uB, uK, uU, uN, uC, uM, uMK, uL, u_ms, u_ls, u_th, u_ow, kup_same, kup_ne, kup_krow2, krow_same, krow_ne, c_0, c_1, c_2, c_3, c_4, c_5, b_6, b_8, b_10, b_12, b_14, b_15, b_16, b_17, b_18, b_19, b_20, b_24, b_30, b_44, b_63, b_100, h_164, o_n, c_z, nI_add, nI_mul, zc_ge, zc_lt, zc_gt, zc_le, zc_eq, zc_ne, decide_eq_true_eq, decide_eq_false_iff_not] <;> omega)
    · have h6 : zcnd .ge (St n α β th ow sc (20 + (164 * t + (44 + 24 * o)) / 164) ((164 * t + (44 + 24 * o)) % 164)) (St n α β th ow sc (20 + (164 * t + (44 + 24 * o + 2)) / 164) ((164 * t + (44 + 24 * o + 2)) % 164) + (Int8.ofInt 16).toInt32) = true := (by simp (disch := omega) only [hN, hq1, gB, gK, gU, gN, gC, gM, gMK, gD, gL, g_th, g_n, g_ms, g_ls, g_ow, g_sc, uB, uK, uU, uN, uC, uM, uMK, uL, u_ms, u_ls, u_th, u_ow, kup_same, kup_ne, kup_krow2, krow_same, krow_ne, c_0, c_1, c_2, c_3, c_4, c_5, b_6, b_8, b_10, b_12, b_14, b_15, b_16, b_17, b_18, b_19, b_20, b_24, b_30, b_44, b_63, b_100, h_164, o_n, c_z, nI_add, nI_mul, zc_ge, zc_lt, zc_gt, zc_le, zc_eq, zc_ne, decide_eq_true_eq, decide_eq_false_iff_not] <;> omega)
      by_cases h1 : β 10 t = 0
      · rw [if_neg (by simp [h1])]
        exact s108_0_ftt hn m1 z2 h3 z4 z5 h6 z7 (dn_t h1)
      · by_cases h2 : β t a < u
        · rw [if_neg (by simp [h2])]
          exact s108_0_ftft hn m1 z2 h3 z4 z5 h6 z7 (dn_f hup h1) m9 z10 (by rw [eA]; exact zc_ltT h2)
        · by_cases h4 : c < 4
          · rw [if_neg (by simp [hc0, hnear])]
            exact s108_0_ftffft hn m1 z2 h3 z4 z5 h6 z7 (dn_f hup h1) m9 z10 (by rw [eA]; exact zc_ltF h2) (by simp (disch := omega) only [hc, gB, gK, gU, gN, gC, gM, gMK, gD, gL, g_th, g_n, g_ms, g_ls, g_ow, g_sc, uB, uK, uU, uN, uC, uM, uMK, uL, u_ms, u_ls, u_th, u_ow, kup_same, kup_ne, kup_krow2, krow_same, krow_ne, c_0, c_1, c_2, c_3, c_4, c_5, b_6, b_8, b_10, b_12, b_14, b_15, b_16, b_17, b_18, b_19, b_20, b_24, b_30, b_44, b_63, b_100, h_164, o_n, c_z, nI_add, nI_mul, zc_ge, zc_lt, zc_gt, zc_le, zc_eq, zc_ne, decide_eq_true_eq, decide_eq_false_iff_not] <;> omega) rfl
          · rw [if_neg (by simp [hc0, h4])]
            exact s108_0_ftfft hn m1 z2 h3 z4 z5 h6 z7 (dn_f hup h1) m9 z10 (by rw [eA]; exact zc_ltF h2) (by simp (disch := omega) only [hc, gB, gK, gU, gN, gC, gM, gMK, gD, gL, g_th, g_n, g_ms, g_ls, g_ow, g_sc, uB, uK, uU, uN, uC, uM, uMK, uL, u_ms, u_ls, u_th, u_ow, kup_same, kup_ne, kup_krow2, krow_same, krow_ne, c_0, c_1, c_2, c_3, c_4, c_5, b_6, b_8, b_10, b_12, b_14, b_15, b_16, b_17, b_18, b_19, b_20, b_24, b_30, b_44, b_63, b_100, h_164, o_n, c_z, nI_add, nI_mul, zc_ge, zc_lt, zc_gt, zc_le, zc_eq, zc_ne, decide_eq_true_eq, decide_eq_false_iff_not] <;> omega)
theorem m_giveNow (hn : 2 ≤ n ∧ n ≤ 5) (ht : t < n) (ho : o < n) (ha : a < 4) (hc : β t (44 + 24 * o + 1) = nI c) (hc2 : c < 4) (hk : CntOk β) : ∃ cl', ZR 109 0 [.val (.ref (kad n (22, 0, 0))), .val (.int (nI t)), .val (.int (nI o)), .val (.int (nI a)), .val (.int u), .unset, .unset, .unset] [] (khp n L (St n α β th ow sc) g) cl (.inl (some (.int (β t (44 + 24 * o)))), khp n L (St n α (aGive β t o a c u) th ow sc) g, cl') := by
  have z2 : zix (nI (164 * t + (44 + 24 * o))) 820 = some (164 * t + (44 + 24 * o)) := (zx (by simp (disch := omega) only [gB, gK, gU, gN, gC, gM, gMK, gD, gL, g_th, g_n, g_ms, g_ls, g_ow, g_sc, uB, uK, uU, uN, uC, uM, uMK, uL, u_ms, u_ls, u_th, u_ow, kup_same, kup_ne, kup_krow2, krow_same, krow_ne, c_0, c_1, c_2, c_3, c_4, c_5, b_6, b_8, b_10, b_12, b_14, b_15, b_16, b_17, b_18, b_19, b_20, b_24, b_30, b_44, b_63, b_100, h_164, o_n, c_z, nI_add, nI_mul] <;> first | rfl | (congr 1; omega)) (by omega) (by omega))
  have z4 : zix (nI (164 * t) + nI a) 820 = some (164 * t + a) := (zx (by simp (disch := omega) only [gB, gK, gU, gN, gC, gM, gMK, gD, gL, g_th, g_n, g_ms, g_ls, g_ow, g_sc, uB, uK, uU, uN, uC, uM, uMK, uL, u_ms, u_ls, u_th, u_ow, kup_same, kup_ne, kup_krow2, krow_same, krow_ne, c_0, c_1, c_2, c_3, c_4, c_5, b_6, b_8, b_10, b_12, b_14, b_15, b_16, b_17, b_18, b_19, b_20, b_24, b_30, b_44, b_63, b_100, h_164, o_n, c_z, nI_add, nI_mul] <;> first | rfl | (congr 1; omega)) (by omega) (by omega))
  have z5 : zix (nI (164 * t + (44 + 24 * o)) + Int32.ofInt 1) 820 = some (164 * t + (44 + 24 * o + 1)) := (zx (by simp (disch := omega) only [gB, gK, gU, gN, gC, gM, gMK, gD, gL, g_th, g_n, g_ms, g_ls, g_ow, g_sc, uB, uK, uU, uN, uC, uM, uMK, uL, u_ms, u_ls, u_th, u_ow, kup_same, kup_ne, kup_krow2, krow_same, krow_ne, c_0, c_1, c_2, c_3, c_4, c_5, b_6, b_8, b_10, b_12, b_14, b_15, b_16, b_17, b_18, b_19, b_20, b_24, b_30, b_44, b_63, b_100, h_164, o_n, c_z, nI_add, nI_mul] <;> first | rfl | (congr 1; omega)) (by omega) (by omega))
  obtain ⟨c9, h9⟩ := m_syncNow (α := α) (β := aGive0 β t o a c u) (th := th) (ow := ow) (sc := sc) (L := L) (g := g) (cl := true) hn (show t < 5 by omega)
  have hk2 : CntOk (aDown (aGive0 β t o a c u) t) := by
    unfold CntOk aDown
    rw [krow_ne (by omega)]
    unfold aGive0 aOpen
    simp (disch := omega) only [gB, gK, gU, gN, gC, gM, gMK, gD, gL, g_th, g_n, g_ms, g_ls, g_ow, g_sc, uB, uK, uU, uN, uC, uM, uMK, uL, u_ms, u_ls, u_th, u_ow, kup_same, kup_ne, kup_krow2, krow_same, krow_ne, c_0, c_1, c_2, c_3, c_4, c_5, b_6, b_8, b_10, b_12, b_14, b_15, b_16, b_17, b_18, b_19, b_20, b_24, b_30, b_44, b_63, b_100, h_164, o_n]
    exact hk
  have h10 := m_send (α := α) (β := aDown (aGive0 β t o a c u) t) (th := th) (ow := ow) (sc := sc) (L := L) (g := g) (cl := true) hn hk2 (nI 0) (nI t) (nI o) (β t (44 + 24 * o)) (nI a) u
  refine ⟨false, zr_rv rfl ?_ (s109_0_r (σ9 := St n α (aDown (aGive0 β t o a c u) t) th ow sc) (c9 := c9) (σ10 := St n α (aGive β t o a c u) th ow sc) (c10 := false) (x6 := 164 * t + (44 + 24 * o + 2 + 3 * c)) (x7 := 164 * t + (44 + 24 * o + 2 + 3 * c + 1)) (x8 := 164 * t + (44 + 24 * o + 2 + 3 * c + 2)) hn (m_other hn t o) z2 (m_at hn t) z4 z5 (zx (by simp (disch := omega) only [hc, gB, gK, gU, gN, gC, gM, gMK, gD, gL, g_th, g_n, g_ms, g_ls, g_ow, g_sc, uB, uK, uU, uN, uC, uM, uMK, uL, u_ms, u_ls, u_th, u_ow, kup_same, kup_ne, kup_krow2, krow_same, krow_ne, c_0, c_1, c_2, c_3, c_4, c_5, b_6, b_8, b_10, b_12, b_14, b_15, b_16, b_17, b_18, b_19, b_20, b_24, b_30, b_44, b_63, b_100, h_164, o_n, c_z, nI_add, nI_mul] <;> first | rfl | (congr 1; omega)) (by omega) (by omega)) (zx (by simp (disch := omega) only [hc, gB, gK, gU, gN, gC, gM, gMK, gD, gL, g_th, g_n, g_ms, g_ls, g_ow, g_sc, uB, uK, uU, uN, uC, uM, uMK, uL, u_ms, u_ls, u_th, u_ow, kup_same, kup_ne, kup_krow2, krow_same, krow_ne, c_0, c_1, c_2, c_3, c_4, c_5, b_6, b_8, b_10, b_12, b_14, b_15, b_16, b_17, b_18, b_19, b_20, b_24, b_30, b_44, b_63, b_100, h_164, o_n, c_z, nI_add, nI_mul] <;> first | rfl | (congr 1; omega)) (by omega) (by omega)) (zx (by simp (disch := omega) only [hc, gB, gK, gU, gN, gC, gM, gMK, gD, gL, g_th, g_n, g_ms, g_ls, g_ow, g_sc, uB, uK, uU, uN, uC, uM, uMK, uL, u_ms, u_ls, u_th, u_ow, kup_same, kup_ne, kup_krow2, krow_same, krow_ne, c_0, c_1, c_2, c_3, c_4, c_5, b_6, b_8, b_10, b_12, b_14, b_15, b_16, b_17, b_18, b_19, b_20, b_24, b_30, b_44, b_63, b_100, h_164, o_n, c_z, nI_add, nI_mul] <;> first | rfl | (congr 1; omega)) (by omega) (by omega)) ?_ ?_)⟩
  · simp (disch := omega) only [gB, gK, gU, gN, gC, gM, gMK, gD, gL, g_th, g_n, g_ms, g_ls, g_ow, g_sc, uB, uK, uU, uN, uC, uM, uMK, uL, u_ms, u_ls, u_th, u_ow, kup_same, kup_ne, kup_krow2, krow_same, krow_ne, c_0, c_1, c_2, c_3, c_4, c_5, b_6, b_8, b_10, b_12, b_14, b_15, b_16, b_17, b_18, b_19, b_20, b_24, b_30, b_44, b_63, b_100, h_164, o_n]
  · refine zr_st ?_ h9
    simp (disch := omega) only [hc, nI_add, gB, gK, gU, gN, gC, gM, gMK, gD, gL, g_th, g_n, g_ms, g_ls, g_ow, g_sc, uB, uK, uU, uN, uC, uM, uMK, uL, u_ms, u_ls, u_th, u_ow, kup_same, kup_ne, kup_krow2, krow_same, krow_ne, c_0, c_1, c_2, c_3, c_4, c_5, b_6, b_8, b_10, b_12, b_14, b_15, b_16, b_17, b_18, b_19, b_20, b_24, b_30, b_44, b_63, b_100, h_164, o_n]
    unfold aGive0 aOpen
    simp (disch := omega) only [gB, gK, gU, gN, gC, gM, gMK, gD, gL, g_th, g_n, g_ms, g_ls, g_ow, g_sc, uB, uK, uU, uN, uC, uM, uMK, uL, u_ms, u_ls, u_th, u_ow, kup_same, kup_ne, kup_krow2, krow_same, krow_ne, c_0, c_1, c_2, c_3, c_4, c_5, b_6, b_8, b_10, b_12, b_14, b_15, b_16, b_17, b_18, b_19, b_20, b_24, b_30, b_44, b_63, b_100, h_164, o_n]
  · rw [gM (by omega) (by omega) (by omega)]
    exact h10
theorem m_voucher (hn : 2 ≤ n ∧ n ≤ 5) (ht : t < n) (ho : o < n) (ha : a < 4) {m f x : Nat} (hm : β t (44 + 24 * o + 15) = nI m) (hf : β t (44 + 24 * o + 14) = nI f) (hm2 : m < 2 ^ 16) (hf2 : f < 2 ^ 29) (hx2 : x < f + 16) (hk : CntOk β) : ∃ cl', ZR 101 0 [.val (.ref (kad n (22, 0, 0))), .val (.int (nI o)), .val (.int (nI t)), .val (.int (nI x)), .val (.int (nI a)), .val (.int u), .unset] [] (khp n L (St n α β th ow sc) g) cl (.inl (some (.int (zb (!seen m f x)))), khp n L (St n α (aRecv β o t x a u) th ow sc) g, cl') := by
  have hs := m_isSeen (α := α) (β := β) (th := th) (ow := ow) (sc := sc) (g := g) (L := L) (cl := true) hn ht ho hm hf hm2 (by omega) (show x < 2 ^ 30 by omega)
  unfold aRecv aVou zb
  rw [hm, hf]
  unfold cn
  rw [nI_clamp (by omega), nI_clamp (by omega)]
  by_cases h : seen m f x = true
  · rw [if_pos h] at hs ⊢
    rw [if_neg (by simp [h])]
    exact ⟨_, s101_0_tt hn hs rfl rfl (m_send hn hk _ _ _ _ _ _)⟩
  · rw [if_neg h] at hs ⊢
    rw [if_pos (by simp [h])]
    have hfx : f ≤ x := by
      unfold seen at h
      simp at h
      omega
    obtain ⟨c7, h7⟩ := m_syncNow (α := α) (β := kup (aMark β t o x) t a (β t a + u)) (th := th) (ow := ow) (sc := sc) (L := L) (g := g) (cl := true) hn (show t < 5 by omega)
    refine ⟨_, s101_0_ff (c7 := c7) (c8 := false) (x6 := 164 * t + a) hn hs rfl rfl (m_see hn ht ho hm hf hm2 (by omega) hfx hx2) (m_at hn t) (zx (by simp (disch := omega) only [gB, gK, gU, gN, gC, gM, gMK, gD, gL, g_th, g_n, g_ms, g_ls, g_ow, g_sc, uB, uK, uU, uN, uC, uM, uMK, uL, u_ms, u_ls, u_th, u_ow, kup_same, kup_ne, kup_krow2, krow_same, krow_ne, c_0, c_1, c_2, c_3, c_4, c_5, b_6, b_8, b_10, b_12, b_14, b_15, b_16, b_17, b_18, b_19, b_20, b_24, b_30, b_44, b_63, b_100, h_164, o_n, c_z, nI_add, nI_mul] <;> first | rfl | (congr 1; omega)) (by omega) (by omega)) ?_ (m_send hn ?_ _ _ _ _ _ _)⟩
    · simp (disch := omega) only [gB, gK, gU, gN, gC, gM, gMK, gD, gL, g_th, g_n, g_ms, g_ls, g_ow, g_sc, uB, uK, uU, uN, uC, uM, uMK, uL, u_ms, u_ls, u_th, u_ow, kup_same, kup_ne, kup_krow2, krow_same, krow_ne, c_0, c_1, c_2, c_3, c_4, c_5, b_6, b_8, b_10, b_12, b_14, b_15, b_16, b_17, b_18, b_19, b_20, b_24, b_30, b_44, b_63, b_100, h_164, o_n]
      rw [aMark_ne (by omega)]
      exact h7
    · unfold aDown CntOk
      rw [krow_ne (by omega), kup_ne (by omega), aMark_ne (by omega)]
      exact hk
theorem m_asked (hn : 2 ≤ n ∧ n ≤ 5) (ht : t < n) (ho : o < n) (ha : a < 4) (hup : UpOk β t) {N q : Nat} (hN : β t (44 + 24 * o) = nI N) (hc : β t (44 + 24 * o + 1) = nI c) (hq : 0 < c → β t (44 + 24 * o + 2) = nI q ∧ q ≤ N) (hc2 : c ≤ 4) (hN2 : N < 2 ^ 30) (hk : CntOk β) : ∃ cl', ZR 107 0 [.val (.ref (kad n (22, 0, 0))), .val (.int (nI o)), .val (.int (nI t)), .val (.int (nI a)), .val (.int u), .unset] [] (khp n L (St n α β th ow sc) g) cl (.inl (some (.int (zb (!decide (β 10 t = 0) && !decide (β t a < u) && aCan c N q)))), khp n L (St n α (if (!decide (β 10 t = 0) && !decide (β t a < u) && aCan c N q) = true then aGive β t o a c u else β) th ow sc) g, cl') := by
  have hg := m_canGive (α := α) (β := β) (th := th) (ow := ow) (sc := sc) (g := g) (L := L) (cl := true) (u := u) hn ht ho ha hup hN hc hq hc2 hN2
  unfold zb at hg ⊢
  by_cases h : (!decide (β 10 t = 0) && !decide (β t a < u) && aCan c N q) = true
  · simp only [if_pos h] at hg ⊢
    have hc4 : c < 4 := by
      simp only [aCan, Bool.and_eq_true, Bool.or_eq_true, decide_eq_true_eq] at h
      omega
    obtain ⟨c3, h3⟩ := m_giveNow (α := α) (β := β) (th := th) (ow := ow) (sc := sc) (g := g) (L := L) (cl := true) (u := u) hn ht ho ha hc hc4 hk
    exact ⟨_, s107_0_t hn hg rfl h3⟩
  · simp only [if_neg h] at hg ⊢
    exact ⟨_, s107_0_f hn hg rfl⟩
theorem m_move (hn : 2 ≤ n ∧ n ≤ 5) (ht : t < n) (ha : a < 4) {w : Nat} (hw : w = 4 ∨ w = 8) (hwe : p = nI w) : ZR 120 0 [.val (.ref (kad n (22, 0, 0))), .val (.int (nI t)), .val (.int (nI a)), .val (.int u), .val (.int p)] [] (khp n L (St n α β th ow sc) g) cl (.inl (some (.int (β t a - u))), khp n L (St n α (kup (kup β t a (β t a - u)) t (w + a) (β t (w + a) + u)) th ow sc) g, false) := by
  subst hwe
  refine zr_rv ?_ ?_ (s120_0_r (x2 := 164 * t + a) (x4 := 164 * t + (w + a)) (x6 := 164 * t + a) (r1 := nI (164 * t)) (r3 := nI (164 * t)) (r5 := nI (164 * t)) hn (m_at hn t) (zx (by simp (disch := omega) only [gB, gK, gU, gN, gC, gM, gMK, gD, gL, g_th, g_n, g_ms, g_ls, g_ow, g_sc, uB, uK, uU, uN, uC, uM, uMK, uL, u_ms, u_ls, u_th, u_ow, kup_same, kup_ne, kup_krow2, krow_same, krow_ne, c_0, c_1, c_2, c_3, c_4, c_5, b_6, b_8, b_10, b_12, b_14, b_15, b_16, b_17, b_18, b_19, b_20, b_24, b_30, b_44, b_63, b_100, h_164, o_n, c_z, nI_add, nI_mul] <;> first | rfl | (congr 1; omega)) (by omega) (by omega)) ?_ (zx (by simp (disch := omega) only [gB, gK, gU, gN, gC, gM, gMK, gD, gL, g_th, g_n, g_ms, g_ls, g_ow, g_sc, uB, uK, uU, uN, uC, uM, uMK, uL, u_ms, u_ls, u_th, u_ow, kup_same, kup_ne, kup_krow2, krow_same, krow_ne, c_0, c_1, c_2, c_3, c_4, c_5, b_6, b_8, b_10, b_12, b_14, b_15, b_16, b_17, b_18, b_19, b_20, b_24, b_30, b_44, b_63, b_100, h_164, o_n, c_z, nI_add, nI_mul] <;> first | rfl | (congr 1; omega)) (by omega) (by omega)) ?_ (zx (by simp (disch := omega) only [gB, gK, gU, gN, gC, gM, gMK, gD, gL, g_th, g_n, g_ms, g_ls, g_ow, g_sc, uB, uK, uU, uN, uC, uM, uMK, uL, u_ms, u_ls, u_th, u_ow, kup_same, kup_ne, kup_krow2, krow_same, krow_ne, c_0, c_1, c_2, c_3, c_4, c_5, b_6, b_8, b_10, b_12, b_14, b_15, b_16, b_17, b_18, b_19, b_20, b_24, b_30, b_44, b_63, b_100, h_164, o_n, c_z, nI_add, nI_mul] <;> first | rfl | (congr 1; omega)) (by omega) (by omega)))
  · simp (disch := omega) only [gB, gK, gU, gN, gC, gM, gMK, gD, gL, g_th, g_n, g_ms, g_ls, g_ow, g_sc, uB, uK, uU, uN, uC, uM, uMK, uL, u_ms, u_ls, u_th, u_ow, kup_same, kup_ne, kup_krow2, krow_same, krow_ne, c_0, c_1, c_2, c_3, c_4, c_5, b_6, b_8, b_10, b_12, b_14, b_15, b_16, b_17, b_18, b_19, b_20, b_24, b_30, b_44, b_63, b_100, h_164, o_n]
  · simp (disch := omega) only [gB, gK, gU, gN, gC, gM, gMK, gD, gL, g_th, g_n, g_ms, g_ls, g_ow, g_sc, uB, uK, uU, uN, uC, uM, uMK, uL, u_ms, u_ls, u_th, u_ow, kup_same, kup_ne, kup_krow2, krow_same, krow_ne, c_0, c_1, c_2, c_3, c_4, c_5, b_6, b_8, b_10, b_12, b_14, b_15, b_16, b_17, b_18, b_19, b_20, b_24, b_30, b_44, b_63, b_100, h_164, o_n]
  · simp (disch := omega) only [gB, gK, gU, gN, gC, gM, gMK, gD, gL, g_th, g_n, g_ms, g_ls, g_ow, g_sc, uB, uK, uU, uN, uC, uM, uMK, uL, u_ms, u_ls, u_th, u_ow, kup_same, kup_ne, kup_krow2, krow_same, krow_ne, c_0, c_1, c_2, c_3, c_4, c_5, b_6, b_8, b_10, b_12, b_14, b_15, b_16, b_17, b_18, b_19, b_20, b_24, b_30, b_44, b_63, b_100, h_164, o_n]
    exact m_at hn t
  · simp (disch := omega) only [gB, gK, gU, gN, gC, gM, gMK, gD, gL, g_th, g_n, g_ms, g_ls, g_ow, g_sc, uB, uK, uU, uN, uC, uM, uMK, uL, u_ms, u_ls, u_th, u_ow, kup_same, kup_ne, kup_krow2, krow_same, krow_ne, c_0, c_1, c_2, c_3, c_4, c_5, b_6, b_8, b_10, b_12, b_14, b_15, b_16, b_17, b_18, b_19, b_20, b_24, b_30, b_44, b_63, b_100, h_164, o_n]
    exact m_at hn t
theorem m_forget (hn : 2 ≤ n ∧ n ≤ 5) (ht : t < n) {i : Nat} (hc : β t 19 = nI (c + 1)) (h6 : c + 1 ≤ 6) (hi : i ≤ c) : ZR 125 0 [.val (.ref (kad n (22, 0, 0))), .val (.int (nI t)), .val (.int (nI i)), .unset, .unset] [] (khp n L (St n α β th ow sc) g) cl (.inl none, khp n L (St n α (krow β t (remR (β t) i c)) th ow sc) g, false) := by
  have z1 : zix (nI (164 * t) + (Int8.ofInt 19).toInt32) 820 = some (164 * t + 19) := (zx (by simp (disch := omega) only [gB, gK, gU, gN, gC, gM, gMK, gD, gL, g_th, g_n, g_ms, g_ls, g_ow, g_sc, uB, uK, uU, uN, uC, uM, uMK, uL, u_ms, u_ls, u_th, u_ow, kup_same, kup_ne, kup_krow2, krow_same, krow_ne, c_0, c_1, c_2, c_3, c_4, c_5, b_6, b_8, b_10, b_12, b_14, b_15, b_16, b_17, b_18, b_19, b_20, b_24, b_30, b_44, b_63, b_100, h_164, o_n, c_z, nI_add, nI_mul] <;> first | rfl | (congr 1; omega)) (by omega) (by omega))
  have loop : ∀ k x, x + k = 20 + 4 * c → 20 + 4 * i ≤ x → ZR 125 28 [.val (.ref (kad n (22, 0, 0))), .val (.int (nI t)), .val (.int (nI i)), .val (.int (nI (164 * t))), .val (.int (nI (164 * t + x)))] [] (khp n L (St n α (krow β t (rup (shf (β t) (20 + 4 * i) x 4) 19 (nI c))) th ow sc) g) false (.inl none, khp n L (St n α (krow β t (remR (β t) i c)) th ow sc) g, false) := by
    intro k
    induction k with
    | zero =>
      intro x hx hix
      have : x = 20 + 4 * c := by omega
      subst this
      exact s125_28_t hn z1 (by simp (disch := omega) only [rup_same, gB, gK, gU, gN, gC, gM, gMK, gD, gL, g_th, g_n, g_ms, g_ls, g_ow, g_sc, uB, uK, uU, uN, uC, uM, uMK, uL, u_ms, u_ls, u_th, u_ow, kup_same, kup_ne, kup_krow2, krow_same, krow_ne, c_0, c_1, c_2, c_3, c_4, c_5, b_6, b_8, b_10, b_12, b_14, b_15, b_16, b_17, b_18, b_19, b_20, b_24, b_30, b_44, b_63, b_100, h_164, o_n, c_z, nI_add, nI_mul, zc_ge, zc_lt, zc_gt, zc_le, zc_eq, zc_ne, decide_eq_true_eq, decide_eq_false_iff_not] <;> omega)
    | succ k ih =>
      intro x hx hix
      refine s125_28_f (x3 := 164 * t + (x + 4)) (x4 := 164 * t + x) hn z1 (by simp (disch := omega) only [rup_same, gB, gK, gU, gN, gC, gM, gMK, gD, gL, g_th, g_n, g_ms, g_ls, g_ow, g_sc, uB, uK, uU, uN, uC, uM, uMK, uL, u_ms, u_ls, u_th, u_ow, kup_same, kup_ne, kup_krow2, krow_same, krow_ne, c_0, c_1, c_2, c_3, c_4, c_5, b_6, b_8, b_10, b_12, b_14, b_15, b_16, b_17, b_18, b_19, b_20, b_24, b_30, b_44, b_63, b_100, h_164, o_n, c_z, nI_add, nI_mul, zc_ge, zc_lt, zc_gt, zc_le, zc_eq, zc_ne, decide_eq_true_eq, decide_eq_false_iff_not] <;> omega) (zx (by simp (disch := omega) only [gB, gK, gU, gN, gC, gM, gMK, gD, gL, g_th, g_n, g_ms, g_ls, g_ow, g_sc, uB, uK, uU, uN, uC, uM, uMK, uL, u_ms, u_ls, u_th, u_ow, kup_same, kup_ne, kup_krow2, krow_same, krow_ne, c_0, c_1, c_2, c_3, c_4, c_5, b_6, b_8, b_10, b_12, b_14, b_15, b_16, b_17, b_18, b_19, b_20, b_24, b_30, b_44, b_63, b_100, h_164, o_n, c_z, nI_add, nI_mul] <;> first | rfl | (congr 1; omega)) (by omega) (by omega)) (zix_nI (by omega) (by omega)) ?_
      rw [nI_inc]
      refine zr_st ?_ (ih (x + 1) (by omega) (by omega))
      simp (disch := omega) only [rup_ne, rup_same, gB, gK, gU, gN, gC, gM, gMK, gD, gL, g_th, g_n, g_ms, g_ls, g_ow, g_sc, uB, uK, uU, uN, uC, uM, uMK, uL, u_ms, u_ls, u_th, u_ow, kup_same, kup_ne, kup_krow2, krow_same, krow_ne, c_0, c_1, c_2, c_3, c_4, c_5, b_6, b_8, b_10, b_12, b_14, b_15, b_16, b_17, b_18, b_19, b_20, b_24, b_30, b_44, b_63, b_100, h_164, o_n]
      congr 2
      funext y
      simp only [rup, shf]
      (repeat' split) <;> first | rfl | (exfalso; omega) | (congr 1; omega)
  refine s125_0_r hn (m_at hn t) z1 ?_
  have e1 : nI (164 * t) + (Int8.ofInt 20).toInt32 + Int32.ofInt 4 * nI i = nI (164 * t + (20 + 4 * i)) := by
    rw [b_20, c_4, nI_mul, nI_add, nI_add]
    congr 1
    omega
  rw [e1]
  refine zr_st ?_ (loop (4 * c - 4 * i) (20 + 4 * i) (by omega) (Nat.le_refl _))
  simp (disch := omega) only [hc, nI_sub, Nat.add_sub_cancel, gB, gK, gU, gN, gC, gM, gMK, gD, gL, g_th, g_n, g_ms, g_ls, g_ow, g_sc, uB, uK, uU, uN, uC, uM, uMK, uL, u_ms, u_ls, u_th, u_ow, kup_same, kup_ne, kup_krow2, krow_same, krow_ne, c_0, c_1, c_2, c_3, c_4, c_5, b_6, b_8, b_10, b_12, b_14, b_15, b_16, b_17, b_18, b_19, b_20, b_24, b_30, b_44, b_63, b_100, h_164, o_n]
  rw [kup_krow]
  congr 2
  funext y
  simp only [rup, shf]
  (repeat' split) <;> first | rfl | (exfalso; omega) | (congr 1; omega)
theorem m_reservedOf (hn : 2 ≤ n ∧ n ≤ 5) (ht : t < n) (hc : β t 19 = nI c) (h6 : c ≤ 6) (v : Int32) : ZR 136 0 [.val (.ref (kad n (22, 0, 0))), .val (.int (nI t)), .val (.int v), .unset, .unset, .unset] [] (khp n L (St n α β th ow sc) g) cl (.inl (some (.int (rsv β t v c))), khp n L (St n α β th ow sc) g, cl) := by
  have z1 : zix (nI (164 * t) + (Int8.ofInt 19).toInt32) 820 = some (164 * t + 19) := (zx (by simp (disch := omega) only [gB, gK, gU, gN, gC, gM, gMK, gD, gL, g_th, g_n, g_ms, g_ls, g_ow, g_sc, uB, uK, uU, uN, uC, uM, uMK, uL, u_ms, u_ls, u_th, u_ow, kup_same, kup_ne, kup_krow2, krow_same, krow_ne, c_0, c_1, c_2, c_3, c_4, c_5, b_6, b_8, b_10, b_12, b_14, b_15, b_16, b_17, b_18, b_19, b_20, b_24, b_30, b_44, b_63, b_100, h_164, o_n, c_z, nI_add, nI_mul] <;> first | rfl | (congr 1; omega)) (by omega) (by omega))
  have loop : ∀ k i acc, i + k = c → ZR 136 11 [.val (.ref (kad n (22, 0, 0))), .val (.int (nI t)), .val (.int v), .val (.int (nI (164 * t))), .val (.int acc), .val (.int (nI i))] [] (khp n L (St n α β th ow sc) g) cl (.inl (some (.int (sm (fun i => if β t (20 + 4 * i + 1) = v then β t (20 + 4 * i + 2) else 0) k i acc))), khp n L (St n α β th ow sc) g, cl) := by
    intro k
    induction k with
    | zero =>
      intro i acc hi
      exact s136_11_t hn z1 (by simp (disch := omega) only [hc, gB, gK, gU, gN, gC, gM, gMK, gD, gL, g_th, g_n, g_ms, g_ls, g_ow, g_sc, uB, uK, uU, uN, uC, uM, uMK, uL, u_ms, u_ls, u_th, u_ow, kup_same, kup_ne, kup_krow2, krow_same, krow_ne, c_0, c_1, c_2, c_3, c_4, c_5, b_6, b_8, b_10, b_12, b_14, b_15, b_16, b_17, b_18, b_19, b_20, b_24, b_30, b_44, b_63, b_100, h_164, o_n, c_z, nI_add, nI_mul, zc_ge, zc_lt, zc_gt, zc_le, zc_eq, zc_ne, decide_eq_true_eq, decide_eq_false_iff_not] <;> omega)
    | succ k ih =>
      intro i acc hi
      have z3 : zix (nI (164 * t) + (Int8.ofInt 20).toInt32 + Int32.ofInt 4 * nI i + Int32.ofInt 1) 820 = some (164 * t + (20 + 4 * i + 1)) := (zx (by simp (disch := omega) only [gB, gK, gU, gN, gC, gM, gMK, gD, gL, g_th, g_n, g_ms, g_ls, g_ow, g_sc, uB, uK, uU, uN, uC, uM, uMK, uL, u_ms, u_ls, u_th, u_ow, kup_same, kup_ne, kup_krow2, krow_same, krow_ne, c_0, c_1, c_2, c_3, c_4, c_5, b_6, b_8, b_10, b_12, b_14, b_15, b_16, b_17, b_18, b_19, b_20, b_24, b_30, b_44, b_63, b_100, h_164, o_n, c_z, nI_add, nI_mul] <;> first | rfl | (congr 1; omega)) (by omega) (by omega))
      have z5 : zix (nI (164 * t) + (Int8.ofInt 20).toInt32 + Int32.ofInt 4 * nI i + Int32.ofInt 2) 820 = some (164 * t + (20 + 4 * i + 2)) := (zx (by simp (disch := omega) only [gB, gK, gU, gN, gC, gM, gMK, gD, gL, g_th, g_n, g_ms, g_ls, g_ow, g_sc, uB, uK, uU, uN, uC, uM, uMK, uL, u_ms, u_ls, u_th, u_ow, kup_same, kup_ne, kup_krow2, krow_same, krow_ne, c_0, c_1, c_2, c_3, c_4, c_5, b_6, b_8, b_10, b_12, b_14, b_15, b_16, b_17, b_18, b_19, b_20, b_24, b_30, b_44, b_63, b_100, h_164, o_n, c_z, nI_add, nI_mul] <;> first | rfl | (congr 1; omega)) (by omega) (by omega))
      unfold sm
      by_cases he : β t (20 + 4 * i + 1) = v
      · rw [if_pos he]
        refine s136_11_ff hn z1 (by simp (disch := omega) only [hc, gB, gK, gU, gN, gC, gM, gMK, gD, gL, g_th, g_n, g_ms, g_ls, g_ow, g_sc, uB, uK, uU, uN, uC, uM, uMK, uL, u_ms, u_ls, u_th, u_ow, kup_same, kup_ne, kup_krow2, krow_same, krow_ne, c_0, c_1, c_2, c_3, c_4, c_5, b_6, b_8, b_10, b_12, b_14, b_15, b_16, b_17, b_18, b_19, b_20, b_24, b_30, b_44, b_63, b_100, h_164, o_n, c_z, nI_add, nI_mul, zc_ge, zc_lt, zc_gt, zc_le, zc_eq, zc_ne, decide_eq_true_eq, decide_eq_false_iff_not] <;> omega) z3 (zc_nef (by simp (disch := omega) only [gB, gK, gU, gN, gC, gM, gMK, gD, gL, g_th, g_n, g_ms, g_ls, g_ow, g_sc, uB, uK, uU, uN, uC, uM, uMK, uL, u_ms, u_ls, u_th, u_ow, kup_same, kup_ne, kup_krow2, krow_same, krow_ne, c_0, c_1, c_2, c_3, c_4, c_5, b_6, b_8, b_10, b_12, b_14, b_15, b_16, b_17, b_18, b_19, b_20, b_24, b_30, b_44, b_63, b_100, h_164, o_n]; exact he)) z5 ?_
        rw [nI_inc, gM (by omega) (by omega) (by omega)]
        exact ih (i + 1) _ (by omega)
      · rw [if_neg he]
        refine s136_11_ft hn z1 (by simp (disch := omega) only [hc, gB, gK, gU, gN, gC, gM, gMK, gD, gL, g_th, g_n, g_ms, g_ls, g_ow, g_sc, uB, uK, uU, uN, uC, uM, uMK, uL, u_ms, u_ls, u_th, u_ow, kup_same, kup_ne, kup_krow2, krow_same, krow_ne, c_0, c_1, c_2, c_3, c_4, c_5, b_6, b_8, b_10, b_12, b_14, b_15, b_16, b_17, b_18, b_19, b_20, b_24, b_30, b_44, b_63, b_100, h_164, o_n, c_z, nI_add, nI_mul, zc_ge, zc_lt, zc_gt, zc_le, zc_eq, zc_ne, decide_eq_true_eq, decide_eq_false_iff_not] <;> omega) z3 (zc_net (by simp (disch := omega) only [gB, gK, gU, gN, gC, gM, gMK, gD, gL, g_th, g_n, g_ms, g_ls, g_ow, g_sc, uB, uK, uU, uN, uC, uM, uMK, uL, u_ms, u_ls, u_th, u_ow, kup_same, kup_ne, kup_krow2, krow_same, krow_ne, c_0, c_1, c_2, c_3, c_4, c_5, b_6, b_8, b_10, b_12, b_14, b_15, b_16, b_17, b_18, b_19, b_20, b_24, b_30, b_44, b_63, b_100, h_164, o_n]; exact he)) ?_
        rw [nI_inc]
        exact ih (i + 1) _ (by omega)
  exact s136_0_r hn (m_at hn t) (loop c 0 _ (by omega))
theorem m_over (hn : 2 ≤ n ∧ n ≤ 5) (ht : t < n) (hr : ResOk β t c) : ∃ cl', ZR 128 0 [.val (.ref (kad n (22, 0, 0))), .val (.int (nI t)), .unset, .unset, .unset, .unset, .unset] [] (khp n L (St n α β th ow sc) g) cl (.inl (some (.int (nI (c - (aRel t c 0 β).2)))), khp n L (St n α ((aRel t c 0 β).1) th ow sc) g, cl') := by
  have z1 : zix (nI (164 * t) + (Int8.ofInt 19).toInt32) 820 = some (164 * t + 19) := (zx (by simp (disch := omega) only [gB, gK, gU, gN, gC, gM, gMK, gD, gL, g_th, g_n, g_ms, g_ls, g_ow, g_sc, uB, uK, uU, uN, uC, uM, uMK, uL, u_ms, u_ls, u_th, u_ow, kup_same, kup_ne, kup_krow2, krow_same, krow_ne, c_0, c_1, c_2, c_3, c_4, c_5, b_6, b_8, b_10, b_12, b_14, b_15, b_16, b_17, b_18, b_19, b_20, b_24, b_30, b_44, b_63, b_100, h_164, o_n, c_z, nI_add, nI_mul] <;> first | rfl | (congr 1; omega)) (by omega) (by omega))
  have z4 : zix (nI (164 * t) + (Int8.ofInt 16).toInt32) 820 = some (164 * t + 16) := (zx (by simp (disch := omega) only [gB, gK, gU, gN, gC, gM, gMK, gD, gL, g_th, g_n, g_ms, g_ls, g_ow, g_sc, uB, uK, uU, uN, uC, uM, uMK, uL, u_ms, u_ls, u_th, u_ow, kup_same, kup_ne, kup_krow2, krow_same, krow_ne, c_0, c_1, c_2, c_3, c_4, c_5, b_6, b_8, b_10, b_12, b_14, b_15, b_16, b_17, b_18, b_19, b_20, b_24, b_30, b_44, b_63, b_100, h_164, o_n, c_z, nI_add, nI_mul] <;> first | rfl | (congr 1; omega)) (by omega) (by omega))
  have loop : ∀ k i β gone w5 w6 cl, ResOk β t (i + k) → ∃ cl', ZR 128 10 [.val (.ref (kad n (22, 0, 0))), .val (.int (nI t)), .val (.int (nI (164 * t))), .val (.int (nI gone)), .val (.int (nI i)), zop w5, zop w6] [] (khp n L (St n α β th ow sc) g) cl (.inl (some (.int (nI (gone + (i + k - (aRel t k i β).2))))), khp n L (St n α ((aRel t k i β).1) th ow sc) g, cl') := by
    intro k
    induction k with
    | zero =>
      intro i β gone w5 w6 cl hr
      have h2 := hr.2.1
      refine ⟨_, zr_rv rfl ?_ (s128_10_t hn z1 (by simp (disch := omega) only [hr.1, gB, gK, gU, gN, gC, gM, gMK, gD, gL, g_th, g_n, g_ms, g_ls, g_ow, g_sc, uB, uK, uU, uN, uC, uM, uMK, uL, u_ms, u_ls, u_th, u_ow, kup_same, kup_ne, kup_krow2, krow_same, krow_ne, c_0, c_1, c_2, c_3, c_4, c_5, b_6, b_8, b_10, b_12, b_14, b_15, b_16, b_17, b_18, b_19, b_20, b_24, b_30, b_44, b_63, b_100, h_164, o_n, c_z, nI_add, nI_mul, zc_ge, zc_lt, zc_gt, zc_le, zc_eq, zc_ne, decide_eq_true_eq, decide_eq_false_iff_not] <;> omega))⟩
      unfold aRel
      congr 1
      omega
    | succ k ih =>
      intro i β gone w5 w6 cl hr
      have hr0 := hr
      obtain ⟨h1, h2, h3⟩ := hr
      obtain ⟨a, ha, hae⟩ := h3 i (by omega)
      have hcn : cn (β t (20 + 4 * i + 1)) = a := by rw [hae]; unfold cn; rw [nI_clamp (by omega)]
      have z3 : zix (nI (164 * t) + (Int8.ofInt 20).toInt32 + Int32.ofInt 4 * nI i + Int32.ofInt 3) 820 = some (164 * t + (20 + 4 * i + 3)) := (zx (by simp (disch := omega) only [gB, gK, gU, gN, gC, gM, gMK, gD, gL, g_th, g_n, g_ms, g_ls, g_ow, g_sc, uB, uK, uU, uN, uC, uM, uMK, uL, u_ms, u_ls, u_th, u_ow, kup_same, kup_ne, kup_krow2, krow_same, krow_ne, c_0, c_1, c_2, c_3, c_4, c_5, b_6, b_8, b_10, b_12, b_14, b_15, b_16, b_17, b_18, b_19, b_20, b_24, b_30, b_44, b_63, b_100, h_164, o_n, c_z, nI_add, nI_mul] <;> first | rfl | (congr 1; omega)) (by omega) (by omega))
      have z6 : zix (nI (164 * t) + (Int8.ofInt 20).toInt32 + Int32.ofInt 4 * nI i + Int32.ofInt 1) 820 = some (164 * t + (20 + 4 * i + 1)) := (zx (by simp (disch := omega) only [gB, gK, gU, gN, gC, gM, gMK, gD, gL, g_th, g_n, g_ms, g_ls, g_ow, g_sc, uB, uK, uU, uN, uC, uM, uMK, uL, u_ms, u_ls, u_th, u_ow, kup_same, kup_ne, kup_krow2, krow_same, krow_ne, c_0, c_1, c_2, c_3, c_4, c_5, b_6, b_8, b_10, b_12, b_14, b_15, b_16, b_17, b_18, b_19, b_20, b_24, b_30, b_44, b_63, b_100, h_164, o_n, c_z, nI_add, nI_mul] <;> first | rfl | (congr 1; omega)) (by omega) (by omega))
      have z8 : zix (nI (164 * t) + (Int8.ofInt 20).toInt32 + Int32.ofInt 4 * nI i + Int32.ofInt 2) 820 = some (164 * t + (20 + 4 * i + 2)) := (zx (by simp (disch := omega) only [gB, gK, gU, gN, gC, gM, gMK, gD, gL, g_th, g_n, g_ms, g_ls, g_ow, g_sc, uB, uK, uU, uN, uC, uM, uMK, uL, u_ms, u_ls, u_th, u_ow, kup_same, kup_ne, kup_krow2, krow_same, krow_ne, c_0, c_1, c_2, c_3, c_4, c_5, b_6, b_8, b_10, b_12, b_14, b_15, b_16, b_17, b_18, b_19, b_20, b_24, b_30, b_44, b_63, b_100, h_164, o_n, c_z, nI_add, nI_mul] <;> first | rfl | (congr 1; omega)) (by omega) (by omega))
      unfold aRel
      by_cases he : β t (20 + 4 * i + 3) ≤ β t 16
      · rw [if_pos he]
        obtain ⟨cl', hh⟩ := ih i (aRem β t i (i + k)) (gone + 1) (some (nI (164 * t) + (Int8.ofInt 20).toInt32 + Int32.ofInt 4 * nI i)) (some (St n α β th ow sc (20 + (164 * t + (20 + 4 * i + 1)) / 164) ((164 * t + (20 + 4 * i + 1)) % 164))) false (ResOk_rem hr0 (by omega))
        have hx := m_forget (α := α) (β := kup β t a (β t a + β t (20 + 4 * i + 2))) (th := th) (ow := ow) (sc := sc) (g := g) (L := L) (cl := true) (c := i + k) (i := i) hn ht (by rw [kup_ne (by omega)]; exact h1) (by omega) (by omega)
        rw [krow_kup] at hx
        obtain ⟨-, hb1, hb2⟩ := ResOk_rel (k := k) (i := i) (ResOk_rem (i := i) (c := i + k) hr0 (by omega))
        refine ⟨cl', zr_rv (v1 := nI (gone + 1 + (i + k - (aRel t k i (aRem β t i (i + k))).2))) rfl ?_ (s128_10_ff (x7 := 164 * t + a) (σ9 := St n α (aRem β t i (i + k)) th ow sc) (c9 := false) hn z1 (by simp (disch := omega) only [h1, gB, gK, gU, gN, gC, gM, gMK, gD, gL, g_th, g_n, g_ms, g_ls, g_ow, g_sc, uB, uK, uU, uN, uC, uM, uMK, uL, u_ms, u_ls, u_th, u_ow, kup_same, kup_ne, kup_krow2, krow_same, krow_ne, c_0, c_1, c_2, c_3, c_4, c_5, b_6, b_8, b_10, b_12, b_14, b_15, b_16, b_17, b_18, b_19, b_20, b_24, b_30, b_44, b_63, b_100, h_164, o_n, c_z, nI_add, nI_mul, zc_ge, zc_lt, zc_gt, zc_le, zc_eq, zc_ne, decide_eq_true_eq, decide_eq_false_iff_not] <;> omega) z3 z4 (zc_gtf (by simp (disch := omega) only [gB, gK, gU, gN, gC, gM, gMK, gD, gL, g_th, g_n, g_ms, g_ls, g_ow, g_sc, uB, uK, uU, uN, uC, uM, uMK, uL, u_ms, u_ls, u_th, u_ow, kup_same, kup_ne, kup_krow2, krow_same, krow_ne, c_0, c_1, c_2, c_3, c_4, c_5, b_6, b_8, b_10, b_12, b_14, b_15, b_16, b_17, b_18, b_19, b_20, b_24, b_30, b_44, b_63, b_100, h_164, o_n]; exact he)) z6 (zx (by simp (disch := omega) only [hae, gB, gK, gU, gN, gC, gM, gMK, gD, gL, g_th, g_n, g_ms, g_ls, g_ow, g_sc, uB, uK, uU, uN, uC, uM, uMK, uL, u_ms, u_ls, u_th, u_ow, kup_same, kup_ne, kup_krow2, krow_same, krow_ne, c_0, c_1, c_2, c_3, c_4, c_5, b_6, b_8, b_10, b_12, b_14, b_15, b_16, b_17, b_18, b_19, b_20, b_24, b_30, b_44, b_63, b_100, h_164, o_n, c_z, nI_add, nI_mul] <;> first | rfl | (congr 1; omega)) (by omega) (by omega)) z8 ?_ ?_)⟩
        · congr 1
          omega
        · unfold aRem
          rw [hcn]
          simp (disch := omega) only [gB, gK, gU, gN, gC, gM, gMK, gD, gL, g_th, g_n, g_ms, g_ls, g_ow, g_sc, uB, uK, uU, uN, uC, uM, uMK, uL, u_ms, u_ls, u_th, u_ow, kup_same, kup_ne, kup_krow2, krow_same, krow_ne, c_0, c_1, c_2, c_3, c_4, c_5, b_6, b_8, b_10, b_12, b_14, b_15, b_16, b_17, b_18, b_19, b_20, b_24, b_30, b_44, b_63, b_100, h_164, o_n]
          exact hx
        · rw [nI_inc]
          exact hh
      · rw [if_neg he]
        obtain ⟨cl', hh⟩ := ih (i + 1) β gone (some (nI (164 * t) + (Int8.ofInt 20).toInt32 + Int32.ofInt 4 * nI i)) w6 cl (by rw [show i + 1 + k = i + (k + 1) by omega]; exact hr0)
        refine ⟨cl', s128_10_ft hn z1 (by simp (disch := omega) only [h1, gB, gK, gU, gN, gC, gM, gMK, gD, gL, g_th, g_n, g_ms, g_ls, g_ow, g_sc, uB, uK, uU, uN, uC, uM, uMK, uL, u_ms, u_ls, u_th, u_ow, kup_same, kup_ne, kup_krow2, krow_same, krow_ne, c_0, c_1, c_2, c_3, c_4, c_5, b_6, b_8, b_10, b_12, b_14, b_15, b_16, b_17, b_18, b_19, b_20, b_24, b_30, b_44, b_63, b_100, h_164, o_n, c_z, nI_add, nI_mul, zc_ge, zc_lt, zc_gt, zc_le, zc_eq, zc_ne, decide_eq_true_eq, decide_eq_false_iff_not] <;> omega) z3 z4 (zc_gtt (by simp (disch := omega) only [gB, gK, gU, gN, gC, gM, gMK, gD, gL, g_th, g_n, g_ms, g_ls, g_ow, g_sc, uB, uK, uU, uN, uC, uM, uMK, uL, u_ms, u_ls, u_th, u_ow, kup_same, kup_ne, kup_krow2, krow_same, krow_ne, c_0, c_1, c_2, c_3, c_4, c_5, b_6, b_8, b_10, b_12, b_14, b_15, b_16, b_17, b_18, b_19, b_20, b_24, b_30, b_44, b_63, b_100, h_164, o_n]; exact he)) ?_⟩
        rw [nI_inc]
        rw [show i + 1 + k = i + (k + 1) by omega] at hh
        exact hh
  obtain ⟨cl', hh⟩ := loop c 0 β 0 none none cl (by rw [Nat.zero_add]; exact hr)
  rw [Nat.zero_add, Nat.zero_add] at hh
  exact ⟨cl', s128_0_r hn (m_at hn t) hh⟩
end MC
