section OPS4
variable {n L B : Nat} {α : Ks}
theorem aTake_row {s c r : Nat} (h : r ≠ 11 ∧ r ≠ 12) : aTake α s c r = α r := funext fun y => by
  unfold aTake
  rw [krow_ne (by omega), kup_ne (by omega)]
theorem c_dl {β : Ks} {th ow : Int32} {sc : Nat → Int32} {g : List Nat} {k f t s c : Nat} (hn : 2 ≤ n ∧ n ≤ 5) (hc1 : α 12 0 = nI c) (hc2 : c ≤ 24) (hs : s < c) (hk : k < 4) (hf : f < n) (ht : t < n) (e0 : α 11 (6 * s) = nI k) (e1 : α 11 (6 * s + 1) = nI f) (e2 : α 11 (6 * s + 2) = nI t) (hup : ¬ α 10 t = 0) {rb : Bool} {A' : Ks} {c13 : Bool}
    (hsub : (k = 0 ∧ ZR 86 0 [.val (.ref (kad n (0, 0, 0))), .val (.int (nI f)), .val (.int (nI t)), .val (.int (α 11 (6 * s + 3))), .val (.int (α 11 (6 * s + 4))), .val (.int (α 11 (6 * s + 5))), .unset, .unset, .unset] [] (khp n L (St n (aTake α s (c - 1)) β th ow sc) g) true (.inl (some (.int (zb rb))), khp n L (St n (A') β th ow sc) g, c13)) ∨
      (k = 1 ∧ ZR 88 0 [.val (.ref (kad n (14, 2 * t, f))), .val (.int (α 11 (6 * s + 3))), .unset] [] (khp n L (St n (aTake α s (c - 1)) β th ow sc) g) true (.inl (some (.int (zb rb))), khp n L (St n (A') β th ow sc) g, c13)) ∨
      (k = 2 ∧ ZR 90 0 [.val (.ref (kad n (14, 2 * t, f))), .val (.int (α 11 (6 * s + 3))), .val (.int (α 11 (6 * s + 4))), .val (.int (α 11 (6 * s + 5)))] [] (khp n L (St n (aTake α s (c - 1)) β th ow sc) g) true (.inl (some (.int (zb rb))), khp n L (St n (A') β th ow sc) g, c13)) ∨
      (k = 3 ∧ ZR 91 0 [.val (.ref (kad n (0, 0, 0))), .val (.int (nI f)), .val (.int (nI t)), .val (.int (α 11 (6 * s + 3))), .val (.int (α 11 (6 * s + 4)))] [] (khp n L (St n (aTake α s (c - 1)) β th ow sc) g) true (.inl (some (.int (zb rb))), khp n L (St n (A') β th ow sc) g, c13))) :
    ∃ cl', ZR 85 0 [.val (.ref (kad n (0, 0, 0))), .val (.int (nI s)), .unset, .unset, .unset, .unset, .unset, .unset, .unset] [] (khp n L (St n α β th ow sc) g) true (.inl (some (.int (zb rb))), khp n L (St n (A') β th ow sc) g, cl') := by
  have hc' : α 12 0 = nI (c - 1 + 1) := by rw [hc1]; congr 1; omega
  have k1 := c_isSlot_t (α := α) (β := β) (th := th) (ow := ow) (sc := sc) (g := g) (L := L) (cl := true) hn hc1 hc2 hs
  have k3 : ZR 29 0 [.val (.ref (kad n (20, 0, 0))), .val (.int (nI s)), .val (.int (Int32.ofInt 0))] [] (khp n L (St n α β th ow sc) g) true (.inl (some (.int (nI k))), khp n L (St n α β th ow sc) g, true) := by
    rw [← e0]
    exact c_cell (w := 0) hn (by omega) (by omega)
  have k4 : ZR 29 0 [.val (.ref (kad n (20, 0, 0))), .val (.int (nI s)), .val (.int (Int32.ofInt 1))] [] (khp n L (St n α β th ow sc) g) true (.inl (some (.int (nI f))), khp n L (St n α β th ow sc) g, true) := by
    rw [← e1]
    exact c_cell (w := 1) hn (by omega) (by omega)
  have k5 : ZR 29 0 [.val (.ref (kad n (20, 0, 0))), .val (.int (nI s)), .val (.int (Int32.ofInt 2))] [] (khp n L (St n α β th ow sc) g) true (.inl (some (.int (nI t))), khp n L (St n α β th ow sc) g, true) := by
    rw [← e2]
    exact c_cell (w := 2) hn (by omega) (by omega)
  have k6 : ZR 29 0 [.val (.ref (kad n (20, 0, 0))), .val (.int (nI s)), .val (.int (Int32.ofInt 3))] [] (khp n L (St n α β th ow sc) g) true (.inl (some (.int (α 11 (6 * s + 3)))), khp n L (St n α β th ow sc) g, true) := c_cell (w := 3) hn (by omega) (by omega)
  have k7 : ZR 29 0 [.val (.ref (kad n (20, 0, 0))), .val (.int (nI s)), .val (.int (Int32.ofInt 4))] [] (khp n L (St n α β th ow sc) g) true (.inl (some (.int (α 11 (6 * s + 4)))), khp n L (St n α β th ow sc) g, true) := c_cell (w := 4) hn (by omega) (by omega)
  have k8 : ZR 29 0 [.val (.ref (kad n (20, 0, 0))), .val (.int (nI s)), .val (.int (Int32.ofInt 5))] [] (khp n L (St n α β th ow sc) g) true (.inl (some (.int (α 11 (6 * s + 5)))), khp n L (St n α β th ow sc) g, true) := c_cell (w := 5) hn (by omega) (by omega)
  have k9 := c_takeOut (α := α) (β := β) (th := th) (ow := ow) (sc := sc) (g := g) (L := L) (cl := true) hn hc' (by omega) (show s ≤ c - 1 by omega)
  have k10 : ZR 10 0 [.val (.ref (kad n (0, 0, 0))), .val (.int (nI t))] [] (khp n L (St n (aTake α s (c - 1)) β th ow sc) g) true (.inl (some (.int (Int32.ofInt 1))), khp n L (St n (aTake α s (c - 1)) β th ow sc) g, true) := c_isUp_t hn ht (by rw [aTake_row (by omega)]; exact hup)
  have zt := zix_nI ht (show n < 2 ^ 31 by omega)
  have zf := zix_nI hf (show n < 2 ^ 31 by omega)
  have hki : (nI k).toInt = (k : Int) := nI_toInt (by omega)
  rcases hsub with ⟨rfl, h⟩ | ⟨rfl, h⟩ | ⟨rfl, h⟩ | ⟨rfl, h⟩
  · cases rb with
    | true => exact ⟨_, s85_0_tts0_f hn k1 rfl k3 k4 k5 k6 k7 k8 k9 k10 rfl hki h rfl⟩
    | false => exact ⟨_, s85_0_tts0_t hn k1 rfl k3 k4 k5 k6 k7 k8 k9 k10 rfl hki h rfl⟩
  · cases rb with
    | true => exact ⟨_, s85_0_tts1_f hn k1 rfl k3 k4 k5 k6 k7 k8 k9 k10 rfl hki zt zf h rfl⟩
    | false => exact ⟨_, s85_0_tts1_t hn k1 rfl k3 k4 k5 k6 k7 k8 k9 k10 rfl hki zt zf h rfl⟩
  · cases rb with
    | true => exact ⟨_, s85_0_tts2_f hn k1 rfl k3 k4 k5 k6 k7 k8 k9 k10 rfl hki zt zf h rfl⟩
    | false => exact ⟨_, s85_0_tts2_t hn k1 rfl k3 k4 k5 k6 k7 k8 k9 k10 rfl hki zt zf h rfl⟩
  · cases rb with
    | true => exact ⟨_, s85_0_ttdf hn k1 rfl k3 k4 k5 k6 k7 k8 k9 k10 rfl (Or.inr (by rw [hki]; decide)) h rfl⟩
    | false => exact ⟨_, s85_0_ttdt hn k1 rfl k3 k4 k5 k6 k7 k8 k9 k10 rfl (Or.inr (by rw [hki]; decide)) h rfl⟩
theorem m_dl {γ : Ks} {th ow : Int32} {sc : Nat → Int32} {g : List Nat} {k f t s c : Nat} (hn : 2 ≤ n ∧ n ≤ 5) (hc1 : α 12 0 = nI c) (hc2 : c ≤ 24) (hs : s < c) (hk : k < 4) (hf : f < n) (ht : t < n) (e0 : α 11 (6 * s) = nI k) (e1 : α 11 (6 * s + 1) = nI f) (e2 : α 11 (6 * s + 2) = nI t) (hupo : UpOk α t) (hup : ¬ α 10 t = 0) {rb : Bool} {A' : Ks} {c13 : Bool}
    (hsub : (k = 0 ∧ ZR 101 0 [.val (.ref (kad n (22, 0, 0))), .val (.int (nI f)), .val (.int (nI t)), .val (.int (α 11 (6 * s + 3))), .val (.int (α 11 (6 * s + 4))), .val (.int (α 11 (6 * s + 5))), .unset] [] (khp n L (St n γ (aTake α s (c - 1)) (nI 0) ow sc) g) true (.inl (some (.int (zb rb))), khp n L (St n γ (A') (nI 0) ow sc) g, c13)) ∨
      (k = 1 ∧ ZR 105 0 [.val (.ref (kad n (22, 0, 0))), .val (.int (nI t)), .val (.int (nI f)), .val (.int (α 11 (6 * s + 3))), .unset, .unset, .unset] [] (khp n L (St n γ (aTake α s (c - 1)) (nI 0) ow sc) g) true (.inl (some (.int (zb rb))), khp n L (St n γ (A') (nI 0) ow sc) g, c13)) ∨
      (k = 2 ∧ ZR 106 0 [.val (.ref (kad n (22, 0, 0))), .val (.int (nI f)), .val (.int (nI t)), .val (.int (α 11 (6 * s + 3))), .val (.int (α 11 (6 * s + 4))), .val (.int (α 11 (6 * s + 5))), .unset] [] (khp n L (St n γ (aTake α s (c - 1)) (nI 0) ow sc) g) true (.inl (some (.int (zb rb))), khp n L (St n γ (A') (nI 0) ow sc) g, c13)) ∨
      (k = 3 ∧ ZR 107 0 [.val (.ref (kad n (22, 0, 0))), .val (.int (nI f)), .val (.int (nI t)), .val (.int (α 11 (6 * s + 3))), .val (.int (α 11 (6 * s + 4))), .unset] [] (khp n L (St n γ (aTake α s (c - 1)) (nI 0) ow sc) g) true (.inl (some (.int (zb rb))), khp n L (St n γ (A') (nI 0) ow sc) g, c13))) :
    ∃ cl', ZR 99 0 [.val (.ref (kad n (22, 0, 0))), .val (.int (nI s)), .unset, .unset, .unset, .unset, .unset, .unset, .unset, .unset] [] (khp n L (St n γ α th ow sc) g) true (.inl (some (.int (zb rb))), khp n L (St n γ (A') (nI 0) ow sc) g, cl') := by
  have hc' : α 12 0 = nI (c - 1 + 1) := by rw [hc1]; congr 1; omega
  have h1 : zcnd .lt (nI s) 0 = false := (by simp (disch := omega) only [gB, gK, gU, gN, gC, gM, gMK, gD, gL, g_th, g_n, g_ms, g_ls, g_ow, g_sc, uB, uK, uU, uN, uC, uM, uMK, uL, u_ms, u_ls, u_th, u_ow, kup_same, kup_ne, kup_krow2, krow_same, krow_ne, c_0, c_1, c_2, c_3, c_4, c_5, b_6, b_8, b_10, b_12, b_14, b_15, b_16, b_17, b_18, b_19, b_20, b_24, b_30, b_44, b_63, b_100, h_164, o_n, c_z, nI_add, nI_mul, zc_ge, zc_lt, zc_gt, zc_le, zc_eq, zc_ne, decide_eq_true_eq, decide_eq_false_iff_not, not_true_eq_false, not_false_eq_true] <;> omega)
  have h2 : zcnd .lt (nI s) (St n γ α th ow sc 42 2) = true := (by simp (disch := omega) only [hc1, gB, gK, gU, gN, gC, gM, gMK, gD, gL, g_th, g_n, g_ms, g_ls, g_ow, g_sc, uB, uK, uU, uN, uC, uM, uMK, uL, u_ms, u_ls, u_th, u_ow, kup_same, kup_ne, kup_krow2, krow_same, krow_ne, c_0, c_1, c_2, c_3, c_4, c_5, b_6, b_8, b_10, b_12, b_14, b_15, b_16, b_17, b_18, b_19, b_20, b_24, b_30, b_44, b_63, b_100, h_164, o_n, c_z, nI_add, nI_mul, zc_ge, zc_lt, zc_gt, zc_le, zc_eq, zc_ne, decide_eq_true_eq, decide_eq_false_iff_not, not_true_eq_false, not_false_eq_true] <;> omega)
  have z4 : zix ((Int8.ofInt 6).toInt32 * nI s) 150 = some (6 * s) := (zx (by simp (disch := omega) only [gB, gK, gU, gN, gC, gM, gMK, gD, gL, g_th, g_n, g_ms, g_ls, g_ow, g_sc, uB, uK, uU, uN, uC, uM, uMK, uL, u_ms, u_ls, u_th, u_ow, kup_same, kup_ne, kup_krow2, krow_same, krow_ne, c_0, c_1, c_2, c_3, c_4, c_5, b_6, b_8, b_10, b_12, b_14, b_15, b_16, b_17, b_18, b_19, b_20, b_24, b_30, b_44, b_63, b_100, h_164, o_n, c_z, nI_add, nI_mul] <;> first | rfl | (congr 1; omega)) (by omega) (by omega))
  have z5 : zix ((Int8.ofInt 6).toInt32 * nI s + Int32.ofInt 1) 150 = some (6 * s + 1) := (zx (by simp (disch := omega) only [gB, gK, gU, gN, gC, gM, gMK, gD, gL, g_th, g_n, g_ms, g_ls, g_ow, g_sc, uB, uK, uU, uN, uC, uM, uMK, uL, u_ms, u_ls, u_th, u_ow, kup_same, kup_ne, kup_krow2, krow_same, krow_ne, c_0, c_1, c_2, c_3, c_4, c_5, b_6, b_8, b_10, b_12, b_14, b_15, b_16, b_17, b_18, b_19, b_20, b_24, b_30, b_44, b_63, b_100, h_164, o_n, c_z, nI_add, nI_mul] <;> first | rfl | (congr 1; omega)) (by omega) (by omega))
  have z6 : zix ((Int8.ofInt 6).toInt32 * nI s + Int32.ofInt 2) 150 = some (6 * s + 2) := (zx (by simp (disch := omega) only [gB, gK, gU, gN, gC, gM, gMK, gD, gL, g_th, g_n, g_ms, g_ls, g_ow, g_sc, uB, uK, uU, uN, uC, uM, uMK, uL, u_ms, u_ls, u_th, u_ow, kup_same, kup_ne, kup_krow2, krow_same, krow_ne, c_0, c_1, c_2, c_3, c_4, c_5, b_6, b_8, b_10, b_12, b_14, b_15, b_16, b_17, b_18, b_19, b_20, b_24, b_30, b_44, b_63, b_100, h_164, o_n, c_z, nI_add, nI_mul] <;> first | rfl | (congr 1; omega)) (by omega) (by omega))
  have z7 : zix ((Int8.ofInt 6).toInt32 * nI s + Int32.ofInt 3) 150 = some (6 * s + 3) := (zx (by simp (disch := omega) only [gB, gK, gU, gN, gC, gM, gMK, gD, gL, g_th, g_n, g_ms, g_ls, g_ow, g_sc, uB, uK, uU, uN, uC, uM, uMK, uL, u_ms, u_ls, u_th, u_ow, kup_same, kup_ne, kup_krow2, krow_same, krow_ne, c_0, c_1, c_2, c_3, c_4, c_5, b_6, b_8, b_10, b_12, b_14, b_15, b_16, b_17, b_18, b_19, b_20, b_24, b_30, b_44, b_63, b_100, h_164, o_n, c_z, nI_add, nI_mul] <;> first | rfl | (congr 1; omega)) (by omega) (by omega))
  have z8 : zix ((Int8.ofInt 6).toInt32 * nI s + Int32.ofInt 4) 150 = some (6 * s + 4) := (zx (by simp (disch := omega) only [gB, gK, gU, gN, gC, gM, gMK, gD, gL, g_th, g_n, g_ms, g_ls, g_ow, g_sc, uB, uK, uU, uN, uC, uM, uMK, uL, u_ms, u_ls, u_th, u_ow, kup_same, kup_ne, kup_krow2, krow_same, krow_ne, c_0, c_1, c_2, c_3, c_4, c_5, b_6, b_8, b_10, b_12, b_14, b_15, b_16, b_17, b_18, b_19, b_20, b_24, b_30, b_44, b_63, b_100, h_164, o_n, c_z, nI_add, nI_mul] <;> first | rfl | (congr 1; omega)) (by omega) (by omega))
  have z9 : zix ((Int8.ofInt 6).toInt32 * nI s + Int32.ofInt 5) 150 = some (6 * s + 5) := (zx (by simp (disch := omega) only [gB, gK, gU, gN, gC, gM, gMK, gD, gL, g_th, g_n, g_ms, g_ls, g_ow, g_sc, uB, uK, uU, uN, uC, uM, uMK, uL, u_ms, u_ls, u_th, u_ow, kup_same, kup_ne, kup_krow2, krow_same, krow_ne, c_0, c_1, c_2, c_3, c_4, c_5, b_6, b_8, b_10, b_12, b_14, b_15, b_16, b_17, b_18, b_19, b_20, b_24, b_30, b_44, b_63, b_100, h_164, o_n, c_z, nI_add, nI_mul] <;> first | rfl | (congr 1; omega)) (by omega) (by omega))
  have g0 : kup (St n γ α th ow sc) 42 0 (Int32.ofInt 0) 41 (6 * s) = nI k := by rw [u_th, gL, e0]
  have g1 : kup (St n γ α th ow sc) 42 0 (Int32.ofInt 0) 41 (6 * s + 1) = nI f := by rw [u_th, gL, e1]
  have g2 : kup (St n γ α th ow sc) 42 0 (Int32.ofInt 0) 41 (6 * s + 2) = nI t := by rw [u_th, gL, e2]
  have g3 : kup (St n γ α th ow sc) 42 0 (Int32.ofInt 0) 41 (6 * s + 3) = α 11 (6 * s + 3) := by rw [u_th, gL]
  have g4 : kup (St n γ α th ow sc) 42 0 (Int32.ofInt 0) 41 (6 * s + 4) = α 11 (6 * s + 4) := by rw [u_th, gL]
  have g5 : kup (St n γ α th ow sc) 42 0 (Int32.ofInt 0) 41 (6 * s + 5) = α 11 (6 * s + 5) := by rw [u_th, gL]
  have k10 : ZR 100 0 [.val (.ref (kad n (22, 0, 0))), .val (.int (nI s)), .unset] [] (khp n L (kup (St n γ α th ow sc) 42 0 (Int32.ofInt 0)) g) true (.inl none, khp n L (St n γ (aTake α s (c - 1)) (nI 0) ow sc) g, false) := by
    rw [u_th]
    exact m_takeOut hn hc' (by omega) (show s ≤ c - 1 by omega)
  have z11 : zix (kup (St n γ α th ow sc) 42 0 (Int32.ofInt 0) 41 (6 * s + 2)) 5 = some t := by
    rw [g2]
    exact zix_nI (by omega) (by omega)
  have h12 : zcnd .eq (St n γ (aTake α s (c - 1)) (nI 0) ow sc 40 t) 0 = true := by
    apply dq_f
    · unfold UpOk
      rw [aTake_row (by omega)]
      exact hupo
    · rw [aTake_row (by omega)]
      exact hup
  rcases hsub with ⟨rfl, h⟩ | ⟨rfl, h⟩ | ⟨rfl, h⟩ | ⟨rfl, h⟩
  · rw [← g1, ← g2, ← g3, ← g4, ← g5] at h
    cases rb with
    | true => exact ⟨_, s99_0_ftttff hn h1 h2 rfl z4 z5 z6 z7 z8 z9 k10 z11 h12 (zc_nef g0) h rfl⟩
    | false => exact ⟨_, s99_0_ftttft hn h1 h2 rfl z4 z5 z6 z7 z8 z9 k10 z11 h12 (zc_nef g0) h rfl⟩
  · rw [← g1, ← g2, ← g3] at h
    cases rb with
    | true => exact ⟨_, s99_0_fttttff hn h1 h2 rfl z4 z5 z6 z7 z8 z9 k10 z11 h12 (by rw [g0]; rfl) (zc_nef g0) h rfl⟩
    | false => exact ⟨_, s99_0_fttttft hn h1 h2 rfl z4 z5 z6 z7 z8 z9 k10 z11 h12 (by rw [g0]; rfl) (zc_nef g0) h rfl⟩
  · rw [← g1, ← g2, ← g3, ← g4, ← g5] at h
    cases rb with
    | true => exact ⟨_, s99_0_ftttttff hn h1 h2 rfl z4 z5 z6 z7 z8 z9 k10 z11 h12 (by rw [g0]; rfl) (by rw [g0]; rfl) (zc_nef g0) h rfl⟩
    | false => exact ⟨_, s99_0_ftttttft hn h1 h2 rfl z4 z5 z6 z7 z8 z9 k10 z11 h12 (by rw [g0]; rfl) (by rw [g0]; rfl) (zc_nef g0) h rfl⟩
  · rw [← g1, ← g2, ← g3, ← g4] at h
    cases rb with
    | true => exact ⟨_, s99_0_fttttttf hn h1 h2 rfl z4 z5 z6 z7 z8 z9 k10 z11 h12 (by rw [g0]; rfl) (by rw [g0]; rfl) (by rw [g0]; rfl) h rfl⟩
    | false => exact ⟨_, s99_0_fttttttt hn h1 h2 rfl z4 z5 z6 z7 z8 z9 k10 z11 h12 (by rw [g0]; rfl) (by rw [g0]; rfl) (by rw [g0]; rfl) h rfl⟩
/-- as OpT, with one kind of throw alone -/
def OpU (j : Nat) (ls : List Slot) (mj : Nat) (mls : List Slot) (t1 : Nat) (n L B : Nat) (α : Ks) : Prop :=
  ∃ code v α', code ≤ 1 ∧ Inv n (B + 30) α' ∧
  (∀ β th ow sc g, (khp n L (St n α β th ow sc) g).length < zcap → (code = 0 ∧ ∃ cl', ZR j 0 ls [] (khp n L (St n α β th ow sc) g) true (.inl (some (.int v)), khp n L (St n (α') β th ow sc) g, cl')) ∨ (code = 1 ∧ α' = α ∧ ZR j 0 ls [] (khp n L (St n α β th ow sc) g) true (.inr (khp n L (St n α β th ow sc) g).length, khp n L (St n α β th ow sc) g ++ [(t1, [])], false))) ∧
  (∀ γ th ow sc g, ∃ cl' v', ZR mj 0 mls [] (khp n L (St n γ α th ow sc) g) true (.inl (some (.int v')), khp n L (St n γ (α') (nI code) ow sc) g, cl') ∧ (code = 0 → v' = v))
theorem opU0 {n L B : Nat} {α : Ks} {j mj t1 : Nat} {ls mls : List Slot} {v : Int32} {α' : Ks} (hI : Inv n (B + 30) α') (hc : ∀ β th ow sc g, ∃ cl', ZR j 0 ls [] (khp n L (St n α β th ow sc) g) true (.inl (some (.int v)), khp n L (St n (α') β th ow sc) g, cl')) (hm : ∀ γ th ow sc g, ∃ cl', ZR mj 0 mls [] (khp n L (St n γ α th ow sc) g) true (.inl (some (.int v)), khp n L (St n γ (α') (nI 0) ow sc) g, cl')) : OpU j ls mj mls t1 n L B α :=
  ⟨0, v, α', by omega, hI, fun β th ow sc g _ => Or.inl ⟨rfl, hc β th ow sc g⟩, fun γ th ow sc g => by obtain ⟨cl', h⟩ := hm γ th ow sc g; exact ⟨cl', v, h, fun _ => rfl⟩⟩
theorem opU1 {n L B : Nat} {α : Ks} {j mj t1 : Nat} {ls mls : List Slot} {v : Int32} (hI : Inv n B α) (hc : ∀ β th ow sc g, (khp n L (St n α β th ow sc) g).length < zcap → ZR j 0 ls [] (khp n L (St n α β th ow sc) g) true (.inr (khp n L (St n α β th ow sc) g).length, khp n L (St n α β th ow sc) g ++ [(t1, [])], false)) (hm : ∀ γ th ow sc g, ∃ cl', ZR mj 0 mls [] (khp n L (St n γ α th ow sc) g) true (.inl (some (.int v)), khp n L (St n γ α (nI 1) ow sc) g, cl')) : OpU j ls mj mls t1 n L B α :=
  ⟨1, v, α, by omega, Inv_mono (by omega) hI, fun β th ow sc g h => Or.inr ⟨rfl, rfl, hc β th ow sc g h⟩, fun γ th ow sc g => by obtain ⟨cl', h⟩ := hm γ th ow sc g; exact ⟨cl', v, h, fun _ => rfl⟩⟩
theorem op_deliver (hn : 2 ≤ n ∧ n ≤ 5) (hB : B + 30 < 2 ^ 29) (hI : Inv n B α) (p : Int32) : OpU 85 [.val (.ref (kad n (0, 0, 0))), .val (.int p), .unset, .unset, .unset, .unset, .unset, .unset, .unset] 99 [.val (.ref (kad n (22, 0, 0))), .val (.int p), .unset, .unset, .unset, .unset, .unset, .unset, .unset, .unset] 202 n L B α := by
  obtain ⟨c, hc1, hc2, hms⟩ := hI.2.2.2
  rcases okN (p := p) (m := c) (by omega) with ⟨s, hs, rfl⟩ | hx
  · have hc' : α 12 0 = nI (c - 1 + 1) := by rw [hc1]; congr 1; omega
    obtain ⟨k, f, t, hk, hf, ht, e0, e1, e2, hm⟩ := hms s hs
    have hIA := Inv_take hn.2 hc' (by omega) (show s ≤ c - 1 by omega) hI
    have hrow : ∀ r, r ≠ 11 ∧ r ≠ 12 → aTake α s (c - 1) r = α r := fun r hr => aTake_row hr
    have hupo := hI.1 t ht
    by_cases h0 : α 10 t = 0
    · refine opU0 (v := Int32.ofInt 0) (α' := aTake α s (c - 1)) (Inv_mono (by omega) hIA) (fun β th ow sc g => ?_) (fun γ th ow sc g => ?_)
      · have k3 : ZR 29 0 [.val (.ref (kad n (20, 0, 0))), .val (.int (nI s)), .val (.int (Int32.ofInt 2))] [] (khp n L (St n α β th ow sc) g) true (.inl (some (.int (nI t))), khp n L (St n α β th ow sc) g, true) := by
          rw [← e2]
          exact c_cell (w := 2) hn (by omega) (by omega)
        exact ⟨_, s85_0_tf hn (c_isSlot_t hn hc1 hc2 hs) rfl (c_cell (w := 0) hn (by omega) (by omega)) (c_cell (w := 1) hn (by omega) (by omega)) k3 (c_cell (w := 3) hn (by omega) (by omega)) (c_cell (w := 4) hn (by omega) (by omega)) (c_cell (w := 5) hn (by omega) (by omega)) (c_takeOut hn hc' (by omega) (show s ≤ c - 1 by omega)) (c_isUp_f hn ht (by rw [hrow 10 (by omega)]; exact h0)) rfl⟩
      · have k10 : ZR 100 0 [.val (.ref (kad n (22, 0, 0))), .val (.int (nI s)), .unset] [] (khp n L (kup (St n γ α th ow sc) 42 0 (Int32.ofInt 0)) g) true (.inl none, khp n L (St n γ (aTake α s (c - 1)) (nI 0) ow sc) g, false) := by
          rw [u_th]
          exact m_takeOut hn hc' (by omega) (show s ≤ c - 1 by omega)
        exact ⟨_, s99_0_fttf (x4 := 6 * s) (x5 := 6 * s + 1) (x6 := 6 * s + 2) (x7 := 6 * s + 3) (x8 := 6 * s + 4) (x9 := 6 * s + 5) (x11 := t) hn (by simp (disch := omega) only [gB, gK, gU, gN, gC, gM, gMK, gD, gL, g_th, g_n, g_ms, g_ls, g_ow, g_sc, uB, uK, uU, uN, uC, uM, uMK, uL, u_ms, u_ls, u_th, u_ow, kup_same, kup_ne, kup_krow2, krow_same, krow_ne, c_0, c_1, c_2, c_3, c_4, c_5, b_6, b_8, b_10, b_12, b_14, b_15, b_16, b_17, b_18, b_19, b_20, b_24, b_30, b_44, b_63, b_100, h_164, o_n, c_z, nI_add, nI_mul, zc_ge, zc_lt, zc_gt, zc_le, zc_eq, zc_ne, decide_eq_true_eq, decide_eq_false_iff_not, not_true_eq_false, not_false_eq_true] <;> omega) (by simp (disch := omega) only [hc1, gB, gK, gU, gN, gC, gM, gMK, gD, gL, g_th, g_n, g_ms, g_ls, g_ow, g_sc, uB, uK, uU, uN, uC, uM, uMK, uL, u_ms, u_ls, u_th, u_ow, kup_same, kup_ne, kup_krow2, krow_same, krow_ne, c_0, c_1, c_2, c_3, c_4, c_5, b_6, b_8, b_10, b_12, b_14, b_15, b_16, b_17, b_18, b_19, b_20, b_24, b_30, b_44, b_63, b_100, h_164, o_n, c_z, nI_add, nI_mul, zc_ge, zc_lt, zc_gt, zc_le, zc_eq, zc_ne, decide_eq_true_eq, decide_eq_false_iff_not, not_true_eq_false, not_false_eq_true] <;> omega) rfl (zx (by simp (disch := omega) only [gB, gK, gU, gN, gC, gM, gMK, gD, gL, g_th, g_n, g_ms, g_ls, g_ow, g_sc, uB, uK, uU, uN, uC, uM, uMK, uL, u_ms, u_ls, u_th, u_ow, kup_same, kup_ne, kup_krow2, krow_same, krow_ne, c_0, c_1, c_2, c_3, c_4, c_5, b_6, b_8, b_10, b_12, b_14, b_15, b_16, b_17, b_18, b_19, b_20, b_24, b_30, b_44, b_63, b_100, h_164, o_n, c_z, nI_add, nI_mul] <;> first | rfl | (congr 1; omega)) (by omega) (by omega)) (zx (by simp (disch := omega) only [gB, gK, gU, gN, gC, gM, gMK, gD, gL, g_th, g_n, g_ms, g_ls, g_ow, g_sc, uB, uK, uU, uN, uC, uM, uMK, uL, u_ms, u_ls, u_th, u_ow, kup_same, kup_ne, kup_krow2, krow_same, krow_ne, c_0, c_1, c_2, c_3, c_4, c_5, b_6, b_8, b_10, b_12, b_14, b_15, b_16, b_17, b_18, b_19, b_20, b_24, b_30, b_44, b_63, b_100, h_164, o_n, c_z, nI_add, nI_mul] <;> first | rfl | (congr 1; omega)) (by omega) (by omega)) (zx (by simp (disch := omega) only [gB, gK, gU, gN, gC, gM, gMK, gD, gL, g_th, g_n, g_ms, g_ls, g_ow, g_sc, uB, uK, uU, uN, uC, uM, uMK, uL, u_ms, u_ls, u_th, u_ow, kup_same, kup_ne, kup_krow2, krow_same, krow_ne, c_0, c_1, c_2, c_3, c_4, c_5, b_6, b_8, b_10, b_12, b_14, b_15, b_16, b_17, b_18, b_19, b_20, b_24, b_30, b_44, b_63, b_100, h_164, o_n, c_z, nI_add, nI_mul] <;> first | rfl | (congr 1; omega)) (by omega) (by omega)) (zx (by simp (disch := omega) only [gB, gK, gU, gN, gC, gM, gMK, gD, gL, g_th, g_n, g_ms, g_ls, g_ow, g_sc, uB, uK, uU, uN, uC, uM, uMK, uL, u_ms, u_ls, u_th, u_ow, kup_same, kup_ne, kup_krow2, krow_same, krow_ne, c_0, c_1, c_2, c_3, c_4, c_5, b_6, b_8, b_10, b_12, b_14, b_15, b_16, b_17, b_18, b_19, b_20, b_24, b_30, b_44, b_63, b_100, h_164, o_n, c_z, nI_add, nI_mul] <;> first | rfl | (congr 1; omega)) (by omega) (by omega)) (zx (by simp (disch := omega) only [gB, gK, gU, gN, gC, gM, gMK, gD, gL, g_th, g_n, g_ms, g_ls, g_ow, g_sc, uB, uK, uU, uN, uC, uM, uMK, uL, u_ms, u_ls, u_th, u_ow, kup_same, kup_ne, kup_krow2, krow_same, krow_ne, c_0, c_1, c_2, c_3, c_4, c_5, b_6, b_8, b_10, b_12, b_14, b_15, b_16, b_17, b_18, b_19, b_20, b_24, b_30, b_44, b_63, b_100, h_164, o_n, c_z, nI_add, nI_mul] <;> first | rfl | (congr 1; omega)) (by omega) (by omega)) (zx (by simp (disch := omega) only [gB, gK, gU, gN, gC, gM, gMK, gD, gL, g_th, g_n, g_ms, g_ls, g_ow, g_sc, uB, uK, uU, uN, uC, uM, uMK, uL, u_ms, u_ls, u_th, u_ow, kup_same, kup_ne, kup_krow2, krow_same, krow_ne, c_0, c_1, c_2, c_3, c_4, c_5, b_6, b_8, b_10, b_12, b_14, b_15, b_16, b_17, b_18, b_19, b_20, b_24, b_30, b_44, b_63, b_100, h_164, o_n, c_z, nI_add, nI_mul] <;> first | rfl | (congr 1; omega)) (by omega) (by omega)) k10 (by rw [u_th, gL, e2]; exact zix_nI (by omega) (by omega)) (dq_t (by rw [hrow 10 (by omega)]; exact h0))⟩
    · have hcntA := Inv_cnt hIA
      obtain ⟨kc, hkc1, hkc2⟩ := hcntA
      obtain ⟨m0, m1, m2, m3⟩ := hm
      have hk4 : k = 0 ∨ k = 1 ∨ k = 2 ∨ k = 3 := by omega
      rcases hk4 with rfl | rfl | rfl | rfl
      · obtain ⟨z, a, b1, ha, b2, b3⟩ := m0 rfl
        obtain ⟨N, c0, c', fl, m, a1, a2, a3, a4, a5, a6, a7, a8, ⟨q1, q2, q3, q4⟩, ⟨d1, d2, d3, d4⟩, o1, o2⟩ := hIA.2.2.1 f t hf ht
        have hzN : z < N := by
          rw [← hrow f (by omega), q1] at b3
          unfold cn at b3
          rw [nI_clamp (by omega)] at b3
          exact b3
        refine opU0 (v := zb (!seen m fl z)) (α' := aRecv (aTake α s (c - 1)) f t z a (α 11 (6 * s + 5))) ?_ (fun β th ow sc g => ?_) (fun γ th ow sc g => ?_)
        · refine Inv_mono (B := B) (by omega) ?_
          unfold aRecv
          have hseen : seen (cn (aTake α s (c - 1) t (44 + 24 * f + 15))) (cn (aTake α s (c - 1) t (44 + 24 * f + 14))) z = seen m fl z := by
            rw [d1, d3]
            unfold cn
            rw [nI_clamp (by omega), nI_clamp (by omega)]
          by_cases hse : seen m fl z = true
          · have hv : aVou (aTake α s (c - 1)) f t z a (α 11 (6 * s + 5)) = aTake α s (c - 1) := by
              unfold aVou
              rw [hseen, if_pos hse]
            rw [hv]
            refine Inv_send hn.2 (by omega) ht hf ⟨fun e => absurd e (by omega), fun _ => ⟨z, rfl, by omega, ?_⟩, fun e => absurd e (by omega), fun e => absurd e (by omega)⟩ hIA
            unfold seenA
            rw [hseen]
            exact hse
          · have hv : aVou (aTake α s (c - 1)) f t z a (α 11 (6 * s + 5)) = aDown (kup (aMark (aTake α s (c - 1)) t f z) t a (aTake α s (c - 1) t a + α 11 (6 * s + 5))) t := by
              unfold aVou
              rw [hseen, if_neg hse]
            rw [hv]
            have hfz : fl ≤ z := by
              unfold seen at hse
              simp at hse
              omega
            have hzc : z < cn (aTake α s (c - 1) f (44 + 24 * t)) := by
              rw [q1]
              unfold cn
              rw [nI_clamp (by omega)]
              exact hzN
            refine Inv_send hn.2 (by omega) ht hf ⟨fun e => absurd e (by omega), fun _ => ⟨z, rfl, by omega, ?_⟩, fun e => absurd e (by omega), fun e => absurd e (by omega)⟩ (Inv_mark ht hf hn.2 (by omega) ha d3 d1 a4 (by omega) hfz (by omega) hzc hIA)
            exact mark_seen (B := B) ht hf hn.2 (by omega) ha d3 d1 a4 (by omega) hfz (by omega) hzc hIA
        · obtain ⟨c13, h13⟩ := c_receiveVoucher (α := aTake α s (c - 1)) (β := β) (th := th) (ow := ow) (sc := sc) (g := g) (L := L) (cl := true) (u := α 11 (6 * s + 5)) hn ht hf ha d3 d1 a4 (by omega) (show z < fl + 16 by omega) hkc1 hkc2
          rw [← b1, ← b2] at h13
          exact c_dl hn hc1 hc2 hs hk hf ht e0 e1 e2 h0 (Or.inl ⟨rfl, h13⟩)
        · obtain ⟨c13, h13⟩ := m_voucher (α := γ) (β := aTake α s (c - 1)) (th := nI 0) (ow := ow) (sc := sc) (g := g) (L := L) (cl := true) (u := α 11 (6 * s + 5)) hn ht hf ha d3 d1 a4 (by omega) (show z < fl + 16 by omega) ⟨kc, hkc1, hkc2⟩
          rw [← b1, ← b2] at h13
          exact m_dl hn hc1 hc2 hs hk hf ht e0 e1 e2 hupo h0 (Or.inl ⟨rfl, h13⟩)
      · obtain ⟨z, b1, b2, b3⟩ := m1 rfl
        obtain ⟨co, hco1, hco2, -⟩ := Inv_opn (show B < 2 ^ 29 by omega) ht hf hIA
        refine opU0 (v := zb (fnd (fun i => aTake α s (c - 1) t (44 + 24 * f + 2 + 3 * i)) (nI z) co 0).isSome) (α' := aClose (aTake α s (c - 1)) t f co (fnd (fun i => aTake α s (c - 1) t (44 + 24 * f + 2 + 3 * i)) (nI z) co 0)) ?_ (fun β th ow sc g => ?_) (fun γ th ow sc g => ?_)
        · refine Inv_mono (B := B) (by omega) ?_
          cases hfi : fnd (fun i => aTake α s (c - 1) t (44 + 24 * f + 2 + 3 * i)) (nI z) co 0 with
          | none => exact hIA
          | some i =>
            obtain ⟨-, hi, hiz⟩ := fnd_lt hfi
            rw [aClose_some]
            refine Inv_close (x := z) ht hf hn.2 (by omega) (by rw [hco1]; congr 1; omega) (by omega) (by omega) hiz (by omega) ?_ hIA
            unfold seenA
            rw [hrow f (by omega)]
            exact b3
        · obtain ⟨c13, h13⟩ := c_close (α := aTake α s (c - 1)) (β := β) (th := th) (ow := ow) (sc := sc) (g := g) (L := L) (cl := true) hn ht hf hco1 hco2 (α 11 (6 * s + 3))
          rw [b1] at h13
          rw [← b1] at h13
          have h14 := c_dl hn hc1 hc2 hs hk hf ht e0 e1 e2 h0 (Or.inr (Or.inl ⟨rfl, h13⟩))
          rw [b1] at h14
          exact h14
        · obtain ⟨c13, h13⟩ := m_close (α := γ) (β := aTake α s (c - 1)) (th := nI 0) (ow := ow) (sc := sc) (g := g) (L := L) (cl := true) hn ht hf hco1 hco2 (α 11 (6 * s + 3))
          have h14 := m_dl (th := th) hn hc1 hc2 hs hk hf ht e0 e1 e2 hupo h0 (Or.inr (Or.inl ⟨rfl, h13⟩))
          rw [b1] at h14
          exact h14
      · obtain ⟨hft, a, ha, b1⟩ := m2 rfl
        refine opU0 (v := zb (decide (aTake α s (c - 1) t (44 + 24 * f + 20 + a) < α 11 (6 * s + 5)))) (α' := aHear (aTake α s (c - 1)) t f a (α 11 (6 * s + 4)) (α 11 (6 * s + 5))) ?_ (fun β th ow sc g => ?_) (fun γ th ow sc g => ?_)
        · exact Inv_mono (B := B) (by omega) (Inv_hear ht hn.2 hft ha hIA)
        · obtain ⟨c13, h13⟩ := c_hear (α := aTake α s (c - 1)) (β := β) (th := th) (ow := ow) (sc := sc) (g := g) (L := L) (cl := true) hn ht hf ha (α 11 (6 * s + 4)) (α 11 (6 * s + 5))
          rw [← b1] at h13
          exact c_dl hn hc1 hc2 hs hk hf ht e0 e1 e2 h0 (Or.inr (Or.inr (Or.inl ⟨rfl, h13⟩)))
        · obtain ⟨c13, h13⟩ := m_told (α := γ) (β := aTake α s (c - 1)) (th := nI 0) (ow := ow) (sc := sc) (g := g) (L := L) (cl := true) hn ht hf ha (α 11 (6 * s + 4)) (α 11 (6 * s + 5))
          rw [← b1] at h13
          exact m_dl hn hc1 hc2 hs hk hf ht e0 e1 e2 hupo h0 (Or.inr (Or.inr (Or.inl ⟨rfl, h13⟩)))
      · obtain ⟨a, ha, b1⟩ := m3 rfl
        obtain ⟨N, co, q0, hN, hco, hq, hco2, hN2⟩ := Inv_gv (show B < 2 ^ 29 by omega) ht hf hIA
        have hupA : UpOk (aTake α s (c - 1)) t := hIA.1 t ht
        refine opU0 (v := zb (!decide (aTake α s (c - 1) 10 t = 0) && !decide (aTake α s (c - 1) t a < α 11 (6 * s + 4)) && aCan co N q0)) (α' := if (!decide (aTake α s (c - 1) 10 t = 0) && !decide (aTake α s (c - 1) t a < α 11 (6 * s + 4)) && aCan co N q0) = true then aGive (aTake α s (c - 1)) t f a co (α 11 (6 * s + 4)) else aTake α s (c - 1)) ?_ (fun β th ow sc g => ?_) (fun γ th ow sc g => ?_)
        · split
          · rename_i h
            simp only [Bool.and_eq_true] at h
            exact Inv_mono (by omega) (Inv_giveS ht hf hn.2 (show B < 2 ^ 29 by omega) ha hN hco hco2 hN2 hq h.2 hIA)
          · exact Inv_mono (by omega) hIA
        · obtain ⟨c13, h13⟩ := c_receiveAsk (α := aTake α s (c - 1)) (β := β) (th := th) (ow := ow) (sc := sc) (g := g) (L := L) (cl := true) (u := α 11 (6 * s + 4)) hn ht hf ha hN hco hq hco2 (by omega) hkc1 hkc2
          rw [← b1] at h13
          exact c_dl hn hc1 hc2 hs hk hf ht e0 e1 e2 h0 (Or.inr (Or.inr (Or.inr ⟨rfl, h13⟩)))
        · obtain ⟨c13, h13⟩ := m_asked (α := γ) (β := aTake α s (c - 1)) (th := nI 0) (ow := ow) (sc := sc) (g := g) (L := L) (cl := true) (u := α 11 (6 * s + 4)) hn ht hf ha hupA hN hco hq hco2 (by omega) ⟨kc, hkc1, hkc2⟩
          rw [← b1] at h13
          exact m_dl hn hc1 hc2 hs hk hf ht e0 e1 e2 hupo h0 (Or.inr (Or.inr (Or.inr ⟨rfl, h13⟩)))
  · refine opU1 (v := Int32.ofInt 0) hI (fun β th ow sc g hcap => s85_0_f hn (c_isSlot_f hn (by rw [hc1]; exact hx)) rfl hcap rfl) (fun γ th ow sc g => ?_)
    by_cases h : p < 0
    · exact ⟨_, zr_rv (by simp only [u_th] <;> rfl) rfl (s99_0_tf hn (zc_ltT h) rfl)⟩
    · exact ⟨_, zr_rv (by simp only [u_th] <;> rfl) rfl (s99_0_fff hn (zc_ltF h) (zc_ltf (by rw [g_ms, hc1]; exact hx.resolve_left h)) rfl)⟩
end OPS4
