theorem zc_gtf {x y : Int32} (h : x ≤ y) : zcnd .gt x y = false := by
  simp only [zcnd, decide_eq_false_iff_not, Int32.not_lt]
  exact h
theorem zc_gtt {x y : Int32} (h : ¬ x ≤ y) : zcnd .gt x y = true := by
  simp only [zcnd, decide_eq_true_eq]
  exact Int32.not_le.mp h
theorem zc_ltf {x y : Int32} (h : y ≤ x) : zcnd .lt x y = false := by
  simp only [zcnd, decide_eq_false_iff_not, Int32.not_lt]
  exact h
theorem zc_ltt {x y : Int32} (h : ¬ y ≤ x) : zcnd .lt x y = true := by
  simp only [zcnd, decide_eq_true_eq]
  exact Int32.not_le.mp h
theorem zc_ltT {x y : Int32} (h : x < y) : zcnd .lt x y = true := by
  simp only [zcnd, decide_eq_true_eq]
  exact h
theorem zc_ltF {x y : Int32} (h : ¬ x < y) : zcnd .lt x y = false := by
  simp only [zcnd, decide_eq_false_iff_not]
  exact h
theorem zc_leT {x y : Int32} (h : x ≤ y) : zcnd .le x y = true := by
  simp only [zcnd, decide_eq_true_eq]
  exact h
theorem zc_leF {x y : Int32} (h : ¬ x ≤ y) : zcnd .le x y = false := by
  simp only [zcnd, decide_eq_false_iff_not]
  exact h
theorem zc_geT {x y : Int32} (h : y ≤ x) : zcnd .ge x y = true := by
  simp only [zcnd, decide_eq_true_eq]
  exact h
theorem zc_geF {x y : Int32} (h : ¬ y ≤ x) : zcnd .ge x y = false := by
  simp only [zcnd, decide_eq_false_iff_not]
  exact h
theorem zc_gtT {x y : Int32} (h : y < x) : zcnd .gt x y = true := by
  simp only [zcnd, decide_eq_true_eq]
  exact h
theorem zc_gtF {x y : Int32} (h : ¬ y < x) : zcnd .gt x y = false := by
  simp only [zcnd, decide_eq_false_iff_not]
  exact h
theorem kup_self {σ : Ks} {a i : Nat} : kup σ a i (σ a i) = σ := by
  funext x y
  simp only [kup]
  split
  · rename_i h; rw [h.1, h.2]
  · rfl
section MB
variable {n L : Nat} {α β β' : Ks} {th ow : Int32} {sc : Nat → Int32} {g : List Nat} {cl : Bool} {t o c a : Nat} {p q u : Int32}
theorem St_congr (h : ∀ x y, x < 10 → y < 44 + 24 * n → β x y = β' x y) (h2 : ∀ x y, 10 ≤ x → β x y = β' x y) : St n α β th ow sc = St n α β' th ow sc := by
  funext x y
  unfold St
  by_cases h1 : x < 10
  · simp only [if_pos h1]
  simp only [if_neg h1]
  by_cases h3 : x < 20
  · simp only [if_pos h3]
  simp only [if_neg h3]
  by_cases h4 : x < 25
  · simp only [if_pos h4]
    by_cases h5 : y < 44 + 24 * n
    · simp only [if_pos h5]
      exact h _ _ (by omega) h5
    · simp only [if_neg h5]
  simp only [if_neg h4]
  by_cases h6 : x < 30
  · simp only [if_pos h6]
  simp only [if_neg h6]
  by_cases h7 : x < 35
  · simp only [if_pos h7]
    by_cases h5 : y < 44 + 24 * n
    · simp only [if_pos h5]
      exact h _ _ (by omega) h5
    · simp only [if_neg h5]
  simp only [if_neg h7]
  rw [h2 10 y (by omega), h2 11 y (by omega), h2 12 (y - 2) (by omega)]
theorem gM0 {y : Nat} (ht : t < 5) (hy : 44 + 24 * n ≤ y) (hy2 : y < 164) : St n α β th ow sc (20 + (164 * t + y) / 164) ((164 * t + y) % 164) = d0 y := by
  have e1 : (164 * t + y) / 164 = t := by omega
  have e2 : (164 * t + y) % 164 = y := by omega
  rw [e1, e2]
  unfold St
  rw [if_neg (by omega), if_neg (by omega), if_pos (by omega), if_neg (by omega)]
theorem gMK0 {y : Nat} (ht : t < 5) (hy : 44 + 24 * n ≤ y) (hy2 : y < 164) : St n α β th ow sc (30 + (164 * t + y) / 164) ((164 * t + y) % 164) = d0 y := by
  have e1 : (164 * t + y) / 164 = t := by omega
  have e2 : (164 * t + y) % 164 = y := by omega
  rw [e1, e2]
  unfold St
  rw [if_neg (by omega), if_neg (by omega), if_neg (by omega), if_neg (by omega), if_pos (by omega), if_neg (by omega)]
theorem kcp_step {b b2 k : Nat} (h : b2 ≠ b) : kup (kcopy β b b2 (fun y => decide (y < k))) b k (β b2 k) = kcopy β b b2 (fun y => decide (y < k + 1)) := by
  rw [kcopy_up2 h]
  apply kcopy_congr
  intro y
  simp only [← Bool.decide_or, decide_eq_decide]
  omega
theorem down_step (hn : 2 ≤ n ∧ n ≤ 5) (ht : t < 5) {k : Nat} (hk : k < 164) : kup (St n α (kcopy β (5 + t) t (fun y => decide (y < k))) th ow sc) (30 + (164 * t + k) / 164) ((164 * t + k) % 164) (St n α (kcopy β (5 + t) t (fun y => decide (y < k))) th ow sc (20 + (164 * t + k) / 164) ((164 * t + k) % 164)) = St n α (kcopy β (5 + t) t (fun y => decide (y < k + 1))) th ow sc := by
  by_cases h : k < 44 + 24 * n
  · rw [gM ht h hn.2, uMK ht h hn.2, kcopy_row (by omega), kcp_step (by omega)]
  · have e := gMK0 (α := α) (β := kcopy β (5 + t) t (fun y => decide (y < k))) (th := th) (ow := ow) (sc := sc) (n := n) (y := k) ht (by omega) hk
    rw [gM0 ht (by omega) hk, ← e, kup_self]
    apply St_congr
    · intro x y hx hy
      simp only [kcopy, decide_eq_true_eq]
      by_cases h1 : x = 5 + t
      · rw [if_pos (by omega), if_pos (by omega)]
      · rw [if_neg (by omega), if_neg (by omega)]
    · intro x y hx
      simp only [kcopy]
      rw [if_neg (by omega), if_neg (by omega)]
theorem back_step (hn : 2 ≤ n ∧ n ≤ 5) (ht : t < 5) {k : Nat} (hk : k < 164) : kup (St n α (kcopy β t (5 + t) (fun y => decide (y < k))) th ow sc) (20 + (164 * t + k) / 164) ((164 * t + k) % 164) (St n α (kcopy β t (5 + t) (fun y => decide (y < k))) th ow sc (30 + (164 * t + k) / 164) ((164 * t + k) % 164)) = St n α (kcopy β t (5 + t) (fun y => decide (y < k + 1))) th ow sc := by
  by_cases h : k < 44 + 24 * n
  · rw [gMK ht h hn.2, uM ht h hn.2, kcopy_row (by omega), kcp_step (by omega)]
  · have e := gM0 (α := α) (β := kcopy β t (5 + t) (fun y => decide (y < k))) (th := th) (ow := ow) (sc := sc) (n := n) (y := k) ht (by omega) hk
    rw [gMK0 ht (by omega) hk, ← e, kup_self]
    apply St_congr
    · intro x y hx hy
      simp only [kcopy, decide_eq_true_eq]
      by_cases h1 : x = t
      · rw [if_pos (by omega), if_pos (by omega)]
      · rw [if_neg (by omega), if_neg (by omega)]
    · intro x y hx
      simp only [kcopy]
      rw [if_neg (by omega), if_neg (by omega)]
theorem copy_end {b b2 : Nat} (hn : 2 ≤ n ∧ n ≤ 5) (hb : b < 10) : St n α (kcopy β b b2 (fun y => decide (y < 164))) th ow sc = St n α (krow β b (β b2)) th ow sc := by
  apply St_congr
  · intro x y hx hy
    simp only [kcopy, krow, decide_eq_true_eq]
    by_cases h1 : x = b
    · rw [if_pos ⟨h1, by omega⟩, if_pos h1]
    · rw [if_neg (by omega), if_neg h1]
  · intro x y hx
    simp only [kcopy, krow]
    rw [if_neg (by omega), if_neg (by omega)]
theorem copy_start {b b2 : Nat} : kcopy β b b2 (fun y => decide (y < 0)) = β := by
  funext x y
  simp only [kcopy, decide_eq_true_eq]
  rw [if_neg (by omega)]
theorem m_at (hn : 2 ≤ n ∧ n ≤ 5) (t : Nat) : ZR 97 0 [.val (.int (nI t))] [] (khp n L (St n α β th ow sc) g) cl (.inl (some (.int (nI (164 * t)))), khp n L (St n α β th ow sc) g, cl) := by
  refine zr_rv rfl ?_ (s97_0_r hn)
  rw [h_164, nI_mul]
theorem m_other (hn : 2 ≤ n ∧ n ≤ 5) (t o : Nat) : ZR 95 0 [.val (.int (nI t)), .val (.int (nI o))] [] (khp n L (St n α β th ow sc) g) cl (.inl (some (.int (nI (164 * t + (44 + 24 * o))))), khp n L (St n α β th ow sc) g, cl) := by
  refine zr_rv rfl ?_ (s95_0_r hn)
  rw [h_164, nI_mul, b_44, b_24, nI_mul, nI_add, nI_add, Nat.add_assoc]
theorem m_syncNow (hn : 2 ≤ n ∧ n ≤ 5) (ht : t < 5) : ∃ cl', ZR 96 0 [.val (.ref (kad n (22, 0, 0))), .val (.int (nI t)), .unset] [] (khp n L (St n α β th ow sc) g) cl (.inl none, khp n L (St n α (aDown β t) th ow sc) g, cl') := by
  have loop : ∀ k x cl, x + k = 164 → ∃ cl', ZR 96 2 [.val (.ref (kad n (22, 0, 0))), .val (.int (nI t)), .val (.int (nI x))] [] (khp n L (St n α (kcopy β (5 + t) t (fun y => decide (y < x))) th ow sc) g) cl (.inl none, khp n L (St n α (aDown β t) th ow sc) g, cl') := by
    intro k
    induction k with
    | zero =>
      intro x cl hx
      have : x = 164 := by omega
      subst this
      refine ⟨_, zr_rn ?_ (s96_2_t hn (by simp (disch := omega) only [gB, gK, gU, gN, gC, gM, gMK, gD, gL, g_th, g_n, g_ms, g_ls, g_ow, g_sc, uB, uK, uU, uN, uC, uM, uMK, uL, u_ms, u_ls, u_th, u_ow, kup_same, kup_ne, kup_krow2, krow_same, krow_ne, c_0, c_1, c_2, c_3, c_4, c_5, b_6, b_8, b_10, b_12, b_14, b_15, b_16, b_17, b_18, b_19, b_20, b_24, b_30, b_44, b_63, b_100, h_164, o_n, c_z, nI_add, nI_mul, zc_ge, zc_lt, zc_gt, zc_le, zc_eq, zc_ne, decide_eq_true_eq, decide_eq_false_iff_not] <;> omega))⟩
      exact copy_end hn (by omega)
    | succ k ih =>
      intro x cl hx
      obtain ⟨c2, h2⟩ := ih (x + 1) false (by omega)
      refine ⟨c2, s96_2_f (x4 := 164 * t + x) (x5 := 164 * t + x) hn (by simp (disch := omega) only [gB, gK, gU, gN, gC, gM, gMK, gD, gL, g_th, g_n, g_ms, g_ls, g_ow, g_sc, uB, uK, uU, uN, uC, uM, uMK, uL, u_ms, u_ls, u_th, u_ow, kup_same, kup_ne, kup_krow2, krow_same, krow_ne, c_0, c_1, c_2, c_3, c_4, c_5, b_6, b_8, b_10, b_12, b_14, b_15, b_16, b_17, b_18, b_19, b_20, b_24, b_30, b_44, b_63, b_100, h_164, o_n, c_z, nI_add, nI_mul, zc_ge, zc_lt, zc_gt, zc_le, zc_eq, zc_ne, decide_eq_true_eq, decide_eq_false_iff_not] <;> omega) (m_at hn t) (m_at hn t) (zx (by simp (disch := omega) only [gB, gK, gU, gN, gC, gM, gMK, gD, gL, g_th, g_n, g_ms, g_ls, g_ow, g_sc, uB, uK, uU, uN, uC, uM, uMK, uL, u_ms, u_ls, u_th, u_ow, kup_same, kup_ne, kup_krow2, krow_same, krow_ne, c_0, c_1, c_2, c_3, c_4, c_5, b_6, b_8, b_10, b_12, b_14, b_15, b_16, b_17, b_18, b_19, b_20, b_24, b_30, b_44, b_63, b_100, h_164, o_n, c_z, nI_add, nI_mul] <;> first | rfl | (congr 1; omega)) (by omega) (by omega)) (zx (by simp (disch := omega) only [gB, gK, gU, gN, gC, gM, gMK, gD, gL, g_th, g_n, g_ms, g_ls, g_ow, g_sc, uB, uK, uU, uN, uC, uM, uMK, uL, u_ms, u_ls, u_th, u_ow, kup_same, kup_ne, kup_krow2, krow_same, krow_ne, c_0, c_1, c_2, c_3, c_4, c_5, b_6, b_8, b_10, b_12, b_14, b_15, b_16, b_17, b_18, b_19, b_20, b_24, b_30, b_44, b_63, b_100, h_164, o_n, c_z, nI_add, nI_mul] <;> first | rfl | (congr 1; omega)) (by omega) (by omega)) ?_⟩
      rw [nI_inc, down_step hn ht (by omega)]
      exact h2
  obtain ⟨c2, h2⟩ := loop 164 0 cl (by omega)
  rw [copy_start] at h2
  exact ⟨c2, s96_0_r hn h2⟩
theorem m_send (hn : 2 ≤ n ∧ n ≤ 5) (hk : CntOk β) (k f to x y z : Int32) : ZR 104 0 [.val (.ref (kad n (22, 0, 0))), .val (.int k), .val (.int f), .val (.int to), .val (.int x), .val (.int y), .val (.int z), .unset] [] (khp n L (St n α β th ow sc) g) cl (.inl none, khp n L (St n α (aSend β k f to x y z) th ow sc) g, false) := by
  obtain ⟨c, hc, h6⟩ := hk
  unfold aSend
  try dsimp only
  rw [hc, nI_clamp (by omega)]
  by_cases h : c < 24
  · rw [if_pos h]
    refine zr_rn ?_ (s104_0_t (x2 := 6 * c) (x3 := 6 * c + 1) (x4 := 6 * c + 2) (x5 := 6 * c + 3) (x6 := 6 * c + 4) (x7 := 6 * c + 5) hn (by simp (disch := omega) only [hc, gB, gK, gU, gN, gC, gM, gMK, gD, gL, g_th, g_n, g_ms, g_ls, g_ow, g_sc, uB, uK, uU, uN, uC, uM, uMK, uL, u_ms, u_ls, u_th, u_ow, kup_same, kup_ne, kup_krow2, krow_same, krow_ne, c_0, c_1, c_2, c_3, c_4, c_5, b_6, b_8, b_10, b_12, b_14, b_15, b_16, b_17, b_18, b_19, b_20, b_24, b_30, b_44, b_63, b_100, h_164, o_n, c_z, nI_add, nI_mul, zc_ge, zc_lt, zc_gt, zc_le, zc_eq, zc_ne, decide_eq_true_eq, decide_eq_false_iff_not] <;> omega) (zx (by simp (disch := omega) only [hc, gB, gK, gU, gN, gC, gM, gMK, gD, gL, g_th, g_n, g_ms, g_ls, g_ow, g_sc, uB, uK, uU, uN, uC, uM, uMK, uL, u_ms, u_ls, u_th, u_ow, kup_same, kup_ne, kup_krow2, krow_same, krow_ne, c_0, c_1, c_2, c_3, c_4, c_5, b_6, b_8, b_10, b_12, b_14, b_15, b_16, b_17, b_18, b_19, b_20, b_24, b_30, b_44, b_63, b_100, h_164, o_n, c_z, nI_add, nI_mul] <;> first | rfl | (congr 1; omega)) (by omega) (by omega)) (zx (by simp (disch := omega) only [hc, gB, gK, gU, gN, gC, gM, gMK, gD, gL, g_th, g_n, g_ms, g_ls, g_ow, g_sc, uB, uK, uU, uN, uC, uM, uMK, uL, u_ms, u_ls, u_th, u_ow, kup_same, kup_ne, kup_krow2, krow_same, krow_ne, c_0, c_1, c_2, c_3, c_4, c_5, b_6, b_8, b_10, b_12, b_14, b_15, b_16, b_17, b_18, b_19, b_20, b_24, b_30, b_44, b_63, b_100, h_164, o_n, c_z, nI_add, nI_mul] <;> first | rfl | (congr 1; omega)) (by omega) (by omega)) (zx (by simp (disch := omega) only [hc, gB, gK, gU, gN, gC, gM, gMK, gD, gL, g_th, g_n, g_ms, g_ls, g_ow, g_sc, uB, uK, uU, uN, uC, uM, uMK, uL, u_ms, u_ls, u_th, u_ow, kup_same, kup_ne, kup_krow2, krow_same, krow_ne, c_0, c_1, c_2, c_3, c_4, c_5, b_6, b_8, b_10, b_12, b_14, b_15, b_16, b_17, b_18, b_19, b_20, b_24, b_30, b_44, b_63, b_100, h_164, o_n, c_z, nI_add, nI_mul] <;> first | rfl | (congr 1; omega)) (by omega) (by omega)) (zx (by simp (disch := omega) only [hc, gB, gK, gU, gN, gC, gM, gMK, gD, gL, g_th, g_n, g_ms, g_ls, g_ow, g_sc, uB, uK, uU, uN, uC, uM, uMK, uL, u_ms, u_ls, u_th, u_ow, kup_same, kup_ne, kup_krow2, krow_same, krow_ne, c_0, c_1, c_2, c_3, c_4, c_5, b_6, b_8, b_10, b_12, b_14, b_15, b_16, b_17, b_18, b_19, b_20, b_24, b_30, b_44, b_63, b_100, h_164, o_n, c_z, nI_add, nI_mul] <;> first | rfl | (congr 1; omega)) (by omega) (by omega)) (zx (by simp (disch := omega) only [hc, gB, gK, gU, gN, gC, gM, gMK, gD, gL, g_th, g_n, g_ms, g_ls, g_ow, g_sc, uB, uK, uU, uN, uC, uM, uMK, uL, u_ms, u_ls, u_th, u_ow, kup_same, kup_ne, kup_krow2, krow_same, krow_ne, c_0, c_1, c_2, c_3, c_4, c_5, b_6, b_8, b_10, b_12, b_14, b_15, b_16, b_17, b_18, b_19, b_20, b_24, b_30, b_44, b_63, b_100, h_164, o_n, c_z, nI_add, nI_mul] <;> first | rfl | (congr 1; omega)) (by omega) (by omega)) (zx (by simp (disch := omega) only [hc, gB, gK, gU, gN, gC, gM, gMK, gD, gL, g_th, g_n, g_ms, g_ls, g_ow, g_sc, uB, uK, uU, uN, uC, uM, uMK, uL, u_ms, u_ls, u_th, u_ow, kup_same, kup_ne, kup_krow2, krow_same, krow_ne, c_0, c_1, c_2, c_3, c_4, c_5, b_6, b_8, b_10, b_12, b_14, b_15, b_16, b_17, b_18, b_19, b_20, b_24, b_30, b_44, b_63, b_100, h_164, o_n, c_z, nI_add, nI_mul] <;> first | rfl | (congr 1; omega)) (by omega) (by omega)))
    simp (disch := omega) only [hc, nI_add, gB, gK, gU, gN, gC, gM, gMK, gD, gL, g_th, g_n, g_ms, g_ls, g_ow, g_sc, uB, uK, uU, uN, uC, uM, uMK, uL, u_ms, u_ls, u_th, u_ow, kup_same, kup_ne, kup_krow2, krow_same, krow_ne, c_0, c_1, c_2, c_3, c_4, c_5, b_6, b_8, b_10, b_12, b_14, b_15, b_16, b_17, b_18, b_19, b_20, b_24, b_30, b_44, b_63, b_100, h_164, o_n]
  · rw [if_neg h]
    refine zr_rn ?_ (s104_0_f hn (by simp (disch := omega) only [hc, gB, gK, gU, gN, gC, gM, gMK, gD, gL, g_th, g_n, g_ms, g_ls, g_ow, g_sc, uB, uK, uU, uN, uC, uM, uMK, uL, u_ms, u_ls, u_th, u_ow, kup_same, kup_ne, kup_krow2, krow_same, krow_ne, c_0, c_1, c_2, c_3, c_4, c_5, b_6, b_8, b_10, b_12, b_14, b_15, b_16, b_17, b_18, b_19, b_20, b_24, b_30, b_44, b_63, b_100, h_164, o_n, c_z, nI_add, nI_mul, zc_ge, zc_lt, zc_gt, zc_le, zc_eq, zc_ne, decide_eq_true_eq, decide_eq_false_iff_not] <;> omega))
    simp (disch := omega) only [gB, gK, gU, gN, gC, gM, gMK, gD, gL, g_th, g_n, g_ms, g_ls, g_ow, g_sc, uB, uK, uU, uN, uC, uM, uMK, uL, u_ms, u_ls, u_th, u_ow, kup_same, kup_ne, kup_krow2, krow_same, krow_ne, c_0, c_1, c_2, c_3, c_4, c_5, b_6, b_8, b_10, b_12, b_14, b_15, b_16, b_17, b_18, b_19, b_20, b_24, b_30, b_44, b_63, b_100, h_164, o_n]
theorem m_takeOut (hn : 2 ≤ n ∧ n ≤ 5) (hc : β 12 0 = nI (c + 1)) (h6 : c + 1 ≤ 24) {s : Nat} (hs : s ≤ c) : ZR 100 0 [.val (.ref (kad n (22, 0, 0))), .val (.int (nI s)), .unset] [] (khp n L (St n α β th ow sc) g) cl (.inl none, khp n L (St n α (aTake β s c) th ow sc) g, false) := by
  have loop : ∀ k x, x + k = 6 * c → 6 * s ≤ x → ZR 100 15 [.val (.ref (kad n (22, 0, 0))), .val (.int (nI s)), .val (.int (nI x))] [] (khp n L (St n α (krow (kup β 12 0 (nI c)) 11 (shf (β 11) (6 * s) x 6)) th ow sc) g) false (.inl none, khp n L (St n α (aTake β s c) th ow sc) g, false) := by
    intro k
    induction k with
    | zero =>
      intro x hx hix
      have : x = 6 * c := by omega
      subst this
      exact s100_15_t hn (by simp (disch := omega) only [gB, gK, gU, gN, gC, gM, gMK, gD, gL, g_th, g_n, g_ms, g_ls, g_ow, g_sc, uB, uK, uU, uN, uC, uM, uMK, uL, u_ms, u_ls, u_th, u_ow, kup_same, kup_ne, kup_krow2, krow_same, krow_ne, c_0, c_1, c_2, c_3, c_4, c_5, b_6, b_8, b_10, b_12, b_14, b_15, b_16, b_17, b_18, b_19, b_20, b_24, b_30, b_44, b_63, b_100, h_164, o_n, c_z, nI_add, nI_mul, zc_ge, zc_lt, zc_gt, zc_le, zc_eq, zc_ne, decide_eq_true_eq, decide_eq_false_iff_not] <;> omega)
    | succ k ih =>
      intro x hx hix
      refine s100_15_f (x2 := x + 6) (x3 := x) hn (by simp (disch := omega) only [gB, gK, gU, gN, gC, gM, gMK, gD, gL, g_th, g_n, g_ms, g_ls, g_ow, g_sc, uB, uK, uU, uN, uC, uM, uMK, uL, u_ms, u_ls, u_th, u_ow, kup_same, kup_ne, kup_krow2, krow_same, krow_ne, c_0, c_1, c_2, c_3, c_4, c_5, b_6, b_8, b_10, b_12, b_14, b_15, b_16, b_17, b_18, b_19, b_20, b_24, b_30, b_44, b_63, b_100, h_164, o_n, c_z, nI_add, nI_mul, zc_ge, zc_lt, zc_gt, zc_le, zc_eq, zc_ne, decide_eq_true_eq, decide_eq_false_iff_not] <;> omega) (zx (by simp (disch := omega) only [gB, gK, gU, gN, gC, gM, gMK, gD, gL, g_th, g_n, g_ms, g_ls, g_ow, g_sc, uB, uK, uU, uN, uC, uM, uMK, uL, u_ms, u_ls, u_th, u_ow, kup_same, kup_ne, kup_krow2, krow_same, krow_ne, c_0, c_1, c_2, c_3, c_4, c_5, b_6, b_8, b_10, b_12, b_14, b_15, b_16, b_17, b_18, b_19, b_20, b_24, b_30, b_44, b_63, b_100, h_164, o_n, c_z, nI_add, nI_mul] <;> first | rfl | (congr 1; omega)) (by omega) (by omega)) (zix_nI (by omega) (by omega)) ?_
      rw [nI_inc]
      refine zr_st ?_ (ih (x + 1) (by omega) (by omega))
      simp (disch := omega) only [gB, gK, gU, gN, gC, gM, gMK, gD, gL, g_th, g_n, g_ms, g_ls, g_ow, g_sc, uB, uK, uU, uN, uC, uM, uMK, uL, u_ms, u_ls, u_th, u_ow, kup_same, kup_ne, kup_krow2, krow_same, krow_ne, c_0, c_1, c_2, c_3, c_4, c_5, b_6, b_8, b_10, b_12, b_14, b_15, b_16, b_17, b_18, b_19, b_20, b_24, b_30, b_44, b_63, b_100, h_164, o_n]
      congr 2
      funext y
      simp only [rup, shf]
      (repeat' split) <;> first | rfl | (exfalso; omega) | (congr 1; omega)
  refine s100_0_r hn ?_
  rw [b_6, nI_mul]
  refine zr_st ?_ (loop (6 * c - 6 * s) (6 * s) (by omega) (Nat.le_refl _))
  simp (disch := omega) only [hc, nI_sub, Nat.add_sub_cancel, gB, gK, gU, gN, gC, gM, gMK, gD, gL, g_th, g_n, g_ms, g_ls, g_ow, g_sc, uB, uK, uU, uN, uC, uM, uMK, uL, u_ms, u_ls, u_th, u_ow, kup_same, kup_ne, kup_krow2, krow_same, krow_ne, c_0, c_1, c_2, c_3, c_4, c_5, b_6, b_8, b_10, b_12, b_14, b_15, b_16, b_17, b_18, b_19, b_20, b_24, b_30, b_44, b_63, b_100, h_164, o_n]
  congr 1
  funext x y
  simp only [kup, krow, shf]
  by_cases h1 : x = 11
  · rw [if_neg (by omega), if_pos h1, if_neg (by omega), h1]
  · rw [if_neg h1]
def UpOk (β : Ks) (t : Nat) : Prop := β 10 t = 0 ∨ β 10 t = 1
theorem dn_t (h : β 10 t = 0) : zcnd .ne (St n α β th ow sc 40 t) 0 = true := by
  rw [gD, h]
  rfl
theorem dn_f (h : UpOk β t) (h2 : ¬ β 10 t = 0) : zcnd .ne (St n α β th ow sc 40 t) 0 = false := by
  rw [gD, h.resolve_left h2]
  rfl
theorem dq_t (h : β 10 t = 0) : zcnd .eq (St n α β th ow sc 40 t) 0 = false := by
  rw [gD, h]
  rfl
theorem dq_f (h : UpOk β t) (h2 : ¬ β 10 t = 0) : zcnd .eq (St n α β th ow sc 40 t) 0 = true := by
  rw [gD, h.resolve_left h2]
  rfl
theorem m_isTill_t (hn : 2 ≤ n ∧ n ≤ 5) (ht : t < n) : ZR 119 0 [.val (.ref (kad n (22, 0, 0))), .val (.int (nI t))] [] (khp n L (St n α β th ow sc) g) cl (.inl (some (.int (Int32.ofInt 1))), khp n L (St n α β th ow sc) g, cl) := s119_0_ff hn (by simp (disch := omega) only [gB, gK, gU, gN, gC, gM, gMK, gD, gL, g_th, g_n, g_ms, g_ls, g_ow, g_sc, uB, uK, uU, uN, uC, uM, uMK, uL, u_ms, u_ls, u_th, u_ow, kup_same, kup_ne, kup_krow2, krow_same, krow_ne, c_0, c_1, c_2, c_3, c_4, c_5, b_6, b_8, b_10, b_12, b_14, b_15, b_16, b_17, b_18, b_19, b_20, b_24, b_30, b_44, b_63, b_100, h_164, o_n, c_z, nI_add, nI_mul, zc_ge, zc_lt, zc_gt, zc_le, zc_eq, zc_ne, decide_eq_true_eq, decide_eq_false_iff_not] <;> omega) (by simp (disch := omega) only [gB, gK, gU, gN, gC, gM, gMK, gD, gL, g_th, g_n, g_ms, g_ls, g_ow, g_sc, uB, uK, uU, uN, uC, uM, uMK, uL, u_ms, u_ls, u_th, u_ow, kup_same, kup_ne, kup_krow2, krow_same, krow_ne, c_0, c_1, c_2, c_3, c_4, c_5, b_6, b_8, b_10, b_12, b_14, b_15, b_16, b_17, b_18, b_19, b_20, b_24, b_30, b_44, b_63, b_100, h_164, o_n, c_z, nI_add, nI_mul, zc_ge, zc_lt, zc_gt, zc_le, zc_eq, zc_ne, decide_eq_true_eq, decide_eq_false_iff_not] <;> omega)
theorem m_isTill_f (hn : 2 ≤ n ∧ n ≤ 5) (hp : ¬ okT n p) : ZR 119 0 [.val (.ref (kad n (22, 0, 0))), .val (.int p)] [] (khp n L (St n α β th ow sc) g) cl (.inl (some (.int (Int32.ofInt 0))), khp n L (St n α β th ow sc) g, cl) := by
  have hp := okN_not (by omega) hp
  by_cases h : p < 0
  · exact s119_0_t hn (by simp [zcnd, h])
  · exact s119_0_ft hn (by simp only [zcnd, h, decide_false]) (by rw [g_n]; simp only [zcnd, decide_eq_true_eq]; exact hp.resolve_left h)
theorem m_isArticle_t (hn : 2 ≤ n ∧ n ≤ 5) (ha : a < 4) : ZR 114 0 [.val (.int (nI a))] [] (khp n L (St n α β th ow sc) g) cl (.inl (some (.int (Int32.ofInt 1))), khp n L (St n α β th ow sc) g, cl) := s114_0_ff hn (by simp (disch := omega) only [gB, gK, gU, gN, gC, gM, gMK, gD, gL, g_th, g_n, g_ms, g_ls, g_ow, g_sc, uB, uK, uU, uN, uC, uM, uMK, uL, u_ms, u_ls, u_th, u_ow, kup_same, kup_ne, kup_krow2, krow_same, krow_ne, c_0, c_1, c_2, c_3, c_4, c_5, b_6, b_8, b_10, b_12, b_14, b_15, b_16, b_17, b_18, b_19, b_20, b_24, b_30, b_44, b_63, b_100, h_164, o_n, c_z, nI_add, nI_mul, zc_ge, zc_lt, zc_gt, zc_le, zc_eq, zc_ne, decide_eq_true_eq, decide_eq_false_iff_not] <;> omega) (by simp (disch := omega) only [gB, gK, gU, gN, gC, gM, gMK, gD, gL, g_th, g_n, g_ms, g_ls, g_ow, g_sc, uB, uK, uU, uN, uC, uM, uMK, uL, u_ms, u_ls, u_th, u_ow, kup_same, kup_ne, kup_krow2, krow_same, krow_ne, c_0, c_1, c_2, c_3, c_4, c_5, b_6, b_8, b_10, b_12, b_14, b_15, b_16, b_17, b_18, b_19, b_20, b_24, b_30, b_44, b_63, b_100, h_164, o_n, c_z, nI_add, nI_mul, zc_ge, zc_lt, zc_gt, zc_le, zc_eq, zc_ne, decide_eq_true_eq, decide_eq_false_iff_not] <;> omega)
theorem m_isArticle_f (hn : 2 ≤ n ∧ n ≤ 5) (hp : ¬ okA p) : ZR 114 0 [.val (.int p)] [] (khp n L (St n α β th ow sc) g) cl (.inl (some (.int (Int32.ofInt 0))), khp n L (St n α β th ow sc) g, cl) := by
  have hp := okN_not (by omega) hp
  by_cases h : p < 0
  · exact s114_0_t hn (by simp [zcnd, h])
  · exact s114_0_ft hn (by simp only [zcnd, h, decide_false]) (by rw [c_4]; simp only [zcnd, decide_eq_true_eq]; exact hp.resolve_left h)
theorem m_isUnits_t (hn : 2 ≤ n ∧ n ≤ 5) (hu : okU u) : ZR 115 0 [.val (.int u)] [] (khp n L (St n α β th ow sc) g) cl (.inl (some (.int (Int32.ofInt 1))), khp n L (St n α β th ow sc) g, cl) := by
  exact s115_0_ff hn (by simp only [zcnd, hu.1, decide_false]) (zc_gtf hu.2)
theorem m_isUnits_f (hn : 2 ≤ n ∧ n ≤ 5) (hu : ¬ okU u) : ZR 115 0 [.val (.int u)] [] (khp n L (St n α β th ow sc) g) cl (.inl (some (.int (Int32.ofInt 0))), khp n L (St n α β th ow sc) g, cl) := by
  by_cases h : u < Int32.ofInt 1
  · exact s115_0_t hn (by simp only [zcnd, h, decide_true])
  · have h2 : ¬ u ≤ Int32.ofNat 1000000 := fun q => hu ⟨h, q⟩
    exact s115_0_ft hn (by simp only [zcnd, h, decide_false]) (zc_gtt h2)
theorem m_areThese_t (hn : 2 ≤ n ∧ n ≤ 5) (ht : t < n) (ha : a < 4) (hu : okU u) : ZR 118 0 [.val (.ref (kad n (22, 0, 0))), .val (.int (nI t)), .val (.int (nI a)), .val (.int u)] [] (khp n L (St n α β th ow sc) g) cl (.inl (some (.int (Int32.ofInt 1))), khp n L (St n α β th ow sc) g, cl) := s118_0_fff hn (m_isTill_t hn ht) rfl (m_isArticle_t hn ha) rfl (m_isUnits_t hn hu) rfl
theorem m_areThese_f (hn : 2 ≤ n ∧ n ≤ 5) (h : ¬ (okT n p ∧ okA q ∧ okU u)) : ZR 118 0 [.val (.ref (kad n (22, 0, 0))), .val (.int p), .val (.int q), .val (.int u)] [] (khp n L (St n α β th ow sc) g) cl (.inl (some (.int (Int32.ofInt 0))), khp n L (St n α β th ow sc) g, cl) := by
  by_cases h1 : okT n p
  · obtain ⟨t, ht, rfl⟩ := h1
    by_cases h2 : okA q
    · obtain ⟨a, ha, rfl⟩ := h2
      by_cases h3 : okU u
      · exact absurd ⟨⟨t, ht, rfl⟩, ⟨a, ha, rfl⟩, h3⟩ h
      · exact s118_0_fft hn (m_isTill_t hn ht) rfl (m_isArticle_t hn ha) rfl (m_isUnits_f hn h3) rfl
    · exact s118_0_ft hn (m_isTill_t hn ht) rfl (m_isArticle_f hn h2) rfl
  · exact s118_0_t hn (m_isTill_f hn h1) rfl
theorem m_isSeen (hn : 2 ≤ n ∧ n ≤ 5) (ht : t < n) (ho : o < n) {m f x : Nat} (hm : β t (44 + 24 * o + 15) = nI m) (hf : β t (44 + 24 * o + 14) = nI f) (hm2 : m < 2 ^ 16) (hf2 : f < 2 ^ 30) (hx2 : x < 2 ^ 30) : ZR 102 0 [.val (.ref (kad n (22, 0, 0))), .val (.int (nI t)), .val (.int (nI o)), .val (.int (nI x)), .unset, .unset] [] (khp n L (St n α β th ow sc) g) cl (.inl (some (.int (if seen m f x = true then Int32.ofInt 1 else Int32.ofInt 0))), khp n L (St n α β th ow sc) g, cl) := by
  unfold seen
  have z2 : zix (nI (164 * t + (44 + 24 * o)) + (Int8.ofInt 14).toInt32) 820 = some (164 * t + (44 + 24 * o + 14)) := (zx (by simp (disch := omega) only [gB, gK, gU, gN, gC, gM, gMK, gD, gL, g_th, g_n, g_ms, g_ls, g_ow, g_sc, uB, uK, uU, uN, uC, uM, uMK, uL, u_ms, u_ls, u_th, u_ow, kup_same, kup_ne, kup_krow2, krow_same, krow_ne, c_0, c_1, c_2, c_3, c_4, c_5, b_6, b_8, b_10, b_12, b_14, b_15, b_16, b_17, b_18, b_19, b_20, b_24, b_30, b_44, b_63, b_100, h_164, o_n, c_z, nI_add, nI_mul] <;> first | rfl | (congr 1; omega)) (by omega) (by omega))
  have z5 : zix (nI (164 * t + (44 + 24 * o)) + (Int8.ofInt 15).toInt32) 820 = some (164 * t + (44 + 24 * o + 15)) := (zx (by simp (disch := omega) only [gB, gK, gU, gN, gC, gM, gMK, gD, gL, g_th, g_n, g_ms, g_ls, g_ow, g_sc, uB, uK, uU, uN, uC, uM, uMK, uL, u_ms, u_ls, u_th, u_ow, kup_same, kup_ne, kup_krow2, krow_same, krow_ne, c_0, c_1, c_2, c_3, c_4, c_5, b_6, b_8, b_10, b_12, b_14, b_15, b_16, b_17, b_18, b_19, b_20, b_24, b_30, b_44, b_63, b_100, h_164, o_n, c_z, nI_add, nI_mul] <;> first | rfl | (congr 1; omega)) (by omega) (by omega))
  have eF : St n α β th ow sc (20 + (164 * t + (44 + 24 * o + 14)) / 164) ((164 * t + (44 + 24 * o + 14)) % 164) = nI f := by rw [gM (by omega) (by omega) (by omega), hf]
  have eM : St n α β th ow sc (20 + (164 * t + (44 + 24 * o + 15)) / 164) ((164 * t + (44 + 24 * o + 15)) % 164) = nI m := by rw [gM (by omega) (by omega) (by omega), hm]
  by_cases h1 : x < f
  · rw [if_pos (by simp [h1])]
    exact s102_0_t hn (m_other hn t o) z2 (by rw [eF, zs_lt (by omega) (by omega)]; simp [h1])
  · by_cases h2 : x - f < 16
    · by_cases h3 : m / 2 ^ (x - f) % 2 = 1
      · rw [if_pos (by simp [h2, h3])]
        exact s102_0_fff hn (m_other hn t o) z2 (by rw [eF, zs_lt (by omega) (by omega)]; simp [h1]) (by rw [eF, nI_sub (by omega), b_16, zc_ge (by omega) (by omega)]; simp; omega) z5 (by rw [eF, eM, nI_sub (by omega), nI_sshr (by omega) (by omega), nI_and1, h3]; rfl)
      · rw [if_neg (by simp [h1, h3])]
        have h4 : m / 2 ^ (x - f) % 2 = 0 := by omega
        exact s102_0_fft hn (m_other hn t o) z2 (by rw [eF, zs_lt (by omega) (by omega)]; simp [h1]) (by rw [eF, nI_sub (by omega), b_16, zc_ge (by omega) (by omega)]; simp; omega) z5 (by rw [eF, eM, nI_sub (by omega), nI_sshr (by omega) (by omega), nI_and1, h4]; rfl)
    · rw [if_neg (by simp [h1, h2])]
      exact s102_0_ft hn (m_other hn t o) z2 (by rw [eF, zs_lt (by omega) (by omega)]; simp [h1]) (by rw [eF, nI_sub (by omega), b_16, zc_ge (by omega) (by omega)]; simp; omega)
theorem m_see (hn : 2 ≤ n ∧ n ≤ 5) (ht : t < n) (ho : o < n) {m f x : Nat} (hm : β t (44 + 24 * o + 15) = nI m) (hf : β t (44 + 24 * o + 14) = nI f) (hm2 : m < 2 ^ 16) (hf2 : f < 2 ^ 30) (hx : f ≤ x) (hx2 : x < f + 16) : ZR 103 0 [.val (.ref (kad n (22, 0, 0))), .val (.int (nI t)), .val (.int (nI o)), .val (.int (nI x)), .unset, .unset] [] (khp n L (St n α β th ow sc) g) cl (.inl none, khp n L (St n α (aMark β t o x) th ow sc) g, false) := by
  have z2 : zix (nI (164 * t + (44 + 24 * o)) + (Int8.ofInt 14).toInt32) 820 = some (164 * t + (44 + 24 * o + 14)) := (zx (by simp (disch := omega) only [gB, gK, gU, gN, gC, gM, gMK, gD, gL, g_th, g_n, g_ms, g_ls, g_ow, g_sc, uB, uK, uU, uN, uC, uM, uMK, uL, u_ms, u_ls, u_th, u_ow, kup_same, kup_ne, kup_krow2, krow_same, krow_ne, c_0, c_1, c_2, c_3, c_4, c_5, b_6, b_8, b_10, b_12, b_14, b_15, b_16, b_17, b_18, b_19, b_20, b_24, b_30, b_44, b_63, b_100, h_164, o_n, c_z, nI_add, nI_mul] <;> first | rfl | (congr 1; omega)) (by omega) (by omega))
  have z5 : zix (nI (164 * t + (44 + 24 * o)) + (Int8.ofInt 15).toInt32) 820 = some (164 * t + (44 + 24 * o + 15)) := (zx (by simp (disch := omega) only [gB, gK, gU, gN, gC, gM, gMK, gD, gL, g_th, g_n, g_ms, g_ls, g_ow, g_sc, uB, uK, uU, uN, uC, uM, uMK, uL, u_ms, u_ls, u_th, u_ow, kup_same, kup_ne, kup_krow2, krow_same, krow_ne, c_0, c_1, c_2, c_3, c_4, c_5, b_6, b_8, b_10, b_12, b_14, b_15, b_16, b_17, b_18, b_19, b_20, b_24, b_30, b_44, b_63, b_100, h_164, o_n, c_z, nI_add, nI_mul] <;> first | rfl | (congr 1; omega)) (by omega) (by omega))
  have loop : ∀ k m f w, m < 2 ^ k → k ≤ 16 → ZR 103 46 [.val (.ref (kad n (22, 0, 0))), .val (.int (nI t)), .val (.int (nI o)), .val (.int (nI x)), .val (.int (nI (164 * t + (44 + 24 * o)))), .val (.int w)] [] (khp n L (St n α (aBits β t o m f) th ow sc) g) false (.inl none, khp n L (St n α (aBits β t o (slide k m f).1 (slide k m f).2) th ow sc) g, false) := by
    intro k
    induction k with
    | zero =>
      intro m f w hm hk
      have hm0 : m = 0 := by omega
      subst hm0
      exact s103_46_t hn z5 (by rw [gM (by omega) (by omega) (by omega), aBits_bits]; rfl)
    | succ k ih =>
      intro m f w hm hk
      have hp : 2 ^ (k + 1) ≤ 2 ^ 16 := Nat.pow_le_pow_right (by omega) hk
      unfold slide
      have e1 : zcnd .ne (St n α (aBits β t o m f) th ow sc (20 + (164 * t + (44 + 24 * o + 15)) / 164) ((164 * t + (44 + 24 * o + 15)) % 164) &&& Int32.ofInt 1) (Int32.ofInt 1) = decide (¬ m % 2 = 1) := by
        rw [gM (by omega) (by omega) (by omega), aBits_bits, nI_and1, c_1, zc_ne (by omega) (by omega)]
      by_cases h : m % 2 = 1
      · rw [if_pos h]
        refine s103_46_f hn z5 (by rw [e1]; simp [h]) z2 ?_
        have hm3 : m / 2 < 2 ^ k := by
          rw [Nat.pow_succ] at hm
          omega
        refine zr_st ?_ (ih (m / 2) (f + 1) w hm3 (by omega))
        rw [gM (by omega) (by omega) (by omega), aBits_bits, c_1, nI_sshr (by omega) (by decide), uM (by omega) (by omega) (by omega), gM (by omega) (by omega) (by omega), uM (by omega) (by omega) (by omega), kup_ne (by omega), aBits_floor, nI_add, aBits_up]
      · rw [if_neg h]
        exact s103_46_t hn z5 (by rw [e1]; simp [h])
  refine s103_0_r hn (m_other hn t o) z2 z5 ?_
  unfold aMark cn
  rw [hm, hf, nI_clamp (by omega), nI_clamp (by omega)]
  have hlt : m ||| 2 ^ (x - f) < 2 ^ 16 := Nat.or_lt_two_pow hm2 (Nat.pow_lt_pow_right (by omega) (by omega))
  refine zr_st ?_ (loop 16 (m ||| 2 ^ (x - f)) f _ (by omega) (by omega))
  rw [gM (by omega) (by omega) (by omega), gM (by omega) (by omega) (by omega), hm, hf, nI_sub hx, nI_shl1 _ (by omega), nI_or, uM (by omega) (by omega) (by omega)]
  congr 1
  unfold aBits
  funext a b
  simp only [kup]
  by_cases h : a = t ∧ b = 44 + 24 * o + 14
  · rw [if_pos h, if_neg (by omega), h.1, h.2, hf]
  · rw [if_neg h]
end MB
