/-- the i-th reservation over: its units back into the share, it itself out, c are left -/
def aRem (α : Ks) (t i c : Nat) : Ks :=
  krow α t (remR (kup α t (cn (α t (20 + 4 * i + 1))) (α t (cn (α t (20 + 4 * i + 1))) + α t (20 + 4 * i + 2)) t) i c)
def aRel (t : Nat) : Nat → Nat → Ks → Ks × Nat
  | 0, i, α => (α, i)
  | k + 1, i, α => if α t (20 + 4 * i + 3) ≤ α t 16 then aRel t k i (aRem α t i (i + k)) else aRel t k (i + 1) α
/-- a record's reservations: c of them, articles in range -/
def ResOk (α : Ks) (t c : Nat) : Prop := α t 19 = nI c ∧ c ≤ 6 ∧ ∀ i, i < c → ∃ a, a < 4 ∧ α t (20 + 4 * i + 1) = nI a
theorem krow_kup {α : Ks} {t y : Nat} {v : Int32} {R : Nat → Int32} : krow (kup α t y v) t R = krow α t R := by
  funext a b
  simp only [krow, kup]
  by_cases h : a = t
  · rw [if_pos h, if_pos h]
  · rw [if_neg h, if_neg h, if_neg (fun q => h q.1)]
theorem aRem_other {α : Ks} {t i c r y : Nat} (h : r ≠ t) : aRem α t i c r y = α r y := by
  unfold aRem
  rw [krow_ne h]
theorem aRem_high {α : Ks} {t i c y : Nat} (hi : i ≤ c) (hc : c ≤ 6) (ha : cn (α t (20 + 4 * i + 1)) < 4) (h : 44 ≤ y ∨ 4 ≤ y ∧ y < 19) : aRem α t i c t y = α t y := by
  unfold aRem
  rw [krow_same]
  simp only [remR, rup, shf]
  rw [if_neg (by omega), if_neg (by omega), kup_ne (by omega)]
theorem ResOk_rem {α : Ks} {t i c : Nat} (h : ResOk α t (c + 1)) (hi : i ≤ c) : ResOk (aRem α t i c) t c := by
  obtain ⟨h1, h2, h3⟩ := h
  obtain ⟨a, ha, hae⟩ := h3 i (by omega)
  have hcn : cn (α t (20 + 4 * i + 1)) < 4 := by rw [hae]; unfold cn; rw [nI_clamp (by omega)]; exact ha
  refine ⟨?_, by omega, ?_⟩
  · unfold aRem
    rw [krow_same]
    simp only [remR, rup, if_true]
  · intro j hj
    unfold aRem
    rw [krow_same]
    simp only [remR, rup, shf]
    rw [if_neg (by omega)]
    by_cases hji : i ≤ j
    · rw [if_pos (by omega), kup_ne (by omega)]
      obtain ⟨b, hb, hbe⟩ := h3 (j + 1) (by omega)
      exact ⟨b, hb, by rw [← hbe]; congr 1⟩
    · rw [if_neg (by omega), kup_ne (by omega)]
      exact h3 j (by omega)
theorem ResOk_rel {t : Nat} : ∀ {k i : Nat} {α : Ks}, ResOk α t (i + k) → ResOk (aRel t k i α).1 t (aRel t k i α).2 ∧ i ≤ (aRel t k i α).2 ∧ (aRel t k i α).2 ≤ i + k
  | 0, i, α, h => ⟨h, Nat.le_refl _, Nat.le_refl _⟩
  | k + 1, i, α, h => by
    unfold aRel
    split
    · obtain ⟨h1, h2, h3⟩ := ResOk_rel (k := k) (i := i) (ResOk_rem (i := i) (c := i + k) h (by omega))
      exact ⟨h1, h2, by omega⟩
    · obtain ⟨h1, h2, h3⟩ := ResOk_rel (k := k) (i := i + 1) (α := α) (by rw [show i + 1 + k = i + (k + 1) by omega]; exact h)
      exact ⟨h1, by omega, by omega⟩
theorem aRel_high {t y : Nat} (h : 44 ≤ y ∨ 4 ≤ y ∧ y < 19) : ∀ {k i : Nat} {α : Ks}, ResOk α t (i + k) → (aRel t k i α).1 t y = α t y
  | 0, i, α, _ => rfl
  | k + 1, i, α, hr => by
    unfold aRel
    obtain ⟨h1, h2, h3⟩ := hr
    obtain ⟨a, ha, hae⟩ := h3 i (by omega)
    have hcn : cn (α t (20 + 4 * i + 1)) < 4 := by rw [hae]; unfold cn; rw [nI_clamp (by omega)]; exact ha
    split
    · rw [aRel_high h (ResOk_rem (c := i + k) ⟨h1, h2, h3⟩ (by omega))]
      exact aRem_high (by omega) (by omega) hcn h
    · exact aRel_high h (by rw [show i + 1 + k = i + (k + 1) by omega]; exact ⟨h1, h2, h3⟩)
theorem aRel_other {t r y : Nat} (h : r ≠ t) : ∀ {k i : Nat} {α : Ks}, (aRel t k i α).1 r y = α r y
  | 0, i, α => rfl
  | k + 1, i, α => by
    unfold aRel
    split
    · rw [aRel_other h, aRem_other h]
    · exact aRel_other h
/-- t's c open vouchers to o sent again -/
def aSendO (t o : Nat) : Nat → Nat → Ks → Ks
  | 0, _, α => α
  | k + 1, i, α => aSendO t o k (i + 1) (aSend α (nI 0) (nI t) (nI o) (α t (44 + 24 * o + 2 + 3 * i)) (α t (44 + 24 * o + 2 + 3 * i + 1)) (α t (44 + 24 * o + 2 + 3 * i + 2)))
def aSendA (t : Nat) : Nat → Nat → Ks → Ks
  | 0, _, α => α
  | k + 1, o, α => aSendA t k (o + 1) (aSendO t o (cn (α t (44 + 24 * o + 1))) 0 α)
def aNews (n : Nat) (α : Ks) (t : Nat) : Ks :=
  if cn (α t 16) % n = t then α else
  kup (aSend α (nI 2) (nI t) (nI (cn (α t 16) % n)) (nI (cn (α t 16) / n % 4)) (α t (cn (α t 16) / n % 4)) (α t 18)) t 18 (α t 18 + nI 1)
def aPass (n : Nat) (α : Ks) (t c : Nat) : Ks := aNews n (aSendA t n 0 (aRel t c 0 (kup α t 16 (α t 16 + nI 1))).1) t
theorem aSend_row {α : Ks} {k f to x y z : Int32} {r s : Nat} (h : r ≠ 11 ∧ r ≠ 12) : aSend α k f to x y z r s = α r s := by
  unfold aSend
  try dsimp only
  split
  · rw [kup_ne (by omega), kup_ne (by omega), kup_ne (by omega), kup_ne (by omega), kup_ne (by omega), kup_ne (by omega), kup_ne (by omega)]
  · rw [kup_ne (by omega)]
def CntOk (α : Ks) : Prop := ∃ c, α 12 0 = nI c ∧ c ≤ 24
theorem CntOk_send {α : Ks} {k f to x y z : Int32} (h : CntOk α) : CntOk (aSend α k f to x y z) := by
  obtain ⟨c, h1, h2⟩ := h
  unfold aSend CntOk
  try dsimp only
  rw [h1, nI_clamp (by omega)]
  by_cases hc : c < 24
  · rw [if_pos hc, kup_same]
    exact ⟨c + 1, rfl, by omega⟩
  · rw [if_neg hc, kup_ne (by omega)]
    exact ⟨c, h1, h2⟩
theorem aSendO_row {t o r s : Nat} (h : r ≠ 11 ∧ r ≠ 12) : ∀ {k i : Nat} {α : Ks}, aSendO t o k i α r s = α r s
  | 0, i, α => rfl
  | k + 1, i, α => by
    unfold aSendO
    rw [aSendO_row h, aSend_row h]
theorem CntOk_sendO {t o : Nat} : ∀ {k i : Nat} {α : Ks}, CntOk α → CntOk (aSendO t o k i α)
  | 0, i, α, h => h
  | k + 1, i, α, h => by
    unfold aSendO
    exact CntOk_sendO (CntOk_send h)
theorem aSendA_row {t r s : Nat} (h : r ≠ 11 ∧ r ≠ 12) : ∀ {k i : Nat} {α : Ks}, aSendA t k i α r s = α r s
  | 0, i, α => rfl
  | k + 1, i, α => by
    unfold aSendA
    rw [aSendA_row h, aSendO_row h]
theorem CntOk_sendA {t : Nat} : ∀ {k i : Nat} {α : Ks}, CntOk α → CntOk (aSendA t k i α)
  | 0, i, α, h => h
  | k + 1, i, α, h => by
    unfold aSendA
    exact CntOk_sendA (CntOk_sendO h)
section CTICK
variable {n L : Nat} {α β : Ks} {th ow : Int32} {sc : Nat → Int32} {g : List Nat} {cl : Bool} {t o c a : Nat} {p q u : Int32}
theorem c_releaseEnded (hn : 2 ≤ n ∧ n ≤ 5) (ht : t < n) (hr : ResOk α t c) : ∃ cl', ZR 68 0 [.val (.ref (kad n (3, 2 * t, 0))), .unset, .unset, .unset] [] (khp n L (St n α β th ow sc) g) cl (.inl (some (.int (nI (c - (aRel t c 0 α).2)))), khp n L (St n ((aRel t c 0 α).1) β th ow sc) g, cl') := by
  have loop : ∀ k i α cl, i + k ≤ c → c ≤ 6 → ResOk α t (i + k) → ∃ cl', ZR 68 12 [.val (.ref (kad n (3, 2 * t, 0))), .val (.int (nI c)), .val (.int (nI i)), .val (.int (nI (c - k)))] [] (khp n L (St n α β th ow sc) g) cl (.inl (some (.int (nI (c - (aRel t k i α).2)))), khp n L (St n ((aRel t k i α).1) β th ow sc) g, cl') := by
    intro k
    induction k with
    | zero =>
      intro i α cl hi hc hr
      refine ⟨_, zr_rv rfl ?_ (s68_12_t hn (by omega) (by simp (disch := omega) only [gB, gK, gU, gN, gC, gM, gMK, gD, gL, g_th, g_n, g_ms, g_ls, g_ow, g_sc, uB, uK, uU, uN, uC, uM, uMK, uL, u_ms, u_ls, u_th, u_ow, kup_same, kup_ne, kup_krow2, krow_same, krow_ne, c_0, c_1, c_2, c_3, c_4, c_5, b_6, b_8, b_10, b_12, b_14, b_15, b_16, b_17, b_18, b_19, b_20, b_24, b_30, b_44, b_63, b_100, h_164, o_n, c_z, nI_add, nI_mul, zc_ge, zc_lt, zc_gt, zc_le, zc_eq, zc_ne, decide_eq_true_eq, decide_eq_false_iff_not] <;> omega))⟩
      unfold aRel
      rw [gB (by omega) (by omega), hr.1, Nat.add_zero, nI_sub (by omega)]
    | succ k ih =>
      intro i α cl hi hc hr
      have hr0 := hr
      obtain ⟨h1, h2, h3⟩ := hr
      obtain ⟨a, ha, hae⟩ := h3 i (by omega)
      have hcn : cn (α t (20 + 4 * i + 1)) = a := by rw [hae]; unfold cn; rw [nI_clamp (by omega)]
      have e1 : nI (c - (k + 1)) + Int32.ofInt 1 = nI (c - k) := by
        rw [nI_inc]
        congr 1
        omega
      unfold aRel
      by_cases he : α t (20 + 4 * i + 3) ≤ α t 16
      · rw [if_pos he]
        obtain ⟨cl', hh⟩ := ih i (aRem α t i (i + k)) false (by omega) hc (ResOk_rem hr0 (by omega))
        have hx := c_remove (α := kup α t a (α t a + α t (20 + 4 * i + 2))) (β := β) (th := th) (ow := ow) (sc := sc) (g := g) (L := L) (cl := true) (c := i + k) (i := i) hn ht (by rw [kup_ne (by omega)]; exact h1) (by omega) (by omega)
        rw [krow_kup] at hx
        refine ⟨cl', s68_12_ft (x2 := i) (x4 := a) (σ5 := St n (aRem α t i (i + k)) β th ow sc) (c5 := false) hn (by omega) (by simp (disch := omega) only [gB, gK, gU, gN, gC, gM, gMK, gD, gL, g_th, g_n, g_ms, g_ls, g_ow, g_sc, uB, uK, uU, uN, uC, uM, uMK, uL, u_ms, u_ls, u_th, u_ow, kup_same, kup_ne, kup_krow2, krow_same, krow_ne, c_0, c_1, c_2, c_3, c_4, c_5, b_6, b_8, b_10, b_12, b_14, b_15, b_16, b_17, b_18, b_19, b_20, b_24, b_30, b_44, b_63, b_100, h_164, o_n, c_z, nI_add, nI_mul, zc_ge, zc_lt, zc_gt, zc_le, zc_eq, zc_ne, decide_eq_true_eq, decide_eq_false_iff_not] <;> omega) (zix_nI (by omega) (by omega)) (by rw [gB (by omega) (by omega), gB (by omega) (by omega)]; simp only [zcnd, he, decide_true]) (by rw [gB (by omega) (by omega), hae]; exact zix_nI ha (by omega)) ?_ ?_⟩
        · unfold aRem
          rw [hcn]
          simp (disch := omega) only [gB, gK, gU, gN, gC, gM, gMK, gD, gL, g_th, g_n, g_ms, g_ls, g_ow, g_sc, uB, uK, uU, uN, uC, uM, uMK, uL, u_ms, u_ls, u_th, u_ow, kup_same, kup_ne, kup_krow2, krow_same, krow_ne, c_0, c_1, c_2, c_3, c_4, c_5, b_6, b_8, b_10, b_12, b_14, b_15, b_16, b_17, b_18, b_19, b_20, b_24, b_30, b_44, b_63, b_100, h_164, o_n]
          exact hx
        · rw [e1]
          exact hh
      · rw [if_neg he]
        obtain ⟨cl', hh⟩ := ih (i + 1) α cl (by omega) hc (by rw [show i + 1 + k = i + (k + 1) by omega]; exact hr0)
        refine ⟨cl', s68_12_ff (x2 := i) hn (by omega) (by simp (disch := omega) only [gB, gK, gU, gN, gC, gM, gMK, gD, gL, g_th, g_n, g_ms, g_ls, g_ow, g_sc, uB, uK, uU, uN, uC, uM, uMK, uL, u_ms, u_ls, u_th, u_ow, kup_same, kup_ne, kup_krow2, krow_same, krow_ne, c_0, c_1, c_2, c_3, c_4, c_5, b_6, b_8, b_10, b_12, b_14, b_15, b_16, b_17, b_18, b_19, b_20, b_24, b_30, b_44, b_63, b_100, h_164, o_n, c_z, nI_add, nI_mul, zc_ge, zc_lt, zc_gt, zc_le, zc_eq, zc_ne, decide_eq_true_eq, decide_eq_false_iff_not] <;> omega) (zix_nI (by omega) (by omega)) (by rw [gB (by omega) (by omega), gB (by omega) (by omega)]; simp only [zcnd, he, decide_false]) ?_⟩
        rw [e1, nI_inc]
        exact hh
  obtain ⟨cl', hh⟩ := loop c 0 α cl (by omega) hr.2.1 (by rw [Nat.zero_add]; exact hr)
  refine ⟨cl', s68_0_r hn (by omega) ?_⟩
  rw [gB (by omega) (by omega), hr.1]
  rw [Nat.sub_self] at hh
  exact hh
theorem c_sendOpenAgain (hn : 2 ≤ n ∧ n ≤ 5) (ht : t < n) (hk : CntOk α) (ho : ∀ o, o < n → ∃ c, α t (44 + 24 * o + 1) = nI c ∧ c ≤ 4) : ∃ cl', ZR 69 0 [.val (.ref (kad n (0, 0, 0))), .val (.int (nI t)), .unset, .unset, .unset] [] (khp n L (St n α β th ow sc) g) cl (.inl none, khp n L (St n (aSendA t n 0 α) β th ow sc) g, cl') := by
  have inner : ∀ k i o α cl hf, o < n → i + k ≤ 4 → α t (44 + 24 * o + 1) = nI (i + k) → CntOk α →
      (∀ cl' v, ∃ c2, ZR 69 2 [.val (.ref (kad n (0, 0, 0))), .val (.int (nI t)), .val (.int (nI (o + 1))), .val (.ref (kad n (14, 2 * t, o))), .val (.int v)] [] (khp n L (St n (aSendO t o k i α) β th ow sc) g) cl' (.inl none, hf, c2)) →
      ∃ c2, ZR 69 29 [.val (.ref (kad n (0, 0, 0))), .val (.int (nI t)), .val (.int (nI o)), .val (.ref (kad n (14, 2 * t, o))), .val (.int (nI i))] [] (khp n L (St n α β th ow sc) g) cl (.inl none, hf, c2) := by
    intro k
    induction k with
    | zero =>
      intro i o α cl hf ho hi hc hk hh
      obtain ⟨c2, h2⟩ := hh cl (nI i)
      refine ⟨c2, s69_29_t hn (by omega) ho (by simp (disch := omega) only [hc, gB, gK, gU, gN, gC, gM, gMK, gD, gL, g_th, g_n, g_ms, g_ls, g_ow, g_sc, uB, uK, uU, uN, uC, uM, uMK, uL, u_ms, u_ls, u_th, u_ow, kup_same, kup_ne, kup_krow2, krow_same, krow_ne, c_0, c_1, c_2, c_3, c_4, c_5, b_6, b_8, b_10, b_12, b_14, b_15, b_16, b_17, b_18, b_19, b_20, b_24, b_30, b_44, b_63, b_100, h_164, o_n, c_z, nI_add, nI_mul, zc_ge, zc_lt, zc_gt, zc_le, zc_eq, zc_ne, decide_eq_true_eq, decide_eq_false_iff_not] <;> omega) ?_⟩
      rw [nI_inc]
      exact h2
    | succ k ih =>
      intro i o α cl hf ho hi hc hk hh
      obtain ⟨c, hc1, hc2⟩ := hk
      obtain ⟨c2, h2⟩ := ih (i + 1) o (aSend α (nI 0) (nI t) (nI o) (α t (44 + 24 * o + 2 + 3 * i)) (α t (44 + 24 * o + 2 + 3 * i + 1)) (α t (44 + 24 * o + 2 + 3 * i + 2))) (cl && false) hf ho (by omega) (by rw [aSend_row (by omega), hc]; congr 1; omega) (CntOk_send ⟨c, hc1, hc2⟩) hh
      refine ⟨c2, s69_29_f (x2 := i) (c3 := false) (σ3 := St n (aSend α (nI 0) (nI t) (nI o) (α t (44 + 24 * o + 2 + 3 * i)) (α t (44 + 24 * o + 2 + 3 * i + 1)) (α t (44 + 24 * o + 2 + 3 * i + 2))) β th ow sc) hn (by omega) ho (by simp (disch := omega) only [hc, gB, gK, gU, gN, gC, gM, gMK, gD, gL, g_th, g_n, g_ms, g_ls, g_ow, g_sc, uB, uK, uU, uN, uC, uM, uMK, uL, u_ms, u_ls, u_th, u_ow, kup_same, kup_ne, kup_krow2, krow_same, krow_ne, c_0, c_1, c_2, c_3, c_4, c_5, b_6, b_8, b_10, b_12, b_14, b_15, b_16, b_17, b_18, b_19, b_20, b_24, b_30, b_44, b_63, b_100, h_164, o_n, c_z, nI_add, nI_mul, zc_ge, zc_lt, zc_gt, zc_le, zc_eq, zc_ne, decide_eq_true_eq, decide_eq_false_iff_not] <;> omega) (zix_nI (by omega) (by omega)) ?_ ?_⟩
      · simp (disch := omega) only [gB]
        exact c_send hn hc1 hc2 _ _ _ _ _ _
      · rw [nI_inc]
        exact h2
  have outer : ∀ k o α cl w3 w4, o + k = n → CntOk α → (∀ o, o < n → ∃ c, α t (44 + 24 * o + 1) = nI c ∧ c ≤ 4) → ∃ cl', ZR 69 2 [.val (.ref (kad n (0, 0, 0))), .val (.int (nI t)), .val (.int (nI o)), zopr w3, zop w4] [] (khp n L (St n α β th ow sc) g) cl (.inl none, khp n L (St n (aSendA t k o α) β th ow sc) g, cl') := by
    intro k
    induction k with
    | zero =>
      intro o α cl w3 w4 ho hk hq
      exact ⟨_, s69_2_t hn (by simp (disch := omega) only [gB, gK, gU, gN, gC, gM, gMK, gD, gL, g_th, g_n, g_ms, g_ls, g_ow, g_sc, uB, uK, uU, uN, uC, uM, uMK, uL, u_ms, u_ls, u_th, u_ow, kup_same, kup_ne, kup_krow2, krow_same, krow_ne, c_0, c_1, c_2, c_3, c_4, c_5, b_6, b_8, b_10, b_12, b_14, b_15, b_16, b_17, b_18, b_19, b_20, b_24, b_30, b_44, b_63, b_100, h_164, o_n, c_z, nI_add, nI_mul, zc_ge, zc_lt, zc_gt, zc_le, zc_eq, zc_ne, decide_eq_true_eq, decide_eq_false_iff_not] <;> omega)⟩
    | succ k ih =>
      intro o α cl w3 w4 ho hk hq
      obtain ⟨c, hc1, hc2⟩ := hq o (by omega)
      unfold aSendA
      rw [hc1]
      unfold cn
      rw [nI_clamp (by omega)]
      have hq' : ∀ o', o' < n → ∃ c', (aSendO t o c 0 α) t (44 + 24 * o' + 1) = nI c' ∧ c' ≤ 4 := by
        intro o' ho'
        rw [aSendO_row (by omega)]
        exact hq o' ho'
      obtain ⟨c2, h2⟩ := inner c 0 o α cl _ (by omega) (by omega) (by rw [Nat.zero_add]; exact hc1) hk (fun cl' v => ih (o + 1) _ cl' (some (kad n (14, 2 * t, o))) (some v) (by omega) (CntOk_sendO hk) hq')
      exact ⟨c2, s69_2_f (x2 := t) (x3 := o) hn (by simp (disch := omega) only [gB, gK, gU, gN, gC, gM, gMK, gD, gL, g_th, g_n, g_ms, g_ls, g_ow, g_sc, uB, uK, uU, uN, uC, uM, uMK, uL, u_ms, u_ls, u_th, u_ow, kup_same, kup_ne, kup_krow2, krow_same, krow_ne, c_0, c_1, c_2, c_3, c_4, c_5, b_6, b_8, b_10, b_12, b_14, b_15, b_16, b_17, b_18, b_19, b_20, b_24, b_30, b_44, b_63, b_100, h_164, o_n, c_z, nI_add, nI_mul, zc_ge, zc_lt, zc_gt, zc_le, zc_eq, zc_ne, decide_eq_true_eq, decide_eq_false_iff_not] <;> omega) (zix_nI ht (by omega)) (zix_nI (by omega) (by omega)) h2⟩
  obtain ⟨c2, h2⟩ := outer n 0 α cl none none (by omega) hk ho
  exact ⟨c2, s69_0_r hn h2⟩
theorem c_floorMod (hn : 2 ≤ n ∧ n ≤ 5) {x m : Nat} (hx : x < 2 ^ 31) (hm : m < 2 ^ 31) (hm0 : 0 < m) : ZR 72 0 [.val (.int (nI x)), .val (.int (nI m)), .unset] [] (khp n L (St n α β th ow sc) g) cl (.inl (some (.int (nI (x % m)))), khp n L (St n α β th ow sc) g, cl) := by
  rw [← nI_rem hx hm]
  exact s72_0_t hn (nI_ne0 hm0 hm) (nI_xor_ge hx hm)
theorem c_sendNews (hn : 2 ≤ n ∧ n ≤ 5) (ht : t < n) (hk : CntOk α) {x : Nat} (hx : α t 16 = nI x) (hx2 : x < 2 ^ 31) : ∃ cl', ZR 71 0 [.val (.ref (kad n (0, 0, 0))), .val (.int (nI t)), .unset, .unset, .unset, .unset] [] (khp n L (St n α β th ow sc) g) cl (.inl none, khp n L (St n (aNews n α t) β th ow sc) g, cl') := by
  unfold aNews cn
  rw [hx, nI_clamp hx2]
  have hmod : x % n < n := Nat.mod_lt _ (by omega)
  have hdiv : x / n ≤ x := Nat.div_le_self _ _
  have h1 : ZR 72 0 [.val (.int (St n α β th ow sc (2 * t) 16)), .val (.int (Int32.ofNat n)), .unset] [] (khp n L (St n α β th ow sc) g) true (.inl (some (.int (nI (x % n)))), khp n L (St n α β th ow sc) g, true) := by
    rw [gB (by omega) (by omega), hx]
    exact c_floorMod hn hx2 (by omega) (by omega)
  by_cases h : x % n = t
  · rw [if_pos h]
    exact ⟨_, s71_0_f (x1 := t) hn (zix_nI ht (by omega)) h1 (by rw [zc_ne (by omega) (by omega)]; simp [h])⟩
  · rw [if_neg h]
    obtain ⟨c, hc1, hc2⟩ := hk
    have h2 : ZR 72 0 [.val (.int (St n α β th ow sc (2 * t) 16 / Int32.ofNat n)), .val (.int (Int32.ofInt 4)), .unset] [] (khp n L (St n α β th ow sc) g) true (.inl (some (.int (nI (x / n % 4)))), khp n L (St n α β th ow sc) g, true) := by
      rw [gB (by omega) (by omega), hx, o_n, nI_div hx2 (by omega), c_4]
      exact c_floorMod (m := 4) hn (by omega) (by omega) (by omega)
    refine ⟨_, zr_rn ?_ (s71_0_t (x1 := t) (x6 := x / n % 4) (σ7 := St n (aSend α (nI 2) (nI t) (nI (x % n)) (nI (x / n % 4)) (α t (x / n % 4)) (α t 18)) β th ow sc) (c7 := false) hn (zix_nI ht (by omega)) h1 (by rw [zc_ne (by omega) (by omega)]; simp [h]) (nI_ne0 (by omega) (by omega)) h2 (zix_nI (by omega) (by omega)) ?_)⟩
    · rw [gB (by omega) (by omega), uB (by omega) (by omega), aSend_row (by omega)]
      rfl
    · rw [gB (by omega) (by omega), gB (by omega) (by omega)]
      exact c_send hn hc1 hc2 _ _ _ _ _ _
theorem c_passTick (hn : 2 ≤ n ∧ n ≤ 5) (ht : t < n) (hk : CntOk α) (hr : ResOk α t c) (ho : ∀ o, o < n → ∃ c, α t (44 + 24 * o + 1) = nI c ∧ c ≤ 4) {x : Nat} (hx : α t 16 = nI x) (hx2 : x + 1 < 2 ^ 31) : ∃ cl', ZR 67 0 [.val (.ref (kad n (0, 0, 0))), .val (.int (nI t)), .unset, .unset] [] (khp n L (St n α β th ow sc) g) cl (.inl (some (.int (nI (c - (aRel t c 0 (kup α t 16 (α t 16 + nI 1))).2)))), khp n L (St n (aPass n α t c) β th ow sc) g, cl') := by
  have hr1 : ResOk (kup α t 16 (α t 16 + nI 1)) t c := by
    obtain ⟨h1, h2, h3⟩ := hr
    refine ⟨by rw [kup_ne (by omega)]; exact h1, h2, ?_⟩
    intro i hi
    rw [kup_ne (by omega)]
    exact h3 i hi
  obtain ⟨c2, h2⟩ := c_releaseEnded (α := kup α t 16 (α t 16 + nI 1)) (β := β) (th := th) (ow := ow) (sc := sc) (g := g) (L := L) (cl := true) hn ht hr1
  have hk1 : CntOk (aRel t c 0 (kup α t 16 (α t 16 + nI 1))).1 := by
    unfold CntOk
    rw [aRel_other (by omega), kup_ne (by omega)]
    exact hk
  obtain ⟨c3, h3⟩ := c_sendOpenAgain (α := (aRel t c 0 (kup α t 16 (α t 16 + nI 1))).1) (β := β) (th := th) (ow := ow) (sc := sc) (g := g) (L := L) (cl := true) hn ht hk1 (by
    intro o hoo
    rw [aRel_high (by omega) (by rw [Nat.zero_add]; exact hr1), kup_ne (by omega)]
    exact ho o hoo)
  obtain ⟨c4, h4⟩ := c_sendNews (α := aSendA t n 0 (aRel t c 0 (kup α t 16 (α t 16 + nI 1))).1) (β := β) (th := th) (ow := ow) (sc := sc) (g := g) (L := L) (cl := true) hn ht (CntOk_sendA hk1) (x := x + 1) (by rw [aSendA_row (by omega), aRel_high (by omega) (by rw [Nat.zero_add]; exact hr1), kup_same, hx, nI_add]) hx2
  refine ⟨_, s67_0_r (x1 := t) (c2 := c2) hn (zix_nI ht (by omega)) ?_ h3 h4⟩
  · rw [gB (by omega) (by omega), uB (by omega) (by omega)]
    exact h2
end CTICK
