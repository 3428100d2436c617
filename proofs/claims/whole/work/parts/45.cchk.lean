def okT (n : Nat) (p : Int32) : Prop := ∃ t, t < n ∧ p = nI t
def okA (p : Int32) : Prop := ∃ a, a < 4 ∧ p = nI a
def okU (p : Int32) : Prop := ¬ p < Int32.ofInt 1 ∧ p ≤ Int32.ofNat 1000000
theorem okN {p : Int32} {m : Nat} (hm : m < 2 ^ 31) : (∃ t, t < m ∧ p = nI t) ∨ (p < 0 ∨ nI m ≤ p) := by
  by_cases h : p < 0
  · exact Or.inr (Or.inl h)
  · obtain ⟨j, hj, rfl⟩ := nI_of h
    by_cases h2 : j < m
    · exact Or.inl ⟨j, h2, rfl⟩
    · exact Or.inr (Or.inr (nI_le (by omega) hj))
theorem okN_not {p : Int32} {m : Nat} (hm : m < 2 ^ 31) (h : ¬ ∃ t, t < m ∧ p = nI t) : p < 0 ∨ nI m ≤ p := (okN hm).resolve_left h
section CCHK
variable {n L : Nat} {α β : Ks} {th ow : Int32} {sc : Nat → Int32} {g : List Nat} {cl : Bool} {t o c a : Nat} {p q u : Int32}
theorem c_isTill_t (hn : 2 ≤ n ∧ n ≤ 5) (ht : t < n) : ZR 11 0 [.val (.ref (kad n (0, 0, 0))), .val (.int (nI t))] [] (khp n L (St n α β th ow sc) g) cl (.inl (some (.int (Int32.ofInt 1))), khp n L (St n α β th ow sc) g, cl) := s11_0_ff hn (by simp (disch := omega) only [gB, gK, gU, gN, gC, gM, gMK, gD, gL, g_th, g_n, g_ms, g_ls, g_ow, g_sc, uB, uK, uU, uN, uC, uM, uMK, uL, u_ms, u_ls, u_th, u_ow, kup_same, kup_ne, kup_krow2, krow_same, krow_ne, c_0, c_1, c_2, c_3, c_4, c_5, b_6, b_8, b_10, b_12, b_14, b_15, b_16, b_17, b_18, b_19, b_20, b_24, b_30, b_44, b_63, b_100, h_164, o_n, c_z, nI_add, nI_mul, zc_ge, zc_lt, zc_gt, zc_le, zc_eq, zc_ne, decide_eq_true_eq, decide_eq_false_iff_not] <;> omega) (by simp (disch := omega) only [gB, gK, gU, gN, gC, gM, gMK, gD, gL, g_th, g_n, g_ms, g_ls, g_ow, g_sc, uB, uK, uU, uN, uC, uM, uMK, uL, u_ms, u_ls, u_th, u_ow, kup_same, kup_ne, kup_krow2, krow_same, krow_ne, c_0, c_1, c_2, c_3, c_4, c_5, b_6, b_8, b_10, b_12, b_14, b_15, b_16, b_17, b_18, b_19, b_20, b_24, b_30, b_44, b_63, b_100, h_164, o_n, c_z, nI_add, nI_mul, zc_ge, zc_lt, zc_gt, zc_le, zc_eq, zc_ne, decide_eq_true_eq, decide_eq_false_iff_not] <;> omega)
theorem c_isTill_f (hn : 2 ≤ n ∧ n ≤ 5) (hp : ¬ okT n p) : ZR 11 0 [.val (.ref (kad n (0, 0, 0))), .val (.int p)] [] (khp n L (St n α β th ow sc) g) cl (.inl (some (.int (Int32.ofInt 0))), khp n L (St n α β th ow sc) g, cl) := by
  have hp := okN_not (by omega) hp
  by_cases h : p < 0
  · exact s11_0_t hn (by simp [zcnd, h])
  · exact s11_0_ft hn (by simp only [zcnd, h, decide_false]) (by rw [o_n]; simp only [zcnd, decide_eq_true_eq]; exact hp.resolve_left h)
theorem c_isArticle_t (hn : 2 ≤ n ∧ n ≤ 5) (ha : a < 4) : ZR 31 0 [.val (.int (nI a))] [] (khp n L (St n α β th ow sc) g) cl (.inl (some (.int (Int32.ofInt 1))), khp n L (St n α β th ow sc) g, cl) := s31_0_ff hn (by simp (disch := omega) only [gB, gK, gU, gN, gC, gM, gMK, gD, gL, g_th, g_n, g_ms, g_ls, g_ow, g_sc, uB, uK, uU, uN, uC, uM, uMK, uL, u_ms, u_ls, u_th, u_ow, kup_same, kup_ne, kup_krow2, krow_same, krow_ne, c_0, c_1, c_2, c_3, c_4, c_5, b_6, b_8, b_10, b_12, b_14, b_15, b_16, b_17, b_18, b_19, b_20, b_24, b_30, b_44, b_63, b_100, h_164, o_n, c_z, nI_add, nI_mul, zc_ge, zc_lt, zc_gt, zc_le, zc_eq, zc_ne, decide_eq_true_eq, decide_eq_false_iff_not] <;> omega) (by simp (disch := omega) only [gB, gK, gU, gN, gC, gM, gMK, gD, gL, g_th, g_n, g_ms, g_ls, g_ow, g_sc, uB, uK, uU, uN, uC, uM, uMK, uL, u_ms, u_ls, u_th, u_ow, kup_same, kup_ne, kup_krow2, krow_same, krow_ne, c_0, c_1, c_2, c_3, c_4, c_5, b_6, b_8, b_10, b_12, b_14, b_15, b_16, b_17, b_18, b_19, b_20, b_24, b_30, b_44, b_63, b_100, h_164, o_n, c_z, nI_add, nI_mul, zc_ge, zc_lt, zc_gt, zc_le, zc_eq, zc_ne, decide_eq_true_eq, decide_eq_false_iff_not] <;> omega)
theorem c_isArticle_f (hn : 2 ≤ n ∧ n ≤ 5) (hp : ¬ okA p) : ZR 31 0 [.val (.int p)] [] (khp n L (St n α β th ow sc) g) cl (.inl (some (.int (Int32.ofInt 0))), khp n L (St n α β th ow sc) g, cl) := by
  have hp := okN_not (by omega) hp
  by_cases h : p < 0
  · exact s31_0_t hn (by simp [zcnd, h])
  · exact s31_0_ft hn (by simp only [zcnd, h, decide_false]) (by rw [c_4]; simp only [zcnd, decide_eq_true_eq]; exact hp.resolve_left h)
theorem c_isUp_t (hn : 2 ≤ n ∧ n ≤ 5) (ht : t < n) (hu : ¬ α 10 t = 0) : ZR 10 0 [.val (.ref (kad n (0, 0, 0))), .val (.int (nI t))] [] (khp n L (St n α β th ow sc) g) cl (.inl (some (.int (Int32.ofInt 1))), khp n L (St n α β th ow sc) g, cl) := s10_0_ff (x3 := t) hn (c_isTill_t hn ht) rfl (zix_nI ht (by omega)) (zc_eqf hu)
theorem c_isUp_f (hn : 2 ≤ n ∧ n ≤ 5) (ht : t < n) (hu : α 10 t = 0) : ZR 10 0 [.val (.ref (kad n (0, 0, 0))), .val (.int (nI t))] [] (khp n L (St n α β th ow sc) g) cl (.inl (some (.int (Int32.ofInt 0))), khp n L (St n α β th ow sc) g, cl) := s10_0_ft (x3 := t) hn (c_isTill_t hn ht) rfl (zix_nI ht (by omega)) (zc_eqt hu)
theorem c_isUp_x (hn : 2 ≤ n ∧ n ≤ 5) (hp : ¬ okT n p) : ZR 10 0 [.val (.ref (kad n (0, 0, 0))), .val (.int p)] [] (khp n L (St n α β th ow sc) g) cl (.inl (some (.int (Int32.ofInt 0))), khp n L (St n α β th ow sc) g, cl) := s10_0_t hn (c_isTill_f hn hp) rfl
theorem c_checkTill_t (hn : 2 ≤ n ∧ n ≤ 5) (ht : t < n) : ZR 55 0 [.val (.ref (kad n (0, 0, 0))), .val (.int (nI t))] [] (khp n L (St n α β th ow sc) g) cl (.inl none, khp n L (St n α β th ow sc) g, cl) := s55_0_t hn (c_isTill_t hn ht) rfl
theorem c_checkTill_f (hn : 2 ≤ n ∧ n ≤ 5) (hp : ¬ okT n p) (hcap : (khp n L (St n α β th ow sc) g).length < zcap) : ZR 55 0 [.val (.ref (kad n (0, 0, 0))), .val (.int p)] [] (khp n L (St n α β th ow sc) g) true (.inr (khp n L (St n α β th ow sc) g).length, khp n L (St n α β th ow sc) g ++ [(200, [])], false) := s55_0_f hn (c_isTill_f hn hp) rfl hcap rfl
theorem c_checkArticle_t (hn : 2 ≤ n ∧ n ≤ 5) (ha : a < 4) : ZR 49 0 [.val (.int (nI a))] [] (khp n L (St n α β th ow sc) g) cl (.inl none, khp n L (St n α β th ow sc) g, cl) := s49_0_t hn (c_isArticle_t hn ha) rfl
theorem c_checkArticle_f (hn : 2 ≤ n ∧ n ≤ 5) (hp : ¬ okA p) (hcap : (khp n L (St n α β th ow sc) g).length < zcap) : ZR 49 0 [.val (.int p)] [] (khp n L (St n α β th ow sc) g) true (.inr (khp n L (St n α β th ow sc) g).length, khp n L (St n α β th ow sc) g ++ [(200, [])], false) := s49_0_f hn (c_isArticle_f hn hp) rfl hcap rfl
theorem c_checkUnits_t (hn : 2 ≤ n ∧ n ≤ 5) (hu : okU u) : ZR 50 0 [.val (.int u)] [] (khp n L (St n α β th ow sc) g) cl (.inl none, khp n L (St n α β th ow sc) g, cl) := s50_0_ft hn (by simp only [zcnd, hu.1, decide_false]) (by simp only [zcnd, hu.2, decide_true])
theorem c_checkUnits_f (hn : 2 ≤ n ∧ n ≤ 5) (hu : ¬ okU u) (hcap : (khp n L (St n α β th ow sc) g).length < zcap) : ZR 50 0 [.val (.int u)] [] (khp n L (St n α β th ow sc) g) true (.inr (khp n L (St n α β th ow sc) g).length, khp n L (St n α β th ow sc) g ++ [(200, [])], false) := by
  by_cases h : u < Int32.ofInt 1
  · exact s50_0_t hn (by simp only [zcnd, h, decide_true]) hcap rfl
  · have h2 : ¬ u ≤ Int32.ofNat 1000000 := fun q => hu ⟨h, q⟩
    exact s50_0_ff hn (by simp only [zcnd, h, decide_false]) (by simp only [zcnd, h2, decide_false]) hcap rfl
theorem c_checkUp_t (hn : 2 ≤ n ∧ n ≤ 5) (ht : t < n) (hu : ¬ α 10 t = 0) : ZR 51 0 [.val (.ref (kad n (0, 0, 0))), .val (.int (nI t))] [] (khp n L (St n α β th ow sc) g) cl (.inl none, khp n L (St n α β th ow sc) g, cl) := s51_0_t hn (c_isUp_t hn ht hu) rfl
theorem c_checkUp_f (hn : 2 ≤ n ∧ n ≤ 5) (ht : t < n) (hu : α 10 t = 0) (hcap : (khp n L (St n α β th ow sc) g).length < zcap) : ZR 51 0 [.val (.ref (kad n (0, 0, 0))), .val (.int (nI t))] [] (khp n L (St n α β th ow sc) g) true (.inr (khp n L (St n α β th ow sc) g).length, khp n L (St n α β th ow sc) g ++ [(201, [])], false) := s51_0_f hn (c_isUp_f hn ht hu) rfl hcap rfl
theorem c_checkGoods_t (hn : 2 ≤ n ∧ n ≤ 5) (ht : t < n) (ha : a < 4) (hu : okU u) : ZR 54 0 [.val (.ref (kad n (0, 0, 0))), .val (.int (nI t)), .val (.int (nI a)), .val (.int u)] [] (khp n L (St n α β th ow sc) g) cl (.inl none, khp n L (St n α β th ow sc) g, cl) := s54_0_kkk hn (c_checkTill_t hn ht) (c_checkArticle_t hn ha) (c_checkUnits_t hn hu)
theorem c_checkGoods_f (hn : 2 ≤ n ∧ n ≤ 5) (h : ¬ (okT n p ∧ okA q ∧ okU u)) (hcap : (khp n L (St n α β th ow sc) g).length < zcap) : ZR 54 0 [.val (.ref (kad n (0, 0, 0))), .val (.int p), .val (.int q), .val (.int u)] [] (khp n L (St n α β th ow sc) g) cl (.inr (khp n L (St n α β th ow sc) g).length, khp n L (St n α β th ow sc) g ++ [(200, [])], false) := by
  by_cases h1 : okT n p
  · obtain ⟨t, ht, rfl⟩ := h1
    by_cases h2 : okA q
    · obtain ⟨a, ha, rfl⟩ := h2
      by_cases h3 : okU u
      · exact absurd ⟨⟨t, ht, rfl⟩, ⟨a, ha, rfl⟩, h3⟩ h
      · exact s54_0_kke200 hn (c_checkTill_t hn ht) (c_checkArticle_t hn ha) (c_checkUnits_f hn h3 hcap)
    · exact s54_0_ke200 hn (c_checkTill_t hn ht) (c_checkArticle_f hn h2 hcap)
  · exact s54_0_e200 hn (c_checkTill_f hn h1 hcap)
theorem c_checkSuffices_t (hn : 2 ≤ n ∧ n ≤ 5) (ht : t < n) (ha : a < 4) (hu : ¬ α 10 t = 0) (hs : u ≤ α t a) : ZR 56 0 [.val (.ref (kad n (0, 0, 0))), .val (.int (nI t)), .val (.int (nI a)), .val (.int u)] [] (khp n L (St n α β th ow sc) g) cl (.inl none, khp n L (St n α β th ow sc) g, cl) := s56_0_kt (x2 := t) (x3 := a) hn (c_checkUp_t hn ht hu) (zix_nI ht (by omega)) (zix_nI ha (by omega)) (by rw [gB (by omega) (by omega)]; simp only [zcnd, hs, decide_true])
theorem c_checkSuffices_f (hn : 2 ≤ n ∧ n ≤ 5) (ht : t < n) (ha : a < 4) (h : ¬ (¬ α 10 t = 0 ∧ u ≤ α t a)) (hcap : (khp n L (St n α β th ow sc) g).length < zcap) : ZR 56 0 [.val (.ref (kad n (0, 0, 0))), .val (.int (nI t)), .val (.int (nI a)), .val (.int u)] [] (khp n L (St n α β th ow sc) g) true (.inr (khp n L (St n α β th ow sc) g).length, khp n L (St n α β th ow sc) g ++ [(201, [])], false) := by
  by_cases hu : α 10 t = 0
  · exact s56_0_e201 hn (c_checkUp_f hn ht hu hcap)
  · have hs : ¬ u ≤ α t a := fun q => h ⟨hu, q⟩
    exact s56_0_kf (x2 := t) (x3 := a) hn (c_checkUp_t hn ht hu) (zix_nI ht (by omega)) (zix_nI ha (by omega)) (by rw [gB (by omega) (by omega)]; simp only [zcnd, hs, decide_false]) hcap rfl
theorem c_canGive (hn : 2 ≤ n ∧ n ≤ 5) (ht : t < n) (ho : o < n) (ha : a < 4) {N q : Nat} (hN : α t (44 + 24 * o) = nI N) (hc : α t (44 + 24 * o + 1) = nI c) (hq : 0 < c → α t (44 + 24 * o + 2) = nI q ∧ q ≤ N) (hc2 : c ≤ 4) (hN2 : N < 2 ^ 30) : ZR 75 0 [.val (.ref (kad n (0, 0, 0))), .val (.int (nI t)), .val (.int (nI o)), .val (.int (nI a)), .val (.int u), .unset] [] (khp n L (St n α β th ow sc) g) cl (.inl (some (.int (zb (!decide (α 10 t = 0) && !decide (α t a < u) && aCan c N q)))), khp n L (St n α β th ow sc) g, cl) := by
  unfold zb
  by_cases h1 : α 10 t = 0
  · rw [if_neg (by simp [h1])]
    exact s75_0_t (x1 := t) hn (zix_nI ht (by omega)) (zc_eqt h1)
  · by_cases h2 : α t a < u
    · rw [if_neg (by simp [h2])]
      exact s75_0_ft (x1 := t) (x3 := a) hn (zix_nI ht (by omega)) (zc_eqf h1) (zix_nI ha (by omega)) (by rw [gB (by omega) (by omega)]; simp only [zcnd, h2, decide_true])
    · have hk := c_canOpen (α := α) (β := β) (th := th) (ow := ow) (sc := sc) (g := g) (L := L) (cl := true) hn ht ho hN hc hq hc2 hN2
      by_cases h3 : aCan c N q = true
      · rw [if_pos (by simp [h1, h2, h3])]
        rw [if_pos h3] at hk
        exact s75_0_fff (x1 := t) (x3 := a) (x5 := o) hn (zix_nI ht (by omega)) (zc_eqf h1) (zix_nI ha (by omega)) (by rw [gB (by omega) (by omega)]; simp only [zcnd, h2, decide_false]) (zix_nI ho (by omega)) hk rfl
      · rw [if_neg (by simp [h3])]
        rw [if_neg h3] at hk
        exact s75_0_fft (x1 := t) (x3 := a) (x5 := o) hn (zix_nI ht (by omega)) (zc_eqf h1) (zix_nI ha (by omega)) (by rw [gB (by omega) (by omega)]; simp only [zcnd, h2, decide_false]) (zix_nI ho (by omega)) hk rfl
/-- a voucher given: units out of the share, opened, written down, sent -/
def aGive0 (α : Ks) (t o a c : Nat) (u : Int32) : Ks := aOpen (kup α t a (α t a - u)) t o c (nI a) u
def aDown (α : Ks) (t : Nat) : Ks := krow α (5 + t) (α t)
def aGive (α : Ks) (t o a c : Nat) (u : Int32) : Ks := aSend (aDown (aGive0 α t o a c u) t) (nI 0) (nI t) (nI o) (α t (44 + 24 * o)) (nI a) u
theorem c_sendVoucher (hn : 2 ≤ n ∧ n ≤ 5) (ht : t < n) (ho : o < n) (ha : a < 4) (hc : α t (44 + 24 * o + 1) = nI c) (hc2 : c < 4) {k : Nat} (hk : α 12 0 = nI k) (hk2 : k ≤ 24) : ZR 77 0 [.val (.ref (kad n (0, 0, 0))), .val (.int (nI t)), .val (.int (nI o)), .val (.int (nI a)), .val (.int u), .unset, .unset] [] (khp n L (St n α β th ow sc) g) cl (.inl (some (.int (α t (44 + 24 * o)))), khp n L (St n (aGive α t o a c u) β th ow sc) g, false) := by
  refine s77_0_r (x1 := t) (x2 := a) (x3 := o) (σ4 := St n (aGive0 α t o a c u) β th ow sc) (c4 := false) (c6 := false) hn (zix_nI ht (by omega)) (zix_nI ha (by omega)) (zix_nI ho (by omega)) ?_ (c_writeDown hn ht) ?_
  · simp (disch := omega) only [gB, gK, gU, gN, gC, gM, gMK, gD, gL, g_th, g_n, g_ms, g_ls, g_ow, g_sc, uB, uK, uU, uN, uC, uM, uMK, uL, u_ms, u_ls, u_th, u_ow, kup_same, kup_ne, kup_krow2, krow_same, krow_ne, c_0, c_1, c_2, c_3, c_4, c_5, b_6, b_8, b_10, b_12, b_14, b_15, b_16, b_17, b_18, b_19, b_20, b_24, b_30, b_44, b_63, b_100, h_164, o_n]
    have h := c_open (α := kup α t a (α t a - u)) (β := β) (th := th) (ow := ow) (sc := sc) (g := g) (L := L) (cl := true) (c := c) hn ht ho (by rw [kup_ne (by omega)]; exact hc) hc2 (nI a) u
    rw [kup_ne (by omega)] at h
    exact h
  · refine c_send (c := k) hn ?_ hk2 _ _ _ _ _ _
    rw [krow_ne (by omega)]
    unfold aGive0 aOpen
    simp (disch := omega) only [gB, gK, gU, gN, gC, gM, gMK, gD, gL, g_th, g_n, g_ms, g_ls, g_ow, g_sc, uB, uK, uU, uN, uC, uM, uMK, uL, u_ms, u_ls, u_th, u_ow, kup_same, kup_ne, kup_krow2, krow_same, krow_ne, c_0, c_1, c_2, c_3, c_4, c_5, b_6, b_8, b_10, b_12, b_14, b_15, b_16, b_17, b_18, b_19, b_20, b_24, b_30, b_44, b_63, b_100, h_164, o_n]
    exact hk
/-- a voucher's coming in -/
def aVou (α : Ks) (f t x a : Nat) (u : Int32) : Ks :=
  if seen (cn (α t (44 + 24 * f + 15))) (cn (α t (44 + 24 * f + 14))) x = true then α else aDown (kup (aMark α t f x) t a (α t a + u)) t
def aRecv (α : Ks) (f t x a : Nat) (u : Int32) : Ks := aSend (aVou α f t x a u) (nI 1) (nI t) (nI f) (nI x) (Int32.ofInt (-1)) (Int32.ofInt (-1))
theorem aMark_ne {x o r y : Nat} (h : y ≠ 44 + 24 * o + 14 ∧ y ≠ 44 + 24 * o + 15 ∨ r ≠ t) : aMark α t o x r y = α r y := by
  unfold aMark aBits
  rw [kup_ne (by omega), kup_ne (by omega)]
theorem c_receiveVoucher (hn : 2 ≤ n ∧ n ≤ 5) (ht : t < n) (ho : o < n) (ha : a < 4) {m f x : Nat} (hm : α t (44 + 24 * o + 15) = nI m) (hf : α t (44 + 24 * o + 14) = nI f) (hm2 : m < 2 ^ 16) (hf2 : f < 2 ^ 29) (hx2 : x < f + 16) {k : Nat} (hk : α 12 0 = nI k) (hk2 : k ≤ 24) : ∃ cl', ZR 86 0 [.val (.ref (kad n (0, 0, 0))), .val (.int (nI o)), .val (.int (nI t)), .val (.int (nI x)), .val (.int (nI a)), .val (.int u), .unset, .unset, .unset] [] (khp n L (St n α β th ow sc) g) cl (.inl (some (.int (zb (!seen m f x)))), khp n L (St n (aRecv α o t x a u) β th ow sc) g, cl') := by
  have hs := c_hasSeen (α := α) (β := β) (th := th) (ow := ow) (sc := sc) (g := g) (L := L) (cl := true) hn ht ho hm hf hm2 (by omega) (show x < 2 ^ 30 by omega)
  unfold aRecv aVou zb
  rw [hm, hf]
  unfold cn
  rw [nI_clamp (by omega), nI_clamp (by omega)]
  by_cases h : seen m f x = true
  · rw [if_pos h] at hs ⊢
    rw [if_neg (by simp [h])]
    exact ⟨_, s86_0_tt (x1 := t) (x2 := o) hn (zix_nI ht (by omega)) (zix_nI ho (by omega)) hs rfl rfl (c_send (c := k) hn hk hk2 _ _ _ _ _ _)⟩
  · rw [if_neg h] at hs ⊢
    rw [if_pos (by simp [h])]
    have hfx : f ≤ x := by
      unfold seen at h
      simp at h
      omega
    refine ⟨_, s86_0_ff (c8 := false) (c9 := false) (x1 := t) (x2 := o) (x7 := a) hn (zix_nI ht (by omega)) (zix_nI ho (by omega)) hs rfl rfl (c_markSeen hn ht ho hm hf hm2 (by omega) hfx hx2) (zix_nI ha (by omega)) ?_ (c_send (c := k) hn ?_ hk2 _ _ _ _ _ _)⟩
    · simp (disch := omega) only [gB, gK, gU, gN, gC, gM, gMK, gD, gL, g_th, g_n, g_ms, g_ls, g_ow, g_sc, uB, uK, uU, uN, uC, uM, uMK, uL, u_ms, u_ls, u_th, u_ow, kup_same, kup_ne, kup_krow2, krow_same, krow_ne, c_0, c_1, c_2, c_3, c_4, c_5, b_6, b_8, b_10, b_12, b_14, b_15, b_16, b_17, b_18, b_19, b_20, b_24, b_30, b_44, b_63, b_100, h_164, o_n]
      rw [aMark_ne (by omega)]
      exact c_writeDown hn ht
    · unfold aDown
      rw [krow_ne (by omega), kup_ne (by omega), aMark_ne (by omega)]
      exact hk
theorem c_receiveAsk (hn : 2 ≤ n ∧ n ≤ 5) (ht : t < n) (ho : o < n) (ha : a < 4) {N q : Nat} (hN : α t (44 + 24 * o) = nI N) (hc : α t (44 + 24 * o + 1) = nI c) (hq : 0 < c → α t (44 + 24 * o + 2) = nI q ∧ q ≤ N) (hc2 : c ≤ 4) (hN2 : N < 2 ^ 30) {k : Nat} (hk : α 12 0 = nI k) (hk2 : k ≤ 24) : ∃ cl', ZR 91 0 [.val (.ref (kad n (0, 0, 0))), .val (.int (nI o)), .val (.int (nI t)), .val (.int (nI a)), .val (.int u)] [] (khp n L (St n α β th ow sc) g) cl (.inl (some (.int (zb (!decide (α 10 t = 0) && !decide (α t a < u) && aCan c N q)))), khp n L (St n (if (!decide (α 10 t = 0) && !decide (α t a < u) && aCan c N q) = true then aGive α t o a c u else α) β th ow sc) g, cl') := by
  have hg := c_canGive (α := α) (β := β) (th := th) (ow := ow) (sc := sc) (g := g) (L := L) (cl := true) (u := u) hn ht ho ha hN hc hq hc2 hN2
  unfold zb at hg ⊢
  by_cases h : (!decide (α 10 t = 0) && !decide (α t a < u) && aCan c N q) = true
  · simp only [if_pos h] at hg ⊢
    have hc4 : c < 4 := by
      simp only [aCan, Bool.and_eq_true, Bool.or_eq_true, decide_eq_true_eq] at h
      omega
    exact ⟨_, s91_0_t hn hg rfl (c_sendVoucher hn ht ho ha hc hc4 hk hk2)⟩
  · simp only [if_neg h] at hg ⊢
    exact ⟨_, s91_0_f hn hg rfl⟩
end CCHK
