/-- a sum over all pairs of tills, rows first -/
def sm2 (n : Nat) (f : Nat → Nat → Int32) : Nat → Nat → Int32 → Int32
  | 0, _, acc => acc
  | k + 1, i, acc => sm2 n f k (i + 1) (sm (f i) n 0 acc)
/-- t's open units of a to o that o has not seen -/
def uns (α : Ks) (t o : Nat) (a : Int32) : Int32 :=
  sm (fun i => if α t (44 + 24 * o + 2 + 3 * i + 1) = a ∧ seen (cn (α o (44 + 24 * t + 15))) (cn (α o (44 + 24 * t + 14))) (cn (α t (44 + 24 * o + 2 + 3 * i))) = false then α t (44 + 24 * o + 2 + 3 * i + 2) else 0) (cn (α t (44 + 24 * o + 1))) 0 0
/-- what reading a pairing needs: t's open vouchers to o, and o's floor and bits -/
def SeeOk (α : Ks) (t o : Nat) : Prop := ∃ m f, α t (44 + 24 * o + 15) = nI m ∧ α t (44 + 24 * o + 14) = nI f ∧ m < 2 ^ 16 ∧ f < 2 ^ 29
def OpnOk (α : Ks) (t o : Nat) : Prop := ∃ c, α t (44 + 24 * o + 1) = nI c ∧ c ≤ 4 ∧ ∀ i, i < c → ∃ q, q < 2 ^ 29 ∧ α t (44 + 24 * o + 2 + 3 * i) = nI q
section CSUM
variable {n L : Nat} {α β : Ks} {th ow : Int32} {sc : Nat → Int32} {g : List Nat} {cl : Bool} {t o c a : Nat} {p q u : Int32}
theorem c_unseen (hn : 2 ≤ n ∧ n ≤ 5) (ht : t < n) (ho : o < n) (h1 : OpnOk α t o) (h2 : SeeOk α o t) (v : Int32) : ZR 37 0 [.val (.ref (kad n (14, 2 * t, o))), .val (.ref (kad n (14, 2 * o, t))), .val (.int v), .unset, .unset] [] (khp n L (St n α β th ow sc) g) cl (.inl (some (.int (uns α t o v))), khp n L (St n α β th ow sc) g, cl) := by
  obtain ⟨c, hc1, hc2, hc3⟩ := h1
  obtain ⟨m, f, hm, hf, hm2, hf2⟩ := h2
  unfold uns cn
  rw [hc1, hm, hf, nI_clamp (by omega), nI_clamp (by omega), nI_clamp (by omega)]
  have loop : ∀ k i acc, i + k = c → ZR 37 5 [.val (.ref (kad n (14, 2 * t, o))), .val (.ref (kad n (14, 2 * o, t))), .val (.int v), .val (.int acc), .val (.int (nI i))] [] (khp n L (St n α β th ow sc) g) cl (.inl (some (.int (sm (fun i => if α t (44 + 24 * o + 2 + 3 * i + 1) = v ∧ seen m f ((α t (44 + 24 * o + 2 + 3 * i)).toNatClampNeg) = false then α t (44 + 24 * o + 2 + 3 * i + 2) else 0) k i acc))), khp n L (St n α β th ow sc) g, cl) := by
    intro k
    induction k with
    | zero =>
      intro i acc hi
      exact s37_5_t hn (by omega) (by omega) ho ht (by simp (disch := omega) only [hc1, gB, gK, gU, gN, gC, gM, gMK, gD, gL, g_th, g_n, g_ms, g_ls, g_ow, g_sc, uB, uK, uU, uN, uC, uM, uMK, uL, u_ms, u_ls, u_th, u_ow, kup_same, kup_ne, kup_krow2, krow_same, krow_ne, c_0, c_1, c_2, c_3, c_4, c_5, b_6, b_8, b_10, b_12, b_14, b_15, b_16, b_17, b_18, b_19, b_20, b_24, b_30, b_44, b_63, b_100, h_164, o_n, c_z, nI_add, nI_mul, zc_ge, zc_lt, zc_gt, zc_le, zc_eq, zc_ne, decide_eq_true_eq, decide_eq_false_iff_not] <;> omega)
    | succ k ih =>
      intro i acc hi
      obtain ⟨q, hq, hqe⟩ := hc3 i (by omega)
      have hcn : (α t (44 + 24 * o + 2 + 3 * i)).toNatClampNeg = q := by rw [hqe, nI_clamp (by omega)]
      unfold sm
      have hs : ZR 38 0 [.val (.ref (kad n (14, 2 * o, t))), .val (.int (St n α β th ow sc (2 * t) (44 + 24 * o + 2 + 3 * i))), .unset] [] (khp n L (St n α β th ow sc) g) true (.inl (some (.int (if seen m f q = true then Int32.ofInt 1 else Int32.ofInt 0))), khp n L (St n α β th ow sc) g, true) := by
        rw [gB (by omega) (by omega), hqe]
        exact c_hasSeen hn ho ht hm hf hm2 (by omega) (by omega)
      by_cases he : α t (44 + 24 * o + 2 + 3 * i + 1) = v
      · by_cases hse : seen m f q = true
        · rw [if_neg (by rw [hcn, hse]; simp), Int32.add_zero]
          rw [if_pos hse] at hs
          refine s37_5_fft (x2 := i) hn (by omega) (by omega) ho ht (by simp (disch := omega) only [hc1, gB, gK, gU, gN, gC, gM, gMK, gD, gL, g_th, g_n, g_ms, g_ls, g_ow, g_sc, uB, uK, uU, uN, uC, uM, uMK, uL, u_ms, u_ls, u_th, u_ow, kup_same, kup_ne, kup_krow2, krow_same, krow_ne, c_0, c_1, c_2, c_3, c_4, c_5, b_6, b_8, b_10, b_12, b_14, b_15, b_16, b_17, b_18, b_19, b_20, b_24, b_30, b_44, b_63, b_100, h_164, o_n, c_z, nI_add, nI_mul, zc_ge, zc_lt, zc_gt, zc_le, zc_eq, zc_ne, decide_eq_true_eq, decide_eq_false_iff_not] <;> omega) (zix_nI (by omega) (by omega)) (zc_nef (by rw [gB (by omega) (by omega)]; exact he)) hs rfl ?_
          rw [nI_inc]
          exact ih (i + 1) _ (by omega)
        · rw [if_pos (by rw [hcn]; exact ⟨he, by simpa using hse⟩)]
          rw [if_neg hse] at hs
          refine s37_5_fff (x2 := i) hn (by omega) (by omega) ho ht (by simp (disch := omega) only [hc1, gB, gK, gU, gN, gC, gM, gMK, gD, gL, g_th, g_n, g_ms, g_ls, g_ow, g_sc, uB, uK, uU, uN, uC, uM, uMK, uL, u_ms, u_ls, u_th, u_ow, kup_same, kup_ne, kup_krow2, krow_same, krow_ne, c_0, c_1, c_2, c_3, c_4, c_5, b_6, b_8, b_10, b_12, b_14, b_15, b_16, b_17, b_18, b_19, b_20, b_24, b_30, b_44, b_63, b_100, h_164, o_n, c_z, nI_add, nI_mul, zc_ge, zc_lt, zc_gt, zc_le, zc_eq, zc_ne, decide_eq_true_eq, decide_eq_false_iff_not] <;> omega) (zix_nI (by omega) (by omega)) (zc_nef (by rw [gB (by omega) (by omega)]; exact he)) hs rfl ?_
          rw [nI_inc, gB (by omega) (by omega)]
          exact ih (i + 1) _ (by omega)
      · rw [if_neg (fun q => he q.1), Int32.add_zero]
        refine s37_5_ft (x2 := i) hn (by omega) (by omega) ho ht (by simp (disch := omega) only [hc1, gB, gK, gU, gN, gC, gM, gMK, gD, gL, g_th, g_n, g_ms, g_ls, g_ow, g_sc, uB, uK, uU, uN, uC, uM, uMK, uL, u_ms, u_ls, u_th, u_ow, kup_same, kup_ne, kup_krow2, krow_same, krow_ne, c_0, c_1, c_2, c_3, c_4, c_5, b_6, b_8, b_10, b_12, b_14, b_15, b_16, b_17, b_18, b_19, b_20, b_24, b_30, b_44, b_63, b_100, h_164, o_n, c_z, nI_add, nI_mul, zc_ge, zc_lt, zc_gt, zc_le, zc_eq, zc_ne, decide_eq_true_eq, decide_eq_false_iff_not] <;> omega) (zix_nI (by omega) (by omega)) (zc_net (by rw [gB (by omega) (by omega)]; exact he)) ?_
        rw [nI_inc]
        exact ih (i + 1) _ (by omega)
  exact s37_0_r hn (by omega) (by omega) ho ht (loop c 0 _ (by omega))
theorem c_unitsOnTheirWay (hn : 2 ≤ n ∧ n ≤ 5) (h1 : ∀ t o, t < n → o < n → OpnOk α t o) (h2 : ∀ t o, t < n → o < n → SeeOk α t o) (v : Int32) : ZR 36 0 [.val (.ref (kad n (0, 0, 0))), .val (.int v), .unset, .unset, .unset, .unset] [] (khp n L (St n α β th ow sc) g) cl (.inl (some (.int (sm2 n (fun t o => uns α t o v) n 0 0))), khp n L (St n α β th ow sc) g, cl) := by
  have inner : ∀ k o t acc w r, o + k = n → t < n → (∀ w4 w, ZR 36 4 [.val (.ref (kad n (0, 0, 0))), .val (.int v), .val (.int (sm (fun o => uns α t o v) k o acc)), .val (.int (nI (t + 1))), zop w4, zopr w] [] (khp n L (St n α β th ow sc) g) cl r) → ZR 36 16 [.val (.ref (kad n (0, 0, 0))), .val (.int v), .val (.int acc), .val (.int (nI t)), .val (.int (nI o)), zopr w] [] (khp n L (St n α β th ow sc) g) cl r := by
    intro k
    induction k with
    | zero =>
      intro o t acc w r ho ht hh
      refine s36_16_t hn (by simp (disch := omega) only [gB, gK, gU, gN, gC, gM, gMK, gD, gL, g_th, g_n, g_ms, g_ls, g_ow, g_sc, uB, uK, uU, uN, uC, uM, uMK, uL, u_ms, u_ls, u_th, u_ow, kup_same, kup_ne, kup_krow2, krow_same, krow_ne, c_0, c_1, c_2, c_3, c_4, c_5, b_6, b_8, b_10, b_12, b_14, b_15, b_16, b_17, b_18, b_19, b_20, b_24, b_30, b_44, b_63, b_100, h_164, o_n, c_z, nI_add, nI_mul, zc_ge, zc_lt, zc_gt, zc_le, zc_eq, zc_ne, decide_eq_true_eq, decide_eq_false_iff_not] <;> omega) ?_
      rw [nI_inc]
      exact hh (some (nI o)) w
    | succ k ih =>
      intro o t acc w r ho ht hh
      refine s36_16_f (x2 := o) (x3 := t) hn (by simp (disch := omega) only [gB, gK, gU, gN, gC, gM, gMK, gD, gL, g_th, g_n, g_ms, g_ls, g_ow, g_sc, uB, uK, uU, uN, uC, uM, uMK, uL, u_ms, u_ls, u_th, u_ow, kup_same, kup_ne, kup_krow2, krow_same, krow_ne, c_0, c_1, c_2, c_3, c_4, c_5, b_6, b_8, b_10, b_12, b_14, b_15, b_16, b_17, b_18, b_19, b_20, b_24, b_30, b_44, b_63, b_100, h_164, o_n, c_z, nI_add, nI_mul, zc_ge, zc_lt, zc_gt, zc_le, zc_eq, zc_ne, decide_eq_true_eq, decide_eq_false_iff_not] <;> omega) (zix_nI (by omega) (by omega)) (zix_nI ht (by omega)) (c_unseen hn ht (by omega) (h1 t o ht (by omega)) (h2 o t (by omega) ht) v) ?_
      rw [nI_inc]
      exact ih (o + 1) t _ (some (kad n (14, 2 * o, t))) r (by omega) ht hh
  have outer : ∀ k t acc w4 w, t + k = n → ZR 36 4 [.val (.ref (kad n (0, 0, 0))), .val (.int v), .val (.int acc), .val (.int (nI t)), zop w4, zopr w] [] (khp n L (St n α β th ow sc) g) cl (.inl (some (.int (sm2 n (fun t o => uns α t o v) k t acc))), khp n L (St n α β th ow sc) g, cl) := by
    intro k
    induction k with
    | zero =>
      intro t acc w4 w ht
      exact s36_4_t hn (by simp (disch := omega) only [gB, gK, gU, gN, gC, gM, gMK, gD, gL, g_th, g_n, g_ms, g_ls, g_ow, g_sc, uB, uK, uU, uN, uC, uM, uMK, uL, u_ms, u_ls, u_th, u_ow, kup_same, kup_ne, kup_krow2, krow_same, krow_ne, c_0, c_1, c_2, c_3, c_4, c_5, b_6, b_8, b_10, b_12, b_14, b_15, b_16, b_17, b_18, b_19, b_20, b_24, b_30, b_44, b_63, b_100, h_164, o_n, c_z, nI_add, nI_mul, zc_ge, zc_lt, zc_gt, zc_le, zc_eq, zc_ne, decide_eq_true_eq, decide_eq_false_iff_not] <;> omega)
    | succ k ih =>
      intro t acc w4 w ht
      unfold sm2
      refine s36_4_f hn (by simp (disch := omega) only [gB, gK, gU, gN, gC, gM, gMK, gD, gL, g_th, g_n, g_ms, g_ls, g_ow, g_sc, uB, uK, uU, uN, uC, uM, uMK, uL, u_ms, u_ls, u_th, u_ow, kup_same, kup_ne, kup_krow2, krow_same, krow_ne, c_0, c_1, c_2, c_3, c_4, c_5, b_6, b_8, b_10, b_12, b_14, b_15, b_16, b_17, b_18, b_19, b_20, b_24, b_30, b_44, b_63, b_100, h_164, o_n, c_z, nI_add, nI_mul, zc_ge, zc_lt, zc_gt, zc_le, zc_eq, zc_ne, decide_eq_true_eq, decide_eq_false_iff_not] <;> omega) ?_
      exact inner n 0 t acc w _ (by omega) (by omega) (fun w4 w => ih (t + 1) _ w4 w (by omega))
  exact s36_0_r hn (outer n 0 _ none none (by omega))
/-- the units of a in t's record -/
def inB (α : Ks) (t a : Nat) : Int32 := α t a + α t (4 + a) + α t (8 + a) + rsv α t (nI a) (cn (α t 19))
theorem c_unitsOfB (hn : 2 ≤ n ∧ n ≤ 5) (ht : t < n) (ha : a < 4) (hr : ResOk α t c) : ZR 40 0 [.val (.ref (kad n (3, 2 * t, 0))), .val (.int (nI a))] [] (khp n L (St n α β th ow sc) g) cl (.inl (some (.int (inB α t a))), khp n L (St n α β th ow sc) g, cl) := by
  have h := s40_0_r (cl := cl) (x1 := a) hn (by omega) (zix_nI ha (by omega)) (c_unitsOf (α := α) (β := β) (th := th) (ow := ow) (sc := sc) (g := g) (L := L) (cl := true) hn ht hr.1 hr.2.1 (nI a))
  rw [gB (by omega) (by omega), gB (by omega) (by omega), gB (by omega) (by omega)] at h
  unfold inB cn
  rw [hr.1, nI_clamp (by have := hr.2.1; omega)]
  exact h
theorem c_unitsInBooks (hn : 2 ≤ n ∧ n ≤ 5) (ha : a < 4) (hr : ∀ t, t < n → ∃ c, ResOk α t c) : ZR 39 0 [.val (.ref (kad n (0, 0, 0))), .val (.int (nI a)), .unset, .unset] [] (khp n L (St n α β th ow sc) g) cl (.inl (some (.int (sm (fun t => inB α t a) n 0 0))), khp n L (St n α β th ow sc) g, cl) := by
  have loop : ∀ k t acc, t + k = n → ZR 39 4 [.val (.ref (kad n (0, 0, 0))), .val (.int (nI a)), .val (.int acc), .val (.int (nI t))] [] (khp n L (St n α β th ow sc) g) cl (.inl (some (.int (sm (fun t => inB α t a) k t acc))), khp n L (St n α β th ow sc) g, cl) := by
    intro k
    induction k with
    | zero =>
      intro t acc ht
      exact s39_4_t hn (by simp (disch := omega) only [gB, gK, gU, gN, gC, gM, gMK, gD, gL, g_th, g_n, g_ms, g_ls, g_ow, g_sc, uB, uK, uU, uN, uC, uM, uMK, uL, u_ms, u_ls, u_th, u_ow, kup_same, kup_ne, kup_krow2, krow_same, krow_ne, c_0, c_1, c_2, c_3, c_4, c_5, b_6, b_8, b_10, b_12, b_14, b_15, b_16, b_17, b_18, b_19, b_20, b_24, b_30, b_44, b_63, b_100, h_164, o_n, c_z, nI_add, nI_mul, zc_ge, zc_lt, zc_gt, zc_le, zc_eq, zc_ne, decide_eq_true_eq, decide_eq_false_iff_not] <;> omega)
    | succ k ih =>
      intro t acc ht
      obtain ⟨c, hc⟩ := hr t (by omega)
      unfold sm
      refine s39_4_f (x2 := t) hn (by simp (disch := omega) only [gB, gK, gU, gN, gC, gM, gMK, gD, gL, g_th, g_n, g_ms, g_ls, g_ow, g_sc, uB, uK, uU, uN, uC, uM, uMK, uL, u_ms, u_ls, u_th, u_ow, kup_same, kup_ne, kup_krow2, krow_same, krow_ne, c_0, c_1, c_2, c_3, c_4, c_5, b_6, b_8, b_10, b_12, b_14, b_15, b_16, b_17, b_18, b_19, b_20, b_24, b_30, b_44, b_63, b_100, h_164, o_n, c_z, nI_add, nI_mul, zc_ge, zc_lt, zc_gt, zc_le, zc_eq, zc_ne, decide_eq_true_eq, decide_eq_false_iff_not] <;> omega) (zix_nI (by omega) (by omega)) (c_unitsOfB hn (by omega) ha hc) ?_
      rw [nI_inc]
      exact ih (t + 1) _ (by omega)
  exact s39_0_r hn (loop n 0 _ (by omega))
theorem c_openVouchers (hn : 2 ≤ n ∧ n ≤ 5) : ZR 43 0 [.val (.ref (kad n (0, 0, 0))), .unset, .unset, .unset] [] (khp n L (St n α β th ow sc) g) cl (.inl (some (.int (sm2 n (fun t o => α t (44 + 24 * o + 1)) n 0 0))), khp n L (St n α β th ow sc) g, cl) := by
  have inner : ∀ k o t acc r, o + k = n → t < n → (∀ w, ZR 43 4 [.val (.ref (kad n (0, 0, 0))), .val (.int (sm (fun o => α t (44 + 24 * o + 1)) k o acc)), .val (.int (nI (t + 1))), zop w] [] (khp n L (St n α β th ow sc) g) cl r) → ZR 43 15 [.val (.ref (kad n (0, 0, 0))), .val (.int acc), .val (.int (nI t)), .val (.int (nI o))] [] (khp n L (St n α β th ow sc) g) cl r := by
    intro k
    induction k with
    | zero =>
      intro o t acc r ho ht hh
      refine s43_15_t hn (by simp (disch := omega) only [gB, gK, gU, gN, gC, gM, gMK, gD, gL, g_th, g_n, g_ms, g_ls, g_ow, g_sc, uB, uK, uU, uN, uC, uM, uMK, uL, u_ms, u_ls, u_th, u_ow, kup_same, kup_ne, kup_krow2, krow_same, krow_ne, c_0, c_1, c_2, c_3, c_4, c_5, b_6, b_8, b_10, b_12, b_14, b_15, b_16, b_17, b_18, b_19, b_20, b_24, b_30, b_44, b_63, b_100, h_164, o_n, c_z, nI_add, nI_mul, zc_ge, zc_lt, zc_gt, zc_le, zc_eq, zc_ne, decide_eq_true_eq, decide_eq_false_iff_not] <;> omega) ?_
      rw [nI_inc]
      exact hh (some (nI o))
    | succ k ih =>
      intro o t acc r ho ht hh
      refine s43_15_f (x2 := t) (x3 := o) hn (by simp (disch := omega) only [gB, gK, gU, gN, gC, gM, gMK, gD, gL, g_th, g_n, g_ms, g_ls, g_ow, g_sc, uB, uK, uU, uN, uC, uM, uMK, uL, u_ms, u_ls, u_th, u_ow, kup_same, kup_ne, kup_krow2, krow_same, krow_ne, c_0, c_1, c_2, c_3, c_4, c_5, b_6, b_8, b_10, b_12, b_14, b_15, b_16, b_17, b_18, b_19, b_20, b_24, b_30, b_44, b_63, b_100, h_164, o_n, c_z, nI_add, nI_mul, zc_ge, zc_lt, zc_gt, zc_le, zc_eq, zc_ne, decide_eq_true_eq, decide_eq_false_iff_not] <;> omega) (zix_nI (by omega) (by omega)) (zix_nI (by omega) (by omega)) ?_
      rw [nI_inc, gB (by omega) (by omega)]
      exact ih (o + 1) t _ r (by omega) ht hh
  have outer : ∀ k t acc w, t + k = n → ZR 43 4 [.val (.ref (kad n (0, 0, 0))), .val (.int acc), .val (.int (nI t)), zop w] [] (khp n L (St n α β th ow sc) g) cl (.inl (some (.int (sm2 n (fun t o => α t (44 + 24 * o + 1)) k t acc))), khp n L (St n α β th ow sc) g, cl) := by
    intro k
    induction k with
    | zero =>
      intro t acc w ht
      exact s43_4_t hn (by simp (disch := omega) only [gB, gK, gU, gN, gC, gM, gMK, gD, gL, g_th, g_n, g_ms, g_ls, g_ow, g_sc, uB, uK, uU, uN, uC, uM, uMK, uL, u_ms, u_ls, u_th, u_ow, kup_same, kup_ne, kup_krow2, krow_same, krow_ne, c_0, c_1, c_2, c_3, c_4, c_5, b_6, b_8, b_10, b_12, b_14, b_15, b_16, b_17, b_18, b_19, b_20, b_24, b_30, b_44, b_63, b_100, h_164, o_n, c_z, nI_add, nI_mul, zc_ge, zc_lt, zc_gt, zc_le, zc_eq, zc_ne, decide_eq_true_eq, decide_eq_false_iff_not] <;> omega)
    | succ k ih =>
      intro t acc w ht
      unfold sm2
      refine s43_4_f hn (by simp (disch := omega) only [gB, gK, gU, gN, gC, gM, gMK, gD, gL, g_th, g_n, g_ms, g_ls, g_ow, g_sc, uB, uK, uU, uN, uC, uM, uMK, uL, u_ms, u_ls, u_th, u_ow, kup_same, kup_ne, kup_krow2, krow_same, krow_ne, c_0, c_1, c_2, c_3, c_4, c_5, b_6, b_8, b_10, b_12, b_14, b_15, b_16, b_17, b_18, b_19, b_20, b_24, b_30, b_44, b_63, b_100, h_164, o_n, c_z, nI_add, nI_mul, zc_ge, zc_lt, zc_gt, zc_le, zc_eq, zc_ne, decide_eq_true_eq, decide_eq_false_iff_not] <;> omega) ?_
      exact inner n 0 t acc _ (by omega) (by omega) (fun w => ih (t + 1) _ w (by omega))
  exact s43_0_r hn (outer n 0 _ none (by omega))
/-- all of k from i on -/
def al (f : Nat → Bool) : Nat → Nat → Bool
  | 0, _ => true
  | k + 1, i => f i && al f k (i + 1)
def aHold (α : Ks) (t o : Nat) : Bool := al (fun a => decide (α t (44 + 24 * o + 16 + a) = α o a)) 4 0
def aHolds (α : Ks) (n t : Nat) : Bool := al (fun o => decide (t = o) || aHold α t o) n 0
theorem c_newsHold (hn : 2 ≤ n ∧ n ≤ 5) (ht : t < n) (ho : o < n) : ZR 45 0 [.val (.ref (kad n (0, 0, 0))), .val (.int (nI t)), .val (.int (nI o)), .unset] [] (khp n L (St n α β th ow sc) g) cl (.inl (some (.int (zb (aHold α t o)))), khp n L (St n α β th ow sc) g, cl) := by
  have loop : ∀ k i, i + k = 4 → ZR 45 2 [.val (.ref (kad n (0, 0, 0))), .val (.int (nI t)), .val (.int (nI o)), .val (.int (nI i))] [] (khp n L (St n α β th ow sc) g) cl (.inl (some (.int (zb (al (fun a => decide (α t (44 + 24 * o + 16 + a) = α o a)) k i)))), khp n L (St n α β th ow sc) g, cl) := by
    intro k
    induction k with
    | zero =>
      intro i hi
      exact s45_2_t hn (by simp (disch := omega) only [gB, gK, gU, gN, gC, gM, gMK, gD, gL, g_th, g_n, g_ms, g_ls, g_ow, g_sc, uB, uK, uU, uN, uC, uM, uMK, uL, u_ms, u_ls, u_th, u_ow, kup_same, kup_ne, kup_krow2, krow_same, krow_ne, c_0, c_1, c_2, c_3, c_4, c_5, b_6, b_8, b_10, b_12, b_14, b_15, b_16, b_17, b_18, b_19, b_20, b_24, b_30, b_44, b_63, b_100, h_164, o_n, c_z, nI_add, nI_mul, zc_ge, zc_lt, zc_gt, zc_le, zc_eq, zc_ne, decide_eq_true_eq, decide_eq_false_iff_not] <;> omega)
    | succ k ih =>
      intro i hi
      unfold al
      by_cases h : α t (44 + 24 * o + 16 + i) = α o i
      · refine s45_2_ft (x2 := t) (x3 := o) (x4 := i) hn (by simp (disch := omega) only [gB, gK, gU, gN, gC, gM, gMK, gD, gL, g_th, g_n, g_ms, g_ls, g_ow, g_sc, uB, uK, uU, uN, uC, uM, uMK, uL, u_ms, u_ls, u_th, u_ow, kup_same, kup_ne, kup_krow2, krow_same, krow_ne, c_0, c_1, c_2, c_3, c_4, c_5, b_6, b_8, b_10, b_12, b_14, b_15, b_16, b_17, b_18, b_19, b_20, b_24, b_30, b_44, b_63, b_100, h_164, o_n, c_z, nI_add, nI_mul, zc_ge, zc_lt, zc_gt, zc_le, zc_eq, zc_ne, decide_eq_true_eq, decide_eq_false_iff_not] <;> omega) (zix_nI (by omega) (by omega)) (zix_nI (by omega) (by omega)) (zix_nI (by omega) (by omega)) (zc_eqt (by rw [gB (by omega) (by omega), gB (by omega) (by omega)]; exact h)) ?_
        rw [nI_inc]
        simp only [h, decide_true, Bool.true_and]
        exact ih (i + 1) (by omega)
      · simp only [h, decide_false, Bool.false_and]
        exact s45_2_ff (x2 := t) (x3 := o) (x4 := i) hn (by simp (disch := omega) only [gB, gK, gU, gN, gC, gM, gMK, gD, gL, g_th, g_n, g_ms, g_ls, g_ow, g_sc, uB, uK, uU, uN, uC, uM, uMK, uL, u_ms, u_ls, u_th, u_ow, kup_same, kup_ne, kup_krow2, krow_same, krow_ne, c_0, c_1, c_2, c_3, c_4, c_5, b_6, b_8, b_10, b_12, b_14, b_15, b_16, b_17, b_18, b_19, b_20, b_24, b_30, b_44, b_63, b_100, h_164, o_n, c_z, nI_add, nI_mul, zc_ge, zc_lt, zc_gt, zc_le, zc_eq, zc_ne, decide_eq_true_eq, decide_eq_false_iff_not] <;> omega) (zix_nI (by omega) (by omega)) (zix_nI (by omega) (by omega)) (zix_nI (by omega) (by omega)) (zc_eqf (by rw [gB (by omega) (by omega), gB (by omega) (by omega)]; exact h))
  exact s45_0_r hn (loop 4 0 (by omega))
theorem c_allNewsHold (hn : 2 ≤ n ∧ n ≤ 5) : ZR 44 0 [.val (.ref (kad n (0, 0, 0))), .unset, .unset] [] (khp n L (St n α β th ow sc) g) cl (.inl (some (.int (zb (al (aHolds α n) n 0)))), khp n L (St n α β th ow sc) g, cl) := by
  have inner : ∀ k o t b hf, o + k = n → t < n → (∀ w, ZR 44 2 [.val (.ref (kad n (0, 0, 0))), .val (.int (nI (t + 1))), zop w] [] (khp n L (St n α β th ow sc) g) cl (.inl (some (.int (zb b))), hf, cl)) → hf = khp n L (St n α β th ow sc) g → ZR 44 13 [.val (.ref (kad n (0, 0, 0))), .val (.int (nI t)), .val (.int (nI o))] [] (khp n L (St n α β th ow sc) g) cl (.inl (some (.int (zb (al (fun o => decide (t = o) || aHold α t o) k o && b)))), hf, cl) := by
    intro k
    induction k with
    | zero =>
      intro o t b hf ho ht hh he
      unfold al
      rw [Bool.true_and]
      refine s44_13_t hn (by simp (disch := omega) only [gB, gK, gU, gN, gC, gM, gMK, gD, gL, g_th, g_n, g_ms, g_ls, g_ow, g_sc, uB, uK, uU, uN, uC, uM, uMK, uL, u_ms, u_ls, u_th, u_ow, kup_same, kup_ne, kup_krow2, krow_same, krow_ne, c_0, c_1, c_2, c_3, c_4, c_5, b_6, b_8, b_10, b_12, b_14, b_15, b_16, b_17, b_18, b_19, b_20, b_24, b_30, b_44, b_63, b_100, h_164, o_n, c_z, nI_add, nI_mul, zc_ge, zc_lt, zc_gt, zc_le, zc_eq, zc_ne, decide_eq_true_eq, decide_eq_false_iff_not] <;> omega) ?_
      rw [nI_inc]
      exact hh (some (nI o))
    | succ k ih =>
      intro o t b hf ho ht hh he
      unfold al
      by_cases h : t = o
      · rw [show (decide (t = o) || aHold α t o) = true by simp [h], Bool.true_and]
        refine s44_13_ft hn (by simp (disch := omega) only [gB, gK, gU, gN, gC, gM, gMK, gD, gL, g_th, g_n, g_ms, g_ls, g_ow, g_sc, uB, uK, uU, uN, uC, uM, uMK, uL, u_ms, u_ls, u_th, u_ow, kup_same, kup_ne, kup_krow2, krow_same, krow_ne, c_0, c_1, c_2, c_3, c_4, c_5, b_6, b_8, b_10, b_12, b_14, b_15, b_16, b_17, b_18, b_19, b_20, b_24, b_30, b_44, b_63, b_100, h_164, o_n, c_z, nI_add, nI_mul, zc_ge, zc_lt, zc_gt, zc_le, zc_eq, zc_ne, decide_eq_true_eq, decide_eq_false_iff_not] <;> omega) (by simp (disch := omega) only [gB, gK, gU, gN, gC, gM, gMK, gD, gL, g_th, g_n, g_ms, g_ls, g_ow, g_sc, uB, uK, uU, uN, uC, uM, uMK, uL, u_ms, u_ls, u_th, u_ow, kup_same, kup_ne, kup_krow2, krow_same, krow_ne, c_0, c_1, c_2, c_3, c_4, c_5, b_6, b_8, b_10, b_12, b_14, b_15, b_16, b_17, b_18, b_19, b_20, b_24, b_30, b_44, b_63, b_100, h_164, o_n, c_z, nI_add, nI_mul, zc_ge, zc_lt, zc_gt, zc_le, zc_eq, zc_ne, decide_eq_true_eq, decide_eq_false_iff_not] <;> omega) ?_
        rw [nI_inc]
        exact ih (o + 1) t b hf (by omega) ht hh he
      · have hh2 := c_newsHold (α := α) (β := β) (th := th) (ow := ow) (sc := sc) (g := g) (L := L) (cl := true) hn ht (show o < n by omega)
        by_cases h2 : aHold α t o = true
        · rw [show (decide (t = o) || aHold α t o) = true by simp [h2], Bool.true_and]
          rw [h2] at hh2
          refine s44_13_fft hn (by simp (disch := omega) only [gB, gK, gU, gN, gC, gM, gMK, gD, gL, g_th, g_n, g_ms, g_ls, g_ow, g_sc, uB, uK, uU, uN, uC, uM, uMK, uL, u_ms, u_ls, u_th, u_ow, kup_same, kup_ne, kup_krow2, krow_same, krow_ne, c_0, c_1, c_2, c_3, c_4, c_5, b_6, b_8, b_10, b_12, b_14, b_15, b_16, b_17, b_18, b_19, b_20, b_24, b_30, b_44, b_63, b_100, h_164, o_n, c_z, nI_add, nI_mul, zc_ge, zc_lt, zc_gt, zc_le, zc_eq, zc_ne, decide_eq_true_eq, decide_eq_false_iff_not] <;> omega) (by simp (disch := omega) only [gB, gK, gU, gN, gC, gM, gMK, gD, gL, g_th, g_n, g_ms, g_ls, g_ow, g_sc, uB, uK, uU, uN, uC, uM, uMK, uL, u_ms, u_ls, u_th, u_ow, kup_same, kup_ne, kup_krow2, krow_same, krow_ne, c_0, c_1, c_2, c_3, c_4, c_5, b_6, b_8, b_10, b_12, b_14, b_15, b_16, b_17, b_18, b_19, b_20, b_24, b_30, b_44, b_63, b_100, h_164, o_n, c_z, nI_add, nI_mul, zc_ge, zc_lt, zc_gt, zc_le, zc_eq, zc_ne, decide_eq_true_eq, decide_eq_false_iff_not] <;> omega) hh2 rfl ?_
          rw [nI_inc]
          exact ih (o + 1) t b hf (by omega) ht hh he
        · have h2 : aHold α t o = false := by simpa using h2
          rw [show (decide (t = o) || aHold α t o) = false by simp [h, h2], Bool.false_and, Bool.false_and, he]
          rw [h2] at hh2
          exact s44_13_fff hn (by simp (disch := omega) only [gB, gK, gU, gN, gC, gM, gMK, gD, gL, g_th, g_n, g_ms, g_ls, g_ow, g_sc, uB, uK, uU, uN, uC, uM, uMK, uL, u_ms, u_ls, u_th, u_ow, kup_same, kup_ne, kup_krow2, krow_same, krow_ne, c_0, c_1, c_2, c_3, c_4, c_5, b_6, b_8, b_10, b_12, b_14, b_15, b_16, b_17, b_18, b_19, b_20, b_24, b_30, b_44, b_63, b_100, h_164, o_n, c_z, nI_add, nI_mul, zc_ge, zc_lt, zc_gt, zc_le, zc_eq, zc_ne, decide_eq_true_eq, decide_eq_false_iff_not] <;> omega) (by simp (disch := omega) only [gB, gK, gU, gN, gC, gM, gMK, gD, gL, g_th, g_n, g_ms, g_ls, g_ow, g_sc, uB, uK, uU, uN, uC, uM, uMK, uL, u_ms, u_ls, u_th, u_ow, kup_same, kup_ne, kup_krow2, krow_same, krow_ne, c_0, c_1, c_2, c_3, c_4, c_5, b_6, b_8, b_10, b_12, b_14, b_15, b_16, b_17, b_18, b_19, b_20, b_24, b_30, b_44, b_63, b_100, h_164, o_n, c_z, nI_add, nI_mul, zc_ge, zc_lt, zc_gt, zc_le, zc_eq, zc_ne, decide_eq_true_eq, decide_eq_false_iff_not] <;> omega) hh2 rfl
  have outer : ∀ k t w, t + k = n → ZR 44 2 [.val (.ref (kad n (0, 0, 0))), .val (.int (nI t)), zop w] [] (khp n L (St n α β th ow sc) g) cl (.inl (some (.int (zb (al (aHolds α n) k t)))), khp n L (St n α β th ow sc) g, cl) := by
    intro k
    induction k with
    | zero =>
      intro t w ht
      exact s44_2_t hn (by simp (disch := omega) only [gB, gK, gU, gN, gC, gM, gMK, gD, gL, g_th, g_n, g_ms, g_ls, g_ow, g_sc, uB, uK, uU, uN, uC, uM, uMK, uL, u_ms, u_ls, u_th, u_ow, kup_same, kup_ne, kup_krow2, krow_same, krow_ne, c_0, c_1, c_2, c_3, c_4, c_5, b_6, b_8, b_10, b_12, b_14, b_15, b_16, b_17, b_18, b_19, b_20, b_24, b_30, b_44, b_63, b_100, h_164, o_n, c_z, nI_add, nI_mul, zc_ge, zc_lt, zc_gt, zc_le, zc_eq, zc_ne, decide_eq_true_eq, decide_eq_false_iff_not] <;> omega)
    | succ k ih =>
      intro t w ht
      unfold al
      refine s44_2_f hn (by simp (disch := omega) only [gB, gK, gU, gN, gC, gM, gMK, gD, gL, g_th, g_n, g_ms, g_ls, g_ow, g_sc, uB, uK, uU, uN, uC, uM, uMK, uL, u_ms, u_ls, u_th, u_ow, kup_same, kup_ne, kup_krow2, krow_same, krow_ne, c_0, c_1, c_2, c_3, c_4, c_5, b_6, b_8, b_10, b_12, b_14, b_15, b_16, b_17, b_18, b_19, b_20, b_24, b_30, b_44, b_63, b_100, h_164, o_n, c_z, nI_add, nI_mul, zc_ge, zc_lt, zc_gt, zc_le, zc_eq, zc_ne, decide_eq_true_eq, decide_eq_false_iff_not] <;> omega) ?_
      exact inner n 0 t _ _ (by omega) (by omega) (fun w => ih (t + 1) w (by omega)) rfl
  exact s44_0_r hn (outer n 0 none (by omega))
/-- the richest by news: the first of those with most, above 0 -/
def rich (f : Nat → Int32) : Nat → Nat → Int32 → Int32 → Int32
  | 0, _, best, _ => best
  | k + 1, i, best, most => if f i ≤ most then rich f k (i + 1) best most else rich f k (i + 1) (nI i) (f i)
theorem c_richest (hn : 2 ≤ n ∧ n ≤ 5) (ht : t < n) (ha : a < 4) : ZR 81 0 [.val (.ref (kad n (0, 0, 0))), .val (.int (nI t)), .val (.int (nI a)), .unset, .unset, .unset, .unset] [] (khp n L (St n α β th ow sc) g) cl (.inl (some (.int (rich (fun o => α t (44 + 24 * o + 16 + a)) n 0 (Int32.ofInt (-1)) 0))), khp n L (St n α β th ow sc) g, cl) := by
  have loop : ∀ k o best most w, o + k = n → ZR 81 8 [.val (.ref (kad n (0, 0, 0))), .val (.int (nI t)), .val (.int (nI a)), .val (.int best), .val (.int most), .val (.int (nI o)), zop w] [] (khp n L (St n α β th ow sc) g) cl (.inl (some (.int (rich (fun o => α t (44 + 24 * o + 16 + a)) k o best most))), khp n L (St n α β th ow sc) g, cl) := by
    intro k
    induction k with
    | zero =>
      intro o best most w ho
      exact s81_8_t hn (by simp (disch := omega) only [gB, gK, gU, gN, gC, gM, gMK, gD, gL, g_th, g_n, g_ms, g_ls, g_ow, g_sc, uB, uK, uU, uN, uC, uM, uMK, uL, u_ms, u_ls, u_th, u_ow, kup_same, kup_ne, kup_krow2, krow_same, krow_ne, c_0, c_1, c_2, c_3, c_4, c_5, b_6, b_8, b_10, b_12, b_14, b_15, b_16, b_17, b_18, b_19, b_20, b_24, b_30, b_44, b_63, b_100, h_164, o_n, c_z, nI_add, nI_mul, zc_ge, zc_lt, zc_gt, zc_le, zc_eq, zc_ne, decide_eq_true_eq, decide_eq_false_iff_not] <;> omega)
    | succ k ih =>
      intro o best most w ho
      unfold rich
      by_cases h : α t (44 + 24 * o + 16 + a) ≤ most
      · rw [if_pos h]
        refine s81_8_ft (x2 := t) (x3 := o) (x4 := a) hn (by simp (disch := omega) only [gB, gK, gU, gN, gC, gM, gMK, gD, gL, g_th, g_n, g_ms, g_ls, g_ow, g_sc, uB, uK, uU, uN, uC, uM, uMK, uL, u_ms, u_ls, u_th, u_ow, kup_same, kup_ne, kup_krow2, krow_same, krow_ne, c_0, c_1, c_2, c_3, c_4, c_5, b_6, b_8, b_10, b_12, b_14, b_15, b_16, b_17, b_18, b_19, b_20, b_24, b_30, b_44, b_63, b_100, h_164, o_n, c_z, nI_add, nI_mul, zc_ge, zc_lt, zc_gt, zc_le, zc_eq, zc_ne, decide_eq_true_eq, decide_eq_false_iff_not] <;> omega) (zix_nI (by omega) (by omega)) (zix_nI (by omega) (by omega)) (zix_nI (by omega) (by omega)) (by rw [gB (by omega) (by omega)]; simp only [zcnd, h, decide_true]) ?_
        rw [nI_inc]
        exact ih (o + 1) best most (some _) (by omega)
      · rw [if_neg h]
        refine s81_8_ff (x2 := t) (x3 := o) (x4 := a) hn (by simp (disch := omega) only [gB, gK, gU, gN, gC, gM, gMK, gD, gL, g_th, g_n, g_ms, g_ls, g_ow, g_sc, uB, uK, uU, uN, uC, uM, uMK, uL, u_ms, u_ls, u_th, u_ow, kup_same, kup_ne, kup_krow2, krow_same, krow_ne, c_0, c_1, c_2, c_3, c_4, c_5, b_6, b_8, b_10, b_12, b_14, b_15, b_16, b_17, b_18, b_19, b_20, b_24, b_30, b_44, b_63, b_100, h_164, o_n, c_z, nI_add, nI_mul, zc_ge, zc_lt, zc_gt, zc_le, zc_eq, zc_ne, decide_eq_true_eq, decide_eq_false_iff_not] <;> omega) (zix_nI (by omega) (by omega)) (zix_nI (by omega) (by omega)) (zix_nI (by omega) (by omega)) (by rw [gB (by omega) (by omega)]; simp only [zcnd, h, decide_false]) ?_
        rw [nI_inc, gB (by omega) (by omega)]
        exact ih (o + 1) _ _ (some _) (by omega)
  exact s81_0_r hn (loop n 0 _ _ none (by omega))
end CSUM
