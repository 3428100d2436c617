section MD
variable {n L : Nat} {α β : Ks} {th ow : Int32} {sc : Nat → Int32} {g : List Nat} {cl : Bool} {t o c a : Nat} {p q u : Int32}
theorem m_pass (hn : 2 ≤ n ∧ n ≤ 5) (ht : t < n) (hk : CntOk β) (hr : ResOk β t c) (ho : ∀ o, o < n → ∃ c, β t (44 + 24 * o + 1) = nI c ∧ c ≤ 4) {x : Nat} (hx : β t 16 = nI x) (hx2 : x + 1 < 2 ^ 31) : ∃ cl', ZR 127 0 [.val (.ref (kad n (22, 0, 0))), .val (.int (nI t)), .unset, .unset, .unset, .unset, .unset, .unset] [] (khp n L (St n α β th ow sc) g) cl (.inl (some (.int (nI (c - (aRel t c 0 (kup β t 16 (β t 16 + nI 1))).2)))), khp n L (St n α (aPass n β t c) th ow sc) g, cl') := by
  have hr1 : ResOk (kup β t 16 (β t 16 + nI 1)) t c := by
    obtain ⟨h1, h2, h3⟩ := hr
    refine ⟨by rw [kup_ne (by omega)]; exact h1, h2, ?_⟩
    intro i hi
    rw [kup_ne (by omega)]
    exact h3 i hi
  have z16 : zix (nI (164 * t) + (Int8.ofInt 16).toInt32) 820 = some (164 * t + 16) := (zx (by simp (disch := omega) only [gB, gK, gU, gN, gC, gM, gMK, gD, gL, g_th, g_n, g_ms, g_ls, g_ow, g_sc, uB, uK, uU, uN, uC, uM, uMK, uL, u_ms, u_ls, u_th, u_ow, kup_same, kup_ne, kup_krow2, krow_same, krow_ne, c_0, c_1, c_2, c_3, c_4, c_5, b_6, b_8, b_10, b_12, b_14, b_15, b_16, b_17, b_18, b_19, b_20, b_24, b_30, b_44, b_63, b_100, h_164, o_n, c_z, nI_add, nI_mul] <;> first | rfl | (congr 1; omega)) (by omega) (by omega))
  have z18 : zix (nI (164 * t) + (Int8.ofInt 18).toInt32) 820 = some (164 * t + 18) := (zx (by simp (disch := omega) only [gB, gK, gU, gN, gC, gM, gMK, gD, gL, g_th, g_n, g_ms, g_ls, g_ow, g_sc, uB, uK, uU, uN, uC, uM, uMK, uL, u_ms, u_ls, u_th, u_ow, kup_same, kup_ne, kup_krow2, krow_same, krow_ne, c_0, c_1, c_2, c_3, c_4, c_5, b_6, b_8, b_10, b_12, b_14, b_15, b_16, b_17, b_18, b_19, b_20, b_24, b_30, b_44, b_63, b_100, h_164, o_n, c_z, nI_add, nI_mul] <;> first | rfl | (congr 1; omega)) (by omega) (by omega))
  obtain ⟨c2, h2⟩ := m_over (α := α) (β := kup β t 16 (β t 16 + nI 1)) (th := th) (ow := ow) (sc := sc) (g := g) (L := L) (cl := true) hn ht hr1
  generalize hgone : nI (c - (aRel t c 0 (kup β t 16 (β t 16 + nI 1))).2) = gone at h2 ⊢
  have hk1 : CntOk (aRel t c 0 (kup β t 16 (β t 16 + nI 1))).1 := by
    unfold CntOk
    rw [aRel_other (by omega), kup_ne (by omega)]
    exact hk
  have ho1 : ∀ o, o < n → ∃ c', (aRel t c 0 (kup β t 16 (β t 16 + nI 1))).1 t (44 + 24 * o + 1) = nI c' ∧ c' ≤ 4 := by
    intro o hoo
    rw [aRel_high (by omega) (by rw [Nat.zero_add]; exact hr1), kup_ne (by omega)]
    exact ho o hoo
  have hx1 : (aRel t c 0 (kup β t 16 (β t 16 + nI 1))).1 t 16 = nI (x + 1) := by
    rw [aRel_high (by omega) (by rw [Nat.zero_add]; exact hr1), kup_same, hx, nI_add]
  unfold aPass
  generalize (aRel t c 0 (kup β t 16 (β t 16 + nI 1))).1 = γ at h2 hk1 ho1 hx1 ⊢
  have inner : ∀ k i o γ cl hf w7, o < n → i + k ≤ 4 → γ t (44 + 24 * o + 1) = nI (i + k) → CntOk γ →
      (∀ cl' w5 w6 w7, ∃ c2, ZR 127 27 [.val (.ref (kad n (22, 0, 0))), .val (.int (nI t)), .val (.int (nI (164 * t))), .val (.int gone), .val (.int (nI (o + 1))), zop w5, zop w6, zop w7] [] (khp n L (St n α (aSendO t o k i γ) th ow sc) g) cl' (.inl (some (.int gone)), hf, c2)) →
      ∃ c2, ZR 127 47 [.val (.ref (kad n (22, 0, 0))), .val (.int (nI t)), .val (.int (nI (164 * t))), .val (.int gone), .val (.int (nI o)), .val (.int (nI (164 * t + (44 + 24 * o)))), .val (.int (nI i)), zop w7] [] (khp n L (St n α γ th ow sc) g) cl (.inl (some (.int gone)), hf, c2) := by
    intro k
    induction k with
    | zero =>
      intro i o γ cl hf w7 ho hi hc hk hh
      obtain ⟨c2, h2⟩ := hh cl (some (nI (164 * t + (44 + 24 * o)))) (some (nI i)) w7
      refine ⟨c2, s127_47_t (x1 := 164 * t + (44 + 24 * o + 1)) hn (zx (by simp (disch := omega) only [gB, gK, gU, gN, gC, gM, gMK, gD, gL, g_th, g_n, g_ms, g_ls, g_ow, g_sc, uB, uK, uU, uN, uC, uM, uMK, uL, u_ms, u_ls, u_th, u_ow, kup_same, kup_ne, kup_krow2, krow_same, krow_ne, c_0, c_1, c_2, c_3, c_4, c_5, b_6, b_8, b_10, b_12, b_14, b_15, b_16, b_17, b_18, b_19, b_20, b_24, b_30, b_44, b_63, b_100, h_164, o_n, c_z, nI_add, nI_mul] <;> first | rfl | (congr 1; omega)) (by omega) (by omega)) (by simp (disch := omega) only [hc, gB, gK, gU, gN, gC, gM, gMK, gD, gL, g_th, g_n, g_ms, g_ls, g_ow, g_sc, uB, uK, uU, uN, uC, uM, uMK, uL, u_ms, u_ls, u_th, u_ow, kup_same, kup_ne, kup_krow2, krow_same, krow_ne, c_0, c_1, c_2, c_3, c_4, c_5, b_6, b_8, b_10, b_12, b_14, b_15, b_16, b_17, b_18, b_19, b_20, b_24, b_30, b_44, b_63, b_100, h_164, o_n, c_z, nI_add, nI_mul, zc_ge, zc_lt, zc_gt, zc_le, zc_eq, zc_ne, decide_eq_true_eq, decide_eq_false_iff_not] <;> omega) ?_⟩
      rw [nI_inc]
      exact h2
    | succ k ih =>
      intro i o γ cl hf w7 ho hi hc hk hh
      have e1 : (aSend γ (nI 0) (nI t) (nI o) (γ t (44 + 24 * o + 2 + 3 * i)) (γ t (44 + 24 * o + 2 + 3 * i + 1)) (γ t (44 + 24 * o + 2 + 3 * i + 2))) t (44 + 24 * o + 1) = nI (i + 1 + k) := by
        rw [aSend_row (by omega), hc]
        congr 1
        omega
      obtain ⟨c2, h2⟩ := ih (i + 1) o (aSend γ (nI 0) (nI t) (nI o) (γ t (44 + 24 * o + 2 + 3 * i)) (γ t (44 + 24 * o + 2 + 3 * i + 1)) (γ t (44 + 24 * o + 2 + 3 * i + 2))) (cl && false) hf (some (nI (164 * t + (44 + 24 * o)) + Int32.ofInt 2 + Int32.ofInt 3 * nI i)) ho (by omega) e1 (CntOk_send hk) hh
      refine ⟨c2, s127_47_f (x1 := 164 * t + (44 + 24 * o + 1)) (x3 := 164 * t + (44 + 24 * o + 2 + 3 * i)) (x4 := 164 * t + (44 + 24 * o + 2 + 3 * i + 1)) (x5 := 164 * t + (44 + 24 * o + 2 + 3 * i + 2)) (c6 := false) (σ6 := St n α (aSend γ (nI 0) (nI t) (nI o) (γ t (44 + 24 * o + 2 + 3 * i)) (γ t (44 + 24 * o + 2 + 3 * i + 1)) (γ t (44 + 24 * o + 2 + 3 * i + 2))) th ow sc) hn (zx (by simp (disch := omega) only [gB, gK, gU, gN, gC, gM, gMK, gD, gL, g_th, g_n, g_ms, g_ls, g_ow, g_sc, uB, uK, uU, uN, uC, uM, uMK, uL, u_ms, u_ls, u_th, u_ow, kup_same, kup_ne, kup_krow2, krow_same, krow_ne, c_0, c_1, c_2, c_3, c_4, c_5, b_6, b_8, b_10, b_12, b_14, b_15, b_16, b_17, b_18, b_19, b_20, b_24, b_30, b_44, b_63, b_100, h_164, o_n, c_z, nI_add, nI_mul] <;> first | rfl | (congr 1; omega)) (by omega) (by omega)) (by simp (disch := omega) only [hc, gB, gK, gU, gN, gC, gM, gMK, gD, gL, g_th, g_n, g_ms, g_ls, g_ow, g_sc, uB, uK, uU, uN, uC, uM, uMK, uL, u_ms, u_ls, u_th, u_ow, kup_same, kup_ne, kup_krow2, krow_same, krow_ne, c_0, c_1, c_2, c_3, c_4, c_5, b_6, b_8, b_10, b_12, b_14, b_15, b_16, b_17, b_18, b_19, b_20, b_24, b_30, b_44, b_63, b_100, h_164, o_n, c_z, nI_add, nI_mul, zc_ge, zc_lt, zc_gt, zc_le, zc_eq, zc_ne, decide_eq_true_eq, decide_eq_false_iff_not] <;> omega) (zx (by simp (disch := omega) only [gB, gK, gU, gN, gC, gM, gMK, gD, gL, g_th, g_n, g_ms, g_ls, g_ow, g_sc, uB, uK, uU, uN, uC, uM, uMK, uL, u_ms, u_ls, u_th, u_ow, kup_same, kup_ne, kup_krow2, krow_same, krow_ne, c_0, c_1, c_2, c_3, c_4, c_5, b_6, b_8, b_10, b_12, b_14, b_15, b_16, b_17, b_18, b_19, b_20, b_24, b_30, b_44, b_63, b_100, h_164, o_n, c_z, nI_add, nI_mul] <;> first | rfl | (congr 1; omega)) (by omega) (by omega)) (zx (by simp (disch := omega) only [gB, gK, gU, gN, gC, gM, gMK, gD, gL, g_th, g_n, g_ms, g_ls, g_ow, g_sc, uB, uK, uU, uN, uC, uM, uMK, uL, u_ms, u_ls, u_th, u_ow, kup_same, kup_ne, kup_krow2, krow_same, krow_ne, c_0, c_1, c_2, c_3, c_4, c_5, b_6, b_8, b_10, b_12, b_14, b_15, b_16, b_17, b_18, b_19, b_20, b_24, b_30, b_44, b_63, b_100, h_164, o_n, c_z, nI_add, nI_mul] <;> first | rfl | (congr 1; omega)) (by omega) (by omega)) (zx (by simp (disch := omega) only [gB, gK, gU, gN, gC, gM, gMK, gD, gL, g_th, g_n, g_ms, g_ls, g_ow, g_sc, uB, uK, uU, uN, uC, uM, uMK, uL, u_ms, u_ls, u_th, u_ow, kup_same, kup_ne, kup_krow2, krow_same, krow_ne, c_0, c_1, c_2, c_3, c_4, c_5, b_6, b_8, b_10, b_12, b_14, b_15, b_16, b_17, b_18, b_19, b_20, b_24, b_30, b_44, b_63, b_100, h_164, o_n, c_z, nI_add, nI_mul] <;> first | rfl | (congr 1; omega)) (by omega) (by omega)) ?_ ?_⟩
      · simp (disch := omega) only [gM]
        exact m_send hn hk _ _ _ _ _ _
      · rw [nI_inc]
        exact h2
  have outer : ∀ k o γ cl w5 w6 w7, o + k = n → CntOk γ → (∀ o, o < n → ∃ c, γ t (44 + 24 * o + 1) = nI c ∧ c ≤ 4) → γ t 16 = nI (x + 1) → ∃ cl', ZR 127 27 [.val (.ref (kad n (22, 0, 0))), .val (.int (nI t)), .val (.int (nI (164 * t))), .val (.int gone), .val (.int (nI o)), zop w5, zop w6, zop w7] [] (khp n L (St n α γ th ow sc) g) cl (.inl (some (.int gone)), khp n L (St n α (aNews n (aSendA t k o γ) t) th ow sc) g, cl') := by
    intro k
    induction k with
    | zero =>
      intro o γ cl w5 w6 w7 ho hk hq hx
      unfold aSendA aNews cn
      rw [hx, nI_clamp hx2]
      have hmod : (x + 1) % n < n := Nat.mod_lt _ (by omega)
      have hdiv : (x + 1) / n ≤ x + 1 := Nat.div_le_self _ _
      have eC : St n α γ th ow sc (20 + (164 * t + 16) / 164) ((164 * t + 16) % 164) = nI (x + 1) := by simp (disch := omega) only [hx, gB, gK, gU, gN, gC, gM, gMK, gD, gL, g_th, g_n, g_ms, g_ls, g_ow, g_sc, uB, uK, uU, uN, uC, uM, uMK, uL, u_ms, u_ls, u_th, u_ow, kup_same, kup_ne, kup_krow2, krow_same, krow_ne, c_0, c_1, c_2, c_3, c_4, c_5, b_6, b_8, b_10, b_12, b_14, b_15, b_16, b_17, b_18, b_19, b_20, b_24, b_30, b_44, b_63, b_100, h_164, o_n]
      have eR : St n α γ th ow sc (20 + (164 * t + 16) / 164) ((164 * t + 16) % 164) - St n α γ th ow sc (20 + (164 * t + 16) / 164) ((164 * t + 16) % 164) / St n α γ th ow sc 42 1 * St n α γ th ow sc 42 1 = nI ((x + 1) % n) := by
        rw [eC, g_n, nI_rem hx2 (by omega)]
      have eQ : St n α γ th ow sc (20 + (164 * t + 16) / 164) ((164 * t + 16) % 164) / St n α γ th ow sc 42 1 - St n α γ th ow sc (20 + (164 * t + 16) / 164) ((164 * t + 16) % 164) / St n α γ th ow sc 42 1 / Int32.ofInt 4 * Int32.ofInt 4 = nI ((x + 1) / n % 4) := by
        rw [eC, g_n, nI_div hx2 (by omega), c_4, nI_rem (by omega) (by omega)]
      have hd : ¬ St n α γ th ow sc 42 1 = 0 := by rw [g_n]; exact nI_ne0 (by omega) (by omega)
      by_cases h : (x + 1) % n = t
      · rw [if_pos h]
        exact ⟨_, s127_27_tt hn (by simp (disch := omega) only [gB, gK, gU, gN, gC, gM, gMK, gD, gL, g_th, g_n, g_ms, g_ls, g_ow, g_sc, uB, uK, uU, uN, uC, uM, uMK, uL, u_ms, u_ls, u_th, u_ow, kup_same, kup_ne, kup_krow2, krow_same, krow_ne, c_0, c_1, c_2, c_3, c_4, c_5, b_6, b_8, b_10, b_12, b_14, b_15, b_16, b_17, b_18, b_19, b_20, b_24, b_30, b_44, b_63, b_100, h_164, o_n, c_z, nI_add, nI_mul, zc_ge, zc_lt, zc_gt, zc_le, zc_eq, zc_ne, decide_eq_true_eq, decide_eq_false_iff_not] <;> omega) z16 hd hd (by decide) (by rw [eR, zc_eq (by omega) (by omega)]; simp [h])⟩
      · rw [if_neg h]
        refine ⟨_, zr_rv ?_ rfl (s127_27_tf (x7 := 164 * t + ((x + 1) / n % 4)) (c9 := false) (σ9 := St n α (aSend γ (nI 2) (nI t) (nI ((x + 1) % n)) (nI ((x + 1) / n % 4)) (γ t ((x + 1) / n % 4)) (γ t 18)) th ow sc) hn (by simp (disch := omega) only [gB, gK, gU, gN, gC, gM, gMK, gD, gL, g_th, g_n, g_ms, g_ls, g_ow, g_sc, uB, uK, uU, uN, uC, uM, uMK, uL, u_ms, u_ls, u_th, u_ow, kup_same, kup_ne, kup_krow2, krow_same, krow_ne, c_0, c_1, c_2, c_3, c_4, c_5, b_6, b_8, b_10, b_12, b_14, b_15, b_16, b_17, b_18, b_19, b_20, b_24, b_30, b_44, b_63, b_100, h_164, o_n, c_z, nI_add, nI_mul, zc_ge, zc_lt, zc_gt, zc_le, zc_eq, zc_ne, decide_eq_true_eq, decide_eq_false_iff_not] <;> omega) z16 hd hd (by decide) (by rw [eR, zc_eq (by omega) (by omega)]; simp [h]) (by rw [eQ]; exact (zx (by simp (disch := omega) only [gB, gK, gU, gN, gC, gM, gMK, gD, gL, g_th, g_n, g_ms, g_ls, g_ow, g_sc, uB, uK, uU, uN, uC, uM, uMK, uL, u_ms, u_ls, u_th, u_ow, kup_same, kup_ne, kup_krow2, krow_same, krow_ne, c_0, c_1, c_2, c_3, c_4, c_5, b_6, b_8, b_10, b_12, b_14, b_15, b_16, b_17, b_18, b_19, b_20, b_24, b_30, b_44, b_63, b_100, h_164, o_n, c_z, nI_add, nI_mul] <;> first | rfl | (congr 1; omega)) (by omega) (by omega))) z18 ?_)⟩
        · rw [gM (by omega) (by omega) (by omega), uM (by omega) (by omega) (by omega), aSend_row (by omega)]
          rfl
        · rw [eR, eQ, gM (by omega) (by omega) (by omega), gM (by omega) (by omega) (by omega)]
          exact m_send hn hk _ _ _ _ _ _
    | succ k ih =>
      intro o γ cl w5 w6 w7 ho hk hq hx
      obtain ⟨c, hc1, hc2⟩ := hq o (by omega)
      unfold aSendA
      rw [hc1]
      unfold cn
      rw [nI_clamp (by omega)]
      have hq' : ∀ o', o' < n → ∃ c', (aSendO t o c 0 γ) t (44 + 24 * o' + 1) = nI c' ∧ c' ≤ 4 := by
        intro o' ho'
        rw [aSendO_row (by omega)]
        exact hq o' ho'
      obtain ⟨c2, h2⟩ := inner c 0 o γ cl _ w7 (by omega) (by omega) (by rw [Nat.zero_add]; exact hc1) hk (fun cl' w5 w6 w7 => ih (o + 1) _ cl' w5 w6 w7 (by omega) (CntOk_sendO hk) hq' (by rw [aSendO_row (by omega)]; exact hx))
      exact ⟨c2, s127_27_f hn (by simp (disch := omega) only [gB, gK, gU, gN, gC, gM, gMK, gD, gL, g_th, g_n, g_ms, g_ls, g_ow, g_sc, uB, uK, uU, uN, uC, uM, uMK, uL, u_ms, u_ls, u_th, u_ow, kup_same, kup_ne, kup_krow2, krow_same, krow_ne, c_0, c_1, c_2, c_3, c_4, c_5, b_6, b_8, b_10, b_12, b_14, b_15, b_16, b_17, b_18, b_19, b_20, b_24, b_30, b_44, b_63, b_100, h_164, o_n, c_z, nI_add, nI_mul, zc_ge, zc_lt, zc_gt, zc_le, zc_eq, zc_ne, decide_eq_true_eq, decide_eq_false_iff_not] <;> omega) (m_other hn t o) h2⟩
  obtain ⟨c3, h3⟩ := outer n 0 γ false none none none (by omega) hk1 ho1 hx1
  refine ⟨c3, s127_0_r (c3 := c2) hn (m_at hn t) z16 ?_ h3⟩
  rw [gM (by omega) (by omega) (by omega), uM (by omega) (by omega) (by omega)]
  exact h2
theorem m_underWay (hn : 2 ≤ n ∧ n ≤ 5) (h1 : ∀ t o, t < n → o < n → OpnOk β t o) (h2 : ∀ t o, t < n → o < n → SeeOk β t o) (v : Int32) : ZR 140 0 [.val (.ref (kad n (22, 0, 0))), .val (.int v), .unset, .unset, .unset, .unset, .unset, .unset] [] (khp n L (St n α β th ow sc) g) cl (.inl (some (.int (sm2 n (fun t o => uns β t o v) n 0 0))), khp n L (St n α β th ow sc) g, cl) := by
  have inner : ∀ t o c m f, t < n → o < n → β t (44 + 24 * o + 1) = nI c → c ≤ 4 → (∀ i, i < c → ∃ q, q < 2 ^ 29 ∧ β t (44 + 24 * o + 2 + 3 * i) = nI q) → β o (44 + 24 * t + 15) = nI m → β o (44 + 24 * t + 14) = nI f → m < 2 ^ 16 → f < 2 ^ 29 → ∀ k i acc w r, i + k = c →
      (∀ v6 w7, ZR 140 15 [.val (.ref (kad n (22, 0, 0))), .val (.int v), .val (.int (sm (fun i => if β t (44 + 24 * o + 2 + 3 * i + 1) = v ∧ seen m f ((β t (44 + 24 * o + 2 + 3 * i)).toNatClampNeg) = false then β t (44 + 24 * o + 2 + 3 * i + 2) else 0) k i acc)), .val (.int (nI t)), .val (.int (nI (o + 1))), .val (.int (nI (164 * t + (44 + 24 * o)))), .val (.int v6), zop w7] [] (khp n L (St n α β th ow sc) g) cl r) →
      ZR 140 35 [.val (.ref (kad n (22, 0, 0))), .val (.int v), .val (.int acc), .val (.int (nI t)), .val (.int (nI o)), .val (.int (nI (164 * t + (44 + 24 * o)))), .val (.int (nI i)), zop w] [] (khp n L (St n α β th ow sc) g) cl r := by
    intro t o c m f ht ho hc1 hc2 hc3 hm hf hm2 hf2
    have z1 : zix (nI (164 * t + (44 + 24 * o)) + Int32.ofInt 1) 820 = some (164 * t + (44 + 24 * o + 1)) := (zx (by simp (disch := omega) only [gB, gK, gU, gN, gC, gM, gMK, gD, gL, g_th, g_n, g_ms, g_ls, g_ow, g_sc, uB, uK, uU, uN, uC, uM, uMK, uL, u_ms, u_ls, u_th, u_ow, kup_same, kup_ne, kup_krow2, krow_same, krow_ne, c_0, c_1, c_2, c_3, c_4, c_5, b_6, b_8, b_10, b_12, b_14, b_15, b_16, b_17, b_18, b_19, b_20, b_24, b_30, b_44, b_63, b_100, h_164, o_n, c_z, nI_add, nI_mul] <;> first | rfl | (congr 1; omega)) (by omega) (by omega))
    intro k
    induction k with
    | zero =>
      intro i acc w r hi hh
      refine s140_35_t hn z1 (by simp (disch := omega) only [hc1, gB, gK, gU, gN, gC, gM, gMK, gD, gL, g_th, g_n, g_ms, g_ls, g_ow, g_sc, uB, uK, uU, uN, uC, uM, uMK, uL, u_ms, u_ls, u_th, u_ow, kup_same, kup_ne, kup_krow2, krow_same, krow_ne, c_0, c_1, c_2, c_3, c_4, c_5, b_6, b_8, b_10, b_12, b_14, b_15, b_16, b_17, b_18, b_19, b_20, b_24, b_30, b_44, b_63, b_100, h_164, o_n, c_z, nI_add, nI_mul, zc_ge, zc_lt, zc_gt, zc_le, zc_eq, zc_ne, decide_eq_true_eq, decide_eq_false_iff_not] <;> omega) ?_
      rw [nI_inc]
      exact hh _ _
    | succ k ih =>
      intro i acc w r hi hh
      obtain ⟨q, hq, hqe⟩ := hc3 i (by omega)
      have hcn : (β t (44 + 24 * o + 2 + 3 * i)).toNatClampNeg = q := by rw [hqe, nI_clamp (by omega)]
      have z3 : zix (nI (164 * t + (44 + 24 * o)) + Int32.ofInt 2 + Int32.ofInt 3 * nI i + Int32.ofInt 1) 820 = some (164 * t + (44 + 24 * o + 2 + 3 * i + 1)) := (zx (by simp (disch := omega) only [gB, gK, gU, gN, gC, gM, gMK, gD, gL, g_th, g_n, g_ms, g_ls, g_ow, g_sc, uB, uK, uU, uN, uC, uM, uMK, uL, u_ms, u_ls, u_th, u_ow, kup_same, kup_ne, kup_krow2, krow_same, krow_ne, c_0, c_1, c_2, c_3, c_4, c_5, b_6, b_8, b_10, b_12, b_14, b_15, b_16, b_17, b_18, b_19, b_20, b_24, b_30, b_44, b_63, b_100, h_164, o_n, c_z, nI_add, nI_mul] <;> first | rfl | (congr 1; omega)) (by omega) (by omega))
      have z5 : zix (nI (164 * t + (44 + 24 * o)) + Int32.ofInt 2 + Int32.ofInt 3 * nI i) 820 = some (164 * t + (44 + 24 * o + 2 + 3 * i)) := (zx (by simp (disch := omega) only [gB, gK, gU, gN, gC, gM, gMK, gD, gL, g_th, g_n, g_ms, g_ls, g_ow, g_sc, uB, uK, uU, uN, uC, uM, uMK, uL, u_ms, u_ls, u_th, u_ow, kup_same, kup_ne, kup_krow2, krow_same, krow_ne, c_0, c_1, c_2, c_3, c_4, c_5, b_6, b_8, b_10, b_12, b_14, b_15, b_16, b_17, b_18, b_19, b_20, b_24, b_30, b_44, b_63, b_100, h_164, o_n, c_z, nI_add, nI_mul] <;> first | rfl | (congr 1; omega)) (by omega) (by omega))
      have z8 : zix (nI (164 * t + (44 + 24 * o)) + Int32.ofInt 2 + Int32.ofInt 3 * nI i + Int32.ofInt 2) 820 = some (164 * t + (44 + 24 * o + 2 + 3 * i + 2)) := (zx (by simp (disch := omega) only [gB, gK, gU, gN, gC, gM, gMK, gD, gL, g_th, g_n, g_ms, g_ls, g_ow, g_sc, uB, uK, uU, uN, uC, uM, uMK, uL, u_ms, u_ls, u_th, u_ow, kup_same, kup_ne, kup_krow2, krow_same, krow_ne, c_0, c_1, c_2, c_3, c_4, c_5, b_6, b_8, b_10, b_12, b_14, b_15, b_16, b_17, b_18, b_19, b_20, b_24, b_30, b_44, b_63, b_100, h_164, o_n, c_z, nI_add, nI_mul] <;> first | rfl | (congr 1; omega)) (by omega) (by omega))
      have hs : ZR 102 0 [.val (.ref (kad n (22, 0, 0))), .val (.int (nI o)), .val (.int (nI t)), .val (.int (St n α β th ow sc (20 + (164 * t + (44 + 24 * o + 2 + 3 * i)) / 164) ((164 * t + (44 + 24 * o + 2 + 3 * i)) % 164))), .unset, .unset] [] (khp n L (St n α β th ow sc) g) true (.inl (some (.int (if seen m f q = true then Int32.ofInt 1 else Int32.ofInt 0))), khp n L (St n α β th ow sc) g, true) := by
        rw [gM (by omega) (by omega) (by omega), hqe]
        exact m_isSeen hn ho ht hm hf hm2 (by omega) (by omega)
      unfold sm at hh
      by_cases he : β t (44 + 24 * o + 2 + 3 * i + 1) = v
      · by_cases hse : seen m f q = true
        · rw [if_neg (by rw [hcn, hse]; simp)] at hh
          rw [if_pos hse] at hs
          refine s140_35_fft hn z1 (by simp (disch := omega) only [hc1, gB, gK, gU, gN, gC, gM, gMK, gD, gL, g_th, g_n, g_ms, g_ls, g_ow, g_sc, uB, uK, uU, uN, uC, uM, uMK, uL, u_ms, u_ls, u_th, u_ow, kup_same, kup_ne, kup_krow2, krow_same, krow_ne, c_0, c_1, c_2, c_3, c_4, c_5, b_6, b_8, b_10, b_12, b_14, b_15, b_16, b_17, b_18, b_19, b_20, b_24, b_30, b_44, b_63, b_100, h_164, o_n, c_z, nI_add, nI_mul, zc_ge, zc_lt, zc_gt, zc_le, zc_eq, zc_ne, decide_eq_true_eq, decide_eq_false_iff_not] <;> omega) z3 (zc_nef (by simp (disch := omega) only [gB, gK, gU, gN, gC, gM, gMK, gD, gL, g_th, g_n, g_ms, g_ls, g_ow, g_sc, uB, uK, uU, uN, uC, uM, uMK, uL, u_ms, u_ls, u_th, u_ow, kup_same, kup_ne, kup_krow2, krow_same, krow_ne, c_0, c_1, c_2, c_3, c_4, c_5, b_6, b_8, b_10, b_12, b_14, b_15, b_16, b_17, b_18, b_19, b_20, b_24, b_30, b_44, b_63, b_100, h_164, o_n]; exact he)) z5 hs rfl ?_
          rw [nI_inc]
          exact ih (i + 1) _ (some _) r (by omega) hh
        · rw [if_pos (by rw [hcn]; exact ⟨he, by simpa using hse⟩)] at hh
          rw [if_neg hse] at hs
          refine s140_35_fff hn z1 (by simp (disch := omega) only [hc1, gB, gK, gU, gN, gC, gM, gMK, gD, gL, g_th, g_n, g_ms, g_ls, g_ow, g_sc, uB, uK, uU, uN, uC, uM, uMK, uL, u_ms, u_ls, u_th, u_ow, kup_same, kup_ne, kup_krow2, krow_same, krow_ne, c_0, c_1, c_2, c_3, c_4, c_5, b_6, b_8, b_10, b_12, b_14, b_15, b_16, b_17, b_18, b_19, b_20, b_24, b_30, b_44, b_63, b_100, h_164, o_n, c_z, nI_add, nI_mul, zc_ge, zc_lt, zc_gt, zc_le, zc_eq, zc_ne, decide_eq_true_eq, decide_eq_false_iff_not] <;> omega) z3 (zc_nef (by simp (disch := omega) only [gB, gK, gU, gN, gC, gM, gMK, gD, gL, g_th, g_n, g_ms, g_ls, g_ow, g_sc, uB, uK, uU, uN, uC, uM, uMK, uL, u_ms, u_ls, u_th, u_ow, kup_same, kup_ne, kup_krow2, krow_same, krow_ne, c_0, c_1, c_2, c_3, c_4, c_5, b_6, b_8, b_10, b_12, b_14, b_15, b_16, b_17, b_18, b_19, b_20, b_24, b_30, b_44, b_63, b_100, h_164, o_n]; exact he)) z5 hs rfl z8 ?_
          rw [nI_inc, gM (by omega) (by omega) (by omega)]
          exact ih (i + 1) _ (some _) r (by omega) hh
      · rw [if_neg (fun q => he q.1)] at hh
        refine s140_35_ft hn z1 (by simp (disch := omega) only [hc1, gB, gK, gU, gN, gC, gM, gMK, gD, gL, g_th, g_n, g_ms, g_ls, g_ow, g_sc, uB, uK, uU, uN, uC, uM, uMK, uL, u_ms, u_ls, u_th, u_ow, kup_same, kup_ne, kup_krow2, krow_same, krow_ne, c_0, c_1, c_2, c_3, c_4, c_5, b_6, b_8, b_10, b_12, b_14, b_15, b_16, b_17, b_18, b_19, b_20, b_24, b_30, b_44, b_63, b_100, h_164, o_n, c_z, nI_add, nI_mul, zc_ge, zc_lt, zc_gt, zc_le, zc_eq, zc_ne, decide_eq_true_eq, decide_eq_false_iff_not] <;> omega) z3 (zc_net (by simp (disch := omega) only [gB, gK, gU, gN, gC, gM, gMK, gD, gL, g_th, g_n, g_ms, g_ls, g_ow, g_sc, uB, uK, uU, uN, uC, uM, uMK, uL, u_ms, u_ls, u_th, u_ow, kup_same, kup_ne, kup_krow2, krow_same, krow_ne, c_0, c_1, c_2, c_3, c_4, c_5, b_6, b_8, b_10, b_12, b_14, b_15, b_16, b_17, b_18, b_19, b_20, b_24, b_30, b_44, b_63, b_100, h_164, o_n]; exact he)) ?_
        rw [nI_inc]
        exact ih (i + 1) _ (some _) r (by omega) hh
  have middle : ∀ k o t acc w5 w6 w7 r, o + k = n → t < n → (∀ w4 w5 w6 w7, ZR 140 4 [.val (.ref (kad n (22, 0, 0))), .val (.int v), .val (.int (sm (fun o => uns β t o v) k o acc)), .val (.int (nI (t + 1))), zop w4, zop w5, zop w6, zop w7] [] (khp n L (St n α β th ow sc) g) cl r) → ZR 140 15 [.val (.ref (kad n (22, 0, 0))), .val (.int v), .val (.int acc), .val (.int (nI t)), .val (.int (nI o)), zop w5, zop w6, zop w7] [] (khp n L (St n α β th ow sc) g) cl r := by
    intro k
    induction k with
    | zero =>
      intro o t acc w5 w6 w7 r ho ht hh
      refine s140_15_t hn (by simp (disch := omega) only [gB, gK, gU, gN, gC, gM, gMK, gD, gL, g_th, g_n, g_ms, g_ls, g_ow, g_sc, uB, uK, uU, uN, uC, uM, uMK, uL, u_ms, u_ls, u_th, u_ow, kup_same, kup_ne, kup_krow2, krow_same, krow_ne, c_0, c_1, c_2, c_3, c_4, c_5, b_6, b_8, b_10, b_12, b_14, b_15, b_16, b_17, b_18, b_19, b_20, b_24, b_30, b_44, b_63, b_100, h_164, o_n, c_z, nI_add, nI_mul, zc_ge, zc_lt, zc_gt, zc_le, zc_eq, zc_ne, decide_eq_true_eq, decide_eq_false_iff_not] <;> omega) ?_
      rw [nI_inc]
      exact hh (some (nI o)) w5 w6 w7
    | succ k ih =>
      intro o t acc w5 w6 w7 r ho ht hh
      obtain ⟨c, hc1, hc2, hc3⟩ := h1 t o ht (by omega)
      obtain ⟨m, f, hm, hf, hm2, hf2⟩ := h2 o t (by omega) ht
      refine s140_15_f hn (by simp (disch := omega) only [gB, gK, gU, gN, gC, gM, gMK, gD, gL, g_th, g_n, g_ms, g_ls, g_ow, g_sc, uB, uK, uU, uN, uC, uM, uMK, uL, u_ms, u_ls, u_th, u_ow, kup_same, kup_ne, kup_krow2, krow_same, krow_ne, c_0, c_1, c_2, c_3, c_4, c_5, b_6, b_8, b_10, b_12, b_14, b_15, b_16, b_17, b_18, b_19, b_20, b_24, b_30, b_44, b_63, b_100, h_164, o_n, c_z, nI_add, nI_mul, zc_ge, zc_lt, zc_gt, zc_le, zc_eq, zc_ne, decide_eq_true_eq, decide_eq_false_iff_not] <;> omega) (m_other hn t o) ?_
      refine inner t o c m f ht (by omega) hc1 hc2 hc3 hm hf hm2 hf2 c 0 acc w7 r (by omega) ?_
      intro v6 w7
      have e : sm (fun i => if β t (44 + 24 * o + 2 + 3 * i + 1) = v ∧ seen m f ((β t (44 + 24 * o + 2 + 3 * i)).toNatClampNeg) = false then β t (44 + 24 * o + 2 + 3 * i + 2) else 0) c 0 acc = acc + uns β t o v := by
        unfold uns cn
        rw [hc1, hm, hf, nI_clamp (by omega), nI_clamp (by omega), nI_clamp (by omega)]
        rw [← sm_acc, Int32.add_zero]
      rw [e]
      exact ih (o + 1) t _ (some _) (some v6) w7 r (by omega) ht hh
  have outer : ∀ k t acc w4 w5 w6 w7, t + k = n → ZR 140 4 [.val (.ref (kad n (22, 0, 0))), .val (.int v), .val (.int acc), .val (.int (nI t)), zop w4, zop w5, zop w6, zop w7] [] (khp n L (St n α β th ow sc) g) cl (.inl (some (.int (sm2 n (fun t o => uns β t o v) k t acc))), khp n L (St n α β th ow sc) g, cl) := by
    intro k
    induction k with
    | zero =>
      intro t acc w4 w5 w6 w7 ht
      exact s140_4_t hn (by simp (disch := omega) only [gB, gK, gU, gN, gC, gM, gMK, gD, gL, g_th, g_n, g_ms, g_ls, g_ow, g_sc, uB, uK, uU, uN, uC, uM, uMK, uL, u_ms, u_ls, u_th, u_ow, kup_same, kup_ne, kup_krow2, krow_same, krow_ne, c_0, c_1, c_2, c_3, c_4, c_5, b_6, b_8, b_10, b_12, b_14, b_15, b_16, b_17, b_18, b_19, b_20, b_24, b_30, b_44, b_63, b_100, h_164, o_n, c_z, nI_add, nI_mul, zc_ge, zc_lt, zc_gt, zc_le, zc_eq, zc_ne, decide_eq_true_eq, decide_eq_false_iff_not] <;> omega)
    | succ k ih =>
      intro t acc w4 w5 w6 w7 ht
      unfold sm2
      refine s140_4_f hn (by simp (disch := omega) only [gB, gK, gU, gN, gC, gM, gMK, gD, gL, g_th, g_n, g_ms, g_ls, g_ow, g_sc, uB, uK, uU, uN, uC, uM, uMK, uL, u_ms, u_ls, u_th, u_ow, kup_same, kup_ne, kup_krow2, krow_same, krow_ne, c_0, c_1, c_2, c_3, c_4, c_5, b_6, b_8, b_10, b_12, b_14, b_15, b_16, b_17, b_18, b_19, b_20, b_24, b_30, b_44, b_63, b_100, h_164, o_n, c_z, nI_add, nI_mul, zc_ge, zc_lt, zc_gt, zc_le, zc_eq, zc_ne, decide_eq_true_eq, decide_eq_false_iff_not] <;> omega) ?_
      exact middle n 0 t acc w5 w6 w7 _ (by omega) (by omega) (fun w4 w5 w6 w7 => ih (t + 1) _ w4 w5 w6 w7 (by omega))
  exact s140_0_r hn (outer n 0 _ none none none none (by omega))
theorem m_opens (hn : 2 ≤ n ∧ n ≤ 5) : ZR 143 0 [.val (.ref (kad n (22, 0, 0))), .unset, .unset, .unset] [] (khp n L (St n α β th ow sc) g) cl (.inl (some (.int (sm2 n (fun t o => β t (44 + 24 * o + 1)) n 0 0))), khp n L (St n α β th ow sc) g, cl) := by
  have inner : ∀ k o t acc r, o + k = n → t < n → (∀ w, ZR 143 4 [.val (.ref (kad n (22, 0, 0))), .val (.int (sm (fun o => β t (44 + 24 * o + 1)) k o acc)), .val (.int (nI (t + 1))), zop w] [] (khp n L (St n α β th ow sc) g) cl r) → ZR 143 14 [.val (.ref (kad n (22, 0, 0))), .val (.int acc), .val (.int (nI t)), .val (.int (nI o))] [] (khp n L (St n α β th ow sc) g) cl r := by
    intro k
    induction k with
    | zero =>
      intro o t acc r ho ht hh
      refine s143_14_t hn (by simp (disch := omega) only [gB, gK, gU, gN, gC, gM, gMK, gD, gL, g_th, g_n, g_ms, g_ls, g_ow, g_sc, uB, uK, uU, uN, uC, uM, uMK, uL, u_ms, u_ls, u_th, u_ow, kup_same, kup_ne, kup_krow2, krow_same, krow_ne, c_0, c_1, c_2, c_3, c_4, c_5, b_6, b_8, b_10, b_12, b_14, b_15, b_16, b_17, b_18, b_19, b_20, b_24, b_30, b_44, b_63, b_100, h_164, o_n, c_z, nI_add, nI_mul, zc_ge, zc_lt, zc_gt, zc_le, zc_eq, zc_ne, decide_eq_true_eq, decide_eq_false_iff_not] <;> omega) ?_
      rw [nI_inc]
      exact hh (some (nI o))
    | succ k ih =>
      intro o t acc r ho ht hh
      refine s143_14_f (x3 := 164 * t + (44 + 24 * o + 1)) hn (by simp (disch := omega) only [gB, gK, gU, gN, gC, gM, gMK, gD, gL, g_th, g_n, g_ms, g_ls, g_ow, g_sc, uB, uK, uU, uN, uC, uM, uMK, uL, u_ms, u_ls, u_th, u_ow, kup_same, kup_ne, kup_krow2, krow_same, krow_ne, c_0, c_1, c_2, c_3, c_4, c_5, b_6, b_8, b_10, b_12, b_14, b_15, b_16, b_17, b_18, b_19, b_20, b_24, b_30, b_44, b_63, b_100, h_164, o_n, c_z, nI_add, nI_mul, zc_ge, zc_lt, zc_gt, zc_le, zc_eq, zc_ne, decide_eq_true_eq, decide_eq_false_iff_not] <;> omega) (m_other hn t o) (zx (by simp (disch := omega) only [gB, gK, gU, gN, gC, gM, gMK, gD, gL, g_th, g_n, g_ms, g_ls, g_ow, g_sc, uB, uK, uU, uN, uC, uM, uMK, uL, u_ms, u_ls, u_th, u_ow, kup_same, kup_ne, kup_krow2, krow_same, krow_ne, c_0, c_1, c_2, c_3, c_4, c_5, b_6, b_8, b_10, b_12, b_14, b_15, b_16, b_17, b_18, b_19, b_20, b_24, b_30, b_44, b_63, b_100, h_164, o_n, c_z, nI_add, nI_mul] <;> first | rfl | (congr 1; omega)) (by omega) (by omega)) ?_
      rw [nI_inc, gM (by omega) (by omega) (by omega)]
      exact ih (o + 1) t _ r (by omega) ht hh
  have outer : ∀ k t acc w, t + k = n → ZR 143 4 [.val (.ref (kad n (22, 0, 0))), .val (.int acc), .val (.int (nI t)), zop w] [] (khp n L (St n α β th ow sc) g) cl (.inl (some (.int (sm2 n (fun t o => β t (44 + 24 * o + 1)) k t acc))), khp n L (St n α β th ow sc) g, cl) := by
    intro k
    induction k with
    | zero =>
      intro t acc w ht
      exact s143_4_t hn (by simp (disch := omega) only [gB, gK, gU, gN, gC, gM, gMK, gD, gL, g_th, g_n, g_ms, g_ls, g_ow, g_sc, uB, uK, uU, uN, uC, uM, uMK, uL, u_ms, u_ls, u_th, u_ow, kup_same, kup_ne, kup_krow2, krow_same, krow_ne, c_0, c_1, c_2, c_3, c_4, c_5, b_6, b_8, b_10, b_12, b_14, b_15, b_16, b_17, b_18, b_19, b_20, b_24, b_30, b_44, b_63, b_100, h_164, o_n, c_z, nI_add, nI_mul, zc_ge, zc_lt, zc_gt, zc_le, zc_eq, zc_ne, decide_eq_true_eq, decide_eq_false_iff_not] <;> omega)
    | succ k ih =>
      intro t acc w ht
      unfold sm2
      refine s143_4_f hn (by simp (disch := omega) only [gB, gK, gU, gN, gC, gM, gMK, gD, gL, g_th, g_n, g_ms, g_ls, g_ow, g_sc, uB, uK, uU, uN, uC, uM, uMK, uL, u_ms, u_ls, u_th, u_ow, kup_same, kup_ne, kup_krow2, krow_same, krow_ne, c_0, c_1, c_2, c_3, c_4, c_5, b_6, b_8, b_10, b_12, b_14, b_15, b_16, b_17, b_18, b_19, b_20, b_24, b_30, b_44, b_63, b_100, h_164, o_n, c_z, nI_add, nI_mul, zc_ge, zc_lt, zc_gt, zc_le, zc_eq, zc_ne, decide_eq_true_eq, decide_eq_false_iff_not] <;> omega) ?_
      exact inner n 0 t acc _ (by omega) (by omega) (fun w => ih (t + 1) _ w (by omega))
  exact s143_0_r hn (outer n 0 _ none (by omega))
theorem m_settled (hn : 2 ≤ n ∧ n ≤ 5) : ZR 142 0 [.val (.ref (kad n (22, 0, 0))), .unset, .unset, .unset, .unset] [] (khp n L (St n α β th ow sc) g) cl (.inl (some (.int (zb (decide (sm2 n (fun t o => β t (44 + 24 * o + 1)) n 0 0 = 0) && al (aHolds β n) n 0)))), khp n L (St n α β th ow sc) g, cl) := by
  have zbq : ∀ b, zb b = 0 ∨ zb b = 1 := by intro b; cases b; exact Or.inl rfl; exact Or.inr rfl
  have inner : ∀ k a t o b r, a + k = 4 → t < n → o < n → (∀ w, ZR 142 25 [.val (.ref (kad n (22, 0, 0))), .val (.int (zb (b && (decide (t = o) || al (fun a => decide (β t (44 + 24 * o + 16 + a) = β o a)) k a)))), .val (.int (nI t)), .val (.int (nI (o + 1))), zop w] [] (khp n L (St n α β th ow sc) g) cl r) → ZR 142 36 [.val (.ref (kad n (22, 0, 0))), .val (.int (zb b)), .val (.int (nI t)), .val (.int (nI o)), .val (.int (nI a))] [] (khp n L (St n α β th ow sc) g) cl r := by
    intro k
    induction k with
    | zero =>
      intro a t o b r ha ht ho hh
      refine s142_36_t hn (by simp (disch := omega) only [gB, gK, gU, gN, gC, gM, gMK, gD, gL, g_th, g_n, g_ms, g_ls, g_ow, g_sc, uB, uK, uU, uN, uC, uM, uMK, uL, u_ms, u_ls, u_th, u_ow, kup_same, kup_ne, kup_krow2, krow_same, krow_ne, c_0, c_1, c_2, c_3, c_4, c_5, b_6, b_8, b_10, b_12, b_14, b_15, b_16, b_17, b_18, b_19, b_20, b_24, b_30, b_44, b_63, b_100, h_164, o_n, c_z, nI_add, nI_mul, zc_ge, zc_lt, zc_gt, zc_le, zc_eq, zc_ne, decide_eq_true_eq, decide_eq_false_iff_not] <;> omega) ?_
      rw [nI_inc]
      unfold al at hh
      rw [Bool.or_true, Bool.and_true] at hh
      exact hh (some (nI a))
    | succ k ih =>
      intro a t o b r ha ht ho hh
      cases b with
      | false =>
        refine s142_36_ft hn (by simp (disch := omega) only [gB, gK, gU, gN, gC, gM, gMK, gD, gL, g_th, g_n, g_ms, g_ls, g_ow, g_sc, uB, uK, uU, uN, uC, uM, uMK, uL, u_ms, u_ls, u_th, u_ow, kup_same, kup_ne, kup_krow2, krow_same, krow_ne, c_0, c_1, c_2, c_3, c_4, c_5, b_6, b_8, b_10, b_12, b_14, b_15, b_16, b_17, b_18, b_19, b_20, b_24, b_30, b_44, b_63, b_100, h_164, o_n, c_z, nI_add, nI_mul, zc_ge, zc_lt, zc_gt, zc_le, zc_eq, zc_ne, decide_eq_true_eq, decide_eq_false_iff_not] <;> omega) rfl ?_
        rw [nI_inc]
        exact ih (a + 1) t o false r (by omega) ht ho (by simpa using hh)
      | true =>
        by_cases hto : o = t
        · refine s142_36_fft hn (by simp (disch := omega) only [gB, gK, gU, gN, gC, gM, gMK, gD, gL, g_th, g_n, g_ms, g_ls, g_ow, g_sc, uB, uK, uU, uN, uC, uM, uMK, uL, u_ms, u_ls, u_th, u_ow, kup_same, kup_ne, kup_krow2, krow_same, krow_ne, c_0, c_1, c_2, c_3, c_4, c_5, b_6, b_8, b_10, b_12, b_14, b_15, b_16, b_17, b_18, b_19, b_20, b_24, b_30, b_44, b_63, b_100, h_164, o_n, c_z, nI_add, nI_mul, zc_ge, zc_lt, zc_gt, zc_le, zc_eq, zc_ne, decide_eq_true_eq, decide_eq_false_iff_not] <;> omega) rfl (by rw [zc_eq (by omega) (by omega)]; simp [hto]) ?_
          rw [nI_inc]
          exact ih (a + 1) t o true r (by omega) ht ho (by simpa [hto] using hh)
        · unfold al at hh
          by_cases he : β t (44 + 24 * o + 16 + a) = β o a
          · refine s142_36_ffff (x5 := 164 * t + (44 + 24 * o + 16 + a)) (x7 := 164 * o + a) hn (by simp (disch := omega) only [gB, gK, gU, gN, gC, gM, gMK, gD, gL, g_th, g_n, g_ms, g_ls, g_ow, g_sc, uB, uK, uU, uN, uC, uM, uMK, uL, u_ms, u_ls, u_th, u_ow, kup_same, kup_ne, kup_krow2, krow_same, krow_ne, c_0, c_1, c_2, c_3, c_4, c_5, b_6, b_8, b_10, b_12, b_14, b_15, b_16, b_17, b_18, b_19, b_20, b_24, b_30, b_44, b_63, b_100, h_164, o_n, c_z, nI_add, nI_mul, zc_ge, zc_lt, zc_gt, zc_le, zc_eq, zc_ne, decide_eq_true_eq, decide_eq_false_iff_not] <;> omega) rfl (by rw [zc_eq (by omega) (by omega)]; simp [hto]) (m_other hn t o) (zx (by simp (disch := omega) only [gB, gK, gU, gN, gC, gM, gMK, gD, gL, g_th, g_n, g_ms, g_ls, g_ow, g_sc, uB, uK, uU, uN, uC, uM, uMK, uL, u_ms, u_ls, u_th, u_ow, kup_same, kup_ne, kup_krow2, krow_same, krow_ne, c_0, c_1, c_2, c_3, c_4, c_5, b_6, b_8, b_10, b_12, b_14, b_15, b_16, b_17, b_18, b_19, b_20, b_24, b_30, b_44, b_63, b_100, h_164, o_n, c_z, nI_add, nI_mul] <;> first | rfl | (congr 1; omega)) (by omega) (by omega)) (m_at hn o) (zx (by simp (disch := omega) only [gB, gK, gU, gN, gC, gM, gMK, gD, gL, g_th, g_n, g_ms, g_ls, g_ow, g_sc, uB, uK, uU, uN, uC, uM, uMK, uL, u_ms, u_ls, u_th, u_ow, kup_same, kup_ne, kup_krow2, krow_same, krow_ne, c_0, c_1, c_2, c_3, c_4, c_5, b_6, b_8, b_10, b_12, b_14, b_15, b_16, b_17, b_18, b_19, b_20, b_24, b_30, b_44, b_63, b_100, h_164, o_n, c_z, nI_add, nI_mul] <;> first | rfl | (congr 1; omega)) (by omega) (by omega)) (zc_nef (by simp (disch := omega) only [gB, gK, gU, gN, gC, gM, gMK, gD, gL, g_th, g_n, g_ms, g_ls, g_ow, g_sc, uB, uK, uU, uN, uC, uM, uMK, uL, u_ms, u_ls, u_th, u_ow, kup_same, kup_ne, kup_krow2, krow_same, krow_ne, c_0, c_1, c_2, c_3, c_4, c_5, b_6, b_8, b_10, b_12, b_14, b_15, b_16, b_17, b_18, b_19, b_20, b_24, b_30, b_44, b_63, b_100, h_164, o_n]; exact he)) ?_
            rw [nI_inc]
            exact ih (a + 1) t o true r (by omega) ht ho (by simpa [he] using hh)
          · refine s142_36_ffft (x5 := 164 * t + (44 + 24 * o + 16 + a)) (x7 := 164 * o + a) hn (by simp (disch := omega) only [gB, gK, gU, gN, gC, gM, gMK, gD, gL, g_th, g_n, g_ms, g_ls, g_ow, g_sc, uB, uK, uU, uN, uC, uM, uMK, uL, u_ms, u_ls, u_th, u_ow, kup_same, kup_ne, kup_krow2, krow_same, krow_ne, c_0, c_1, c_2, c_3, c_4, c_5, b_6, b_8, b_10, b_12, b_14, b_15, b_16, b_17, b_18, b_19, b_20, b_24, b_30, b_44, b_63, b_100, h_164, o_n, c_z, nI_add, nI_mul, zc_ge, zc_lt, zc_gt, zc_le, zc_eq, zc_ne, decide_eq_true_eq, decide_eq_false_iff_not] <;> omega) rfl (by rw [zc_eq (by omega) (by omega)]; simp [hto]) (m_other hn t o) (zx (by simp (disch := omega) only [gB, gK, gU, gN, gC, gM, gMK, gD, gL, g_th, g_n, g_ms, g_ls, g_ow, g_sc, uB, uK, uU, uN, uC, uM, uMK, uL, u_ms, u_ls, u_th, u_ow, kup_same, kup_ne, kup_krow2, krow_same, krow_ne, c_0, c_1, c_2, c_3, c_4, c_5, b_6, b_8, b_10, b_12, b_14, b_15, b_16, b_17, b_18, b_19, b_20, b_24, b_30, b_44, b_63, b_100, h_164, o_n, c_z, nI_add, nI_mul] <;> first | rfl | (congr 1; omega)) (by omega) (by omega)) (m_at hn o) (zx (by simp (disch := omega) only [gB, gK, gU, gN, gC, gM, gMK, gD, gL, g_th, g_n, g_ms, g_ls, g_ow, g_sc, uB, uK, uU, uN, uC, uM, uMK, uL, u_ms, u_ls, u_th, u_ow, kup_same, kup_ne, kup_krow2, krow_same, krow_ne, c_0, c_1, c_2, c_3, c_4, c_5, b_6, b_8, b_10, b_12, b_14, b_15, b_16, b_17, b_18, b_19, b_20, b_24, b_30, b_44, b_63, b_100, h_164, o_n, c_z, nI_add, nI_mul] <;> first | rfl | (congr 1; omega)) (by omega) (by omega)) (zc_net (by simp (disch := omega) only [gB, gK, gU, gN, gC, gM, gMK, gD, gL, g_th, g_n, g_ms, g_ls, g_ow, g_sc, uB, uK, uU, uN, uC, uM, uMK, uL, u_ms, u_ls, u_th, u_ow, kup_same, kup_ne, kup_krow2, krow_same, krow_ne, c_0, c_1, c_2, c_3, c_4, c_5, b_6, b_8, b_10, b_12, b_14, b_15, b_16, b_17, b_18, b_19, b_20, b_24, b_30, b_44, b_63, b_100, h_164, o_n]; exact he)) ?_
            rw [nI_inc]
            refine ih (a + 1) t o false r (by omega) ht ho ?_
            have hto2 : ¬ t = o := fun q => hto q.symm
            simpa [he, hto2] using hh
  have middle : ∀ k o t b w r, o + k = n → t < n → (∀ w3 w4, ZR 142 15 [.val (.ref (kad n (22, 0, 0))), .val (.int (zb (b && al (fun o => decide (t = o) || aHold β t o) k o))), .val (.int (nI (t + 1))), zop w3, zop w4] [] (khp n L (St n α β th ow sc) g) cl r) → ZR 142 25 [.val (.ref (kad n (22, 0, 0))), .val (.int (zb b)), .val (.int (nI t)), .val (.int (nI o)), zop w] [] (khp n L (St n α β th ow sc) g) cl r := by
    intro k
    induction k with
    | zero =>
      intro o t b w r ho ht hh
      refine s142_25_t hn (by simp (disch := omega) only [gB, gK, gU, gN, gC, gM, gMK, gD, gL, g_th, g_n, g_ms, g_ls, g_ow, g_sc, uB, uK, uU, uN, uC, uM, uMK, uL, u_ms, u_ls, u_th, u_ow, kup_same, kup_ne, kup_krow2, krow_same, krow_ne, c_0, c_1, c_2, c_3, c_4, c_5, b_6, b_8, b_10, b_12, b_14, b_15, b_16, b_17, b_18, b_19, b_20, b_24, b_30, b_44, b_63, b_100, h_164, o_n, c_z, nI_add, nI_mul, zc_ge, zc_lt, zc_gt, zc_le, zc_eq, zc_ne, decide_eq_true_eq, decide_eq_false_iff_not] <;> omega) ?_
      rw [nI_inc]
      unfold al at hh
      rw [Bool.and_true] at hh
      exact hh (some (nI o)) w
    | succ k ih =>
      intro o t b w r ho ht hh
      refine s142_25_f hn (by simp (disch := omega) only [gB, gK, gU, gN, gC, gM, gMK, gD, gL, g_th, g_n, g_ms, g_ls, g_ow, g_sc, uB, uK, uU, uN, uC, uM, uMK, uL, u_ms, u_ls, u_th, u_ow, kup_same, kup_ne, kup_krow2, krow_same, krow_ne, c_0, c_1, c_2, c_3, c_4, c_5, b_6, b_8, b_10, b_12, b_14, b_15, b_16, b_17, b_18, b_19, b_20, b_24, b_30, b_44, b_63, b_100, h_164, o_n, c_z, nI_add, nI_mul, zc_ge, zc_lt, zc_gt, zc_le, zc_eq, zc_ne, decide_eq_true_eq, decide_eq_false_iff_not] <;> omega) ?_
      refine inner 4 0 t o b r (by omega) ht (by omega) ?_
      intro w
      refine ih (o + 1) t _ w r (by omega) ht ?_
      unfold al at hh
      rw [← Bool.and_assoc] at hh
      exact hh
  have outer : ∀ k t b w3 w4, t + k = n → ZR 142 15 [.val (.ref (kad n (22, 0, 0))), .val (.int (zb b)), .val (.int (nI t)), zop w3, zop w4] [] (khp n L (St n α β th ow sc) g) cl (.inl (some (.int (zb (b && al (aHolds β n) k t)))), khp n L (St n α β th ow sc) g, cl) := by
    intro k
    induction k with
    | zero =>
      intro t b w3 w4 ht
      unfold al
      rw [Bool.and_true]
      exact s142_15_t hn (by simp (disch := omega) only [gB, gK, gU, gN, gC, gM, gMK, gD, gL, g_th, g_n, g_ms, g_ls, g_ow, g_sc, uB, uK, uU, uN, uC, uM, uMK, uL, u_ms, u_ls, u_th, u_ow, kup_same, kup_ne, kup_krow2, krow_same, krow_ne, c_0, c_1, c_2, c_3, c_4, c_5, b_6, b_8, b_10, b_12, b_14, b_15, b_16, b_17, b_18, b_19, b_20, b_24, b_30, b_44, b_63, b_100, h_164, o_n, c_z, nI_add, nI_mul, zc_ge, zc_lt, zc_gt, zc_le, zc_eq, zc_ne, decide_eq_true_eq, decide_eq_false_iff_not] <;> omega) (zbq b)
    | succ k ih =>
      intro t b w3 w4 ht
      refine s142_15_f hn (by simp (disch := omega) only [gB, gK, gU, gN, gC, gM, gMK, gD, gL, g_th, g_n, g_ms, g_ls, g_ow, g_sc, uB, uK, uU, uN, uC, uM, uMK, uL, u_ms, u_ls, u_th, u_ow, kup_same, kup_ne, kup_krow2, krow_same, krow_ne, c_0, c_1, c_2, c_3, c_4, c_5, b_6, b_8, b_10, b_12, b_14, b_15, b_16, b_17, b_18, b_19, b_20, b_24, b_30, b_44, b_63, b_100, h_164, o_n, c_z, nI_add, nI_mul, zc_ge, zc_lt, zc_gt, zc_le, zc_eq, zc_ne, decide_eq_true_eq, decide_eq_false_iff_not] <;> omega) ?_
      refine middle n 0 t b w4 _ (by omega) (by omega) ?_
      intro w3 w4
      have h := ih (t + 1) (b && aHolds β n t) w3 w4 (by omega)
      have e : al (aHolds β n) (k + 1) t = (aHolds β n t && al (aHolds β n) k (t + 1)) := rfl
      rw [e, ← Bool.and_assoc]
      exact h
  have ho := m_opens (α := α) (β := β) (th := th) (ow := ow) (sc := sc) (g := g) (L := L) (cl := true) hn
  by_cases h : sm2 n (fun t o => β t (44 + 24 * o + 1)) n 0 0 = 0
  · simp only [h, decide_true]
    exact s142_0_f hn ho (zc_nef h) (outer n 0 true none none (by omega))
  · simp only [h, decide_false]
    exact s142_0_t hn ho (zc_net h) (outer n 0 false none none (by omega))
end MD
