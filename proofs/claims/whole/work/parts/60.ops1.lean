/-- both sides answer alike: a call that may throw -/
def OpT (j : Nat) (ls : List Slot) (mj : Nat) (mls : List Slot) (t1 : Nat) (n L B : Nat) (α : Ks) : Prop :=
  ∃ code v α', code ≤ 2 ∧ Inv n (B + 30) α' ∧
  (∀ β th ow sc g, (khp n L (St n α β th ow sc) g).length < zcap → (code = 0 ∧ ∃ cl', ZR j 0 ls [] (khp n L (St n α β th ow sc) g) true (.inl (some (.int v)), khp n L (St n (α') β th ow sc) g, cl')) ∨ (code = 1 ∧ α' = α ∧ ZR j 0 ls [] (khp n L (St n α β th ow sc) g) true (.inr (khp n L (St n α β th ow sc) g).length, khp n L (St n α β th ow sc) g ++ [(t1, [])], false)) ∨ (code = 2 ∧ α' = α ∧ ZR j 0 ls [] (khp n L (St n α β th ow sc) g) true (.inr (khp n L (St n α β th ow sc) g).length, khp n L (St n α β th ow sc) g ++ [(201, [])], false))) ∧
  (∀ γ th ow sc g, ∃ cl' v', ZR mj 0 mls [] (khp n L (St n γ α th ow sc) g) true (.inl (some (.int v')), khp n L (St n γ (α') (nI code) ow sc) g, cl') ∧ (code = 0 → v' = v))
/-- both sides answer alike: a call that never throws -/
def OpV (j : Nat) (ls : List Slot) (mj : Nat) (mls : List Slot) (n L B : Nat) (α : Ks) : Prop :=
  ∃ v α', Inv n (B + 30) α' ∧
  (∀ β th ow sc g, ∃ cl', ZR j 0 ls [] (khp n L (St n α β th ow sc) g) true (.inl (some (.int v)), khp n L (St n (α') β th ow sc) g, cl')) ∧
  (∀ γ th ow sc g, ∃ cl', ZR mj 0 mls [] (khp n L (St n γ α th ow sc) g) true (.inl (some (.int v)), khp n L (St n γ (α') (nI 0) ow sc) g, cl'))
section OPS
variable {n L B : Nat} {α : Ks} {j mj t1 : Nat} {ls mls : List Slot}
theorem opT0 {v : Int32} {α' : Ks} (hI : Inv n (B + 30) α') (hc : ∀ β th ow sc g, ∃ cl', ZR j 0 ls [] (khp n L (St n α β th ow sc) g) true (.inl (some (.int v)), khp n L (St n (α') β th ow sc) g, cl')) (hm : ∀ γ th ow sc g, ∃ cl', ZR mj 0 mls [] (khp n L (St n γ α th ow sc) g) true (.inl (some (.int v)), khp n L (St n γ (α') (nI 0) ow sc) g, cl')) : OpT j ls mj mls t1 n L B α :=
  ⟨0, v, α', by omega, hI, fun β th ow sc g _ => Or.inl ⟨rfl, hc β th ow sc g⟩, fun γ th ow sc g => by obtain ⟨cl', h⟩ := hm γ th ow sc g; exact ⟨cl', v, h, fun _ => rfl⟩⟩
theorem opT1 {v : Int32} (hI : Inv n B α) (hc : ∀ β th ow sc g, (khp n L (St n α β th ow sc) g).length < zcap → ZR j 0 ls [] (khp n L (St n α β th ow sc) g) true (.inr (khp n L (St n α β th ow sc) g).length, khp n L (St n α β th ow sc) g ++ [(t1, [])], false)) (hm : ∀ γ th ow sc g, ∃ cl', ZR mj 0 mls [] (khp n L (St n γ α th ow sc) g) true (.inl (some (.int v)), khp n L (St n γ α (nI 1) ow sc) g, cl')) : OpT j ls mj mls t1 n L B α :=
  ⟨1, v, α, by omega, Inv_mono (by omega) hI, fun β th ow sc g h => Or.inr (Or.inl ⟨rfl, rfl, hc β th ow sc g h⟩), fun γ th ow sc g => by obtain ⟨cl', h⟩ := hm γ th ow sc g; exact ⟨cl', v, h, fun _ => rfl⟩⟩
theorem opT2 {v : Int32} (hI : Inv n B α) (hc : ∀ β th ow sc g, (khp n L (St n α β th ow sc) g).length < zcap → ZR j 0 ls [] (khp n L (St n α β th ow sc) g) true (.inr (khp n L (St n α β th ow sc) g).length, khp n L (St n α β th ow sc) g ++ [(201, [])], false)) (hm : ∀ γ th ow sc g, ∃ cl', ZR mj 0 mls [] (khp n L (St n γ α th ow sc) g) true (.inl (some (.int v)), khp n L (St n γ α (nI 2) ow sc) g, cl')) : OpT j ls mj mls t1 n L B α :=
  ⟨2, v, α, by omega, Inv_mono (by omega) hI, fun β th ow sc g h => Or.inr (Or.inr ⟨rfl, rfl, hc β th ow sc g h⟩), fun γ th ow sc g => by obtain ⟨cl', h⟩ := hm γ th ow sc g; exact ⟨cl', v, h, fun _ => rfl⟩⟩
theorem op_stock (hn : 2 ≤ n ∧ n ≤ 5) (hI : Inv n B α) (p q : Int32) : OpT 48 [.val (.ref (kad n (0, 0, 0))), .val (.int p), .val (.int q), .unset, .unset] 113 [.val (.ref (kad n (22, 0, 0))), .val (.int p), .val (.int q)] 200 n L B α := by
  have hup := hI.1 0 (by omega)
  by_cases ha : okA p
  · obtain ⟨a, ha, rfl⟩ := ha
    by_cases hu : okU q
    · by_cases h0 : α 10 0 = 0
      · refine opT2 hI (fun β th ow sc g hcap => s48_0_kke201 hn (c_checkArticle_t hn ha) (c_checkUnits_t hn hu) (c_checkUp_f (t := 0) hn (by omega) h0 hcap)) (fun γ th ow sc g => ⟨_, zr_rv (by simp only [u_th] <;> rfl) rfl (s113_0_ftttf (x6 := 0) hn (m_isArticle_t hn ha) rfl (m_isUnits_t hn hu) rfl rfl rfl (by rw [u_th]; exact dn_t h0) rfl)⟩)
      · by_cases hb : α 0 (12 + a) + q ≤ Int32.ofNat 100000000
        · refine opT0 (v := α 0 a + q) (α' := aDown (kup (kup α 0 a (α 0 a + q)) 0 (12 + a) (α 0 (12 + a) + q)) 0) ?_ ?_ ?_
          · exact Inv_mono (by omega) (Inv_down (by omega) hn.2 (Inv_small (by omega) hn.2 (by omega) (Inv_small (by omega) hn.2 (by omega) hI)))
          · intro β th ow sc g
            refine ⟨_, zr_rv rfl ?_ (s48_0_kkkt (x4 := 0) (x5 := a) (c7 := false) (σ7 := St n (aDown (kup (kup α 0 a (α 0 a + q)) 0 (12 + a) (α 0 (12 + a) + q)) 0) β th ow sc) hn (c_checkArticle_t hn ha) (c_checkUnits_t hn hu) (c_checkUp_t (t := 0) hn (by omega) h0) (zix_nI (a := 0) (by omega) (by omega)) (zix_nI ha (by omega)) (zc_leT (by simp (disch := omega) only [gB, gK, gU, gN, gC, gM, gMK, gD, gL, g_th, g_n, g_ms, g_ls, g_ow, g_sc, uB, uK, uU, uN, uC, uM, uMK, uL, u_ms, u_ls, u_th, u_ow, kup_same, kup_ne, kup_krow2, krow_same, krow_ne, c_0, c_1, c_2, c_3, c_4, c_5, b_6, b_8, b_10, b_12, b_14, b_15, b_16, b_17, b_18, b_19, b_20, b_24, b_30, b_44, b_63, b_100, h_164, o_n]; exact hb)) ?_)⟩
            · rw [gB (by omega) (by omega)]
              unfold aDown
              simp (disch := omega) only [gB, gK, gU, gN, gC, gM, gMK, gD, gL, g_th, g_n, g_ms, g_ls, g_ow, g_sc, uB, uK, uU, uN, uC, uM, uMK, uL, u_ms, u_ls, u_th, u_ow, kup_same, kup_ne, kup_krow2, krow_same, krow_ne, c_0, c_1, c_2, c_3, c_4, c_5, b_6, b_8, b_10, b_12, b_14, b_15, b_16, b_17, b_18, b_19, b_20, b_24, b_30, b_44, b_63, b_100, h_164, o_n]
            · refine zr_st ?_ (c_writeDown hn (by omega))
              simp (disch := omega) only [gB, gK, gU, gN, gC, gM, gMK, gD, gL, g_th, g_n, g_ms, g_ls, g_ow, g_sc, uB, uK, uU, uN, uC, uM, uMK, uL, u_ms, u_ls, u_th, u_ow, kup_same, kup_ne, kup_krow2, krow_same, krow_ne, c_0, c_1, c_2, c_3, c_4, c_5, b_6, b_8, b_10, b_12, b_14, b_15, b_16, b_17, b_18, b_19, b_20, b_24, b_30, b_44, b_63, b_100, h_164, o_n]
          · intro γ th ow sc g
            obtain ⟨c7, h7⟩ := m_syncNow (α := γ) (β := kup (kup α 0 a (α 0 a + q)) 0 (12 + a) (α 0 (12 + a) + q)) (th := nI 0) (ow := ow) (sc := sc) (L := L) (g := g) (cl := true) hn (show 0 < 5 by omega)
            refine ⟨_, zr_rv rfl ?_ (s113_0_fttftt (x6 := 0) (x8 := 164 * 0 + (12 + a)) (x11 := 164 * 0 + a) (c12 := c7) (σ12 := St n γ (aDown (kup (kup α 0 a (α 0 a + q)) 0 (12 + a) (α 0 (12 + a) + q)) 0) (nI 0) ow sc) hn (m_isArticle_t hn ha) rfl (m_isUnits_t hn hu) rfl rfl rfl (by rw [u_th]; exact dn_f hup h0) (zx (by simp (disch := omega) only [gB, gK, gU, gN, gC, gM, gMK, gD, gL, g_th, g_n, g_ms, g_ls, g_ow, g_sc, uB, uK, uU, uN, uC, uM, uMK, uL, u_ms, u_ls, u_th, u_ow, kup_same, kup_ne, kup_krow2, krow_same, krow_ne, c_0, c_1, c_2, c_3, c_4, c_5, b_6, b_8, b_10, b_12, b_14, b_15, b_16, b_17, b_18, b_19, b_20, b_24, b_30, b_44, b_63, b_100, h_164, o_n, c_z, nI_add, nI_mul] <;> first | rfl | (congr 1; omega)) (by omega) (by omega)) (zc_leT (by simp (disch := omega) only [gB, gK, gU, gN, gC, gM, gMK, gD, gL, g_th, g_n, g_ms, g_ls, g_ow, g_sc, uB, uK, uU, uN, uC, uM, uMK, uL, u_ms, u_ls, u_th, u_ow, kup_same, kup_ne, kup_krow2, krow_same, krow_ne, c_0, c_1, c_2, c_3, c_4, c_5, b_6, b_8, b_10, b_12, b_14, b_15, b_16, b_17, b_18, b_19, b_20, b_24, b_30, b_44, b_63, b_100, h_164, o_n]; exact hb)) rfl (zx (by congr 1; omega) (by omega) (by omega)) ?_)⟩
            · rw [gM (by omega) (by omega) (by omega)]
              unfold aDown
              simp (disch := omega) only [gB, gK, gU, gN, gC, gM, gMK, gD, gL, g_th, g_n, g_ms, g_ls, g_ow, g_sc, uB, uK, uU, uN, uC, uM, uMK, uL, u_ms, u_ls, u_th, u_ow, kup_same, kup_ne, kup_krow2, krow_same, krow_ne, c_0, c_1, c_2, c_3, c_4, c_5, b_6, b_8, b_10, b_12, b_14, b_15, b_16, b_17, b_18, b_19, b_20, b_24, b_30, b_44, b_63, b_100, h_164, o_n]
            · refine zr_st ?_ h7
              simp (disch := omega) only [gB, gK, gU, gN, gC, gM, gMK, gD, gL, g_th, g_n, g_ms, g_ls, g_ow, g_sc, uB, uK, uU, uN, uC, uM, uMK, uL, u_ms, u_ls, u_th, u_ow, kup_same, kup_ne, kup_krow2, krow_same, krow_ne, c_0, c_1, c_2, c_3, c_4, c_5, b_6, b_8, b_10, b_12, b_14, b_15, b_16, b_17, b_18, b_19, b_20, b_24, b_30, b_44, b_63, b_100, h_164, o_n]
        · refine opT2 hI (fun β th ow sc g hcap => s48_0_kkkf (x4 := 0) (x5 := a) hn (c_checkArticle_t hn ha) (c_checkUnits_t hn hu) (c_checkUp_t (t := 0) hn (by omega) h0) (zix_nI (a := 0) (by omega) (by omega)) (zix_nI ha (by omega)) (zc_leF (by simp (disch := omega) only [gB, gK, gU, gN, gC, gM, gMK, gD, gL, g_th, g_n, g_ms, g_ls, g_ow, g_sc, uB, uK, uU, uN, uC, uM, uMK, uL, u_ms, u_ls, u_th, u_ow, kup_same, kup_ne, kup_krow2, krow_same, krow_ne, c_0, c_1, c_2, c_3, c_4, c_5, b_6, b_8, b_10, b_12, b_14, b_15, b_16, b_17, b_18, b_19, b_20, b_24, b_30, b_44, b_63, b_100, h_164, o_n]; exact hb)) hcap rfl) (fun γ th ow sc g => ⟨_, zr_rv (by simp only [u_th] <;> rfl) rfl (s113_0_fttfff (x6 := 0) (x8 := 164 * 0 + (12 + a)) hn (m_isArticle_t hn ha) rfl (m_isUnits_t hn hu) rfl rfl rfl (by rw [u_th]; exact dn_f hup h0) (zx (by simp (disch := omega) only [gB, gK, gU, gN, gC, gM, gMK, gD, gL, g_th, g_n, g_ms, g_ls, g_ow, g_sc, uB, uK, uU, uN, uC, uM, uMK, uL, u_ms, u_ls, u_th, u_ow, kup_same, kup_ne, kup_krow2, krow_same, krow_ne, c_0, c_1, c_2, c_3, c_4, c_5, b_6, b_8, b_10, b_12, b_14, b_15, b_16, b_17, b_18, b_19, b_20, b_24, b_30, b_44, b_63, b_100, h_164, o_n, c_z, nI_add, nI_mul] <;> first | rfl | (congr 1; omega)) (by omega) (by omega)) (zc_leF (by simp (disch := omega) only [gB, gK, gU, gN, gC, gM, gMK, gD, gL, g_th, g_n, g_ms, g_ls, g_ow, g_sc, uB, uK, uU, uN, uC, uM, uMK, uL, u_ms, u_ls, u_th, u_ow, kup_same, kup_ne, kup_krow2, krow_same, krow_ne, c_0, c_1, c_2, c_3, c_4, c_5, b_6, b_8, b_10, b_12, b_14, b_15, b_16, b_17, b_18, b_19, b_20, b_24, b_30, b_44, b_63, b_100, h_164, o_n]; exact hb)) rfl)⟩)
    · exact opT1 hI (fun β th ow sc g hcap => s48_0_ke200 hn (c_checkArticle_t hn ha) (c_checkUnits_f hn hu hcap)) (fun γ th ow sc g => ⟨_, zr_rv (by simp only [u_th] <;> rfl) rfl (s113_0_fff hn (m_isArticle_t hn ha) rfl (m_isUnits_f hn hu) rfl rfl)⟩)
  · exact opT1 hI (fun β th ow sc g hcap => s48_0_e200 hn (c_checkArticle_f hn ha hcap)) (fun γ th ow sc g => ⟨_, zr_rv (by simp only [u_th] <;> rfl) rfl (s113_0_tf hn (m_isArticle_f hn ha) rfl rfl)⟩)
theorem m_mayTake_x {γ : Ks} {th ow : Int32} {sc : Nat → Int32} {g : List Nat} {p q u : Int32} (hn : 2 ≤ n ∧ n ≤ 5) (h : ¬ (okT n p ∧ okA q ∧ okU u)) : ZR 117 0 [.val (.ref (kad n (22, 0, 0))), .val (.int p), .val (.int q), .val (.int u)] [] (khp n L (St n γ α th ow sc) g) true (.inl (some (.int (Int32.ofInt 0))), khp n L (St n γ α (nI 1) ow sc) g, false) := zr_rv (by simp only [u_th] <;> rfl) rfl (s117_0_ttt hn (m_areThese_f hn h) rfl rfl rfl)
theorem m_mayTake_f {γ : Ks} {th ow : Int32} {sc : Nat → Int32} {g : List Nat} {t a : Nat} {u : Int32} (hn : 2 ≤ n ∧ n ≤ 5) (ht : t < n) (ha : a < 4) (hu : okU u) (hup : UpOk α t) (h : ¬ (¬ α 10 t = 0 ∧ u ≤ α t a)) : ZR 117 0 [.val (.ref (kad n (22, 0, 0))), .val (.int (nI t)), .val (.int (nI a)), .val (.int u)] [] (khp n L (St n γ α th ow sc) g) true (.inl (some (.int (Int32.ofInt 0))), khp n L (St n γ α (nI 2) ow sc) g, false) := by
  by_cases h0 : α 10 t = 0
  · exact zr_rv (by simp only [u_th] <;> rfl) rfl (s117_0_fftt (x4 := t) hn (m_areThese_t hn ht ha hu) rfl rfl (zix_nI (by omega) (by omega)) (by rw [u_th]; exact dn_t h0) rfl)
  · refine zr_rv (by simp only [u_th] <;> rfl) rfl (s117_0_fffft (x4 := t) (x7 := 164 * t + a) (r6 := nI (164 * t)) hn (m_areThese_t hn ht ha hu) rfl rfl (zix_nI (by omega) (by omega)) (by rw [u_th]; exact dn_f hup h0) ?_ (zx (by simp (disch := omega) only [gB, gK, gU, gN, gC, gM, gMK, gD, gL, g_th, g_n, g_ms, g_ls, g_ow, g_sc, uB, uK, uU, uN, uC, uM, uMK, uL, u_ms, u_ls, u_th, u_ow, kup_same, kup_ne, kup_krow2, krow_same, krow_ne, c_0, c_1, c_2, c_3, c_4, c_5, b_6, b_8, b_10, b_12, b_14, b_15, b_16, b_17, b_18, b_19, b_20, b_24, b_30, b_44, b_63, b_100, h_164, o_n, c_z, nI_add, nI_mul] <;> first | rfl | (congr 1; omega)) (by omega) (by omega)) (zc_geF (by simp (disch := omega) only [gB, gK, gU, gN, gC, gM, gMK, gD, gL, g_th, g_n, g_ms, g_ls, g_ow, g_sc, uB, uK, uU, uN, uC, uM, uMK, uL, u_ms, u_ls, u_th, u_ow, kup_same, kup_ne, kup_krow2, krow_same, krow_ne, c_0, c_1, c_2, c_3, c_4, c_5, b_6, b_8, b_10, b_12, b_14, b_15, b_16, b_17, b_18, b_19, b_20, b_24, b_30, b_44, b_63, b_100, h_164, o_n]; exact fun q => h ⟨h0, q⟩)) rfl)
    rw [u_th]
    exact m_at hn t
theorem m_mayTake_t {γ : Ks} {th ow : Int32} {sc : Nat → Int32} {g : List Nat} {t a : Nat} {u : Int32} (hn : 2 ≤ n ∧ n ≤ 5) (ht : t < n) (ha : a < 4) (hu : okU u) (hup : UpOk α t) (h0 : ¬ α 10 t = 0) (h : u ≤ α t a) : ZR 117 0 [.val (.ref (kad n (22, 0, 0))), .val (.int (nI t)), .val (.int (nI a)), .val (.int u)] [] (khp n L (St n γ α th ow sc) g) true (.inl (some (.int (Int32.ofInt 1))), khp n L (St n γ α (nI 0) ow sc) g, false) := by
  refine zr_rv (by simp only [u_th] <;> rfl) rfl (s117_0_ffftf (x4 := t) (x7 := 164 * t + a) (r6 := nI (164 * t)) hn (m_areThese_t hn ht ha hu) rfl rfl (zix_nI (by omega) (by omega)) (by rw [u_th]; exact dn_f hup h0) ?_ (zx (by simp (disch := omega) only [gB, gK, gU, gN, gC, gM, gMK, gD, gL, g_th, g_n, g_ms, g_ls, g_ow, g_sc, uB, uK, uU, uN, uC, uM, uMK, uL, u_ms, u_ls, u_th, u_ow, kup_same, kup_ne, kup_krow2, krow_same, krow_ne, c_0, c_1, c_2, c_3, c_4, c_5, b_6, b_8, b_10, b_12, b_14, b_15, b_16, b_17, b_18, b_19, b_20, b_24, b_30, b_44, b_63, b_100, h_164, o_n, c_z, nI_add, nI_mul] <;> first | rfl | (congr 1; omega)) (by omega) (by omega)) (zc_geT (by simp (disch := omega) only [gB, gK, gU, gN, gC, gM, gMK, gD, gL, g_th, g_n, g_ms, g_ls, g_ow, g_sc, uB, uK, uU, uN, uC, uM, uMK, uL, u_ms, u_ls, u_th, u_ow, kup_same, kup_ne, kup_krow2, krow_same, krow_ne, c_0, c_1, c_2, c_3, c_4, c_5, b_6, b_8, b_10, b_12, b_14, b_15, b_16, b_17, b_18, b_19, b_20, b_24, b_30, b_44, b_63, b_100, h_164, o_n]; exact h)) rfl)
  rw [u_th]
  exact m_at hn t
theorem op_sell (hn : 2 ≤ n ∧ n ≤ 5) (hI : Inv n B α) (p q u : Int32) : OpT 53 [.val (.ref (kad n (0, 0, 0))), .val (.int p), .val (.int q), .val (.int u), .unset] 116 [.val (.ref (kad n (22, 0, 0))), .val (.int p), .val (.int q), .val (.int u)] 200 n L B α := by
  by_cases hg : okT n p ∧ okA q ∧ okU u
  · obtain ⟨⟨t, ht, rfl⟩, ⟨a, ha, rfl⟩, hu⟩ := hg
    have hup := hI.1 t ht
    by_cases hs : ¬ α 10 t = 0 ∧ u ≤ α t a
    · obtain ⟨h0, hs⟩ := hs
      refine opT0 (v := α t a - u) (α' := kup (kup α t a (α t a - u)) t (4 + a) (α t (4 + a) + u)) ?_ ?_ ?_
      · exact Inv_mono (by omega) (Inv_small ht hn.2 (by omega) (Inv_small ht hn.2 (by omega) hI))
      · intro β th ow sc g
        refine ⟨_, zr_rv ?_ ?_ (s53_0_kk (x3 := t) (x4 := a) hn (c_checkGoods_t hn ht ha hu) (c_checkSuffices_t hn ht ha h0 hs) (zix_nI ht (by omega)) (zix_nI ha (by omega)))⟩
        · simp (disch := omega) only [gB, gK, gU, gN, gC, gM, gMK, gD, gL, g_th, g_n, g_ms, g_ls, g_ow, g_sc, uB, uK, uU, uN, uC, uM, uMK, uL, u_ms, u_ls, u_th, u_ow, kup_same, kup_ne, kup_krow2, krow_same, krow_ne, c_0, c_1, c_2, c_3, c_4, c_5, b_6, b_8, b_10, b_12, b_14, b_15, b_16, b_17, b_18, b_19, b_20, b_24, b_30, b_44, b_63, b_100, h_164, o_n]
        · simp (disch := omega) only [gB, gK, gU, gN, gC, gM, gMK, gD, gL, g_th, g_n, g_ms, g_ls, g_ow, g_sc, uB, uK, uU, uN, uC, uM, uMK, uL, u_ms, u_ls, u_th, u_ow, kup_same, kup_ne, kup_krow2, krow_same, krow_ne, c_0, c_1, c_2, c_3, c_4, c_5, b_6, b_8, b_10, b_12, b_14, b_15, b_16, b_17, b_18, b_19, b_20, b_24, b_30, b_44, b_63, b_100, h_164, o_n]
      · intro γ th ow sc g
        exact ⟨_, s116_0_f hn (m_mayTake_t hn ht ha hu hup h0 hs) rfl (m_move (w := 4) hn ht ha (Or.inl rfl) rfl)⟩
    · exact opT2 hI (fun β th ow sc g hcap => s53_0_ke201 hn (c_checkGoods_t hn ht ha hu) (c_checkSuffices_f hn ht ha hs hcap)) (fun γ th ow sc g => ⟨_, s116_0_t hn (m_mayTake_f hn ht ha hu hup hs) rfl⟩)
  · exact opT1 hI (fun β th ow sc g hcap => s53_0_e200 hn (c_checkGoods_f hn hg hcap)) (fun γ th ow sc g => ⟨_, s116_0_t hn (m_mayTake_x hn hg) rfl⟩)
theorem op_broken (hn : 2 ≤ n ∧ n ≤ 5) (hI : Inv n B α) (p q u : Int32) : OpT 60 [.val (.ref (kad n (0, 0, 0))), .val (.int p), .val (.int q), .val (.int u), .unset] 121 [.val (.ref (kad n (22, 0, 0))), .val (.int p), .val (.int q), .val (.int u)] 200 n L B α := by
  by_cases hg : okT n p ∧ okA q ∧ okU u
  · obtain ⟨⟨t, ht, rfl⟩, ⟨a, ha, rfl⟩, hu⟩ := hg
    have hup := hI.1 t ht
    by_cases hs : ¬ α 10 t = 0 ∧ u ≤ α t a
    · obtain ⟨h0, hs⟩ := hs
      refine opT0 (v := α t a - u) (α' := kup (kup α t a (α t a - u)) t (8 + a) (α t (8 + a) + u)) ?_ ?_ ?_
      · exact Inv_mono (by omega) (Inv_small ht hn.2 (by omega) (Inv_small ht hn.2 (by omega) hI))
      · intro β th ow sc g
        refine ⟨_, zr_rv ?_ ?_ (s60_0_kk (x3 := t) (x4 := a) hn (c_checkGoods_t hn ht ha hu) (c_checkSuffices_t hn ht ha h0 hs) (zix_nI ht (by omega)) (zix_nI ha (by omega)))⟩
        · simp (disch := omega) only [gB, gK, gU, gN, gC, gM, gMK, gD, gL, g_th, g_n, g_ms, g_ls, g_ow, g_sc, uB, uK, uU, uN, uC, uM, uMK, uL, u_ms, u_ls, u_th, u_ow, kup_same, kup_ne, kup_krow2, krow_same, krow_ne, c_0, c_1, c_2, c_3, c_4, c_5, b_6, b_8, b_10, b_12, b_14, b_15, b_16, b_17, b_18, b_19, b_20, b_24, b_30, b_44, b_63, b_100, h_164, o_n]
        · simp (disch := omega) only [gB, gK, gU, gN, gC, gM, gMK, gD, gL, g_th, g_n, g_ms, g_ls, g_ow, g_sc, uB, uK, uU, uN, uC, uM, uMK, uL, u_ms, u_ls, u_th, u_ow, kup_same, kup_ne, kup_krow2, krow_same, krow_ne, c_0, c_1, c_2, c_3, c_4, c_5, b_6, b_8, b_10, b_12, b_14, b_15, b_16, b_17, b_18, b_19, b_20, b_24, b_30, b_44, b_63, b_100, h_164, o_n]
      · intro γ th ow sc g
        exact ⟨_, s121_0_f hn (m_mayTake_t hn ht ha hu hup h0 hs) rfl (m_move (w := 8) hn ht ha (Or.inr rfl) rfl)⟩
    · exact opT2 hI (fun β th ow sc g hcap => s60_0_ke201 hn (c_checkGoods_t hn ht ha hu) (c_checkSuffices_f hn ht ha hs hcap)) (fun γ th ow sc g => ⟨_, s121_0_t hn (m_mayTake_f hn ht ha hu hup hs) rfl⟩)
  · exact opT1 hI (fun β th ow sc g hcap => s60_0_e200 hn (c_checkGoods_f hn hg hcap)) (fun γ th ow sc g => ⟨_, s121_0_t hn (m_mayTake_x hn hg) rfl⟩)
theorem op_unsell (hn : 2 ≤ n ∧ n ≤ 5) (hI : Inv n B α) (p q u : Int32) : OpT 58 [.val (.ref (kad n (0, 0, 0))), .val (.int p), .val (.int q), .val (.int u), .unset] 122 [.val (.ref (kad n (22, 0, 0))), .val (.int p), .val (.int q), .val (.int u)] 200 n L B α := by
  by_cases hg : okT n p ∧ okA q ∧ okU u
  · obtain ⟨⟨t, ht, rfl⟩, ⟨a, ha, rfl⟩, hu⟩ := hg
    have hup := hI.1 t ht
    by_cases h0 : α 10 t = 0
    · exact opT2 hI (fun β th ow sc g hcap => s58_0_ke201 hn (c_checkGoods_t hn ht ha hu) (c_checkUp_f hn ht h0 hcap)) (fun γ th ow sc g => ⟨_, zr_rv (by simp only [u_th] <;> rfl) rfl (s122_0_fttf (x4 := t) hn (m_areThese_t hn ht ha hu) rfl rfl (zix_nI (by omega) (by omega)) (by rw [u_th]; exact dn_t h0) rfl)⟩)
    · by_cases hb : α t a + u ≤ Int32.ofNat 100000000
      · refine opT0 (v := α t a + u) (α' := kup (kup α t a (α t a + u)) t (4 + a) (α t (4 + a) - u)) ?_ ?_ ?_
        · exact Inv_mono (by omega) (Inv_small ht hn.2 (by omega) (Inv_small ht hn.2 (by omega) hI))
        · intro β th ow sc g
          refine ⟨_, zr_rv ?_ ?_ (s58_0_kkt (x3 := t) (x4 := a) hn (c_checkGoods_t hn ht ha hu) (c_checkUp_t hn ht h0) (zix_nI ht (by omega)) (zix_nI ha (by omega)) (zc_leT (by simp (disch := omega) only [gB, gK, gU, gN, gC, gM, gMK, gD, gL, g_th, g_n, g_ms, g_ls, g_ow, g_sc, uB, uK, uU, uN, uC, uM, uMK, uL, u_ms, u_ls, u_th, u_ow, kup_same, kup_ne, kup_krow2, krow_same, krow_ne, c_0, c_1, c_2, c_3, c_4, c_5, b_6, b_8, b_10, b_12, b_14, b_15, b_16, b_17, b_18, b_19, b_20, b_24, b_30, b_44, b_63, b_100, h_164, o_n]; exact hb)))⟩
          · simp (disch := omega) only [gB, gK, gU, gN, gC, gM, gMK, gD, gL, g_th, g_n, g_ms, g_ls, g_ow, g_sc, uB, uK, uU, uN, uC, uM, uMK, uL, u_ms, u_ls, u_th, u_ow, kup_same, kup_ne, kup_krow2, krow_same, krow_ne, c_0, c_1, c_2, c_3, c_4, c_5, b_6, b_8, b_10, b_12, b_14, b_15, b_16, b_17, b_18, b_19, b_20, b_24, b_30, b_44, b_63, b_100, h_164, o_n]
          · simp (disch := omega) only [gB, gK, gU, gN, gC, gM, gMK, gD, gL, g_th, g_n, g_ms, g_ls, g_ow, g_sc, uB, uK, uU, uN, uC, uM, uMK, uL, u_ms, u_ls, u_th, u_ow, kup_same, kup_ne, kup_krow2, krow_same, krow_ne, c_0, c_1, c_2, c_3, c_4, c_5, b_6, b_8, b_10, b_12, b_14, b_15, b_16, b_17, b_18, b_19, b_20, b_24, b_30, b_44, b_63, b_100, h_164, o_n]
        · intro γ th ow sc g
          have hmv := m_move (α := γ) (β := α) (th := nI 0) (ow := ow) (sc := sc) (L := L) (g := g) (cl := true) (u := -u) (w := 4) (p := Int32.ofInt 4) hn ht ha (Or.inl rfl) rfl
          rw [Int32.sub_neg, ← Int32.sub_eq_add_neg] at hmv
          refine ⟨_, s122_0_ftftt (x4 := t) (x7 := 164 * t + a) (r6 := nI (164 * t)) (c10 := false) hn (m_areThese_t hn ht ha hu) rfl rfl (zix_nI (by omega) (by omega)) (by rw [u_th]; exact dn_f hup h0) ?_ (zx (by simp (disch := omega) only [gB, gK, gU, gN, gC, gM, gMK, gD, gL, g_th, g_n, g_ms, g_ls, g_ow, g_sc, uB, uK, uU, uN, uC, uM, uMK, uL, u_ms, u_ls, u_th, u_ow, kup_same, kup_ne, kup_krow2, krow_same, krow_ne, c_0, c_1, c_2, c_3, c_4, c_5, b_6, b_8, b_10, b_12, b_14, b_15, b_16, b_17, b_18, b_19, b_20, b_24, b_30, b_44, b_63, b_100, h_164, o_n, c_z, nI_add, nI_mul] <;> first | rfl | (congr 1; omega)) (by omega) (by omega)) (zc_leT (by simp (disch := omega) only [gB, gK, gU, gN, gC, gM, gMK, gD, gL, g_th, g_n, g_ms, g_ls, g_ow, g_sc, uB, uK, uU, uN, uC, uM, uMK, uL, u_ms, u_ls, u_th, u_ow, kup_same, kup_ne, kup_krow2, krow_same, krow_ne, c_0, c_1, c_2, c_3, c_4, c_5, b_6, b_8, b_10, b_12, b_14, b_15, b_16, b_17, b_18, b_19, b_20, b_24, b_30, b_44, b_63, b_100, h_164, o_n]; exact hb)) rfl ?_⟩
          · rw [u_th]
            exact m_at hn t
          · simp only [u_th]
            exact hmv
      · refine opT2 hI (fun β th ow sc g hcap => s58_0_kkf (x3 := t) (x4 := a) hn (c_checkGoods_t hn ht ha hu) (c_checkUp_t hn ht h0) (zix_nI ht (by omega)) (zix_nI ha (by omega)) (zc_leF (by simp (disch := omega) only [gB, gK, gU, gN, gC, gM, gMK, gD, gL, g_th, g_n, g_ms, g_ls, g_ow, g_sc, uB, uK, uU, uN, uC, uM, uMK, uL, u_ms, u_ls, u_th, u_ow, kup_same, kup_ne, kup_krow2, krow_same, krow_ne, c_0, c_1, c_2, c_3, c_4, c_5, b_6, b_8, b_10, b_12, b_14, b_15, b_16, b_17, b_18, b_19, b_20, b_24, b_30, b_44, b_63, b_100, h_164, o_n]; exact hb)) hcap rfl) (fun γ th ow sc g => ⟨_, zr_rv (by simp only [u_th] <;> rfl) rfl (s122_0_ftfff (x4 := t) (x7 := 164 * t + a) (r6 := nI (164 * t)) hn (m_areThese_t hn ht ha hu) rfl rfl (zix_nI (by omega) (by omega)) (by rw [u_th]; exact dn_f hup h0) ?_ (zx (by simp (disch := omega) only [gB, gK, gU, gN, gC, gM, gMK, gD, gL, g_th, g_n, g_ms, g_ls, g_ow, g_sc, uB, uK, uU, uN, uC, uM, uMK, uL, u_ms, u_ls, u_th, u_ow, kup_same, kup_ne, kup_krow2, krow_same, krow_ne, c_0, c_1, c_2, c_3, c_4, c_5, b_6, b_8, b_10, b_12, b_14, b_15, b_16, b_17, b_18, b_19, b_20, b_24, b_30, b_44, b_63, b_100, h_164, o_n, c_z, nI_add, nI_mul] <;> first | rfl | (congr 1; omega)) (by omega) (by omega)) (zc_leF (by simp (disch := omega) only [gB, gK, gU, gN, gC, gM, gMK, gD, gL, g_th, g_n, g_ms, g_ls, g_ow, g_sc, uB, uK, uU, uN, uC, uM, uMK, uL, u_ms, u_ls, u_th, u_ow, kup_same, kup_ne, kup_krow2, krow_same, krow_ne, c_0, c_1, c_2, c_3, c_4, c_5, b_6, b_8, b_10, b_12, b_14, b_15, b_16, b_17, b_18, b_19, b_20, b_24, b_30, b_44, b_63, b_100, h_164, o_n]; exact hb)) rfl)⟩)
        rw [u_th]
        exact m_at hn t
  · exact opT1 hI (fun β th ow sc g hcap => s58_0_e200 hn (c_checkGoods_f hn hg hcap)) (fun γ th ow sc g => ⟨_, zr_rv (by simp only [u_th] <;> rfl) rfl (s122_0_tf hn (m_areThese_f hn hg) rfl rfl)⟩)
theorem op_counted (hn : 2 ≤ n ∧ n ≤ 5) (hI : Inv n B α) (p u : Int32) : OpT 83 [.val (.ref (kad n (0, 0, 0))), .val (.int p), .val (.int u), .unset, .unset] 131 [.val (.ref (kad n (22, 0, 0))), .val (.int p), .val (.int u), .unset] 200 n L B α := by
  have hup := hI.1 0 (by omega)
  by_cases ha : okA p
  · obtain ⟨a, ha, rfl⟩ := ha
    by_cases hu : u = 0 ∨ okU u
    · have h1 : ¬ u < 0 := by
        rcases hu with rfl | hu
        · decide
        · intro h
          exact hu.1 (Int32.lt_trans h (by decide))
      have h2 : u ≤ Int32.ofNat 1000000 := by
        rcases hu with rfl | hu
        · decide
        · exact hu.2
      by_cases h0 : α 10 0 = 0
      · refine opT2 hI (fun β th ow sc g hcap => ?_) (fun γ th ow sc g => ⟨_, zr_rv (by simp only [u_th] <;> rfl) rfl (s131_0_ffttff (x6 := 0) hn (m_isArticle_t hn ha) rfl (zc_ltF h1) (zc_leT h2) rfl rfl (by rw [u_th]; exact dq_t h0) rfl)⟩)
        by_cases hz : u = 0
        · exact s83_0_kte201 hn (c_checkArticle_t hn ha) (zc_eqt hz) (c_checkUp_f (t := 0) hn (by omega) h0 hcap)
        · exact s83_0_kfke201 hn (c_checkArticle_t hn ha) (zc_eqf hz) (c_checkUnits_t hn (hu.resolve_left hz)) (c_checkUp_f (t := 0) hn (by omega) h0 hcap)
      · refine opT0 (v := u - α 0 a) (α' := kup (kup α 0 a u) 0 (12 + a) (α 0 (12 + a) + (u - α 0 a))) ?_ ?_ ?_
        · exact Inv_mono (by omega) (Inv_small (by omega) hn.2 (by omega) (Inv_small (by omega) hn.2 (by omega) hI))
        · intro β th ow sc g
          by_cases hz : u = 0
          · refine ⟨_, zr_rv ?_ ?_ (s83_0_ktk (x4 := 0) (x5 := a) hn (c_checkArticle_t hn ha) (zc_eqt hz) (c_checkUp_t (t := 0) hn (by omega) h0) (zix_nI (a := 0) (by omega) (by omega)) (zix_nI ha (by omega)))⟩
            · simp (disch := omega) only [gB, gK, gU, gN, gC, gM, gMK, gD, gL, g_th, g_n, g_ms, g_ls, g_ow, g_sc, uB, uK, uU, uN, uC, uM, uMK, uL, u_ms, u_ls, u_th, u_ow, kup_same, kup_ne, kup_krow2, krow_same, krow_ne, c_0, c_1, c_2, c_3, c_4, c_5, b_6, b_8, b_10, b_12, b_14, b_15, b_16, b_17, b_18, b_19, b_20, b_24, b_30, b_44, b_63, b_100, h_164, o_n]
            · simp (disch := omega) only [gB, gK, gU, gN, gC, gM, gMK, gD, gL, g_th, g_n, g_ms, g_ls, g_ow, g_sc, uB, uK, uU, uN, uC, uM, uMK, uL, u_ms, u_ls, u_th, u_ow, kup_same, kup_ne, kup_krow2, krow_same, krow_ne, c_0, c_1, c_2, c_3, c_4, c_5, b_6, b_8, b_10, b_12, b_14, b_15, b_16, b_17, b_18, b_19, b_20, b_24, b_30, b_44, b_63, b_100, h_164, o_n]
          · refine ⟨_, zr_rv ?_ ?_ (s83_0_kfkk (x5 := 0) (x6 := a) hn (c_checkArticle_t hn ha) (zc_eqf hz) (c_checkUnits_t hn (hu.resolve_left hz)) (c_checkUp_t (t := 0) hn (by omega) h0) (zix_nI (a := 0) (by omega) (by omega)) (zix_nI ha (by omega)))⟩
            · simp (disch := omega) only [gB, gK, gU, gN, gC, gM, gMK, gD, gL, g_th, g_n, g_ms, g_ls, g_ow, g_sc, uB, uK, uU, uN, uC, uM, uMK, uL, u_ms, u_ls, u_th, u_ow, kup_same, kup_ne, kup_krow2, krow_same, krow_ne, c_0, c_1, c_2, c_3, c_4, c_5, b_6, b_8, b_10, b_12, b_14, b_15, b_16, b_17, b_18, b_19, b_20, b_24, b_30, b_44, b_63, b_100, h_164, o_n]
            · simp (disch := omega) only [gB, gK, gU, gN, gC, gM, gMK, gD, gL, g_th, g_n, g_ms, g_ls, g_ow, g_sc, uB, uK, uU, uN, uC, uM, uMK, uL, u_ms, u_ls, u_th, u_ow, kup_same, kup_ne, kup_krow2, krow_same, krow_ne, c_0, c_1, c_2, c_3, c_4, c_5, b_6, b_8, b_10, b_12, b_14, b_15, b_16, b_17, b_18, b_19, b_20, b_24, b_30, b_44, b_63, b_100, h_164, o_n]
        · intro γ th ow sc g
          refine ⟨_, zr_rv ?_ ?_ (s131_0_fftttt (x6 := 0) (x9 := 164 * 0 + a) (x10 := 164 * 0 + (12 + a)) hn (m_isArticle_t hn ha) rfl (zc_ltF h1) (zc_leT h2) rfl rfl (by rw [u_th]; exact dq_f hup h0) rfl (zx (by congr 1; omega) (by omega) (by omega)) (zx (by simp (disch := omega) only [gB, gK, gU, gN, gC, gM, gMK, gD, gL, g_th, g_n, g_ms, g_ls, g_ow, g_sc, uB, uK, uU, uN, uC, uM, uMK, uL, u_ms, u_ls, u_th, u_ow, kup_same, kup_ne, kup_krow2, krow_same, krow_ne, c_0, c_1, c_2, c_3, c_4, c_5, b_6, b_8, b_10, b_12, b_14, b_15, b_16, b_17, b_18, b_19, b_20, b_24, b_30, b_44, b_63, b_100, h_164, o_n, c_z, nI_add, nI_mul] <;> first | rfl | (congr 1; omega)) (by omega) (by omega)))⟩
          · simp (disch := omega) only [gB, gK, gU, gN, gC, gM, gMK, gD, gL, g_th, g_n, g_ms, g_ls, g_ow, g_sc, uB, uK, uU, uN, uC, uM, uMK, uL, u_ms, u_ls, u_th, u_ow, kup_same, kup_ne, kup_krow2, krow_same, krow_ne, c_0, c_1, c_2, c_3, c_4, c_5, b_6, b_8, b_10, b_12, b_14, b_15, b_16, b_17, b_18, b_19, b_20, b_24, b_30, b_44, b_63, b_100, h_164, o_n]
          · simp (disch := omega) only [gB, gK, gU, gN, gC, gM, gMK, gD, gL, g_th, g_n, g_ms, g_ls, g_ow, g_sc, uB, uK, uU, uN, uC, uM, uMK, uL, u_ms, u_ls, u_th, u_ow, kup_same, kup_ne, kup_krow2, krow_same, krow_ne, c_0, c_1, c_2, c_3, c_4, c_5, b_6, b_8, b_10, b_12, b_14, b_15, b_16, b_17, b_18, b_19, b_20, b_24, b_30, b_44, b_63, b_100, h_164, o_n]
    · have hz : ¬ u = 0 := fun q => hu (Or.inl q)
      have hu2 : ¬ okU u := fun q => hu (Or.inr q)
      refine opT1 (v := Int32.ofInt 0) hI (fun β th ow sc g hcap => s83_0_kfe200 hn (c_checkArticle_t hn ha) (zc_eqf hz) (c_checkUnits_f hn hu2 hcap)) (fun γ th ow sc g => ?_)
      by_cases h1 : u < 0
      · exact ⟨_, zr_rv (by simp only [u_th] <;> rfl) rfl (s131_0_ftf hn (m_isArticle_t hn ha) rfl (zc_ltT h1) rfl)⟩
      · refine ⟨_, zr_rv (by simp only [u_th] <;> rfl) rfl (s131_0_ffff hn (m_isArticle_t hn ha) rfl (zc_ltF h1) (zc_leF ?_) rfl)⟩
        intro h2
        apply hu2
        obtain ⟨k, hk, rfl⟩ := nI_of h1
        refine ⟨?_, h2⟩
        rw [c_1, nI_ltI hk (by omega)]
        intro h3
        exact hz (by rw [show k = 0 by omega]; rfl)
  · exact opT1 hI (fun β th ow sc g hcap => s83_0_e200 hn (c_checkArticle_f hn ha hcap)) (fun γ th ow sc g => ⟨_, zr_rv (by simp only [u_th] <;> rfl) rfl (s131_0_tf hn (m_isArticle_f hn ha) rfl rfl)⟩)
end OPS
