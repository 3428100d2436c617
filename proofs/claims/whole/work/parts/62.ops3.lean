theorem mark_seen {n B t o a x m f : Nat} {α : Ks} {v : Int32} (ht : t < n) (ho : o < n) (hn : n ≤ 5) (hB : B < 2 ^ 29) (ha : a < 4) (hm : α t (44 + 24 * o + 15) = nI m) (hf : α t (44 + 24 * o + 14) = nI f) (hm2 : m < 2 ^ 16) (hf2 : f < 2 ^ 29) (hx : f ≤ x) (hx2 : x < f + 16) (hxN : x < cn (α o (44 + 24 * t))) (h : Inv n B α) : seenA (aDown (kup (aMark α t o x) t a v) t) t o x := by
  obtain ⟨N, c, c', f0, m0, a1, a2, a3, a4, a5, a6, a7, a8, ⟨b1, b2, b3, b4⟩, ⟨d1, d2, d3, d4⟩, e1, e2⟩ := h.2.2.1 o t ho ht
  have hff : f0 = f := by
    rw [hf] at d1
    exact ((nI_eq (by omega) (by omega)).mp d1).symm
  subst hff
  have hmm : m0 = m := by
    rw [hm] at d3
    exact ((nI_eq (by omega) (by omega)).mp d3).symm
  subst hmm
  have hxN' : x < N := by
    rw [b1] at hxN
    unfold cn at hxN
    rw [nI_clamp (by omega)] at hxN
    exact hxN
  have hlt : m0 ||| 2 ^ (x - f0) < 2 ^ 16 := Nat.or_lt_two_pow hm2 (Nat.pow_lt_pow_right (by omega) (by omega))
  obtain ⟨s1, s2, s3, s4, s5, s6⟩ := slide_all 16 (m0 ||| 2 ^ (x - f0)) f0 N hlt hlt a2 (by
    intro j hj hb
    rcases bit_or.mp hb with hb | hb
    · exact a8 j hj hb
    · omega)
  have hmark : aMark α t o x = aBits α t o (slide 16 (m0 ||| 2 ^ (x - f0)) f0).1 (slide 16 (m0 ||| 2 ^ (x - f0)) f0).2 := by
    unfold aMark cn
    rw [hm, hf, nI_clamp (by omega), nI_clamp (by omega)]
  rw [hmark]
  generalize (slide 16 (m0 ||| 2 ^ (x - f0)) f0).1 = m' at s1 s4 s5 s6 ⊢
  generalize (slide 16 (m0 ||| 2 ^ (x - f0)) f0).2 = f' at s1 s2 s3 s6 ⊢
  unfold seenA aDown
  rw [krow_ne (by omega), krow_ne (by omega), kup_ne (by omega), kup_ne (by omega), aBits_bits, aBits_floor]
  unfold cn
  rw [nI_clamp (by omega), nI_clamp (by omega), s1 x]
  exact (seen_or hx hx2).mpr (Or.inr rfl)
theorem aClose_some {α : Ks} {t o c i : Nat} : aClose α t o c (some i) = krow α t (remO (α t) o i (c - 1)) := rfl
section OPS3
variable {n L B : Nat} {α : Ks} {j mj t1 : Nat} {ls mls : List Slot}
theorem op_sync (hn : 2 ≤ n ∧ n ≤ 5) (hI : Inv n B α) (p : Int32) : OpV 14 [.val (.ref (kad n (0, 0, 0))), .val (.int p)] 132 [.val (.ref (kad n (22, 0, 0))), .val (.int p)] n L B α := by
  by_cases ht : okT n p
  · obtain ⟨t, ht, rfl⟩ := ht
    have hup := hI.1 t ht
    by_cases h0 : α 10 t = 0
    · refine ⟨Int32.ofInt 0, α, Inv_mono (by omega) hI, fun β th ow sc g => ⟨_, s14_0_f hn (c_isUp_f hn ht h0) rfl⟩, fun γ th ow sc g => ⟨_, zr_rv (by simp only [u_th] <;> rfl) rfl (s132_0_fff (x5 := t) (r1 := Int32.ofInt 1) (r3 := Int32.ofInt 1) hn ?_ rfl ?_ rfl (zix_nI (by omega) (by omega)) (by rw [u_th]; exact dq_t h0))⟩⟩
      · rw [u_th]
        exact m_isTill_t hn ht
      · rw [u_th]
        exact m_isTill_t hn ht
    · refine ⟨Int32.ofInt 1, aDown α t, Inv_mono (by omega) (Inv_down ht hn.2 hI), fun β th ow sc g => ⟨_, s14_0_t (x3 := t) hn (c_isUp_t hn ht h0) rfl (zix_nI ht (by omega)) (c_writeDown hn ht)⟩, fun γ th ow sc g => ?_⟩
      obtain ⟨c7, h7⟩ := m_syncNow (α := γ) (β := α) (th := nI 0) (ow := ow) (sc := sc) (L := L) (g := g) (cl := true) hn (show t < 5 by omega)
      refine ⟨_, s132_0_fft (x5 := t) (c7 := c7) (r1 := Int32.ofInt 1) (r3 := Int32.ofInt 1) hn ?_ rfl ?_ rfl (zix_nI (by omega) (by omega)) (by rw [u_th]; exact dq_f hup h0) ?_⟩
      · rw [u_th]
        exact m_isTill_t hn ht
      · rw [u_th]
        exact m_isTill_t hn ht
      · rw [u_th]
        exact h7
  · refine ⟨Int32.ofInt 0, α, Inv_mono (by omega) hI, fun β th ow sc g => ⟨_, s14_0_f hn (c_isUp_x hn ht) rfl⟩, fun γ th ow sc g => ⟨_, zr_rv (by simp only [u_th] <;> rfl) rfl (s132_0_t (r1 := Int32.ofInt 0) hn ?_ rfl)⟩⟩
    rw [u_th]
    exact m_isTill_f hn ht
theorem op_crash (hn : 2 ≤ n ∧ n ≤ 5) (hI : Inv n B α) (p : Int32) : OpV 19 [.val (.ref (kad n (0, 0, 0))), .val (.int p)] 133 [.val (.ref (kad n (22, 0, 0))), .val (.int p), .unset] n L B α := by
  by_cases ht : okT n p
  · obtain ⟨t, ht, rfl⟩ := ht
    have hup := hI.1 t ht
    by_cases h0 : α 10 t = 0
    · refine ⟨Int32.ofInt 0, α, Inv_mono (by omega) hI, fun β th ow sc g => ⟨_, s19_0_f hn (c_isUp_f hn ht h0) rfl⟩, fun γ th ow sc g => ⟨_, zr_rv (by simp only [u_th] <;> rfl) rfl (s133_0_fff (x5 := t) (r1 := Int32.ofInt 1) (r3 := Int32.ofInt 1) hn ?_ rfl ?_ rfl (zix_nI (by omega) (by omega)) (by rw [u_th]; exact dq_t h0))⟩⟩
      · rw [u_th]
        exact m_isTill_t hn ht
      · rw [u_th]
        exact m_isTill_t hn ht
    · refine ⟨Int32.ofInt 1, aBack (kup α 10 t 0) t, Inv_mono (by omega) (Inv_back ht hn.2 (Inv_up ht hn.2 (Or.inl rfl) hI)), fun β th ow sc g => ⟨_, s19_0_t (x3 := t) (c4 := false) hn (c_isUp_t hn ht h0) rfl (zix_nI ht (by omega)) ?_⟩, fun γ th ow sc g => ?_⟩
      · rw [uU]
        exact c_fallBack hn ht
      · have loop : ∀ k x, x + k = 164 → ZR 133 45 [.val (.ref (kad n (22, 0, 0))), .val (.int (nI t)), .val (.int (nI x))] [] (khp n L (St n γ (kcopy (kup α 10 t 0) t (5 + t) (fun y => decide (y < x))) (nI 0) ow sc) g) false (.inl (some (.int (Int32.ofInt 1))), khp n L (St n γ (aBack (kup α 10 t 0) t) (nI 0) ow sc) g, false) := by
          intro k
          induction k with
          | zero =>
            intro x hx
            have : x = 164 := by omega
            subst this
            refine zr_rv ?_ rfl (s133_45_t hn (by simp (disch := omega) only [gB, gK, gU, gN, gC, gM, gMK, gD, gL, g_th, g_n, g_ms, g_ls, g_ow, g_sc, uB, uK, uU, uN, uC, uM, uMK, uL, u_ms, u_ls, u_th, u_ow, kup_same, kup_ne, kup_krow2, krow_same, krow_ne, c_0, c_1, c_2, c_3, c_4, c_5, b_6, b_8, b_10, b_12, b_14, b_15, b_16, b_17, b_18, b_19, b_20, b_24, b_30, b_44, b_63, b_100, h_164, o_n, c_z, nI_add, nI_mul, zc_ge, zc_lt, zc_gt, zc_le, zc_eq, zc_ne, decide_eq_true_eq, decide_eq_false_iff_not] <;> omega))
            exact copy_end hn (by omega)
          | succ k ih =>
            intro x hx
            refine s133_45_f (x4 := 164 * t + x) (x5 := 164 * t + x) hn (by simp (disch := omega) only [gB, gK, gU, gN, gC, gM, gMK, gD, gL, g_th, g_n, g_ms, g_ls, g_ow, g_sc, uB, uK, uU, uN, uC, uM, uMK, uL, u_ms, u_ls, u_th, u_ow, kup_same, kup_ne, kup_krow2, krow_same, krow_ne, c_0, c_1, c_2, c_3, c_4, c_5, b_6, b_8, b_10, b_12, b_14, b_15, b_16, b_17, b_18, b_19, b_20, b_24, b_30, b_44, b_63, b_100, h_164, o_n, c_z, nI_add, nI_mul, zc_ge, zc_lt, zc_gt, zc_le, zc_eq, zc_ne, decide_eq_true_eq, decide_eq_false_iff_not] <;> omega) (m_at hn t) (m_at hn t) (zx (by simp (disch := omega) only [gB, gK, gU, gN, gC, gM, gMK, gD, gL, g_th, g_n, g_ms, g_ls, g_ow, g_sc, uB, uK, uU, uN, uC, uM, uMK, uL, u_ms, u_ls, u_th, u_ow, kup_same, kup_ne, kup_krow2, krow_same, krow_ne, c_0, c_1, c_2, c_3, c_4, c_5, b_6, b_8, b_10, b_12, b_14, b_15, b_16, b_17, b_18, b_19, b_20, b_24, b_30, b_44, b_63, b_100, h_164, o_n, c_z, nI_add, nI_mul] <;> first | rfl | (congr 1; omega)) (by omega) (by omega)) (zx (by simp (disch := omega) only [gB, gK, gU, gN, gC, gM, gMK, gD, gL, g_th, g_n, g_ms, g_ls, g_ow, g_sc, uB, uK, uU, uN, uC, uM, uMK, uL, u_ms, u_ls, u_th, u_ow, kup_same, kup_ne, kup_krow2, krow_same, krow_ne, c_0, c_1, c_2, c_3, c_4, c_5, b_6, b_8, b_10, b_12, b_14, b_15, b_16, b_17, b_18, b_19, b_20, b_24, b_30, b_44, b_63, b_100, h_164, o_n, c_z, nI_add, nI_mul] <;> first | rfl | (congr 1; omega)) (by omega) (by omega)) ?_
            rw [nI_inc, back_step hn (by omega) (by omega)]
            exact ih (x + 1) (by omega)
        have h2 := loop 164 0 (by omega)
        rw [copy_start] at h2
        refine ⟨false, s133_0_fft (x5 := t) (r1 := Int32.ofInt 1) (r3 := Int32.ofInt 1) hn ?_ rfl ?_ rfl (zix_nI (by omega) (by omega)) (by rw [u_th]; exact dq_f hup h0) ?_⟩
        · rw [u_th]
          exact m_isTill_t hn ht
        · rw [u_th]
          exact m_isTill_t hn ht
        · rw [u_th, uD (v := 0) (by decide)]
          exact h2
  · refine ⟨Int32.ofInt 0, α, Inv_mono (by omega) hI, fun β th ow sc g => ⟨_, s19_0_f hn (c_isUp_x hn ht) rfl⟩, fun γ th ow sc g => ⟨_, zr_rv (by simp only [u_th] <;> rfl) rfl (s133_0_t (r1 := Int32.ofInt 0) hn ?_ rfl)⟩⟩
    rw [u_th]
    exact m_isTill_f hn ht
theorem op_back (hn : 2 ≤ n ∧ n ≤ 5) (hI : Inv n B α) (p : Int32) : OpV 21 [.val (.ref (kad n (0, 0, 0))), .val (.int p)] 134 [.val (.ref (kad n (22, 0, 0))), .val (.int p)] n L B α := by
  by_cases ht : okT n p
  · obtain ⟨t, ht, rfl⟩ := ht
    have hup := hI.1 t ht
    by_cases h0 : α 10 t = 0
    · refine ⟨Int32.ofInt 1, kup α 10 t 1, Inv_mono (by omega) (Inv_up ht hn.2 (Or.inr rfl) hI), fun β th ow sc g => ⟨_, zr_rv ?_ rfl (s21_0_ft (x3 := t) hn (c_isTill_t hn ht) rfl (zix_nI ht (by omega)) (zc_eqt h0))⟩, fun γ th ow sc g => ⟨_, zr_rv ?_ rfl (s134_0_fft (x5 := t) (r1 := Int32.ofInt 1) (r3 := Int32.ofInt 1) hn ?_ rfl ?_ rfl (zix_nI (by omega) (by omega)) (by rw [u_th]; exact dn_t h0))⟩⟩
      · rw [uU]
        rfl
      · rw [u_th, uD (v := 1) (by decide)]
        rfl
      · rw [u_th]
        exact m_isTill_t hn ht
      · rw [u_th]
        exact m_isTill_t hn ht
    · refine ⟨Int32.ofInt 0, α, Inv_mono (by omega) hI, fun β th ow sc g => ⟨_, s21_0_ff (x3 := t) hn (c_isTill_t hn ht) rfl (zix_nI ht (by omega)) (zc_eqf h0)⟩, fun γ th ow sc g => ⟨_, zr_rv (by simp only [u_th] <;> rfl) rfl (s134_0_fff (x5 := t) (r1 := Int32.ofInt 1) (r3 := Int32.ofInt 1) hn ?_ rfl ?_ rfl (zix_nI (by omega) (by omega)) (by rw [u_th]; exact dn_f hup h0))⟩⟩
      · rw [u_th]
        exact m_isTill_t hn ht
      · rw [u_th]
        exact m_isTill_t hn ht
  · refine ⟨Int32.ofInt 0, α, Inv_mono (by omega) hI, fun β th ow sc g => ⟨_, s21_0_t hn (c_isTill_f hn ht) rfl⟩, fun γ th ow sc g => ⟨_, zr_rv (by simp only [u_th] <;> rfl) rfl (s134_0_t (r1 := Int32.ofInt 0) hn ?_ rfl)⟩⟩
    rw [u_th]
    exact m_isTill_f hn ht
theorem op_drop (hn : 2 ≤ n ∧ n ≤ 5) (hI : Inv n B α) (p : Int32) : OpV 22 [.val (.ref (kad n (0, 0, 0))), .val (.int p)] 110 [.val (.ref (kad n (22, 0, 0))), .val (.int p)] n L B α := by
  obtain ⟨c, hc1, hc2, -⟩ := hI.2.2.2
  rcases okN (p := p) (m := c) (by omega) with ⟨s, hs, rfl⟩ | hx
  · have hc' : α 12 0 = nI (c - 1 + 1) := by rw [hc1]; congr 1; omega
    refine ⟨Int32.ofInt 1, aTake α s (c - 1), Inv_mono (by omega) (Inv_take hn.2 hc' (by omega) (by omega) hI), fun β th ow sc g => ⟨_, s22_0_t hn (c_isSlot_t hn hc1 hc2 hs) rfl (c_takeOut hn hc' (by omega) (by omega))⟩, fun γ th ow sc g => ⟨_, s110_0_ft (c3 := false) hn (by simp (disch := omega) only [gB, gK, gU, gN, gC, gM, gMK, gD, gL, g_th, g_n, g_ms, g_ls, g_ow, g_sc, uB, uK, uU, uN, uC, uM, uMK, uL, u_ms, u_ls, u_th, u_ow, kup_same, kup_ne, kup_krow2, krow_same, krow_ne, c_0, c_1, c_2, c_3, c_4, c_5, b_6, b_8, b_10, b_12, b_14, b_15, b_16, b_17, b_18, b_19, b_20, b_24, b_30, b_44, b_63, b_100, h_164, o_n, c_z, nI_add, nI_mul, zc_ge, zc_lt, zc_gt, zc_le, zc_eq, zc_ne, decide_eq_true_eq, decide_eq_false_iff_not] <;> omega) (by simp (disch := omega) only [hc1, gB, gK, gU, gN, gC, gM, gMK, gD, gL, g_th, g_n, g_ms, g_ls, g_ow, g_sc, uB, uK, uU, uN, uC, uM, uMK, uL, u_ms, u_ls, u_th, u_ow, kup_same, kup_ne, kup_krow2, krow_same, krow_ne, c_0, c_1, c_2, c_3, c_4, c_5, b_6, b_8, b_10, b_12, b_14, b_15, b_16, b_17, b_18, b_19, b_20, b_24, b_30, b_44, b_63, b_100, h_164, o_n, c_z, nI_add, nI_mul, zc_ge, zc_lt, zc_gt, zc_le, zc_eq, zc_ne, decide_eq_true_eq, decide_eq_false_iff_not] <;> omega) ?_⟩⟩
    rw [u_th]
    exact m_takeOut hn hc' (by omega) (by omega)
  · refine ⟨Int32.ofInt 0, α, Inv_mono (by omega) hI, fun β th ow sc g => ⟨_, s22_0_f hn (c_isSlot_f hn (by rw [hc1]; exact hx)) rfl⟩, fun γ th ow sc g => ?_⟩
    by_cases h : p < 0
    · exact ⟨_, zr_rv (by simp only [u_th] <;> rfl) rfl (s110_0_t hn (zc_ltT h))⟩
    · exact ⟨_, zr_rv (by simp only [u_th] <;> rfl) rfl (s110_0_ff hn (zc_ltF h) (zc_ltf (by rw [u_th, g_ms, hc1]; exact hx.resolve_left h)))⟩
theorem op_twice (hn : 2 ≤ n ∧ n ≤ 5) (hI : Inv n B α) (p : Int32) : OpV 25 [.val (.ref (kad n (0, 0, 0))), .val (.int p)] 111 [.val (.ref (kad n (22, 0, 0))), .val (.int p), .unset] n L B α := by
  obtain ⟨c, hc1, hc2, hms⟩ := hI.2.2.2
  rcases okN (p := p) (m := c) (by omega) with ⟨s, hs, rfl⟩ | hx
  · by_cases h24 : c < 24
    · have hfull : ∀ β th ow sc g, ZR 26 0 [.val (.ref (kad n (20, 0, 0)))] [] (khp n L (St n α β th ow sc) g) true (.inl (some (.int (if c < 24 then Int32.ofInt 0 else Int32.ofInt 1))), khp n L (St n α β th ow sc) g, true) := fun β th ow sc g => c_isFullN hn hc1 hc2
      simp only [if_pos h24] at hfull
      refine ⟨Int32.ofInt 1, aSend α (α 11 (6 * s)) (α 11 (6 * s + 1)) (α 11 (6 * s + 2)) (α 11 (6 * s + 3)) (α 11 (6 * s + 4)) (α 11 (6 * s + 5)), ?_, fun β th ow sc g => ⟨_, s25_0_ft hn (c_isSlot_t hn hc1 hc2 hs) rfl (hfull β th ow sc g) rfl (c_repeat hn hc1 h24 hs)⟩, fun γ th ow sc g => ⟨_, s111_0_fft (x4 := 6 * s) (x5 := 6 * s + 1) (x6 := 6 * s + 2) (x7 := 6 * s + 3) (x8 := 6 * s + 4) (x9 := 6 * s + 5) (c10 := false) hn (by simp (disch := omega) only [gB, gK, gU, gN, gC, gM, gMK, gD, gL, g_th, g_n, g_ms, g_ls, g_ow, g_sc, uB, uK, uU, uN, uC, uM, uMK, uL, u_ms, u_ls, u_th, u_ow, kup_same, kup_ne, kup_krow2, krow_same, krow_ne, c_0, c_1, c_2, c_3, c_4, c_5, b_6, b_8, b_10, b_12, b_14, b_15, b_16, b_17, b_18, b_19, b_20, b_24, b_30, b_44, b_63, b_100, h_164, o_n, c_z, nI_add, nI_mul, zc_ge, zc_lt, zc_gt, zc_le, zc_eq, zc_ne, decide_eq_true_eq, decide_eq_false_iff_not] <;> omega) (by simp (disch := omega) only [hc1, gB, gK, gU, gN, gC, gM, gMK, gD, gL, g_th, g_n, g_ms, g_ls, g_ow, g_sc, uB, uK, uU, uN, uC, uM, uMK, uL, u_ms, u_ls, u_th, u_ow, kup_same, kup_ne, kup_krow2, krow_same, krow_ne, c_0, c_1, c_2, c_3, c_4, c_5, b_6, b_8, b_10, b_12, b_14, b_15, b_16, b_17, b_18, b_19, b_20, b_24, b_30, b_44, b_63, b_100, h_164, o_n, c_z, nI_add, nI_mul, zc_ge, zc_lt, zc_gt, zc_le, zc_eq, zc_ne, decide_eq_true_eq, decide_eq_false_iff_not] <;> omega) (by simp (disch := omega) only [hc1, gB, gK, gU, gN, gC, gM, gMK, gD, gL, g_th, g_n, g_ms, g_ls, g_ow, g_sc, uB, uK, uU, uN, uC, uM, uMK, uL, u_ms, u_ls, u_th, u_ow, kup_same, kup_ne, kup_krow2, krow_same, krow_ne, c_0, c_1, c_2, c_3, c_4, c_5, b_6, b_8, b_10, b_12, b_14, b_15, b_16, b_17, b_18, b_19, b_20, b_24, b_30, b_44, b_63, b_100, h_164, o_n, c_z, nI_add, nI_mul, zc_ge, zc_lt, zc_gt, zc_le, zc_eq, zc_ne, decide_eq_true_eq, decide_eq_false_iff_not] <;> omega) (zx (by simp (disch := omega) only [gB, gK, gU, gN, gC, gM, gMK, gD, gL, g_th, g_n, g_ms, g_ls, g_ow, g_sc, uB, uK, uU, uN, uC, uM, uMK, uL, u_ms, u_ls, u_th, u_ow, kup_same, kup_ne, kup_krow2, krow_same, krow_ne, c_0, c_1, c_2, c_3, c_4, c_5, b_6, b_8, b_10, b_12, b_14, b_15, b_16, b_17, b_18, b_19, b_20, b_24, b_30, b_44, b_63, b_100, h_164, o_n, c_z, nI_add, nI_mul] <;> first | rfl | (congr 1; omega)) (by omega) (by omega)) (zx (by simp (disch := omega) only [gB, gK, gU, gN, gC, gM, gMK, gD, gL, g_th, g_n, g_ms, g_ls, g_ow, g_sc, uB, uK, uU, uN, uC, uM, uMK, uL, u_ms, u_ls, u_th, u_ow, kup_same, kup_ne, kup_krow2, krow_same, krow_ne, c_0, c_1, c_2, c_3, c_4, c_5, b_6, b_8, b_10, b_12, b_14, b_15, b_16, b_17, b_18, b_19, b_20, b_24, b_30, b_44, b_63, b_100, h_164, o_n, c_z, nI_add, nI_mul] <;> first | rfl | (congr 1; omega)) (by omega) (by omega)) (zx (by simp (disch := omega) only [gB, gK, gU, gN, gC, gM, gMK, gD, gL, g_th, g_n, g_ms, g_ls, g_ow, g_sc, uB, uK, uU, uN, uC, uM, uMK, uL, u_ms, u_ls, u_th, u_ow, kup_same, kup_ne, kup_krow2, krow_same, krow_ne, c_0, c_1, c_2, c_3, c_4, c_5, b_6, b_8, b_10, b_12, b_14, b_15, b_16, b_17, b_18, b_19, b_20, b_24, b_30, b_44, b_63, b_100, h_164, o_n, c_z, nI_add, nI_mul] <;> first | rfl | (congr 1; omega)) (by omega) (by omega)) (zx (by simp (disch := omega) only [gB, gK, gU, gN, gC, gM, gMK, gD, gL, g_th, g_n, g_ms, g_ls, g_ow, g_sc, uB, uK, uU, uN, uC, uM, uMK, uL, u_ms, u_ls, u_th, u_ow, kup_same, kup_ne, kup_krow2, krow_same, krow_ne, c_0, c_1, c_2, c_3, c_4, c_5, b_6, b_8, b_10, b_12, b_14, b_15, b_16, b_17, b_18, b_19, b_20, b_24, b_30, b_44, b_63, b_100, h_164, o_n, c_z, nI_add, nI_mul] <;> first | rfl | (congr 1; omega)) (by omega) (by omega)) (zx (by simp (disch := omega) only [gB, gK, gU, gN, gC, gM, gMK, gD, gL, g_th, g_n, g_ms, g_ls, g_ow, g_sc, uB, uK, uU, uN, uC, uM, uMK, uL, u_ms, u_ls, u_th, u_ow, kup_same, kup_ne, kup_krow2, krow_same, krow_ne, c_0, c_1, c_2, c_3, c_4, c_5, b_6, b_8, b_10, b_12, b_14, b_15, b_16, b_17, b_18, b_19, b_20, b_24, b_30, b_44, b_63, b_100, h_164, o_n, c_z, nI_add, nI_mul] <;> first | rfl | (congr 1; omega)) (by omega) (by omega)) (zx (by simp (disch := omega) only [gB, gK, gU, gN, gC, gM, gMK, gD, gL, g_th, g_n, g_ms, g_ls, g_ow, g_sc, uB, uK, uU, uN, uC, uM, uMK, uL, u_ms, u_ls, u_th, u_ow, kup_same, kup_ne, kup_krow2, krow_same, krow_ne, c_0, c_1, c_2, c_3, c_4, c_5, b_6, b_8, b_10, b_12, b_14, b_15, b_16, b_17, b_18, b_19, b_20, b_24, b_30, b_44, b_63, b_100, h_164, o_n, c_z, nI_add, nI_mul] <;> first | rfl | (congr 1; omega)) (by omega) (by omega)) ?_⟩⟩
      · obtain ⟨k, f, t, a1, a2, a3, a4, a5, a6, a7⟩ := hms s hs
        rw [a4, a5, a6]
        exact Inv_mono (by omega) (Inv_send hn.2 a1 a2 a3 a7 hI)
      · simp (disch := omega) only [gB, gK, gU, gN, gC, gM, gMK, gD, gL, g_th, g_n, g_ms, g_ls, g_ow, g_sc, uB, uK, uU, uN, uC, uM, uMK, uL, u_ms, u_ls, u_th, u_ow, kup_same, kup_ne, kup_krow2, krow_same, krow_ne, c_0, c_1, c_2, c_3, c_4, c_5, b_6, b_8, b_10, b_12, b_14, b_15, b_16, b_17, b_18, b_19, b_20, b_24, b_30, b_44, b_63, b_100, h_164, o_n]
        exact m_send hn ⟨c, hc1, hc2⟩ _ _ _ _ _ _
    · have hfull : ∀ β th ow sc g, ZR 26 0 [.val (.ref (kad n (20, 0, 0)))] [] (khp n L (St n α β th ow sc) g) true (.inl (some (.int (if c < 24 then Int32.ofInt 0 else Int32.ofInt 1))), khp n L (St n α β th ow sc) g, true) := fun β th ow sc g => c_isFullN hn hc1 hc2
      simp only [if_neg h24] at hfull
      exact ⟨Int32.ofInt 0, α, Inv_mono (by omega) hI, fun β th ow sc g => ⟨_, s25_0_ff hn (c_isSlot_t hn hc1 hc2 hs) rfl (hfull β th ow sc g) rfl⟩, fun γ th ow sc g => ⟨_, zr_rv (by simp only [u_th] <;> rfl) rfl (s111_0_fff hn (by simp (disch := omega) only [gB, gK, gU, gN, gC, gM, gMK, gD, gL, g_th, g_n, g_ms, g_ls, g_ow, g_sc, uB, uK, uU, uN, uC, uM, uMK, uL, u_ms, u_ls, u_th, u_ow, kup_same, kup_ne, kup_krow2, krow_same, krow_ne, c_0, c_1, c_2, c_3, c_4, c_5, b_6, b_8, b_10, b_12, b_14, b_15, b_16, b_17, b_18, b_19, b_20, b_24, b_30, b_44, b_63, b_100, h_164, o_n, c_z, nI_add, nI_mul, zc_ge, zc_lt, zc_gt, zc_le, zc_eq, zc_ne, decide_eq_true_eq, decide_eq_false_iff_not] <;> omega) (by simp (disch := omega) only [hc1, gB, gK, gU, gN, gC, gM, gMK, gD, gL, g_th, g_n, g_ms, g_ls, g_ow, g_sc, uB, uK, uU, uN, uC, uM, uMK, uL, u_ms, u_ls, u_th, u_ow, kup_same, kup_ne, kup_krow2, krow_same, krow_ne, c_0, c_1, c_2, c_3, c_4, c_5, b_6, b_8, b_10, b_12, b_14, b_15, b_16, b_17, b_18, b_19, b_20, b_24, b_30, b_44, b_63, b_100, h_164, o_n, c_z, nI_add, nI_mul, zc_ge, zc_lt, zc_gt, zc_le, zc_eq, zc_ne, decide_eq_true_eq, decide_eq_false_iff_not] <;> omega) (by simp (disch := omega) only [hc1, gB, gK, gU, gN, gC, gM, gMK, gD, gL, g_th, g_n, g_ms, g_ls, g_ow, g_sc, uB, uK, uU, uN, uC, uM, uMK, uL, u_ms, u_ls, u_th, u_ow, kup_same, kup_ne, kup_krow2, krow_same, krow_ne, c_0, c_1, c_2, c_3, c_4, c_5, b_6, b_8, b_10, b_12, b_14, b_15, b_16, b_17, b_18, b_19, b_20, b_24, b_30, b_44, b_63, b_100, h_164, o_n, c_z, nI_add, nI_mul, zc_ge, zc_lt, zc_gt, zc_le, zc_eq, zc_ne, decide_eq_true_eq, decide_eq_false_iff_not] <;> omega))⟩⟩
  · refine ⟨Int32.ofInt 0, α, Inv_mono (by omega) hI, fun β th ow sc g => ⟨_, s25_0_t hn (c_isSlot_f hn (by rw [hc1]; exact hx)) rfl⟩, fun γ th ow sc g => ?_⟩
    by_cases h : p < 0
    · exact ⟨_, zr_rv (by simp only [u_th] <;> rfl) rfl (s111_0_t hn (zc_ltT h))⟩
    · exact ⟨_, zr_rv (by simp only [u_th] <;> rfl) rfl (s111_0_ft hn (zc_ltF h) (zc_geT (by rw [u_th, g_ms, hc1]; exact hx.resolve_left h)))⟩
theorem op_slot (hn : 2 ≤ n ∧ n ≤ 5) (hI : Inv n B α) (p q : Int32) : OpV 28 [.val (.ref (kad n (0, 0, 0))), .val (.int p), .val (.int q)] 112 [.val (.ref (kad n (22, 0, 0))), .val (.int p), .val (.int q)] n L B α := by
  obtain ⟨c, hc1, hc2, hms⟩ := hI.2.2.2
  rcases okN (p := p) (m := c) (by omega) with ⟨s, hs, rfl⟩ | hx
  · rcases okN (p := q) (m := 6) (by omega) with ⟨w, hw, rfl⟩ | hy
    · refine ⟨α 11 (6 * s + w), α, Inv_mono (by omega) hI, fun β th ow sc g => ⟨_, s28_0_fft hn (c_isSlot_t hn hc1 hc2 hs) rfl (by simp (disch := omega) only [gB, gK, gU, gN, gC, gM, gMK, gD, gL, g_th, g_n, g_ms, g_ls, g_ow, g_sc, uB, uK, uU, uN, uC, uM, uMK, uL, u_ms, u_ls, u_th, u_ow, kup_same, kup_ne, kup_krow2, krow_same, krow_ne, c_0, c_1, c_2, c_3, c_4, c_5, b_6, b_8, b_10, b_12, b_14, b_15, b_16, b_17, b_18, b_19, b_20, b_24, b_30, b_44, b_63, b_100, h_164, o_n, c_z, nI_add, nI_mul, zc_ge, zc_lt, zc_gt, zc_le, zc_eq, zc_ne, decide_eq_true_eq, decide_eq_false_iff_not] <;> omega) (by simp (disch := omega) only [gB, gK, gU, gN, gC, gM, gMK, gD, gL, g_th, g_n, g_ms, g_ls, g_ow, g_sc, uB, uK, uU, uN, uC, uM, uMK, uL, u_ms, u_ls, u_th, u_ow, kup_same, kup_ne, kup_krow2, krow_same, krow_ne, c_0, c_1, c_2, c_3, c_4, c_5, b_6, b_8, b_10, b_12, b_14, b_15, b_16, b_17, b_18, b_19, b_20, b_24, b_30, b_44, b_63, b_100, h_164, o_n, c_z, nI_add, nI_mul, zc_ge, zc_lt, zc_gt, zc_le, zc_eq, zc_ne, decide_eq_true_eq, decide_eq_false_iff_not] <;> omega) (c_cell hn (by omega) hw)⟩, fun γ th ow sc g => ⟨_, zr_rv (by simp only [u_th] <;> rfl) (by rw [u_th, gL]) (s112_0_ffft (x5 := 6 * s + w) hn (by simp (disch := omega) only [gB, gK, gU, gN, gC, gM, gMK, gD, gL, g_th, g_n, g_ms, g_ls, g_ow, g_sc, uB, uK, uU, uN, uC, uM, uMK, uL, u_ms, u_ls, u_th, u_ow, kup_same, kup_ne, kup_krow2, krow_same, krow_ne, c_0, c_1, c_2, c_3, c_4, c_5, b_6, b_8, b_10, b_12, b_14, b_15, b_16, b_17, b_18, b_19, b_20, b_24, b_30, b_44, b_63, b_100, h_164, o_n, c_z, nI_add, nI_mul, zc_ge, zc_lt, zc_gt, zc_le, zc_eq, zc_ne, decide_eq_true_eq, decide_eq_false_iff_not] <;> omega) (by simp (disch := omega) only [hc1, gB, gK, gU, gN, gC, gM, gMK, gD, gL, g_th, g_n, g_ms, g_ls, g_ow, g_sc, uB, uK, uU, uN, uC, uM, uMK, uL, u_ms, u_ls, u_th, u_ow, kup_same, kup_ne, kup_krow2, krow_same, krow_ne, c_0, c_1, c_2, c_3, c_4, c_5, b_6, b_8, b_10, b_12, b_14, b_15, b_16, b_17, b_18, b_19, b_20, b_24, b_30, b_44, b_63, b_100, h_164, o_n, c_z, nI_add, nI_mul, zc_ge, zc_lt, zc_gt, zc_le, zc_eq, zc_ne, decide_eq_true_eq, decide_eq_false_iff_not] <;> omega) (by simp (disch := omega) only [gB, gK, gU, gN, gC, gM, gMK, gD, gL, g_th, g_n, g_ms, g_ls, g_ow, g_sc, uB, uK, uU, uN, uC, uM, uMK, uL, u_ms, u_ls, u_th, u_ow, kup_same, kup_ne, kup_krow2, krow_same, krow_ne, c_0, c_1, c_2, c_3, c_4, c_5, b_6, b_8, b_10, b_12, b_14, b_15, b_16, b_17, b_18, b_19, b_20, b_24, b_30, b_44, b_63, b_100, h_164, o_n, c_z, nI_add, nI_mul, zc_ge, zc_lt, zc_gt, zc_le, zc_eq, zc_ne, decide_eq_true_eq, decide_eq_false_iff_not] <;> omega) (by simp (disch := omega) only [gB, gK, gU, gN, gC, gM, gMK, gD, gL, g_th, g_n, g_ms, g_ls, g_ow, g_sc, uB, uK, uU, uN, uC, uM, uMK, uL, u_ms, u_ls, u_th, u_ow, kup_same, kup_ne, kup_krow2, krow_same, krow_ne, c_0, c_1, c_2, c_3, c_4, c_5, b_6, b_8, b_10, b_12, b_14, b_15, b_16, b_17, b_18, b_19, b_20, b_24, b_30, b_44, b_63, b_100, h_164, o_n, c_z, nI_add, nI_mul, zc_ge, zc_lt, zc_gt, zc_le, zc_eq, zc_ne, decide_eq_true_eq, decide_eq_false_iff_not] <;> omega) (zx (by simp (disch := omega) only [gB, gK, gU, gN, gC, gM, gMK, gD, gL, g_th, g_n, g_ms, g_ls, g_ow, g_sc, uB, uK, uU, uN, uC, uM, uMK, uL, u_ms, u_ls, u_th, u_ow, kup_same, kup_ne, kup_krow2, krow_same, krow_ne, c_0, c_1, c_2, c_3, c_4, c_5, b_6, b_8, b_10, b_12, b_14, b_15, b_16, b_17, b_18, b_19, b_20, b_24, b_30, b_44, b_63, b_100, h_164, o_n, c_z, nI_add, nI_mul] <;> first | rfl | (congr 1; omega)) (by omega) (by omega)))⟩⟩
    · by_cases h : q < 0
      · exact ⟨Int32.ofInt (-1), α, Inv_mono (by omega) hI, fun β th ow sc g => ⟨_, s28_0_ft hn (c_isSlot_t hn hc1 hc2 hs) rfl (zc_ltT h)⟩, fun γ th ow sc g => ⟨_, zr_rv (by simp only [u_th] <;> rfl) rfl (s112_0_fft hn (by simp (disch := omega) only [gB, gK, gU, gN, gC, gM, gMK, gD, gL, g_th, g_n, g_ms, g_ls, g_ow, g_sc, uB, uK, uU, uN, uC, uM, uMK, uL, u_ms, u_ls, u_th, u_ow, kup_same, kup_ne, kup_krow2, krow_same, krow_ne, c_0, c_1, c_2, c_3, c_4, c_5, b_6, b_8, b_10, b_12, b_14, b_15, b_16, b_17, b_18, b_19, b_20, b_24, b_30, b_44, b_63, b_100, h_164, o_n, c_z, nI_add, nI_mul, zc_ge, zc_lt, zc_gt, zc_le, zc_eq, zc_ne, decide_eq_true_eq, decide_eq_false_iff_not] <;> omega) (by simp (disch := omega) only [hc1, gB, gK, gU, gN, gC, gM, gMK, gD, gL, g_th, g_n, g_ms, g_ls, g_ow, g_sc, uB, uK, uU, uN, uC, uM, uMK, uL, u_ms, u_ls, u_th, u_ow, kup_same, kup_ne, kup_krow2, krow_same, krow_ne, c_0, c_1, c_2, c_3, c_4, c_5, b_6, b_8, b_10, b_12, b_14, b_15, b_16, b_17, b_18, b_19, b_20, b_24, b_30, b_44, b_63, b_100, h_164, o_n, c_z, nI_add, nI_mul, zc_ge, zc_lt, zc_gt, zc_le, zc_eq, zc_ne, decide_eq_true_eq, decide_eq_false_iff_not] <;> omega) (zc_ltT h))⟩⟩
      · obtain ⟨k, hk, rfl⟩ := nI_of h
        have hk6 : 6 ≤ k := by
          have := hy.resolve_left h
          rw [nI_leI (by omega) hk] at this
          exact this
        exact ⟨Int32.ofInt (-1), α, Inv_mono (by omega) hI, fun β th ow sc g => ⟨_, s28_0_fff hn (c_isSlot_t hn hc1 hc2 hs) rfl (zc_ltF h) (by simp (disch := omega) only [gB, gK, gU, gN, gC, gM, gMK, gD, gL, g_th, g_n, g_ms, g_ls, g_ow, g_sc, uB, uK, uU, uN, uC, uM, uMK, uL, u_ms, u_ls, u_th, u_ow, kup_same, kup_ne, kup_krow2, krow_same, krow_ne, c_0, c_1, c_2, c_3, c_4, c_5, b_6, b_8, b_10, b_12, b_14, b_15, b_16, b_17, b_18, b_19, b_20, b_24, b_30, b_44, b_63, b_100, h_164, o_n, c_z, nI_add, nI_mul, zc_ge, zc_lt, zc_gt, zc_le, zc_eq, zc_ne, decide_eq_true_eq, decide_eq_false_iff_not] <;> omega)⟩, fun γ th ow sc g => ⟨_, zr_rv (by simp only [u_th] <;> rfl) rfl (s112_0_ffff hn (by simp (disch := omega) only [gB, gK, gU, gN, gC, gM, gMK, gD, gL, g_th, g_n, g_ms, g_ls, g_ow, g_sc, uB, uK, uU, uN, uC, uM, uMK, uL, u_ms, u_ls, u_th, u_ow, kup_same, kup_ne, kup_krow2, krow_same, krow_ne, c_0, c_1, c_2, c_3, c_4, c_5, b_6, b_8, b_10, b_12, b_14, b_15, b_16, b_17, b_18, b_19, b_20, b_24, b_30, b_44, b_63, b_100, h_164, o_n, c_z, nI_add, nI_mul, zc_ge, zc_lt, zc_gt, zc_le, zc_eq, zc_ne, decide_eq_true_eq, decide_eq_false_iff_not] <;> omega) (by simp (disch := omega) only [hc1, gB, gK, gU, gN, gC, gM, gMK, gD, gL, g_th, g_n, g_ms, g_ls, g_ow, g_sc, uB, uK, uU, uN, uC, uM, uMK, uL, u_ms, u_ls, u_th, u_ow, kup_same, kup_ne, kup_krow2, krow_same, krow_ne, c_0, c_1, c_2, c_3, c_4, c_5, b_6, b_8, b_10, b_12, b_14, b_15, b_16, b_17, b_18, b_19, b_20, b_24, b_30, b_44, b_63, b_100, h_164, o_n, c_z, nI_add, nI_mul, zc_ge, zc_lt, zc_gt, zc_le, zc_eq, zc_ne, decide_eq_true_eq, decide_eq_false_iff_not] <;> omega) (zc_ltF h) (by simp (disch := omega) only [gB, gK, gU, gN, gC, gM, gMK, gD, gL, g_th, g_n, g_ms, g_ls, g_ow, g_sc, uB, uK, uU, uN, uC, uM, uMK, uL, u_ms, u_ls, u_th, u_ow, kup_same, kup_ne, kup_krow2, krow_same, krow_ne, c_0, c_1, c_2, c_3, c_4, c_5, b_6, b_8, b_10, b_12, b_14, b_15, b_16, b_17, b_18, b_19, b_20, b_24, b_30, b_44, b_63, b_100, h_164, o_n, c_z, nI_add, nI_mul, zc_ge, zc_lt, zc_gt, zc_le, zc_eq, zc_ne, decide_eq_true_eq, decide_eq_false_iff_not] <;> omega))⟩⟩
  · refine ⟨Int32.ofInt (-1), α, Inv_mono (by omega) hI, fun β th ow sc g => ⟨_, s28_0_t hn (c_isSlot_f hn (by rw [hc1]; exact hx)) rfl⟩, fun γ th ow sc g => ?_⟩
    by_cases h : p < 0
    · exact ⟨_, zr_rv (by simp only [u_th] <;> rfl) rfl (s112_0_t hn (zc_ltT h))⟩
    · exact ⟨_, zr_rv (by simp only [u_th] <;> rfl) rfl (s112_0_ft hn (zc_ltF h) (zc_geT (by rw [u_th, g_ms, hc1]; exact hx.resolve_left h)))⟩
end OPS3
