theorem Inv_giveS {n B t o a c N q0 : Nat} {α : Ks} {u : Int32} (ht : t < n) (ho : o < n) (hn : n ≤ 5) (hB : B < 2 ^ 29) (ha : a < 4) (hN : α t (44 + 24 * o) = nI N) (hc : α t (44 + 24 * o + 1) = nI c) (hc2 : c ≤ 4) (hN2 : N < 2 ^ 29) (hq : 0 < c → α t (44 + 24 * o + 2) = nI q0 ∧ q0 ≤ N) (hcan : aCan c N q0 = true) (h : Inv n B α) : Inv n (B + 1) (aGive α t o a c u) := by
  have hg := Inv_give (u := u) ht ho hn hB ha hN hc hc2 (by omega) hq hcan h
  unfold aGive
  refine Inv_send hn (by omega) ht ho ?_ hg
  refine ⟨fun _ => ⟨N, a, hN, ha, rfl, ?_⟩, fun e => absurd e (by omega), fun e => absurd e (by omega), fun e => absurd e (by omega)⟩
  unfold aDown
  rw [krow_ne (by omega)]
  unfold aGive0 aOpen
  rw [kup_same, kup_ne (by omega), hN, nI_add]
  unfold cn
  rw [nI_clamp (by omega)]
  omega
/-- k ticks -/
def aTick (n t : Nat) : Nat → Int32 → Ks → Int32 × Ks
  | 0, g, α => (g, α)
  | k + 1, g, α => aTick n t k (g + nI (cn (α t 19) - (aRel t (cn (α t 19)) 0 (kup α t 16 (α t 16 + nI 1))).2)) (aPass n α t (cn (α t 19)))
theorem Inv_tick {n t : Nat} (ht : t < n) (hn : 2 ≤ n ∧ n ≤ 5) : ∀ {k B : Nat} {g : Int32} {α : Ks}, B + k < 2 ^ 29 → Inv n B α → Inv n (B + k) (aTick n t k g α).2
  | 0, B, g, α, _, h => h
  | k + 1, B, g, α, hB, h => by
    unfold aTick
    obtain ⟨c, hc⟩ := Inv_res ht h
    have hcn : cn (α t 19) = c := by
      rw [hc.1]
      have := hc.2.1
      exact cnI (by omega)
    rw [hcn]
    have := Inv_tick (k := k) (B := B + 1) (g := g + nI (c - (aRel t c 0 (kup α t 16 (α t 16 + nI 1))).2)) ht hn (by omega) (Inv_pass (by omega) ht hn hc h)
    rw [show B + 1 + k = B + (k + 1) by omega] at this
    exact this
def aPick (α : Ks) (t c : Nat) : Option Nat → Ks
  | none => α
  | some i => krow α t (remR (kup α t (4 + cn (α t (20 + 4 * i + 1))) (α t (4 + cn (α t (20 + 4 * i + 1))) + α t (20 + 4 * i + 2)) t) i (c - 1))
theorem aPick_some {α : Ks} {t c i : Nat} : aPick α t c (some i) = krow α t (remR (kup α t (4 + cn (α t (20 + 4 * i + 1))) (α t (4 + cn (α t (20 + 4 * i + 1))) + α t (20 + 4 * i + 2)) t) i (c - 1)) := rfl
theorem rich_val {f : Nat → Int32} : ∀ {k i : Nat} {best most : Int32}, rich f k i best most = best ∨ ∃ o, i ≤ o ∧ o < i + k ∧ rich f k i best most = nI o
  | 0, i, best, most => Or.inl rfl
  | k + 1, i, best, most => by
    unfold rich
    split
    · rcases rich_val (f := f) (k := k) (i := i + 1) (best := best) (most := most) with h | ⟨o, h1, h2, h3⟩
      · exact Or.inl h
      · exact Or.inr ⟨o, by omega, by omega, h3⟩
    · rcases rich_val (f := f) (k := k) (i := i + 1) (best := nI i) (most := f i) with h | ⟨o, h1, h2, h3⟩
      · exact Or.inr ⟨i, by omega, by omega, h⟩
      · exact Or.inr ⟨o, by omega, by omega, h3⟩
theorem nI_nm1 {o : Nat} (h : o < 2 ^ 31) : ¬ nI o = Int32.ofInt (-1) := by
  intro e
  have h1 := nI_toInt h
  rw [e] at h1
  have h2 : (Int32.ofInt (-1)).toInt = -1 := by decide
  omega
section OPS2
variable {n L B : Nat} {α : Ks} {j mj t1 : Nat} {ls mls : List Slot}
theorem op_reserve (hn : 2 ≤ n ∧ n ≤ 5) (hI : Inv n B α) (p q u w : Int32) : OpT 62 [.val (.ref (kad n (0, 0, 0))), .val (.int p), .val (.int q), .val (.int u), .val (.int w), .unset] 123 [.val (.ref (kad n (22, 0, 0))), .val (.int p), .val (.int q), .val (.int u), .val (.int w), .unset, .unset] 200 n L B α := by
  by_cases hg : okT n p ∧ okA q ∧ okU u
  · obtain ⟨⟨t, ht, rfl⟩, ⟨a, ha, rfl⟩, hu⟩ := hg
    have hup := hI.1 t ht
    by_cases hw1 : w < Int32.ofInt 1
    · exact opT1 hI (fun β th ow sc g hcap => s62_0_kt hn (c_checkGoods_t hn ht ha hu) (zc_ltT hw1) hcap rfl) (fun γ th ow sc g => ⟨_, zr_rv (by simp only [u_th] <;> rfl) rfl (s123_0_ftf hn (m_areThese_t hn ht ha hu) rfl (zc_ltT hw1) rfl)⟩)
    · by_cases hw2 : w ≤ (Int8.ofInt 100).toInt32
      · by_cases hs : ¬ α 10 t = 0 ∧ u ≤ α t a
        · obtain ⟨h0, hs⟩ := hs
          obtain ⟨c, hc1, hc2, hc3⟩ := Inv_res ht hI
          have hmat : ∀ γ th ow sc g, ZR 97 0 [.val (.int (nI t))] [] (khp n L (kup (St n γ α th ow sc) 42 0 (Int32.ofInt 0)) g) true (.inl (some (.int (nI (164 * t)))), khp n L (kup (St n γ α th ow sc) 42 0 (Int32.ofInt 0)) g, true) := by
            intro γ th ow sc g
            rw [u_th]
            exact m_at hn t
          have hfull : ∀ β th ow sc g, ZR 63 0 [.val (.ref (kad n (8, 2 * t, 0)))] [] (khp n L (St n α β th ow sc) g) true (.inl (some (.int (if c = 6 then Int32.ofInt 1 else Int32.ofInt 0))), khp n L (St n α β th ow sc) g, true) := fun β th ow sc g => c_isFullR hn ht hc1 hc2
          by_cases h6 : c = 6
          · simp only [if_pos h6] at hfull
            exact opT2 hI (fun β th ow sc g hcap => s62_0_kftkf (x5 := t) hn (c_checkGoods_t hn ht ha hu) (zc_ltF hw1) (zc_leT hw2) (c_checkSuffices_t hn ht ha h0 hs) (zix_nI ht (by omega)) (hfull β th ow sc g) rfl hcap rfl) (fun γ th ow sc g => ⟨_, zr_rv (by simp only [u_th] <;> rfl) rfl (s123_0_ffftffff (x7 := t) (x9 := 164 * t + a) (x11 := 164 * t + 19) hn (m_areThese_t hn ht ha hu) rfl (zc_ltF hw1) (zc_gtf hw2) rfl (hmat γ th ow sc g) (zix_nI (by omega) (by omega)) (by rw [u_th]; exact dn_f hup h0) (zx (by simp (disch := omega) only [gB, gK, gU, gN, gC, gM, gMK, gD, gL, g_th, g_n, g_ms, g_ls, g_ow, g_sc, uB, uK, uU, uN, uC, uM, uMK, uL, u_ms, u_ls, u_th, u_ow, kup_same, kup_ne, kup_krow2, krow_same, krow_ne, c_0, c_1, c_2, c_3, c_4, c_5, b_6, b_8, b_10, b_12, b_14, b_15, b_16, b_17, b_18, b_19, b_20, b_24, b_30, b_44, b_63, b_100, h_164, o_n, c_z, nI_add, nI_mul] <;> first | rfl | (congr 1; omega)) (by omega) (by omega)) (zc_ltf (by simp (disch := omega) only [gB, gK, gU, gN, gC, gM, gMK, gD, gL, g_th, g_n, g_ms, g_ls, g_ow, g_sc, uB, uK, uU, uN, uC, uM, uMK, uL, u_ms, u_ls, u_th, u_ow, kup_same, kup_ne, kup_krow2, krow_same, krow_ne, c_0, c_1, c_2, c_3, c_4, c_5, b_6, b_8, b_10, b_12, b_14, b_15, b_16, b_17, b_18, b_19, b_20, b_24, b_30, b_44, b_63, b_100, h_164, o_n]; exact hs)) (zx (by simp (disch := omega) only [gB, gK, gU, gN, gC, gM, gMK, gD, gL, g_th, g_n, g_ms, g_ls, g_ow, g_sc, uB, uK, uU, uN, uC, uM, uMK, uL, u_ms, u_ls, u_th, u_ow, kup_same, kup_ne, kup_krow2, krow_same, krow_ne, c_0, c_1, c_2, c_3, c_4, c_5, b_6, b_8, b_10, b_12, b_14, b_15, b_16, b_17, b_18, b_19, b_20, b_24, b_30, b_44, b_63, b_100, h_164, o_n, c_z, nI_add, nI_mul] <;> first | rfl | (congr 1; omega)) (by omega) (by omega)) (by simp (disch := omega) only [hc1, gB, gK, gU, gN, gC, gM, gMK, gD, gL, g_th, g_n, g_ms, g_ls, g_ow, g_sc, uB, uK, uU, uN, uC, uM, uMK, uL, u_ms, u_ls, u_th, u_ow, kup_same, kup_ne, kup_krow2, krow_same, krow_ne, c_0, c_1, c_2, c_3, c_4, c_5, b_6, b_8, b_10, b_12, b_14, b_15, b_16, b_17, b_18, b_19, b_20, b_24, b_30, b_44, b_63, b_100, h_164, o_n, c_z, nI_add, nI_mul, zc_ge, zc_lt, zc_gt, zc_le, zc_eq, zc_ne, decide_eq_true_eq, decide_eq_false_iff_not] <;> omega) rfl)⟩)
          · simp only [if_neg h6] at hfull
            refine opT0 (v := α t 17) (α' := aAdd (kup α t a (α t a - u)) t c (nI a) u (α t 16 + w)) ?_ ?_ ?_
            · refine Inv_mono (by omega) (Inv_add ht hn.2 ?_ (by omega) ha (Inv_small ht hn.2 (by omega) hI))
              rw [kup_ne (by omega)]
              exact hc1
            · intro β th ow sc g
              refine ⟨_, s62_0_kftkt (x5 := t) (x8 := a) (c9 := false) hn (c_checkGoods_t hn ht ha hu) (zc_ltF hw1) (zc_leT hw2) (c_checkSuffices_t hn ht ha h0 hs) (zix_nI ht (by omega)) (hfull β th ow sc g) rfl (zix_nI ha (by omega)) ?_⟩
              have h9 := c_add (α := kup α t a (α t a - u)) (β := β) (th := th) (ow := ow) (sc := sc) (L := L) (g := g) (cl := true) (c := c) hn ht (by rw [kup_ne (by omega)]; exact hc1) (by omega) (nI a) u (α t 16 + w)
              rw [kup_ne (by omega)] at h9
              simp (disch := omega) only [gB, gK, gU, gN, gC, gM, gMK, gD, gL, g_th, g_n, g_ms, g_ls, g_ow, g_sc, uB, uK, uU, uN, uC, uM, uMK, uL, u_ms, u_ls, u_th, u_ow, kup_same, kup_ne, kup_krow2, krow_same, krow_ne, c_0, c_1, c_2, c_3, c_4, c_5, b_6, b_8, b_10, b_12, b_14, b_15, b_16, b_17, b_18, b_19, b_20, b_24, b_30, b_44, b_63, b_100, h_164, o_n]
              exact h9
            · intro γ th ow sc g
              refine ⟨_, zr_rv ?_ ?_ (s123_0_ffftfftt (x7 := t) (x9 := 164 * t + a) (x11 := 164 * t + 19) (x14 := 164 * t + 17) (x15 := 164 * t + (20 + 4 * c)) (x16 := 164 * t + (20 + 4 * c + 1)) (x17 := 164 * t + (20 + 4 * c + 2)) (x18 := 164 * t + 16) (x19 := 164 * t + (20 + 4 * c + 3)) hn (m_areThese_t hn ht ha hu) rfl (zc_ltF hw1) (zc_gtf hw2) rfl (hmat γ th ow sc g) (zix_nI (by omega) (by omega)) (by rw [u_th]; exact dn_f hup h0) (zx (by simp (disch := omega) only [gB, gK, gU, gN, gC, gM, gMK, gD, gL, g_th, g_n, g_ms, g_ls, g_ow, g_sc, uB, uK, uU, uN, uC, uM, uMK, uL, u_ms, u_ls, u_th, u_ow, kup_same, kup_ne, kup_krow2, krow_same, krow_ne, c_0, c_1, c_2, c_3, c_4, c_5, b_6, b_8, b_10, b_12, b_14, b_15, b_16, b_17, b_18, b_19, b_20, b_24, b_30, b_44, b_63, b_100, h_164, o_n, c_z, nI_add, nI_mul] <;> first | rfl | (congr 1; omega)) (by omega) (by omega)) (zc_ltf (by simp (disch := omega) only [gB, gK, gU, gN, gC, gM, gMK, gD, gL, g_th, g_n, g_ms, g_ls, g_ow, g_sc, uB, uK, uU, uN, uC, uM, uMK, uL, u_ms, u_ls, u_th, u_ow, kup_same, kup_ne, kup_krow2, krow_same, krow_ne, c_0, c_1, c_2, c_3, c_4, c_5, b_6, b_8, b_10, b_12, b_14, b_15, b_16, b_17, b_18, b_19, b_20, b_24, b_30, b_44, b_63, b_100, h_164, o_n]; exact hs)) (zx (by simp (disch := omega) only [gB, gK, gU, gN, gC, gM, gMK, gD, gL, g_th, g_n, g_ms, g_ls, g_ow, g_sc, uB, uK, uU, uN, uC, uM, uMK, uL, u_ms, u_ls, u_th, u_ow, kup_same, kup_ne, kup_krow2, krow_same, krow_ne, c_0, c_1, c_2, c_3, c_4, c_5, b_6, b_8, b_10, b_12, b_14, b_15, b_16, b_17, b_18, b_19, b_20, b_24, b_30, b_44, b_63, b_100, h_164, o_n, c_z, nI_add, nI_mul] <;> first | rfl | (congr 1; omega)) (by omega) (by omega)) (by simp (disch := omega) only [hc1, gB, gK, gU, gN, gC, gM, gMK, gD, gL, g_th, g_n, g_ms, g_ls, g_ow, g_sc, uB, uK, uU, uN, uC, uM, uMK, uL, u_ms, u_ls, u_th, u_ow, kup_same, kup_ne, kup_krow2, krow_same, krow_ne, c_0, c_1, c_2, c_3, c_4, c_5, b_6, b_8, b_10, b_12, b_14, b_15, b_16, b_17, b_18, b_19, b_20, b_24, b_30, b_44, b_63, b_100, h_164, o_n, c_z, nI_add, nI_mul, zc_ge, zc_lt, zc_gt, zc_le, zc_eq, zc_ne, decide_eq_true_eq, decide_eq_false_iff_not] <;> omega) rfl (zx (by simp (disch := omega) only [gB, gK, gU, gN, gC, gM, gMK, gD, gL, g_th, g_n, g_ms, g_ls, g_ow, g_sc, uB, uK, uU, uN, uC, uM, uMK, uL, u_ms, u_ls, u_th, u_ow, kup_same, kup_ne, kup_krow2, krow_same, krow_ne, c_0, c_1, c_2, c_3, c_4, c_5, b_6, b_8, b_10, b_12, b_14, b_15, b_16, b_17, b_18, b_19, b_20, b_24, b_30, b_44, b_63, b_100, h_164, o_n, c_z, nI_add, nI_mul] <;> first | rfl | (congr 1; omega)) (by omega) (by omega)) (zx (by simp (disch := omega) only [hc1, gB, gK, gU, gN, gC, gM, gMK, gD, gL, g_th, g_n, g_ms, g_ls, g_ow, g_sc, uB, uK, uU, uN, uC, uM, uMK, uL, u_ms, u_ls, u_th, u_ow, kup_same, kup_ne, kup_krow2, krow_same, krow_ne, c_0, c_1, c_2, c_3, c_4, c_5, b_6, b_8, b_10, b_12, b_14, b_15, b_16, b_17, b_18, b_19, b_20, b_24, b_30, b_44, b_63, b_100, h_164, o_n, c_z, nI_add, nI_mul] <;> first | rfl | (congr 1; omega)) (by omega) (by omega)) (zx (by simp (disch := omega) only [hc1, gB, gK, gU, gN, gC, gM, gMK, gD, gL, g_th, g_n, g_ms, g_ls, g_ow, g_sc, uB, uK, uU, uN, uC, uM, uMK, uL, u_ms, u_ls, u_th, u_ow, kup_same, kup_ne, kup_krow2, krow_same, krow_ne, c_0, c_1, c_2, c_3, c_4, c_5, b_6, b_8, b_10, b_12, b_14, b_15, b_16, b_17, b_18, b_19, b_20, b_24, b_30, b_44, b_63, b_100, h_164, o_n, c_z, nI_add, nI_mul] <;> first | rfl | (congr 1; omega)) (by omega) (by omega)) (zx (by simp (disch := omega) only [hc1, gB, gK, gU, gN, gC, gM, gMK, gD, gL, g_th, g_n, g_ms, g_ls, g_ow, g_sc, uB, uK, uU, uN, uC, uM, uMK, uL, u_ms, u_ls, u_th, u_ow, kup_same, kup_ne, kup_krow2, krow_same, krow_ne, c_0, c_1, c_2, c_3, c_4, c_5, b_6, b_8, b_10, b_12, b_14, b_15, b_16, b_17, b_18, b_19, b_20, b_24, b_30, b_44, b_63, b_100, h_164, o_n, c_z, nI_add, nI_mul] <;> first | rfl | (congr 1; omega)) (by omega) (by omega)) (zx (by simp (disch := omega) only [gB, gK, gU, gN, gC, gM, gMK, gD, gL, g_th, g_n, g_ms, g_ls, g_ow, g_sc, uB, uK, uU, uN, uC, uM, uMK, uL, u_ms, u_ls, u_th, u_ow, kup_same, kup_ne, kup_krow2, krow_same, krow_ne, c_0, c_1, c_2, c_3, c_4, c_5, b_6, b_8, b_10, b_12, b_14, b_15, b_16, b_17, b_18, b_19, b_20, b_24, b_30, b_44, b_63, b_100, h_164, o_n, c_z, nI_add, nI_mul] <;> first | rfl | (congr 1; omega)) (by omega) (by omega)) (zx (by simp (disch := omega) only [hc1, gB, gK, gU, gN, gC, gM, gMK, gD, gL, g_th, g_n, g_ms, g_ls, g_ow, g_sc, uB, uK, uU, uN, uC, uM, uMK, uL, u_ms, u_ls, u_th, u_ow, kup_same, kup_ne, kup_krow2, krow_same, krow_ne, c_0, c_1, c_2, c_3, c_4, c_5, b_6, b_8, b_10, b_12, b_14, b_15, b_16, b_17, b_18, b_19, b_20, b_24, b_30, b_44, b_63, b_100, h_164, o_n, c_z, nI_add, nI_mul] <;> first | rfl | (congr 1; omega)) (by omega) (by omega)))⟩
              · simp (disch := omega) only [hc1, nI_add, gB, gK, gU, gN, gC, gM, gMK, gD, gL, g_th, g_n, g_ms, g_ls, g_ow, g_sc, uB, uK, uU, uN, uC, uM, uMK, uL, u_ms, u_ls, u_th, u_ow, kup_same, kup_ne, kup_krow2, krow_same, krow_ne, c_0, c_1, c_2, c_3, c_4, c_5, b_6, b_8, b_10, b_12, b_14, b_15, b_16, b_17, b_18, b_19, b_20, b_24, b_30, b_44, b_63, b_100, h_164, o_n]
                unfold aAdd
                simp (disch := omega) only [gB, gK, gU, gN, gC, gM, gMK, gD, gL, g_th, g_n, g_ms, g_ls, g_ow, g_sc, uB, uK, uU, uN, uC, uM, uMK, uL, u_ms, u_ls, u_th, u_ow, kup_same, kup_ne, kup_krow2, krow_same, krow_ne, c_0, c_1, c_2, c_3, c_4, c_5, b_6, b_8, b_10, b_12, b_14, b_15, b_16, b_17, b_18, b_19, b_20, b_24, b_30, b_44, b_63, b_100, h_164, o_n]
                congr 1
                funext x y
                simp only [kup]
                (repeat' split) <;> first | rfl | (exfalso; omega) | (congr 1; omega)
              · simp (disch := omega) only [gB, gK, gU, gN, gC, gM, gMK, gD, gL, g_th, g_n, g_ms, g_ls, g_ow, g_sc, uB, uK, uU, uN, uC, uM, uMK, uL, u_ms, u_ls, u_th, u_ow, kup_same, kup_ne, kup_krow2, krow_same, krow_ne, c_0, c_1, c_2, c_3, c_4, c_5, b_6, b_8, b_10, b_12, b_14, b_15, b_16, b_17, b_18, b_19, b_20, b_24, b_30, b_44, b_63, b_100, h_164, o_n]
        · have hf := hs
          refine opT2 hI (fun β th ow sc g hcap => s62_0_kfte201 hn (c_checkGoods_t hn ht ha hu) (zc_ltF hw1) (zc_leT hw2) (c_checkSuffices_f hn ht ha hs hcap)) (v := Int32.ofInt 0) (fun γ th ow sc g => ?_)
          have hmat : ZR 97 0 [.val (.int (nI t))] [] (khp n L (kup (St n γ α th ow sc) 42 0 (Int32.ofInt 0)) g) true (.inl (some (.int (nI (164 * t)))), khp n L (kup (St n γ α th ow sc) 42 0 (Int32.ofInt 0)) g, true) := by
            rw [u_th]
            exact m_at hn t
          by_cases h0 : α 10 t = 0
          · exact ⟨_, zr_rv (by simp only [u_th] <;> rfl) rfl (s123_0_fffttf (x7 := t) hn (m_areThese_t hn ht ha hu) rfl (zc_ltF hw1) (zc_gtf hw2) rfl hmat (zix_nI (by omega) (by omega)) (by rw [u_th]; exact dn_t h0) rfl)⟩
          · exact ⟨_, zr_rv (by simp only [u_th] <;> rfl) rfl (s123_0_ffftftf (x7 := t) (x9 := 164 * t + a) hn (m_areThese_t hn ht ha hu) rfl (zc_ltF hw1) (zc_gtf hw2) rfl hmat (zix_nI (by omega) (by omega)) (by rw [u_th]; exact dn_f hup h0) (zx (by simp (disch := omega) only [gB, gK, gU, gN, gC, gM, gMK, gD, gL, g_th, g_n, g_ms, g_ls, g_ow, g_sc, uB, uK, uU, uN, uC, uM, uMK, uL, u_ms, u_ls, u_th, u_ow, kup_same, kup_ne, kup_krow2, krow_same, krow_ne, c_0, c_1, c_2, c_3, c_4, c_5, b_6, b_8, b_10, b_12, b_14, b_15, b_16, b_17, b_18, b_19, b_20, b_24, b_30, b_44, b_63, b_100, h_164, o_n, c_z, nI_add, nI_mul] <;> first | rfl | (congr 1; omega)) (by omega) (by omega)) (zc_ltt (by simp (disch := omega) only [gB, gK, gU, gN, gC, gM, gMK, gD, gL, g_th, g_n, g_ms, g_ls, g_ow, g_sc, uB, uK, uU, uN, uC, uM, uMK, uL, u_ms, u_ls, u_th, u_ow, kup_same, kup_ne, kup_krow2, krow_same, krow_ne, c_0, c_1, c_2, c_3, c_4, c_5, b_6, b_8, b_10, b_12, b_14, b_15, b_16, b_17, b_18, b_19, b_20, b_24, b_30, b_44, b_63, b_100, h_164, o_n]; exact fun q => hs ⟨h0, q⟩)) rfl)⟩
      · exact opT1 hI (fun β th ow sc g hcap => s62_0_kff hn (c_checkGoods_t hn ht ha hu) (zc_ltF hw1) (zc_leF hw2) hcap rfl) (fun γ th ow sc g => ⟨_, zr_rv (by simp only [u_th] <;> rfl) rfl (s123_0_fftf hn (m_areThese_t hn ht ha hu) rfl (zc_ltF hw1) (zc_gtt hw2) rfl)⟩)
  · exact opT1 hI (fun β th ow sc g hcap => s62_0_e200 hn (c_checkGoods_f hn hg hcap)) (fun γ th ow sc g => ⟨_, zr_rv (by simp only [u_th] <;> rfl) rfl (s123_0_tf hn (m_areThese_f hn hg) rfl rfl)⟩)
theorem m_pickL {γ : Ks} {th ow : Int32} {sc : Nat → Int32} {g : List Nat} {t c : Nat} (hn : 2 ≤ n ∧ n ≤ 5) (ht : t < n) (hup : UpOk α t) (hr : ResOk α t c) (id : Int32) : ∀ k i, i + k = c → ∃ cl', ZR 124 23 [.val (.ref (kad n (22, 0, 0))), .val (.int (nI t)), .val (.int id), .val (.int (nI (164 * t))), .val (.int (nI i)), .unset] [] (khp n L (St n γ α th ow sc) g) false (.inl (some (.int (zb (!decide (α 10 t = 0) && (fnd (fun i => α t (20 + 4 * i)) id k i).isSome)))), khp n L (St n γ (if α 10 t = 0 then α else aPick α t c (fnd (fun i => α t (20 + 4 * i)) id k i)) th ow sc) g, cl') := by
  have z1 : zix (nI (164 * t) + (Int8.ofInt 19).toInt32) 820 = some (164 * t + 19) := (zx (by simp (disch := omega) only [gB, gK, gU, gN, gC, gM, gMK, gD, gL, g_th, g_n, g_ms, g_ls, g_ow, g_sc, uB, uK, uU, uN, uC, uM, uMK, uL, u_ms, u_ls, u_th, u_ow, kup_same, kup_ne, kup_krow2, krow_same, krow_ne, c_0, c_1, c_2, c_3, c_4, c_5, b_6, b_8, b_10, b_12, b_14, b_15, b_16, b_17, b_18, b_19, b_20, b_24, b_30, b_44, b_63, b_100, h_164, o_n, c_z, nI_add, nI_mul] <;> first | rfl | (congr 1; omega)) (by omega) (by omega))
  obtain ⟨hc1, hc2, hc3⟩ := hr
  intro k
  induction k with
  | zero =>
    intro i hi
    by_cases h0 : α 10 t = 0
    · simp only [h0, decide_true, Bool.not_true, Bool.false_and, if_true]
      exact ⟨_, s124_23_tt hn z1 (by simp (disch := omega) only [hc1, gB, gK, gU, gN, gC, gM, gMK, gD, gL, g_th, g_n, g_ms, g_ls, g_ow, g_sc, uB, uK, uU, uN, uC, uM, uMK, uL, u_ms, u_ls, u_th, u_ow, kup_same, kup_ne, kup_krow2, krow_same, krow_ne, c_0, c_1, c_2, c_3, c_4, c_5, b_6, b_8, b_10, b_12, b_14, b_15, b_16, b_17, b_18, b_19, b_20, b_24, b_30, b_44, b_63, b_100, h_164, o_n, c_z, nI_add, nI_mul, zc_ge, zc_lt, zc_gt, zc_le, zc_eq, zc_ne, decide_eq_true_eq, decide_eq_false_iff_not] <;> omega) (zix_nI (by omega) (by omega)) (dn_t h0)⟩
    · simp only [h0, decide_false, Bool.not_false, Bool.true_and, if_false]
      exact ⟨_, s124_23_tff hn z1 (by simp (disch := omega) only [hc1, gB, gK, gU, gN, gC, gM, gMK, gD, gL, g_th, g_n, g_ms, g_ls, g_ow, g_sc, uB, uK, uU, uN, uC, uM, uMK, uL, u_ms, u_ls, u_th, u_ow, kup_same, kup_ne, kup_krow2, krow_same, krow_ne, c_0, c_1, c_2, c_3, c_4, c_5, b_6, b_8, b_10, b_12, b_14, b_15, b_16, b_17, b_18, b_19, b_20, b_24, b_30, b_44, b_63, b_100, h_164, o_n, c_z, nI_add, nI_mul, zc_ge, zc_lt, zc_gt, zc_le, zc_eq, zc_ne, decide_eq_true_eq, decide_eq_false_iff_not] <;> omega) (zix_nI (by omega) (by omega)) (dn_f hup h0) (by simp (disch := omega) only [hc1, gB, gK, gU, gN, gC, gM, gMK, gD, gL, g_th, g_n, g_ms, g_ls, g_ow, g_sc, uB, uK, uU, uN, uC, uM, uMK, uL, u_ms, u_ls, u_th, u_ow, kup_same, kup_ne, kup_krow2, krow_same, krow_ne, c_0, c_1, c_2, c_3, c_4, c_5, b_6, b_8, b_10, b_12, b_14, b_15, b_16, b_17, b_18, b_19, b_20, b_24, b_30, b_44, b_63, b_100, h_164, o_n, c_z, nI_add, nI_mul, zc_ge, zc_lt, zc_gt, zc_le, zc_eq, zc_ne, decide_eq_true_eq, decide_eq_false_iff_not] <;> omega)⟩
  | succ k ih =>
    intro i hi
    have z3 : zix (nI (164 * t) + (Int8.ofInt 20).toInt32 + Int32.ofInt 4 * nI i) 820 = some (164 * t + (20 + 4 * i)) := (zx (by simp (disch := omega) only [gB, gK, gU, gN, gC, gM, gMK, gD, gL, g_th, g_n, g_ms, g_ls, g_ow, g_sc, uB, uK, uU, uN, uC, uM, uMK, uL, u_ms, u_ls, u_th, u_ow, kup_same, kup_ne, kup_krow2, krow_same, krow_ne, c_0, c_1, c_2, c_3, c_4, c_5, b_6, b_8, b_10, b_12, b_14, b_15, b_16, b_17, b_18, b_19, b_20, b_24, b_30, b_44, b_63, b_100, h_164, o_n, c_z, nI_add, nI_mul] <;> first | rfl | (congr 1; omega)) (by omega) (by omega))
    unfold fnd
    by_cases he : α t (20 + 4 * i) = id
    · rw [if_pos he]
      by_cases h0 : α 10 t = 0
      · simp only [h0, decide_true, Bool.not_true, Bool.false_and, if_true]
        exact ⟨_, s124_23_ftt hn z1 (by simp (disch := omega) only [hc1, gB, gK, gU, gN, gC, gM, gMK, gD, gL, g_th, g_n, g_ms, g_ls, g_ow, g_sc, uB, uK, uU, uN, uC, uM, uMK, uL, u_ms, u_ls, u_th, u_ow, kup_same, kup_ne, kup_krow2, krow_same, krow_ne, c_0, c_1, c_2, c_3, c_4, c_5, b_6, b_8, b_10, b_12, b_14, b_15, b_16, b_17, b_18, b_19, b_20, b_24, b_30, b_44, b_63, b_100, h_164, o_n, c_z, nI_add, nI_mul, zc_ge, zc_lt, zc_gt, zc_le, zc_eq, zc_ne, decide_eq_true_eq, decide_eq_false_iff_not] <;> omega) z3 (zc_eqt (by simp (disch := omega) only [gB, gK, gU, gN, gC, gM, gMK, gD, gL, g_th, g_n, g_ms, g_ls, g_ow, g_sc, uB, uK, uU, uN, uC, uM, uMK, uL, u_ms, u_ls, u_th, u_ow, kup_same, kup_ne, kup_krow2, krow_same, krow_ne, c_0, c_1, c_2, c_3, c_4, c_5, b_6, b_8, b_10, b_12, b_14, b_15, b_16, b_17, b_18, b_19, b_20, b_24, b_30, b_44, b_63, b_100, h_164, o_n]; exact he)) (zix_nI (by omega) (by omega)) (dn_t h0)⟩
      · simp only [h0, decide_false, Bool.not_false, Bool.true_and, if_false]
        obtain ⟨a, ha, hae⟩ := hc3 i (by omega)
        have hcn : cn (α t (20 + 4 * i + 1)) = a := by rw [hae]; exact cnI (by omega)
        have hx := m_forget (α := γ) (β := kup α t (4 + a) (α t (4 + a) + α t (20 + 4 * i + 2))) (th := th) (ow := ow) (sc := sc) (g := g) (L := L) (cl := true) (c := c - 1) (i := i) hn ht (by rw [kup_ne (by omega), hc1]; congr 1; omega) (by omega) (by omega)
        rw [krow_kup] at hx
        refine ⟨false, s124_23_ftft (x8 := 164 * t + (20 + 4 * i + 1)) (x9 := 164 * t + (4 + a)) (x10 := 164 * t + (20 + 4 * i + 2)) (c11 := false) hn z1 (by simp (disch := omega) only [hc1, gB, gK, gU, gN, gC, gM, gMK, gD, gL, g_th, g_n, g_ms, g_ls, g_ow, g_sc, uB, uK, uU, uN, uC, uM, uMK, uL, u_ms, u_ls, u_th, u_ow, kup_same, kup_ne, kup_krow2, krow_same, krow_ne, c_0, c_1, c_2, c_3, c_4, c_5, b_6, b_8, b_10, b_12, b_14, b_15, b_16, b_17, b_18, b_19, b_20, b_24, b_30, b_44, b_63, b_100, h_164, o_n, c_z, nI_add, nI_mul, zc_ge, zc_lt, zc_gt, zc_le, zc_eq, zc_ne, decide_eq_true_eq, decide_eq_false_iff_not] <;> omega) z3 (zc_eqt (by simp (disch := omega) only [gB, gK, gU, gN, gC, gM, gMK, gD, gL, g_th, g_n, g_ms, g_ls, g_ow, g_sc, uB, uK, uU, uN, uC, uM, uMK, uL, u_ms, u_ls, u_th, u_ow, kup_same, kup_ne, kup_krow2, krow_same, krow_ne, c_0, c_1, c_2, c_3, c_4, c_5, b_6, b_8, b_10, b_12, b_14, b_15, b_16, b_17, b_18, b_19, b_20, b_24, b_30, b_44, b_63, b_100, h_164, o_n]; exact he)) (zix_nI (by omega) (by omega)) (dn_f hup h0) (by simp (disch := omega) only [hc1, gB, gK, gU, gN, gC, gM, gMK, gD, gL, g_th, g_n, g_ms, g_ls, g_ow, g_sc, uB, uK, uU, uN, uC, uM, uMK, uL, u_ms, u_ls, u_th, u_ow, kup_same, kup_ne, kup_krow2, krow_same, krow_ne, c_0, c_1, c_2, c_3, c_4, c_5, b_6, b_8, b_10, b_12, b_14, b_15, b_16, b_17, b_18, b_19, b_20, b_24, b_30, b_44, b_63, b_100, h_164, o_n, c_z, nI_add, nI_mul, zc_ge, zc_lt, zc_gt, zc_le, zc_eq, zc_ne, decide_eq_true_eq, decide_eq_false_iff_not] <;> omega) (zx (by simp (disch := omega) only [gB, gK, gU, gN, gC, gM, gMK, gD, gL, g_th, g_n, g_ms, g_ls, g_ow, g_sc, uB, uK, uU, uN, uC, uM, uMK, uL, u_ms, u_ls, u_th, u_ow, kup_same, kup_ne, kup_krow2, krow_same, krow_ne, c_0, c_1, c_2, c_3, c_4, c_5, b_6, b_8, b_10, b_12, b_14, b_15, b_16, b_17, b_18, b_19, b_20, b_24, b_30, b_44, b_63, b_100, h_164, o_n, c_z, nI_add, nI_mul] <;> first | rfl | (congr 1; omega)) (by omega) (by omega)) (zx (by simp (disch := omega) only [hae, gB, gK, gU, gN, gC, gM, gMK, gD, gL, g_th, g_n, g_ms, g_ls, g_ow, g_sc, uB, uK, uU, uN, uC, uM, uMK, uL, u_ms, u_ls, u_th, u_ow, kup_same, kup_ne, kup_krow2, krow_same, krow_ne, c_0, c_1, c_2, c_3, c_4, c_5, b_6, b_8, b_10, b_12, b_14, b_15, b_16, b_17, b_18, b_19, b_20, b_24, b_30, b_44, b_63, b_100, h_164, o_n, c_z, nI_add, nI_mul] <;> first | rfl | (congr 1; omega)) (by omega) (by omega)) (zx (by simp (disch := omega) only [gB, gK, gU, gN, gC, gM, gMK, gD, gL, g_th, g_n, g_ms, g_ls, g_ow, g_sc, uB, uK, uU, uN, uC, uM, uMK, uL, u_ms, u_ls, u_th, u_ow, kup_same, kup_ne, kup_krow2, krow_same, krow_ne, c_0, c_1, c_2, c_3, c_4, c_5, b_6, b_8, b_10, b_12, b_14, b_15, b_16, b_17, b_18, b_19, b_20, b_24, b_30, b_44, b_63, b_100, h_164, o_n, c_z, nI_add, nI_mul] <;> first | rfl | (congr 1; omega)) (by omega) (by omega)) ?_⟩
        rw [aPick_some]
        rw [hcn]
        simp (disch := omega) only [gB, gK, gU, gN, gC, gM, gMK, gD, gL, g_th, g_n, g_ms, g_ls, g_ow, g_sc, uB, uK, uU, uN, uC, uM, uMK, uL, u_ms, u_ls, u_th, u_ow, kup_same, kup_ne, kup_krow2, krow_same, krow_ne, c_0, c_1, c_2, c_3, c_4, c_5, b_6, b_8, b_10, b_12, b_14, b_15, b_16, b_17, b_18, b_19, b_20, b_24, b_30, b_44, b_63, b_100, h_164, o_n]
        exact hx
    · rw [if_neg he]
      obtain ⟨cl', h⟩ := ih (i + 1) (by omega)
      refine ⟨cl', s124_23_ff hn z1 (by simp (disch := omega) only [hc1, gB, gK, gU, gN, gC, gM, gMK, gD, gL, g_th, g_n, g_ms, g_ls, g_ow, g_sc, uB, uK, uU, uN, uC, uM, uMK, uL, u_ms, u_ls, u_th, u_ow, kup_same, kup_ne, kup_krow2, krow_same, krow_ne, c_0, c_1, c_2, c_3, c_4, c_5, b_6, b_8, b_10, b_12, b_14, b_15, b_16, b_17, b_18, b_19, b_20, b_24, b_30, b_44, b_63, b_100, h_164, o_n, c_z, nI_add, nI_mul, zc_ge, zc_lt, zc_gt, zc_le, zc_eq, zc_ne, decide_eq_true_eq, decide_eq_false_iff_not] <;> omega) z3 (zc_eqf (by simp (disch := omega) only [gB, gK, gU, gN, gC, gM, gMK, gD, gL, g_th, g_n, g_ms, g_ls, g_ow, g_sc, uB, uK, uU, uN, uC, uM, uMK, uL, u_ms, u_ls, u_th, u_ow, kup_same, kup_ne, kup_krow2, krow_same, krow_ne, c_0, c_1, c_2, c_3, c_4, c_5, b_6, b_8, b_10, b_12, b_14, b_15, b_16, b_17, b_18, b_19, b_20, b_24, b_30, b_44, b_63, b_100, h_164, o_n]; exact he)) ?_⟩
      rw [nI_inc]
      exact h
theorem op_pick (hn : 2 ≤ n ∧ n ≤ 5) (hI : Inv n B α) (p id : Int32) : OpV 9 [.val (.ref (kad n (0, 0, 0))), .val (.int p), .val (.int id), .unset, .unset] 124 [.val (.ref (kad n (22, 0, 0))), .val (.int p), .val (.int id), .unset, .unset, .unset] n L B α := by
  by_cases ht : okT n p
  · obtain ⟨t, ht, rfl⟩ := ht
    have hup := hI.1 t ht
    obtain ⟨c, hr⟩ := Inv_res ht hI
    have hr0 := hr
    obtain ⟨hc1, hc2, hc3⟩ := hr
    refine ⟨zb (!decide (α 10 t = 0) && (fnd (fun i => α t (20 + 4 * i)) id c 0).isSome), if α 10 t = 0 then α else aPick α t c (fnd (fun i => α t (20 + 4 * i)) id c 0), ?_, ?_, ?_⟩
    · refine Inv_mono (B := B) (by omega) ?_
      split
      · exact hI
      · cases hf : fnd (fun i => α t (20 + 4 * i)) id c 0 with
        | none => exact hI
        | some i =>
          obtain ⟨-, hi, -⟩ := fnd_lt hf
          obtain ⟨a, ha, hae⟩ := hc3 i (by omega)
          have hcn : cn (α t (20 + 4 * i + 1)) = a := by rw [hae]; exact cnI (by omega)
          rw [aPick_some]
          rw [hcn]
          have h2 := Inv_remR (i := i) (c := c - 1) ht hn.2 (by rw [kup_ne (by omega), hc1]; congr 1; omega) (by omega) (by omega) (Inv_small (y := 4 + a) (v := α t (4 + a) + α t (20 + 4 * i + 2)) ht hn.2 (by omega) hI)
          rw [krow_kup] at h2
          exact h2
    · intro β th ow sc g
      by_cases h0 : α 10 t = 0
      · simp only [h0, decide_true, Bool.not_true, Bool.false_and, if_true]
        exact ⟨_, s9_0_f hn (c_isUp_f hn ht h0) rfl⟩
      · simp only [h0, decide_false, Bool.not_false, Bool.true_and, if_false]
        have hfi := c_find (α := α) (β := β) (th := th) (ow := ow) (sc := sc) (g := g) (L := L) (cl := true) hn ht hc1 hc2 id
        cases hf : fnd (fun i => α t (20 + 4 * i)) id c 0 with
        | none =>
          rw [hf] at hfi
          exact ⟨_, s9_0_tf (x3 := t) hn (c_isUp_t hn ht h0) rfl (zix_nI ht (by omega)) hfi rfl⟩
        | some i =>
          rw [hf] at hfi
          obtain ⟨-, hi, -⟩ := fnd_lt hf
          obtain ⟨a, ha, hae⟩ := hc3 i (by omega)
          have hcn : cn (α t (20 + 4 * i + 1)) = a := by rw [hae]; exact cnI (by omega)
          have hx := c_remove (α := kup α t (4 + a) (α t (4 + a) + α t (20 + 4 * i + 2))) (β := β) (th := th) (ow := ow) (sc := sc) (g := g) (L := L) (cl := true) (c := c - 1) (i := i) hn ht (by rw [kup_ne (by omega), hc1]; congr 1; omega) (by omega) (by omega)
          rw [krow_kup] at hx
          refine ⟨false, s9_0_tt (x3 := t) (x6 := i) (x7 := a) (c8 := false) hn (c_isUp_t hn ht h0) rfl (zix_nI ht (by omega)) hfi (zc_net (nI_nm1 (by omega))) (zix_nI (by omega) (by omega)) (by rw [gB (by omega) (by omega), hae]; exact zix_nI ha (by omega)) ?_⟩
          rw [aPick_some]
          rw [hcn]
          simp (disch := omega) only [gB, gK, gU, gN, gC, gM, gMK, gD, gL, g_th, g_n, g_ms, g_ls, g_ow, g_sc, uB, uK, uU, uN, uC, uM, uMK, uL, u_ms, u_ls, u_th, u_ow, kup_same, kup_ne, kup_krow2, krow_same, krow_ne, c_0, c_1, c_2, c_3, c_4, c_5, b_6, b_8, b_10, b_12, b_14, b_15, b_16, b_17, b_18, b_19, b_20, b_24, b_30, b_44, b_63, b_100, h_164, o_n]
          exact hx
    · intro γ th ow sc g
      obtain ⟨cl', h⟩ := m_pickL (γ := γ) (th := nI 0) (ow := ow) (sc := sc) (g := g) (L := L) hn ht hup hr0 id c 0 (by omega)
      refine ⟨cl', s124_0_t (r3 := nI (164 * t)) (r1 := Int32.ofInt 1) hn ?_ rfl ?_ ?_⟩
      · rw [u_th]
        exact m_isTill_t hn ht
      · rw [u_th]
        exact m_at hn t
      · rw [u_th]
        exact h
  · refine ⟨Int32.ofInt 0, α, Inv_mono (by omega) hI, fun β th ow sc g => ⟨_, s9_0_f hn (c_isUp_x hn ht) rfl⟩, fun γ th ow sc g => ⟨_, zr_rv (by simp only [u_th] <;> rfl) rfl (s124_0_f (r1 := Int32.ofInt 0) hn ?_ rfl)⟩⟩
    rw [u_th]
    exact m_isTill_f hn ht
theorem op_tick (hn : 2 ≤ n ∧ n ≤ 5) (hB : B + 30 < 2 ^ 29) (hI : Inv n B α) (p q : Int32) : OpT 66 [.val (.ref (kad n (0, 0, 0))), .val (.int p), .val (.int q), .unset, .unset] 126 [.val (.ref (kad n (22, 0, 0))), .val (.int p), .val (.int q), .unset, .unset] 200 n L B α := by
  by_cases ht : okT n p
  · obtain ⟨t, ht, rfl⟩ := ht
    have hup := hI.1 t ht
    by_cases h1 : q < 0
    · exact opT1 hI (fun β th ow sc g hcap => s66_0_kt hn (c_checkTill_t hn ht) (zc_ltT h1) hcap rfl) (fun γ th ow sc g => ⟨_, zr_rv (by simp only [u_th] <;> rfl) rfl (s126_0_ftf hn (m_isTill_t hn ht) rfl (zc_ltT h1) rfl)⟩)
    · by_cases h2 : q ≤ (Int8.ofInt 30).toInt32
      · obtain ⟨m, hm, rfl⟩ := nI_of h1
        have hm30 : m ≤ 30 := by
          rw [b_30, nI_leI hm (by omega)] at h2
          exact h2
        by_cases h0 : α 10 t = 0
        · refine opT2 hI (fun β th ow sc g hcap => s66_0_kfte201 hn (c_checkTill_t hn ht) (zc_ltF h1) (zc_leT h2) (c_checkUp_f hn ht h0 hcap)) (v := Int32.ofInt 0) (fun γ th ow sc g => ?_)
          by_cases hm0 : m = 0
          · refine ⟨false, s126_0_ffttf (x6 := t) hn (m_isTill_t hn ht) rfl (zc_ltF h1) (zc_leT h2) rfl (zix_nI (by omega) (by omega)) (by rw [u_th]; exact dq_t h0) ?_⟩
            rw [u_th, u_th]
            exact s126_59_t hn (by rw [c_0, zc_ge (by omega) (by omega)]; simp; omega)
          · refine ⟨false, s126_0_ffttf (x6 := t) hn (m_isTill_t hn ht) rfl (zc_ltF h1) (zc_leT h2) rfl (zix_nI (by omega) (by omega)) (by rw [u_th]; exact dq_t h0) ?_⟩
            rw [u_th, u_th]
            exact s126_59_ft hn (by rw [c_0, zc_ge (by omega) (by omega)]; simp; omega) rfl
        · refine opT0 (v := (aTick n t m 0 α).1) (α' := (aTick n t m 0 α).2) ?_ ?_ ?_
          · exact Inv_mono (by omega) (Inv_tick ht hn (by omega) hI)
          · intro β th ow sc g
            have loop : ∀ k i B α gone cl, i + k = m → B + k < 2 ^ 29 → Inv n B α → ∃ cl', ZR 66 35 [.val (.ref (kad n (0, 0, 0))), .val (.int (nI t)), .val (.int (nI m)), .val (.int gone), .val (.int (nI i))] [] (khp n L (St n α β th ow sc) g) cl (.inl (some (.int (aTick n t k gone α).1)), khp n L (St n ((aTick n t k gone α).2) β th ow sc) g, cl') := by
              intro k
              induction k with
              | zero =>
                intro i B α gone cl hi hB hI
                exact ⟨_, s66_35_t hn (by simp (disch := omega) only [gB, gK, gU, gN, gC, gM, gMK, gD, gL, g_th, g_n, g_ms, g_ls, g_ow, g_sc, uB, uK, uU, uN, uC, uM, uMK, uL, u_ms, u_ls, u_th, u_ow, kup_same, kup_ne, kup_krow2, krow_same, krow_ne, c_0, c_1, c_2, c_3, c_4, c_5, b_6, b_8, b_10, b_12, b_14, b_15, b_16, b_17, b_18, b_19, b_20, b_24, b_30, b_44, b_63, b_100, h_164, o_n, c_z, nI_add, nI_mul, zc_ge, zc_lt, zc_gt, zc_le, zc_eq, zc_ne, decide_eq_true_eq, decide_eq_false_iff_not] <;> omega)⟩
              | succ k ih =>
                intro i B α gone cl hi hB hI
                obtain ⟨c, hr⟩ := Inv_res ht hI
                obtain ⟨x, hx1, hx2⟩ := Inv_clk ht hI
                have hcn : cn (α t 19) = c := by
                  rw [hr.1]
                  have := hr.2.1
                  exact cnI (by omega)
                unfold aTick
                rw [hcn]
                obtain ⟨c2, h2⟩ := c_passTick (α := α) (β := β) (th := th) (ow := ow) (sc := sc) (g := g) (L := L) (cl := true) hn ht (Inv_cnt hI) hr (fun o ho => by obtain ⟨c, a1, a2, -⟩ := Inv_opn (by omega) ht ho hI; exact ⟨c, a1, a2⟩) hx2 (by omega)
                obtain ⟨c3, h3⟩ := ih (i + 1) (B + 1) (aPass n α t c) (gone + nI (c - (aRel t c 0 (kup α t 16 (α t 16 + nI 1))).2)) (cl && c2) (by omega) (by omega) (Inv_pass (by omega) ht hn hr hI)
                refine ⟨c3, s66_35_f hn (by simp (disch := omega) only [gB, gK, gU, gN, gC, gM, gMK, gD, gL, g_th, g_n, g_ms, g_ls, g_ow, g_sc, uB, uK, uU, uN, uC, uM, uMK, uL, u_ms, u_ls, u_th, u_ow, kup_same, kup_ne, kup_krow2, krow_same, krow_ne, c_0, c_1, c_2, c_3, c_4, c_5, b_6, b_8, b_10, b_12, b_14, b_15, b_16, b_17, b_18, b_19, b_20, b_24, b_30, b_44, b_63, b_100, h_164, o_n, c_z, nI_add, nI_mul, zc_ge, zc_lt, zc_gt, zc_le, zc_eq, zc_ne, decide_eq_true_eq, decide_eq_false_iff_not] <;> omega) h2 ?_⟩
                rw [nI_inc]
                exact h3
            obtain ⟨c3, h3⟩ := loop m 0 B α 0 true (by omega) (by omega) hI
            exact ⟨c3, s66_0_kftk hn (c_checkTill_t hn ht) (zc_ltF h1) (zc_leT h2) (c_checkUp_t hn ht h0) h3⟩
          · intro γ th ow sc g
            have loop : ∀ k i B α gone cl, i + k = m → B + k < 2 ^ 29 → Inv n B α → ∃ cl', ZR 126 59 [.val (.ref (kad n (22, 0, 0))), .val (.int (nI t)), .val (.int (nI m)), .val (.int gone), .val (.int (nI i))] [] (khp n L (St n γ α (nI 0) ow sc) g) cl (.inl (some (.int (aTick n t k gone α).1)), khp n L (St n γ ((aTick n t k gone α).2) (nI 0) ow sc) g, cl') := by
              intro k
              induction k with
              | zero =>
                intro i B α gone cl hi hB hI
                exact ⟨_, s126_59_t hn (by simp (disch := omega) only [gB, gK, gU, gN, gC, gM, gMK, gD, gL, g_th, g_n, g_ms, g_ls, g_ow, g_sc, uB, uK, uU, uN, uC, uM, uMK, uL, u_ms, u_ls, u_th, u_ow, kup_same, kup_ne, kup_krow2, krow_same, krow_ne, c_0, c_1, c_2, c_3, c_4, c_5, b_6, b_8, b_10, b_12, b_14, b_15, b_16, b_17, b_18, b_19, b_20, b_24, b_30, b_44, b_63, b_100, h_164, o_n, c_z, nI_add, nI_mul, zc_ge, zc_lt, zc_gt, zc_le, zc_eq, zc_ne, decide_eq_true_eq, decide_eq_false_iff_not] <;> omega)⟩
              | succ k ih =>
                intro i B α gone cl hi hB hI
                obtain ⟨c, hr⟩ := Inv_res ht hI
                obtain ⟨x, hx1, hx2⟩ := Inv_clk ht hI
                have hcn : cn (α t 19) = c := by
                  rw [hr.1]
                  have := hr.2.1
                  exact cnI (by omega)
                unfold aTick
                rw [hcn]
                obtain ⟨c2, h2⟩ := m_pass (α := γ) (β := α) (th := nI 0) (ow := ow) (sc := sc) (g := g) (L := L) (cl := true) hn ht (Inv_cnt hI) hr (fun o ho => by obtain ⟨c, a1, a2, -⟩ := Inv_opn (by omega) ht ho hI; exact ⟨c, a1, a2⟩) hx2 (by omega)
                obtain ⟨c3, h3⟩ := ih (i + 1) (B + 1) (aPass n α t c) (gone + nI (c - (aRel t c 0 (kup α t 16 (α t 16 + nI 1))).2)) (cl && c2) (by omega) (by omega) (Inv_pass (by omega) ht hn hr hI)
                refine ⟨c3, s126_59_ff hn (by simp (disch := omega) only [gB, gK, gU, gN, gC, gM, gMK, gD, gL, g_th, g_n, g_ms, g_ls, g_ow, g_sc, uB, uK, uU, uN, uC, uM, uMK, uL, u_ms, u_ls, u_th, u_ow, kup_same, kup_ne, kup_krow2, krow_same, krow_ne, c_0, c_1, c_2, c_3, c_4, c_5, b_6, b_8, b_10, b_12, b_14, b_15, b_16, b_17, b_18, b_19, b_20, b_24, b_30, b_44, b_63, b_100, h_164, o_n, c_z, nI_add, nI_mul, zc_ge, zc_lt, zc_gt, zc_le, zc_eq, zc_ne, decide_eq_true_eq, decide_eq_false_iff_not] <;> omega) rfl h2 ?_⟩
                rw [nI_inc]
                exact h3
            obtain ⟨c3, h3⟩ := loop m 0 B α 0 false (by omega) (by omega) hI
            refine ⟨c3, s126_0_ffttt (x6 := t) hn (m_isTill_t hn ht) rfl (zc_ltF h1) (zc_leT h2) rfl (zix_nI (by omega) (by omega)) (by rw [u_th]; exact dq_f hup h0) ?_⟩
            rw [u_th, u_th]
            exact h3
      · exact opT1 hI (fun β th ow sc g hcap => s66_0_kff hn (c_checkTill_t hn ht) (zc_ltF h1) (zc_leF h2) hcap rfl) (fun γ th ow sc g => ⟨_, zr_rv (by simp only [u_th] <;> rfl) rfl (s126_0_ffff hn (m_isTill_t hn ht) rfl (zc_ltF h1) (zc_leF h2) rfl)⟩)
  · exact opT1 hI (fun β th ow sc g hcap => s66_0_e200 hn (c_checkTill_f hn ht hcap)) (fun γ th ow sc g => ⟨_, zr_rv (by simp only [u_th] <;> rfl) rfl (s126_0_tf hn (m_isTill_f hn ht) rfl rfl)⟩)
theorem op_give (hn : 2 ≤ n ∧ n ≤ 5) (hB : B + 30 < 2 ^ 29) (hI : Inv n B α) (p r q u : Int32) : OpT 74 [.val (.ref (kad n (0, 0, 0))), .val (.int p), .val (.int r), .val (.int q), .val (.int u)] 129 [.val (.ref (kad n (22, 0, 0))), .val (.int p), .val (.int r), .val (.int q), .val (.int u)] 200 n L B α := by
  by_cases hg : okT n p ∧ okA q ∧ okU u
  · obtain ⟨⟨t, ht, rfl⟩, ⟨a, ha, rfl⟩, hu⟩ := hg
    have hup := hI.1 t ht
    by_cases ho : okT n r
    · obtain ⟨o, ho, rfl⟩ := ho
      by_cases hto : t = o
      · exact opT1 hI (fun β th ow sc g hcap => s74_0_kkf hn (c_checkGoods_t hn ht ha hu) (c_checkTill_t hn ho) (zc_nef (by rw [hto])) hcap rfl) (fun γ th ow sc g => ⟨_, zr_rv (by simp only [u_th] <;> rfl) rfl (s129_0_fftf hn (m_areThese_t hn ht ha hu) rfl (m_isTill_t hn ho) rfl (zc_eqt (by rw [hto])) rfl)⟩)
      · have hne : ¬ nI t = nI o := fun e => hto ((nI_eq (by omega) (by omega)).mp e)
        have hne2 : ¬ nI o = nI t := fun e => hne e.symm
        obtain ⟨N, c, q0, hN, hc, hq, hc2, hN2⟩ := Inv_gv (by omega) ht ho hI
        have hcg : ∀ β th ow sc g, ZR 75 0 [.val (.ref (kad n (0, 0, 0))), .val (.int (nI t)), .val (.int (nI o)), .val (.int (nI a)), .val (.int u), .unset] [] (khp n L (St n α β th ow sc) g) true (.inl (some (.int (zb (!decide (α 10 t = 0) && !decide (α t a < u) && aCan c N q0)))), khp n L (St n α β th ow sc) g, true) := fun β th ow sc g => c_canGive hn ht ho ha hN hc hq hc2 (by omega)
        have hmg : ∀ γ th ow sc g, ZR 108 0 [.val (.ref (kad n (22, 0, 0))), .val (.int (nI t)), .val (.int (nI o)), .val (.int (nI a)), .val (.int u), .unset, .unset] [] (khp n L (St n γ α th ow sc) g) true (.inl (some (.int (zb (!decide (α 10 t = 0) && !decide (α t a < u) && aCan c N q0)))), khp n L (St n γ α th ow sc) g, true) := fun γ th ow sc g => m_canGive hn ht ho ha hup hN hc hq hc2 (by omega)
        by_cases h : (!decide (α 10 t = 0) && !decide (α t a < u) && aCan c N q0) = true
        · simp only [h] at hcg hmg
          have hcan : aCan c N q0 = true := by
            simp only [Bool.and_eq_true] at h
            exact h.2
          have hc4 : c < 4 := by
            simp only [aCan, Bool.and_eq_true, Bool.or_eq_true, decide_eq_true_eq] at hcan
            omega
          obtain ⟨k, hk1, hk2⟩ := Inv_cnt hI
          refine opT0 (v := α t (44 + 24 * o)) (α' := aGive α t o a c u) ?_ ?_ ?_
          · exact Inv_mono (by omega) (Inv_giveS ht ho hn.2 (by omega) ha hN hc hc2 hN2 hq hcan hI)
          · intro β th ow sc g
            exact ⟨_, s74_0_kktt hn (c_checkGoods_t hn ht ha hu) (c_checkTill_t hn ho) (zc_net hne) (hcg β th ow sc g) rfl (c_sendVoucher hn ht ho ha hc hc4 hk1 hk2)⟩
          · intro γ th ow sc g
            obtain ⟨c3, h3⟩ := m_giveNow (α := γ) (β := α) (th := nI 0) (ow := ow) (sc := sc) (g := g) (L := L) (cl := true) (u := u) hn ht ho ha hc hc4 ⟨k, hk1, hk2⟩
            refine ⟨_, s129_0_ffftft (c10 := c3) (r7 := zb true) hn (m_areThese_t hn ht ha hu) rfl (m_isTill_t hn ho) rfl (zc_eqf hne2) rfl ?_ rfl rfl ?_⟩
            · rw [u_th]
              exact hmg γ _ ow sc g
            · rw [u_th, u_th]
              exact h3
        · have h : (!decide (α 10 t = 0) && !decide (α t a < u) && aCan c N q0) = false := by simpa using h
          simp only [h] at hcg hmg
          refine opT2 hI (fun β th ow sc g hcap => s74_0_kktf hn (c_checkGoods_t hn ht ha hu) (c_checkTill_t hn ho) (zc_net hne) (hcg β th ow sc g) rfl hcap rfl) (fun γ th ow sc g => ⟨_, zr_rv (by simp only [u_th] <;> rfl) rfl (s129_0_fffttf (r7 := zb false) hn (m_areThese_t hn ht ha hu) rfl (m_isTill_t hn ho) rfl (zc_eqf hne2) rfl ?_ rfl rfl)⟩)
          rw [u_th]
          exact hmg γ _ ow sc g
    · exact opT1 hI (fun β th ow sc g hcap => s74_0_ke200 hn (c_checkGoods_t hn ht ha hu) (c_checkTill_f hn ho hcap)) (fun γ th ow sc g => ⟨_, zr_rv (by simp only [u_th] <;> rfl) rfl (s129_0_ftf hn (m_areThese_t hn ht ha hu) rfl (m_isTill_f hn ho) rfl rfl)⟩)
  · exact opT1 hI (fun β th ow sc g hcap => s74_0_e200 hn (c_checkGoods_f hn hg hcap)) (fun γ th ow sc g => ⟨_, zr_rv (by simp only [u_th] <;> rfl) rfl (s129_0_tf hn (m_areThese_f hn hg) rfl rfl)⟩)
theorem m_askL {γ : Ks} {ow : Int32} {sc : Nat → Int32} {g : List Nat} {t a : Nat} {u : Int32} (hn : 2 ≤ n ∧ n ≤ 5) (ht : t < n) (ha : a < 4) (hself : α t (44 + 24 * t + 16 + a) = Int32.ofInt (-1)) {r : Zr} : ∀ k o best most w, o + k = n → (∀ v5 v6 w, ∃ hf, hf = nI n ∧ (v6 = hf → ZR 130 64 [.val (.ref (kad n (22, 0, 0))), .val (.int (nI t)), .val (.int (nI a)), .val (.int u), .val (.int (rich (fun o => α t (44 + 24 * o + 16 + a)) k o best most)), .val (.int v5), .val (.int v6), zop w] [] (khp n L (St n γ α (nI 0) ow sc) g) false r)) → ZR 130 64 [.val (.ref (kad n (22, 0, 0))), .val (.int (nI t)), .val (.int (nI a)), .val (.int u), .val (.int best), .val (.int most), .val (.int (nI o)), zop w] [] (khp n L (St n γ α (nI 0) ow sc) g) false r := by
  intro k
  induction k with
  | zero =>
    intro o best most w ho hh
    obtain ⟨hf, h1, h2⟩ := hh most (nI o) w
    exact h2 (by rw [h1]; congr 1)
  | succ k ih =>
    intro o best most w ho hh
    unfold rich at hh
    by_cases hto : o = t
    · subst hto
      rw [hself] at hh
      by_cases h : Int32.ofInt (-1) ≤ most
      · rw [if_pos h] at hh
        refine s130_64_fftt hn (by simp (disch := omega) only [gB, gK, gU, gN, gC, gM, gMK, gD, gL, g_th, g_n, g_ms, g_ls, g_ow, g_sc, uB, uK, uU, uN, uC, uM, uMK, uL, u_ms, u_ls, u_th, u_ow, kup_same, kup_ne, kup_krow2, krow_same, krow_ne, c_0, c_1, c_2, c_3, c_4, c_5, b_6, b_8, b_10, b_12, b_14, b_15, b_16, b_17, b_18, b_19, b_20, b_24, b_30, b_44, b_63, b_100, h_164, o_n, c_z, nI_add, nI_mul, zc_ge, zc_lt, zc_gt, zc_le, zc_eq, zc_ne, decide_eq_true_eq, decide_eq_false_iff_not] <;> omega) (zc_nef rfl) (zc_leT h) (zc_leT h) ?_
        rw [nI_inc]
        exact ih (o + 1) best most (some _) (by omega) hh
      · rw [if_neg h] at hh
        refine s130_64_ffff hn (by simp (disch := omega) only [gB, gK, gU, gN, gC, gM, gMK, gD, gL, g_th, g_n, g_ms, g_ls, g_ow, g_sc, uB, uK, uU, uN, uC, uM, uMK, uL, u_ms, u_ls, u_th, u_ow, kup_same, kup_ne, kup_krow2, krow_same, krow_ne, c_0, c_1, c_2, c_3, c_4, c_5, b_6, b_8, b_10, b_12, b_14, b_15, b_16, b_17, b_18, b_19, b_20, b_24, b_30, b_44, b_63, b_100, h_164, o_n, c_z, nI_add, nI_mul, zc_ge, zc_lt, zc_gt, zc_le, zc_eq, zc_ne, decide_eq_true_eq, decide_eq_false_iff_not] <;> omega) (zc_nef rfl) (zc_leF h) (zc_leF h) ?_
        rw [nI_inc]
        exact ih (o + 1) _ _ (some _) (by omega) hh
    · have hne : ¬ nI o = nI t := fun e => hto ((nI_eq (by omega) (by omega)).mp e)
      have z4 : zix (nI (164 * t + (44 + 24 * o)) + (Int8.ofInt 16).toInt32 + nI a) 820 = some (164 * t + (44 + 24 * o + 16 + a)) := (zx (by simp (disch := omega) only [gB, gK, gU, gN, gC, gM, gMK, gD, gL, g_th, g_n, g_ms, g_ls, g_ow, g_sc, uB, uK, uU, uN, uC, uM, uMK, uL, u_ms, u_ls, u_th, u_ow, kup_same, kup_ne, kup_krow2, krow_same, krow_ne, c_0, c_1, c_2, c_3, c_4, c_5, b_6, b_8, b_10, b_12, b_14, b_15, b_16, b_17, b_18, b_19, b_20, b_24, b_30, b_44, b_63, b_100, h_164, o_n, c_z, nI_add, nI_mul] <;> first | rfl | (congr 1; omega)) (by omega) (by omega))
      by_cases h : α t (44 + 24 * o + 16 + a) ≤ most
      · rw [if_pos h] at hh
        refine s130_64_fttt hn (by simp (disch := omega) only [gB, gK, gU, gN, gC, gM, gMK, gD, gL, g_th, g_n, g_ms, g_ls, g_ow, g_sc, uB, uK, uU, uN, uC, uM, uMK, uL, u_ms, u_ls, u_th, u_ow, kup_same, kup_ne, kup_krow2, krow_same, krow_ne, c_0, c_1, c_2, c_3, c_4, c_5, b_6, b_8, b_10, b_12, b_14, b_15, b_16, b_17, b_18, b_19, b_20, b_24, b_30, b_44, b_63, b_100, h_164, o_n, c_z, nI_add, nI_mul, zc_ge, zc_lt, zc_gt, zc_le, zc_eq, zc_ne, decide_eq_true_eq, decide_eq_false_iff_not] <;> omega) (zc_net hne) (m_other hn t o) z4 (zc_leT (by simp (disch := omega) only [gB, gK, gU, gN, gC, gM, gMK, gD, gL, g_th, g_n, g_ms, g_ls, g_ow, g_sc, uB, uK, uU, uN, uC, uM, uMK, uL, u_ms, u_ls, u_th, u_ow, kup_same, kup_ne, kup_krow2, krow_same, krow_ne, c_0, c_1, c_2, c_3, c_4, c_5, b_6, b_8, b_10, b_12, b_14, b_15, b_16, b_17, b_18, b_19, b_20, b_24, b_30, b_44, b_63, b_100, h_164, o_n]; exact h)) (zc_leT (by simp (disch := omega) only [gB, gK, gU, gN, gC, gM, gMK, gD, gL, g_th, g_n, g_ms, g_ls, g_ow, g_sc, uB, uK, uU, uN, uC, uM, uMK, uL, u_ms, u_ls, u_th, u_ow, kup_same, kup_ne, kup_krow2, krow_same, krow_ne, c_0, c_1, c_2, c_3, c_4, c_5, b_6, b_8, b_10, b_12, b_14, b_15, b_16, b_17, b_18, b_19, b_20, b_24, b_30, b_44, b_63, b_100, h_164, o_n]; exact h)) ?_
        rw [nI_inc]
        exact ih (o + 1) best most (some _) (by omega) hh
      · rw [if_neg h] at hh
        refine s130_64_ftff hn (by simp (disch := omega) only [gB, gK, gU, gN, gC, gM, gMK, gD, gL, g_th, g_n, g_ms, g_ls, g_ow, g_sc, uB, uK, uU, uN, uC, uM, uMK, uL, u_ms, u_ls, u_th, u_ow, kup_same, kup_ne, kup_krow2, krow_same, krow_ne, c_0, c_1, c_2, c_3, c_4, c_5, b_6, b_8, b_10, b_12, b_14, b_15, b_16, b_17, b_18, b_19, b_20, b_24, b_30, b_44, b_63, b_100, h_164, o_n, c_z, nI_add, nI_mul, zc_ge, zc_lt, zc_gt, zc_le, zc_eq, zc_ne, decide_eq_true_eq, decide_eq_false_iff_not] <;> omega) (zc_net hne) (m_other hn t o) z4 (zc_leF (by simp (disch := omega) only [gB, gK, gU, gN, gC, gM, gMK, gD, gL, g_th, g_n, g_ms, g_ls, g_ow, g_sc, uB, uK, uU, uN, uC, uM, uMK, uL, u_ms, u_ls, u_th, u_ow, kup_same, kup_ne, kup_krow2, krow_same, krow_ne, c_0, c_1, c_2, c_3, c_4, c_5, b_6, b_8, b_10, b_12, b_14, b_15, b_16, b_17, b_18, b_19, b_20, b_24, b_30, b_44, b_63, b_100, h_164, o_n]; exact h)) (zc_leF (by simp (disch := omega) only [gB, gK, gU, gN, gC, gM, gMK, gD, gL, g_th, g_n, g_ms, g_ls, g_ow, g_sc, uB, uK, uU, uN, uC, uM, uMK, uL, u_ms, u_ls, u_th, u_ow, kup_same, kup_ne, kup_krow2, krow_same, krow_ne, c_0, c_1, c_2, c_3, c_4, c_5, b_6, b_8, b_10, b_12, b_14, b_15, b_16, b_17, b_18, b_19, b_20, b_24, b_30, b_44, b_63, b_100, h_164, o_n]; exact h)) ?_
        rw [nI_inc, gM (by omega) (by omega) (by omega)]
        exact ih (o + 1) _ _ (some _) (by omega) hh
theorem op_ask (hn : 2 ≤ n ∧ n ≤ 5) (hI : Inv n B α) (p q u : Int32) : OpT 80 [.val (.ref (kad n (0, 0, 0))), .val (.int p), .val (.int q), .val (.int u), .unset] 130 [.val (.ref (kad n (22, 0, 0))), .val (.int p), .val (.int q), .val (.int u), .unset, .unset, .unset, .unset] 200 n L B α := by
  by_cases hg : okT n p ∧ okA q ∧ okU u
  · obtain ⟨⟨t, ht, rfl⟩, ⟨a, ha, rfl⟩, hu⟩ := hg
    have hup := hI.1 t ht
    by_cases h0 : α 10 t = 0
    · exact opT2 hI (fun β th ow sc g hcap => s80_0_ke201 hn (c_checkGoods_t hn ht ha hu) (c_checkUp_f hn ht h0 hcap)) (fun γ th ow sc g => ⟨_, zr_rv (by simp only [u_th] <;> rfl) rfl (s130_0_ftff (x4 := t) hn (m_areThese_t hn ht ha hu) rfl rfl (zix_nI (by omega) (by omega)) (by rw [u_th]; exact dq_t h0) rfl)⟩)
    · have hself := (hI.2.1 t ht).1.2.2 a ha
      have hri := rich_val (f := fun o => α t (44 + 24 * o + 16 + a)) (k := n) (i := 0) (best := Int32.ofInt (-1)) (most := 0)
      have hcr : ∀ β th ow sc g, ZR 81 0 [.val (.ref (kad n (0, 0, 0))), .val (.int (nI t)), .val (.int (nI a)), .unset, .unset, .unset, .unset] [] (khp n L (St n α β th ow sc) g) true (.inl (some (.int (rich (fun o => α t (44 + 24 * o + 16 + a)) n 0 (Int32.ofInt (-1)) 0))), khp n L (St n α β th ow sc) g, true) := fun β th ow sc g => c_richest hn ht ha
      have hmr : ∀ γ ow sc g r, ((∀ v5 v6 w, ∃ hf, hf = nI n ∧ (v6 = hf → ZR 130 64 [.val (.ref (kad n (22, 0, 0))), .val (.int (nI t)), .val (.int (nI a)), .val (.int u), .val (.int (rich (fun o => α t (44 + 24 * o + 16 + a)) n 0 (Int32.ofInt (-1)) 0)), .val (.int v5), .val (.int v6), zop w] [] (khp n L (St n γ α (nI 0) ow sc) g) false r))) → ZR 130 64 [.val (.ref (kad n (22, 0, 0))), .val (.int (nI t)), .val (.int (nI a)), .val (.int u), .val (.int (Int32.ofInt (-1))), .val (.int 0), .val (.int (nI 0)), zop none] [] (khp n L (St n γ α (nI 0) ow sc) g) false r := fun γ ow sc g r hh => m_askL hn ht ha hself n 0 (Int32.ofInt (-1)) 0 none (by omega) hh
      rcases hri with hri | ⟨o, -, ho, hri⟩
      · rw [hri] at hcr hmr
        refine opT0 (v := Int32.ofInt (-1)) (α' := α) (Inv_mono (by omega) hI) ?_ ?_
        · intro β th ow sc g
          exact ⟨_, s80_0_kkt hn (c_checkGoods_t hn ht ha hu) (c_checkUp_t hn ht h0) (hcr β th ow sc g) rfl⟩
        · intro γ th ow sc g
          refine ⟨false, s130_0_fttt (x4 := t) hn (m_areThese_t hn ht ha hu) rfl rfl (zix_nI (by omega) (by omega)) (by rw [u_th]; exact dq_f hup h0) rfl ?_⟩
          rw [u_th, u_th]
          refine hmr γ ow sc g _ (fun v5 v6 w => ⟨nI n, rfl, fun e => ?_⟩)
          subst e
          exact s130_64_tt hn (by simp (disch := omega) only [gB, gK, gU, gN, gC, gM, gMK, gD, gL, g_th, g_n, g_ms, g_ls, g_ow, g_sc, uB, uK, uU, uN, uC, uM, uMK, uL, u_ms, u_ls, u_th, u_ow, kup_same, kup_ne, kup_krow2, krow_same, krow_ne, c_0, c_1, c_2, c_3, c_4, c_5, b_6, b_8, b_10, b_12, b_14, b_15, b_16, b_17, b_18, b_19, b_20, b_24, b_30, b_44, b_63, b_100, h_164, o_n, c_z, nI_add, nI_mul, zc_ge, zc_lt, zc_gt, zc_le, zc_eq, zc_ne, decide_eq_true_eq, decide_eq_false_iff_not] <;> omega) rfl
      · rw [hri] at hcr hmr
        obtain ⟨k, hk1, hk2⟩ := Inv_cnt hI
        refine opT0 (v := nI o) (α' := aSend α (nI 3) (nI t) (nI o) (nI a) u (Int32.ofInt (-1))) ?_ ?_ ?_
        · exact Inv_mono (by omega) (Inv_send hn.2 (by omega) ht (by omega) ⟨fun e => absurd e (by omega), fun e => absurd e (by omega), fun e => absurd e (by omega), fun _ => ⟨a, ha, rfl⟩⟩ hI)
        · intro β th ow sc g
          exact ⟨_, s80_0_kkf hn (c_checkGoods_t hn ht ha hu) (c_checkUp_t hn ht h0) (hcr β th ow sc g) (zc_eqf (nI_nm1 (by omega))) (c_send hn hk1 hk2 _ _ _ _ _ _)⟩
        · intro γ th ow sc g
          refine ⟨false, s130_0_fttt (x4 := t) hn (m_areThese_t hn ht ha hu) rfl rfl (zix_nI (by omega) (by omega)) (by rw [u_th]; exact dq_f hup h0) rfl ?_⟩
          rw [u_th, u_th]
          refine hmr γ ow sc g _ (fun v5 v6 w => ⟨nI n, rfl, fun e => ?_⟩)
          subst e
          exact s130_64_tf (c3 := false) hn (by simp (disch := omega) only [gB, gK, gU, gN, gC, gM, gMK, gD, gL, g_th, g_n, g_ms, g_ls, g_ow, g_sc, uB, uK, uU, uN, uC, uM, uMK, uL, u_ms, u_ls, u_th, u_ow, kup_same, kup_ne, kup_krow2, krow_same, krow_ne, c_0, c_1, c_2, c_3, c_4, c_5, b_6, b_8, b_10, b_12, b_14, b_15, b_16, b_17, b_18, b_19, b_20, b_24, b_30, b_44, b_63, b_100, h_164, o_n, c_z, nI_add, nI_mul, zc_ge, zc_lt, zc_gt, zc_le, zc_eq, zc_ne, decide_eq_true_eq, decide_eq_false_iff_not] <;> omega) (by simp (disch := omega) only [gB, gK, gU, gN, gC, gM, gMK, gD, gL, g_th, g_n, g_ms, g_ls, g_ow, g_sc, uB, uK, uU, uN, uC, uM, uMK, uL, u_ms, u_ls, u_th, u_ow, kup_same, kup_ne, kup_krow2, krow_same, krow_ne, c_0, c_1, c_2, c_3, c_4, c_5, b_6, b_8, b_10, b_12, b_14, b_15, b_16, b_17, b_18, b_19, b_20, b_24, b_30, b_44, b_63, b_100, h_164, o_n, c_z, nI_add, nI_mul, zc_ge, zc_lt, zc_gt, zc_le, zc_eq, zc_ne, decide_eq_true_eq, decide_eq_false_iff_not] <;> omega) (m_send hn ⟨k, hk1, hk2⟩ _ _ _ _ _ _)
  · exact opT1 hI (fun β th ow sc g hcap => s80_0_e200 hn (c_checkGoods_f hn hg hcap)) (fun γ th ow sc g => ⟨_, zr_rv (by simp only [u_th] <;> rfl) rfl (s130_0_tf hn (m_areThese_f hn hg) rfl rfl)⟩)
end OPS2
