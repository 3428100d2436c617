set_option maxHeartbeats 4000000 in
theorem s11_0_ff {n L : Nat} {σ : Ks} {g : List Nat} {cl : Bool} {p1 : Int32} (hn : 2 ≤ n ∧ n ≤ 5) (h1 : zcnd .lt p1 0 = false) (h2 : zcnd .ge p1 (Int32.ofNat n) = false) : ZR 11 0 [.val (.ref (kad n (0, 0, 0))), .val (.int p1)] [] (khp n L σ g) cl (.inl (some (.int (Int32.ofInt 1))), khp n L σ (g), cl) := by
  have hM : zmi[11]? = some _ := rfl
  refine zr_fr hM rfl rfl rfl ?_
  refine zr_iff hM rfl rfl h1 ?_
  refine zr_fr hM rfl rfl rfl ?_
  refine zr_fr hM rfl rfl rfl ?_
  refine zr_getf (κ := (0, 0, 0)) hn hM rfl rfl rfl rfl ?_
  refine zr_alen (κ := (1, 0, 0)) hn hM rfl rfl rfl ?_
  refine zr_icf hM rfl rfl h2 ?_
  refine zr_fr hM rfl rfl rfl ?_
  refine zr_fr hM rfl rfl rfl ?_
  exact zr_zret2 hM rfl rfl (by decide) rfl
set_option maxHeartbeats 4000000 in
theorem s11_0_ft {n L : Nat} {σ : Ks} {g : List Nat} {cl : Bool} {p1 : Int32} (hn : 2 ≤ n ∧ n ≤ 5) (h1 : zcnd .lt p1 0 = false) (h2 : zcnd .ge p1 (Int32.ofNat n) = true) : ZR 11 0 [.val (.ref (kad n (0, 0, 0))), .val (.int p1)] [] (khp n L σ g) cl (.inl (some (.int (Int32.ofInt 0))), khp n L σ (g), cl) := by
  have hM : zmi[11]? = some _ := rfl
  refine zr_fr hM rfl rfl rfl ?_
  refine zr_iff hM rfl rfl h1 ?_
  refine zr_fr hM rfl rfl rfl ?_
  refine zr_fr hM rfl rfl rfl ?_
  refine zr_getf (κ := (0, 0, 0)) hn hM rfl rfl rfl rfl ?_
  refine zr_alen (κ := (1, 0, 0)) hn hM rfl rfl rfl ?_
  refine zr_ict hM rfl rfl h2 ?_
  refine zr_fr hM rfl rfl rfl ?_
  exact zr_zret2 hM rfl rfl (by decide) rfl
set_option maxHeartbeats 4000000 in
theorem s11_0_t {n L : Nat} {σ : Ks} {g : List Nat} {cl : Bool} {p1 : Int32} (hn : 2 ≤ n ∧ n ≤ 5) (h1 : zcnd .lt p1 0 = true) : ZR 11 0 [.val (.ref (kad n (0, 0, 0))), .val (.int p1)] [] (khp n L σ g) cl (.inl (some (.int (Int32.ofInt 0))), khp n L σ (g), cl) := by
  have hM : zmi[11]? = some _ := rfl
  refine zr_fr hM rfl rfl rfl ?_
  refine zr_ift hM rfl rfl h1 ?_
  refine zr_fr hM rfl rfl rfl ?_
  exact zr_zret2 hM rfl rfl (by decide) rfl
set_option maxHeartbeats 4000000 in
theorem s10_0_ff {n L : Nat} {σ : Ks} {g : List Nat} {cl : Bool} {p1 : Int32} {r1 : Int32} {x3 : Nat} (hn : 2 ≤ n ∧ n ≤ 5) (c1_ : ZR 11 0 [.val (.ref (kad n (0, 0, 0))), .val (.int p1)] [] (khp n L σ g) true (.inl (some (.int r1)), khp n L σ g, true)) (h2 : zcnd .eq r1 0 = false) (z3 : zix p1 n = some x3) (h4 : zcnd .eq (σ 10 x3) 0 = false) : ZR 10 0 [.val (.ref (kad n (0, 0, 0))), .val (.int p1)] [] (khp n L σ g) cl (.inl (some (.int (Int32.ofInt 1))), khp n L σ (g), cl) := by
  have hM : zmi[10]? = some _ := rfl
  have l3 := (zix_some z3).2.2
  refine zr_fr hM rfl rfl rfl ?_
  refine zr_fr hM rfl rfl rfl ?_
  refine zr_virt (κ := (0, 0, 0)) hn hM rfl rfl rfl rfl rfl rfl rfl rfl rfl ?_
  refine zgo_ret rfl rfl c1_ ?_
  rw [Bool.and_true]
  refine zr_iff hM rfl rfl h2 ?_
  refine zr_fr hM rfl rfl rfl ?_
  refine zr_getf (κ := (0, 0, 0)) hn hM rfl rfl rfl rfl ?_
  refine zr_fr hM rfl rfl rfl ?_
  refine zr_aald (κ := (1, 0, 0)) hn hM rfl rfl rfl rfl z3 ?_
  refine zr_getf (κ := (2, x3, 0)) hn hM rfl (kokT (by omega)) rfl rfl ?_
  refine zr_iff hM rfl rfl h4 ?_
  refine zr_fr hM rfl rfl rfl ?_
  refine zr_fr hM rfl rfl rfl ?_
  exact zr_zret2 hM rfl rfl (by decide) rfl
set_option maxHeartbeats 4000000 in
theorem s10_0_ft {n L : Nat} {σ : Ks} {g : List Nat} {cl : Bool} {p1 : Int32} {r1 : Int32} {x3 : Nat} (hn : 2 ≤ n ∧ n ≤ 5) (c1_ : ZR 11 0 [.val (.ref (kad n (0, 0, 0))), .val (.int p1)] [] (khp n L σ g) true (.inl (some (.int r1)), khp n L σ g, true)) (h2 : zcnd .eq r1 0 = false) (z3 : zix p1 n = some x3) (h4 : zcnd .eq (σ 10 x3) 0 = true) : ZR 10 0 [.val (.ref (kad n (0, 0, 0))), .val (.int p1)] [] (khp n L σ g) cl (.inl (some (.int (Int32.ofInt 0))), khp n L σ (g), cl) := by
  have hM : zmi[10]? = some _ := rfl
  have l3 := (zix_some z3).2.2
  refine zr_fr hM rfl rfl rfl ?_
  refine zr_fr hM rfl rfl rfl ?_
  refine zr_virt (κ := (0, 0, 0)) hn hM rfl rfl rfl rfl rfl rfl rfl rfl rfl ?_
  refine zgo_ret rfl rfl c1_ ?_
  rw [Bool.and_true]
  refine zr_iff hM rfl rfl h2 ?_
  refine zr_fr hM rfl rfl rfl ?_
  refine zr_getf (κ := (0, 0, 0)) hn hM rfl rfl rfl rfl ?_
  refine zr_fr hM rfl rfl rfl ?_
  refine zr_aald (κ := (1, 0, 0)) hn hM rfl rfl rfl rfl z3 ?_
  refine zr_getf (κ := (2, x3, 0)) hn hM rfl (kokT (by omega)) rfl rfl ?_
  refine zr_ift hM rfl rfl h4 ?_
  refine zr_fr hM rfl rfl rfl ?_
  exact zr_zret2 hM rfl rfl (by decide) rfl
set_option maxHeartbeats 4000000 in
theorem s10_0_t {n L : Nat} {σ : Ks} {g : List Nat} {cl : Bool} {p1 : Int32} {r1 : Int32} (hn : 2 ≤ n ∧ n ≤ 5) (c1_ : ZR 11 0 [.val (.ref (kad n (0, 0, 0))), .val (.int p1)] [] (khp n L σ g) true (.inl (some (.int r1)), khp n L σ g, true)) (h2 : zcnd .eq r1 0 = true) : ZR 10 0 [.val (.ref (kad n (0, 0, 0))), .val (.int p1)] [] (khp n L σ g) cl (.inl (some (.int (Int32.ofInt 0))), khp n L σ (g), cl) := by
  have hM : zmi[10]? = some _ := rfl
  refine zr_fr hM rfl rfl rfl ?_
  refine zr_fr hM rfl rfl rfl ?_
  refine zr_virt (κ := (0, 0, 0)) hn hM rfl rfl rfl rfl rfl rfl rfl rfl rfl ?_
  refine zgo_ret rfl rfl c1_ ?_
  rw [Bool.and_true]
  refine zr_ift hM rfl rfl h2 ?_
  refine zr_fr hM rfl rfl rfl ?_
  exact zr_zret2 hM rfl rfl (by decide) rfl
set_option maxHeartbeats 4000000 in
theorem s12_0_r {n L : Nat} {σ : Ks} {g : List Nat} {cl : Bool} {r : Zr} {b : Nat} {p1 : Int32} (hn : 2 ≤ n ∧ n ≤ 5) (hb : b < 2 * n) (k : ZR 12 2 [.val (.ref (kad n (8, b, 0))), .val (.int p1), .val (.int (Int32.ofInt 0))] [] (khp n L σ (g)) cl r) : ZR 12 0 [.val (.ref (kad n (8, b, 0))), .val (.int p1), .unset] [] (khp n L σ g) cl r := by
  have hM : zmi[12]? = some _ := rfl
  refine zr_fr hM rfl rfl rfl ?_
  refine zr_fr hM rfl rfl rfl ?_
  exact k
set_option maxHeartbeats 4000000 in
theorem s12_2_ff {n L : Nat} {σ : Ks} {g : List Nat} {cl : Bool} {b : Nat} {v1 : Int32} {v2 : Int32} {x2 : Nat} (hn : 2 ≤ n ∧ n ≤ 5) (hb : b < 2 * n) (h1 : zcnd .ge v2 (σ b 19) = false) (z2 : zix v2 6 = some x2) (h3 : zcnd .ne (σ b (20 + 4 * x2)) v1 = false) : ZR 12 2 [.val (.ref (kad n (8, b, 0))), .val (.int v1), .val (.int v2)] [] (khp n L σ g) cl (.inl (some (.int v2)), khp n L σ (g), cl) := by
  have hM : zmi[12]? = some _ := rfl
  have l2 := (zix_some z2).2.2
  refine zr_fr hM rfl rfl rfl ?_
  refine zr_fr hM rfl rfl rfl ?_
  refine zr_getf (κ := (8, b, 0)) hn hM rfl (kokB rfl (by omega)) rfl rfl ?_
  refine zr_icf hM rfl rfl h1 ?_
  refine zr_fr hM rfl rfl rfl ?_
  refine zr_getf (κ := (8, b, 0)) hn hM rfl (kokB rfl (by omega)) rfl rfl ?_
  refine zr_fr hM rfl rfl rfl ?_
  refine zr_iald (κ := (9, b, 0)) hn hM rfl (kokB rfl (by omega)) rfl z2 ?_
  refine zr_fr hM rfl rfl rfl ?_
  refine zr_icf hM rfl rfl h3 ?_
  refine zr_fr hM rfl rfl rfl ?_
  exact zr_iret2 hM rfl rfl rfl
set_option maxHeartbeats 4000000 in
theorem s12_2_ft {n L : Nat} {σ : Ks} {g : List Nat} {cl : Bool} {r : Zr} {b : Nat} {v1 : Int32} {v2 : Int32} {x2 : Nat} (hn : 2 ≤ n ∧ n ≤ 5) (hb : b < 2 * n) (h1 : zcnd .ge v2 (σ b 19) = false) (z2 : zix v2 6 = some x2) (h3 : zcnd .ne (σ b (20 + 4 * x2)) v1 = true) (k : ZR 12 2 [.val (.ref (kad n (8, b, 0))), .val (.int v1), .val (.int (v2 + Int32.ofInt 1))] [] (khp n L σ (g)) cl r) : ZR 12 2 [.val (.ref (kad n (8, b, 0))), .val (.int v1), .val (.int v2)] [] (khp n L σ g) cl r := by
  have hM : zmi[12]? = some _ := rfl
  have l2 := (zix_some z2).2.2
  refine zr_fr hM rfl rfl rfl ?_
  refine zr_fr hM rfl rfl rfl ?_
  refine zr_getf (κ := (8, b, 0)) hn hM rfl (kokB rfl (by omega)) rfl rfl ?_
  refine zr_icf hM rfl rfl h1 ?_
  refine zr_fr hM rfl rfl rfl ?_
  refine zr_getf (κ := (8, b, 0)) hn hM rfl (kokB rfl (by omega)) rfl rfl ?_
  refine zr_fr hM rfl rfl rfl ?_
  refine zr_iald (κ := (9, b, 0)) hn hM rfl (kokB rfl (by omega)) rfl z2 ?_
  refine zr_fr hM rfl rfl rfl ?_
  refine zr_ict hM rfl rfl h3 ?_
  refine zr_fr hM rfl rfl rfl ?_
  refine zr_fr hM rfl rfl rfl ?_
  exact k
set_option maxHeartbeats 4000000 in
theorem s12_2_t {n L : Nat} {σ : Ks} {g : List Nat} {cl : Bool} {b : Nat} {v1 : Int32} {v2 : Int32} (hn : 2 ≤ n ∧ n ≤ 5) (hb : b < 2 * n) (h1 : zcnd .ge v2 (σ b 19) = true) : ZR 12 2 [.val (.ref (kad n (8, b, 0))), .val (.int v1), .val (.int v2)] [] (khp n L σ g) cl (.inl (some (.int (Int32.ofInt (-1)))), khp n L σ (g), cl) := by
  have hM : zmi[12]? = some _ := rfl
  refine zr_fr hM rfl rfl rfl ?_
  refine zr_fr hM rfl rfl rfl ?_
  refine zr_getf (κ := (8, b, 0)) hn hM rfl (kokB rfl (by omega)) rfl rfl ?_
  refine zr_ict hM rfl rfl h1 ?_
  refine zr_fr hM rfl rfl rfl ?_
  exact zr_iret2 hM rfl rfl rfl
set_option maxHeartbeats 4000000 in
theorem s13_0_r {n L : Nat} {σ : Ks} {g : List Nat} {cl : Bool} {r : Zr} {b : Nat} {p1 : Int32} (hn : 2 ≤ n ∧ n ≤ 5) (hb : b < 2 * n) (k : ZR 13 12 [.val (.ref (kad n (8, b, 0))), .val (.int p1), .val (.int p1)] [] (khp n L (kup σ b 19 ((σ b 19) - (Int32.ofInt 1))) (g)) false r) : ZR 13 0 [.val (.ref (kad n (8, b, 0))), .val (.int p1), .unset] [] (khp n L σ g) cl r := by
  have hM : zmi[13]? = some _ := rfl
  refine zr_fr hM rfl rfl rfl ?_
  refine zr_fr hM rfl rfl rfl ?_
  refine zr_getf (κ := (8, b, 0)) hn hM rfl (kokB rfl (by omega)) rfl rfl ?_
  refine zr_fr hM rfl rfl rfl ?_
  refine zr_fr hM rfl rfl rfl ?_
  refine zr_putf (κ := (8, b, 0)) hn hM rfl (kokB rfl (by omega)) rfl rfl rfl rfl rfl rfl ?_
  refine zr_fr hM rfl rfl rfl ?_
  refine zr_fr hM rfl rfl rfl ?_
  exact k
set_option maxHeartbeats 4000000 in
theorem s13_12_f {n L : Nat} {σ : Ks} {g : List Nat} {cl : Bool} {r : Zr} {b : Nat} {v1 : Int32} {v2 : Int32} {x2 : Nat} {x3 : Nat} (hn : 2 ≤ n ∧ n ≤ 5) (hb : b < 2 * n) (h1 : zcnd .ge v2 (σ b 19) = false) (z2 : zix (v2 + (Int32.ofInt 1)) 6 = some x2) (z3 : zix v2 6 = some x3) (k : ZR 13 12 [.val (.ref (kad n (8, b, 0))), .val (.int v1), .val (.int (v2 + Int32.ofInt 1))] [] (khp n L (kup (kup (kup (kup σ b (20 + 4 * x3) (σ b (20 + 4 * x2))) b (20 + 4 * x3 + 1) ((kup σ b (20 + 4 * x3) (σ b (20 + 4 * x2))) b (20 + 4 * x2 + 1))) b (20 + 4 * x3 + 2) ((kup (kup σ b (20 + 4 * x3) (σ b (20 + 4 * x2))) b (20 + 4 * x3 + 1) ((kup σ b (20 + 4 * x3) (σ b (20 + 4 * x2))) b (20 + 4 * x2 + 1))) b (20 + 4 * x2 + 2))) b (20 + 4 * x3 + 3) ((kup (kup (kup σ b (20 + 4 * x3) (σ b (20 + 4 * x2))) b (20 + 4 * x3 + 1) ((kup σ b (20 + 4 * x3) (σ b (20 + 4 * x2))) b (20 + 4 * x2 + 1))) b (20 + 4 * x3 + 2) ((kup (kup σ b (20 + 4 * x3) (σ b (20 + 4 * x2))) b (20 + 4 * x3 + 1) ((kup σ b (20 + 4 * x3) (σ b (20 + 4 * x2))) b (20 + 4 * x2 + 1))) b (20 + 4 * x2 + 2))) b (20 + 4 * x2 + 3))) (g)) false r) : ZR 13 12 [.val (.ref (kad n (8, b, 0))), .val (.int v1), .val (.int v2)] [] (khp n L σ g) cl r := by
  have hM : zmi[13]? = some _ := rfl
  have l2 := (zix_some z2).2.2
  have l3 := (zix_some z3).2.2
  refine zr_fr hM rfl rfl rfl ?_
  refine zr_fr hM rfl rfl rfl ?_
  refine zr_getf (κ := (8, b, 0)) hn hM rfl (kokB rfl (by omega)) rfl rfl ?_
  refine zr_icf hM rfl rfl h1 ?_
  refine zr_fr hM rfl rfl rfl ?_
  refine zr_getf (κ := (8, b, 0)) hn hM rfl (kokB rfl (by omega)) rfl rfl ?_
  refine zr_fr hM rfl rfl rfl ?_
  refine zr_fr hM rfl rfl rfl ?_
  refine zr_getf (κ := (8, b, 0)) hn hM rfl (kokB rfl (by omega)) rfl rfl ?_
  refine zr_fr hM rfl rfl rfl ?_
  refine zr_fr hM rfl rfl rfl ?_
  refine zr_fr hM rfl rfl rfl ?_
  refine zr_iald (κ := (9, b, 0)) hn hM rfl (kokB rfl (by omega)) rfl z2 ?_
  refine zr_iast (κ := (9, b, 0)) hn hM rfl (kokB rfl (by omega)) rfl rfl z3 rfl ?_
  refine zr_fr hM rfl rfl rfl ?_
  refine zr_getf (κ := (8, b, 0)) hn hM rfl (kokB rfl (by omega)) rfl rfl ?_
  refine zr_fr hM rfl rfl rfl ?_
  refine zr_fr hM rfl rfl rfl ?_
  refine zr_getf (κ := (8, b, 0)) hn hM rfl (kokB rfl (by omega)) rfl rfl ?_
  refine zr_fr hM rfl rfl rfl ?_
  refine zr_fr hM rfl rfl rfl ?_
  refine zr_fr hM rfl rfl rfl ?_
  refine zr_iald (κ := (10, b, 0)) hn hM rfl (kokB rfl (by omega)) rfl z2 ?_
  refine zr_iast (κ := (10, b, 0)) hn hM rfl (kokB rfl (by omega)) rfl rfl z3 rfl ?_
  refine zr_fr hM rfl rfl rfl ?_
  refine zr_getf (κ := (8, b, 0)) hn hM rfl (kokB rfl (by omega)) rfl rfl ?_
  refine zr_fr hM rfl rfl rfl ?_
  refine zr_fr hM rfl rfl rfl ?_
  refine zr_getf (κ := (8, b, 0)) hn hM rfl (kokB rfl (by omega)) rfl rfl ?_
  refine zr_fr hM rfl rfl rfl ?_
  refine zr_fr hM rfl rfl rfl ?_
  refine zr_fr hM rfl rfl rfl ?_
  refine zr_iald (κ := (11, b, 0)) hn hM rfl (kokB rfl (by omega)) rfl z2 ?_
  refine zr_iast (κ := (11, b, 0)) hn hM rfl (kokB rfl (by omega)) rfl rfl z3 rfl ?_
  refine zr_fr hM rfl rfl rfl ?_
  refine zr_getf (κ := (8, b, 0)) hn hM rfl (kokB rfl (by omega)) rfl rfl ?_
  refine zr_fr hM rfl rfl rfl ?_
  refine zr_fr hM rfl rfl rfl ?_
  refine zr_getf (κ := (8, b, 0)) hn hM rfl (kokB rfl (by omega)) rfl rfl ?_
  refine zr_fr hM rfl rfl rfl ?_
  refine zr_fr hM rfl rfl rfl ?_
  refine zr_fr hM rfl rfl rfl ?_
  refine zr_iald (κ := (12, b, 0)) hn hM rfl (kokB rfl (by omega)) rfl z2 ?_
  refine zr_iast (κ := (12, b, 0)) hn hM rfl (kokB rfl (by omega)) rfl rfl z3 rfl ?_
  refine zr_fr hM rfl rfl rfl ?_
  refine zr_fr hM rfl rfl rfl ?_
  exact k
set_option maxHeartbeats 4000000 in
theorem s13_12_t {n L : Nat} {σ : Ks} {g : List Nat} {cl : Bool} {b : Nat} {v1 : Int32} {v2 : Int32} (hn : 2 ≤ n ∧ n ≤ 5) (hb : b < 2 * n) (h1 : zcnd .ge v2 (σ b 19) = true) : ZR 13 12 [.val (.ref (kad n (8, b, 0))), .val (.int v1), .val (.int v2)] [] (khp n L σ g) cl (.inl (none), khp n L σ (g), cl) := by
  have hM : zmi[13]? = some _ := rfl
  refine zr_fr hM rfl rfl rfl ?_
  refine zr_fr hM rfl rfl rfl ?_
  refine zr_getf (κ := (8, b, 0)) hn hM rfl (kokB rfl (by omega)) rfl rfl ?_
  refine zr_ict hM rfl rfl h1 ?_
  exact zr_vret2 hM rfl rfl rfl
set_option maxHeartbeats 4000000 in
theorem s23_0_ff {n L : Nat} {σ : Ks} {g : List Nat} {cl : Bool} {p1 : Int32} (hn : 2 ≤ n ∧ n ≤ 5) (h1 : zcnd .lt p1 0 = false) (h2 : zcnd .ge p1 (σ 12 0) = false) : ZR 23 0 [.val (.ref (kad n (20, 0, 0))), .val (.int p1)] [] (khp n L σ g) cl (.inl (some (.int (Int32.ofInt 1))), khp n L σ (g), cl) := by
  have hM : zmi[23]? = some _ := rfl
  refine zr_fr hM rfl rfl rfl ?_
  refine zr_iff hM rfl rfl h1 ?_
  refine zr_fr hM rfl rfl rfl ?_
  refine zr_fr hM rfl rfl rfl ?_
  refine zr_getf (κ := (20, 0, 0)) hn hM rfl rfl rfl rfl ?_
  refine zr_icf hM rfl rfl h2 ?_
  refine zr_fr hM rfl rfl rfl ?_
  refine zr_fr hM rfl rfl rfl ?_
  exact zr_zret2 hM rfl rfl (by decide) rfl
set_option maxHeartbeats 4000000 in
theorem s23_0_ft {n L : Nat} {σ : Ks} {g : List Nat} {cl : Bool} {p1 : Int32} (hn : 2 ≤ n ∧ n ≤ 5) (h1 : zcnd .lt p1 0 = false) (h2 : zcnd .ge p1 (σ 12 0) = true) : ZR 23 0 [.val (.ref (kad n (20, 0, 0))), .val (.int p1)] [] (khp n L σ g) cl (.inl (some (.int (Int32.ofInt 0))), khp n L σ (g), cl) := by
  have hM : zmi[23]? = some _ := rfl
  refine zr_fr hM rfl rfl rfl ?_
  refine zr_iff hM rfl rfl h1 ?_
  refine zr_fr hM rfl rfl rfl ?_
  refine zr_fr hM rfl rfl rfl ?_
  refine zr_getf (κ := (20, 0, 0)) hn hM rfl rfl rfl rfl ?_
  refine zr_ict hM rfl rfl h2 ?_
  refine zr_fr hM rfl rfl rfl ?_
  exact zr_zret2 hM rfl rfl (by decide) rfl
set_option maxHeartbeats 4000000 in
theorem s23_0_t {n L : Nat} {σ : Ks} {g : List Nat} {cl : Bool} {p1 : Int32} (hn : 2 ≤ n ∧ n ≤ 5) (h1 : zcnd .lt p1 0 = true) : ZR 23 0 [.val (.ref (kad n (20, 0, 0))), .val (.int p1)] [] (khp n L σ g) cl (.inl (some (.int (Int32.ofInt 0))), khp n L σ (g), cl) := by
  have hM : zmi[23]? = some _ := rfl
  refine zr_fr hM rfl rfl rfl ?_
  refine zr_ift hM rfl rfl h1 ?_
  refine zr_fr hM rfl rfl rfl ?_
  exact zr_zret2 hM rfl rfl (by decide) rfl
set_option maxHeartbeats 4000000 in
theorem s26_0_f {n L : Nat} {σ : Ks} {g : List Nat} {cl : Bool} (hn : 2 ≤ n ∧ n ≤ 5) (h1 : zcnd .lt (σ 12 0) ((Int8.ofInt 24).toInt32) = false) : ZR 26 0 [.val (.ref (kad n (20, 0, 0)))] [] (khp n L σ g) cl (.inl (some (.int (Int32.ofInt 1))), khp n L σ (g), cl) := by
  have hM : zmi[26]? = some _ := rfl
  refine zr_fr hM rfl rfl rfl ?_
  refine zr_getf (κ := (20, 0, 0)) hn hM rfl rfl rfl rfl ?_
  refine zr_fr hM rfl rfl rfl ?_
  refine zr_icf hM rfl rfl h1 ?_
  refine zr_fr hM rfl rfl rfl ?_
  refine zr_fr hM rfl rfl rfl ?_
  exact zr_zret2 hM rfl rfl (by decide) rfl
set_option maxHeartbeats 4000000 in
theorem s26_0_t {n L : Nat} {σ : Ks} {g : List Nat} {cl : Bool} (hn : 2 ≤ n ∧ n ≤ 5) (h1 : zcnd .lt (σ 12 0) ((Int8.ofInt 24).toInt32) = true) : ZR 26 0 [.val (.ref (kad n (20, 0, 0)))] [] (khp n L σ g) cl (.inl (some (.int (Int32.ofInt 0))), khp n L σ (g), cl) := by
  have hM : zmi[26]? = some _ := rfl
  refine zr_fr hM rfl rfl rfl ?_
  refine zr_getf (κ := (20, 0, 0)) hn hM rfl rfl rfl rfl ?_
  refine zr_fr hM rfl rfl rfl ?_
  refine zr_ict hM rfl rfl h1 ?_
  refine zr_fr hM rfl rfl rfl ?_
  exact zr_zret2 hM rfl rfl (by decide) rfl
set_option maxHeartbeats 4000000 in
theorem s29_0_r {n L : Nat} {σ : Ks} {g : List Nat} {cl : Bool} {p1 : Int32} {p2 : Int32} {x1 : Nat} (hn : 2 ≤ n ∧ n ≤ 5) (z1 : zix ((p1 * ((Int8.ofInt 6).toInt32)) + p2) 144 = some x1) : ZR 29 0 [.val (.ref (kad n (20, 0, 0))), .val (.int p1), .val (.int p2)] [] (khp n L σ g) cl (.inl (some (.int (σ 11 x1))), khp n L σ (g), cl) := by
  have hM : zmi[29]? = some _ := rfl
  have l1 := (zix_some z1).2.2
  refine zr_fr hM rfl rfl rfl ?_
  refine zr_getf (κ := (20, 0, 0)) hn hM rfl rfl rfl rfl ?_
  refine zr_fr hM rfl rfl rfl ?_
  refine zr_fr hM rfl rfl rfl ?_
  refine zr_fr hM rfl rfl rfl ?_
  refine zr_fr hM rfl rfl rfl ?_
  refine zr_fr hM rfl rfl rfl ?_
  refine zr_iald (κ := (21, 0, 0)) hn hM rfl rfl rfl z1 ?_
  exact zr_iret2 hM rfl rfl rfl
set_option maxHeartbeats 4000000 in
theorem s70_0_f {n L : Nat} {σ : Ks} {g : List Nat} {cl : Bool} {p1 : Int32} {p2 : Int32} {p3 : Int32} {p4 : Int32} {p5 : Int32} {p6 : Int32} {r1 : Int32} (hn : 2 ≤ n ∧ n ≤ 5) (c1_ : ZR 26 0 [.val (.ref (kad n (20, 0, 0)))] [] (khp n L σ g) true (.inl (some (.int r1)), khp n L σ g, true)) (h2 : zcnd .eq r1 0 = false) : ZR 70 0 [.val (.ref (kad n (20, 0, 0))), .val (.int p1), .val (.int p2), .val (.int p3), .val (.int p4), .val (.int p5), .val (.int p6), .unset] [] (khp n L σ g) cl (.inl (none), khp n L (kup σ 12 1 ((σ 12 1) + (Int32.ofInt 1))) (g), false) := by
  have hM : zmi[70]? = some _ := rfl
  refine zr_fr hM rfl rfl rfl ?_
  refine zr_virt (κ := (20, 0, 0)) hn hM rfl rfl rfl rfl rfl rfl rfl rfl rfl ?_
  refine zgo_ret rfl rfl c1_ ?_
  rw [Bool.and_true]
  refine zr_iff hM rfl rfl h2 ?_
  refine zr_fr hM rfl rfl rfl ?_
  refine zr_fr hM rfl rfl rfl ?_
  refine zr_getf (κ := (20, 0, 0)) hn hM rfl rfl rfl rfl ?_
  refine zr_fr hM rfl rfl rfl ?_
  refine zr_fr hM rfl rfl rfl ?_
  refine zr_putf (κ := (20, 0, 0)) hn hM rfl rfl rfl rfl rfl rfl rfl rfl ?_
  exact zr_vret2 hM rfl rfl rfl
set_option maxHeartbeats 4000000 in
theorem s70_0_t {n L : Nat} {σ : Ks} {g : List Nat} {cl : Bool} {p1 : Int32} {p2 : Int32} {p3 : Int32} {p4 : Int32} {p5 : Int32} {p6 : Int32} {r1 : Int32} {x3 : Nat} {x4 : Nat} {x5 : Nat} {x6 : Nat} {x7 : Nat} {x8 : Nat} (hn : 2 ≤ n ∧ n ≤ 5) (c1_ : ZR 26 0 [.val (.ref (kad n (20, 0, 0)))] [] (khp n L σ g) true (.inl (some (.int r1)), khp n L σ g, true)) (h2 : zcnd .eq r1 0 = true) (z3 : zix ((σ 12 0) * ((Int8.ofInt 6).toInt32)) 144 = some x3) (z4 : zix (((σ 12 0) * ((Int8.ofInt 6).toInt32)) + (Int32.ofInt 1)) 144 = some x4) (z5 : zix (((σ 12 0) * ((Int8.ofInt 6).toInt32)) + (Int32.ofInt 2)) 144 = some x5) (z6 : zix (((σ 12 0) * ((Int8.ofInt 6).toInt32)) + (Int32.ofInt 3)) 144 = some x6) (z7 : zix (((σ 12 0) * ((Int8.ofInt 6).toInt32)) + (Int32.ofInt 4)) 144 = some x7) (z8 : zix (((σ 12 0) * ((Int8.ofInt 6).toInt32)) + (Int32.ofInt 5)) 144 = some x8) : ZR 70 0 [.val (.ref (kad n (20, 0, 0))), .val (.int p1), .val (.int p2), .val (.int p3), .val (.int p4), .val (.int p5), .val (.int p6), .unset] [] (khp n L σ g) cl (.inl (none), khp n L (kup (kup (kup (kup (kup (kup (kup σ 11 x3 p1) 11 x4 p2) 11 x5 p3) 11 x6 p4) 11 x7 p5) 11 x8 p6) 12 0 (((kup (kup (kup (kup (kup (kup σ 11 x3 p1) 11 x4 p2) 11 x5 p3) 11 x6 p4) 11 x7 p5) 11 x8 p6) 12 0) + (Int32.ofInt 1))) (g), false) := by
  have hM : zmi[70]? = some _ := rfl
  have l3 := (zix_some z3).2.2
  have l4 := (zix_some z4).2.2
  have l5 := (zix_some z5).2.2
  have l6 := (zix_some z6).2.2
  have l7 := (zix_some z7).2.2
  have l8 := (zix_some z8).2.2
  refine zr_fr hM rfl rfl rfl ?_
  refine zr_virt (κ := (20, 0, 0)) hn hM rfl rfl rfl rfl rfl rfl rfl rfl rfl ?_
  refine zgo_ret rfl rfl c1_ ?_
  rw [Bool.and_true]
  refine zr_ift hM rfl rfl h2 ?_
  refine zr_fr hM rfl rfl rfl ?_
  refine zr_getf (κ := (20, 0, 0)) hn hM rfl rfl rfl rfl ?_
  refine zr_fr hM rfl rfl rfl ?_
  refine zr_fr hM rfl rfl rfl ?_
  refine zr_fr hM rfl rfl rfl ?_
  refine zr_fr hM rfl rfl rfl ?_
  refine zr_getf (κ := (20, 0, 0)) hn hM rfl rfl rfl rfl ?_
  refine zr_fr hM rfl rfl rfl ?_
  refine zr_fr hM rfl rfl rfl ?_
  refine zr_iast (κ := (21, 0, 0)) hn hM rfl rfl rfl rfl z3 rfl ?_
  refine zr_fr hM rfl rfl rfl ?_
  refine zr_getf (κ := (20, 0, 0)) hn hM rfl rfl rfl rfl ?_
  refine zr_fr hM rfl rfl rfl ?_
  refine zr_fr hM rfl rfl rfl ?_
  refine zr_fr hM rfl rfl rfl ?_
  refine zr_fr hM rfl rfl rfl ?_
  refine zr_iast (κ := (21, 0, 0)) hn hM rfl rfl rfl rfl z4 rfl ?_
  refine zr_fr hM rfl rfl rfl ?_
  refine zr_getf (κ := (20, 0, 0)) hn hM rfl rfl rfl rfl ?_
  refine zr_fr hM rfl rfl rfl ?_
  refine zr_fr hM rfl rfl rfl ?_
  refine zr_fr hM rfl rfl rfl ?_
  refine zr_fr hM rfl rfl rfl ?_
  refine zr_iast (κ := (21, 0, 0)) hn hM rfl rfl rfl rfl z5 rfl ?_
  refine zr_fr hM rfl rfl rfl ?_
  refine zr_getf (κ := (20, 0, 0)) hn hM rfl rfl rfl rfl ?_
  refine zr_fr hM rfl rfl rfl ?_
  refine zr_fr hM rfl rfl rfl ?_
  refine zr_fr hM rfl rfl rfl ?_
  refine zr_fr hM rfl rfl rfl ?_
  refine zr_iast (κ := (21, 0, 0)) hn hM rfl rfl rfl rfl z6 rfl ?_
  refine zr_fr hM rfl rfl rfl ?_
  refine zr_getf (κ := (20, 0, 0)) hn hM rfl rfl rfl rfl ?_
  refine zr_fr hM rfl rfl rfl ?_
  refine zr_fr hM rfl rfl rfl ?_
  refine zr_fr hM rfl rfl rfl ?_
  refine zr_fr hM rfl rfl rfl ?_
  refine zr_iast (κ := (21, 0, 0)) hn hM rfl rfl rfl rfl z7 rfl ?_
  refine zr_fr hM rfl rfl rfl ?_
  refine zr_getf (κ := (20, 0, 0)) hn hM rfl rfl rfl rfl ?_
  refine zr_fr hM rfl rfl rfl ?_
  refine zr_fr hM rfl rfl rfl ?_
  refine zr_fr hM rfl rfl rfl ?_
  refine zr_fr hM rfl rfl rfl ?_
  refine zr_iast (κ := (21, 0, 0)) hn hM rfl rfl rfl rfl z8 rfl ?_
  refine zr_fr hM rfl rfl rfl ?_
  refine zr_fr hM rfl rfl rfl ?_
  refine zr_getf (κ := (20, 0, 0)) hn hM rfl rfl rfl rfl ?_
  refine zr_fr hM rfl rfl rfl ?_
  refine zr_fr hM rfl rfl rfl ?_
  refine zr_putf (κ := (20, 0, 0)) hn hM rfl rfl rfl rfl rfl rfl rfl rfl ?_
  exact zr_vret2 hM rfl rfl rfl
set_option maxHeartbeats 4000000 in
theorem s24_0_r {n L : Nat} {σ : Ks} {g : List Nat} {cl : Bool} {p1 : Int32} {σ1 : Ks} (hn : 2 ≤ n ∧ n ≤ 5) (a1 : Kcp n L (kup σ 12 0 ((σ 12 0) - (Int32.ofInt 1))) (21, 0, 0) ((p1 + (Int32.ofInt 1)) * ((Int8.ofInt 6).toInt32)) (21, 0, 0) (p1 * ((Int8.ofInt 6).toInt32)) ((((kup σ 12 0 ((σ 12 0) - (Int32.ofInt 1))) 12 0) - p1) * ((Int8.ofInt 6).toInt32)) σ1) : ZR 24 0 [.val (.ref (kad n (20, 0, 0))), .val (.int p1)] [] (khp n L σ g) cl (.inl (none), khp n L σ1 (g), false) := by
  have hM : zmi[24]? = some _ := rfl
  refine zr_fr hM rfl rfl rfl ?_
  refine zr_fr hM rfl rfl rfl ?_
  refine zr_getf (κ := (20, 0, 0)) hn hM rfl rfl rfl rfl ?_
  refine zr_fr hM rfl rfl rfl ?_
  refine zr_fr hM rfl rfl rfl ?_
  refine zr_putf (κ := (20, 0, 0)) hn hM rfl rfl rfl rfl rfl rfl rfl rfl ?_
  refine zr_fr hM rfl rfl rfl ?_
  refine zr_getf (κ := (20, 0, 0)) hn hM rfl rfl rfl rfl ?_
  refine zr_fr hM rfl rfl rfl ?_
  refine zr_fr hM rfl rfl rfl ?_
  refine zr_fr hM rfl rfl rfl ?_
  refine zr_fr hM rfl rfl rfl ?_
  refine zr_fr hM rfl rfl rfl ?_
  refine zr_fr hM rfl rfl rfl ?_
  refine zr_getf (κ := (20, 0, 0)) hn hM rfl rfl rfl rfl ?_
  refine zr_fr hM rfl rfl rfl ?_
  refine zr_fr hM rfl rfl rfl ?_
  refine zr_fr hM rfl rfl rfl ?_
  refine zr_fr hM rfl rfl rfl ?_
  refine zr_getf (κ := (20, 0, 0)) hn hM rfl rfl rfl rfl ?_
  refine zr_fr hM rfl rfl rfl ?_
  refine zr_fr hM rfl rfl rfl ?_
  refine zr_fr hM rfl rfl rfl ?_
  refine zr_fr hM rfl rfl rfl ?_
  refine zr_copy (κ1 := (21, 0, 0)) (κ2 := (21, 0, 0)) hn hM rfl rfl rfl rfl rfl rfl a1 rfl ?_
  exact zr_vret2 hM rfl rfl rfl
set_option maxHeartbeats 4000000 in
theorem s27_0_r {n L : Nat} {σ : Ks} {g : List Nat} {cl : Bool} {p1 : Int32} {σ1 : Ks} (hn : 2 ≤ n ∧ n ≤ 5) (a1 : Kcp n L σ (21, 0, 0) (p1 * ((Int8.ofInt 6).toInt32)) (21, 0, 0) ((σ 12 0) * ((Int8.ofInt 6).toInt32)) ((Int8.ofInt 6).toInt32) σ1) : ZR 27 0 [.val (.ref (kad n (20, 0, 0))), .val (.int p1)] [] (khp n L σ g) cl (.inl (none), khp n L (kup σ1 12 0 ((σ1 12 0) + (Int32.ofInt 1))) (g), false) := by
  have hM : zmi[27]? = some _ := rfl
  refine zr_fr hM rfl rfl rfl ?_
  refine zr_getf (κ := (20, 0, 0)) hn hM rfl rfl rfl rfl ?_
  refine zr_fr hM rfl rfl rfl ?_
  refine zr_fr hM rfl rfl rfl ?_
  refine zr_fr hM rfl rfl rfl ?_
  refine zr_fr hM rfl rfl rfl ?_
  refine zr_getf (κ := (20, 0, 0)) hn hM rfl rfl rfl rfl ?_
  refine zr_fr hM rfl rfl rfl ?_
  refine zr_getf (κ := (20, 0, 0)) hn hM rfl rfl rfl rfl ?_
  refine zr_fr hM rfl rfl rfl ?_
  refine zr_fr hM rfl rfl rfl ?_
  refine zr_fr hM rfl rfl rfl ?_
  refine zr_copy (κ1 := (21, 0, 0)) (κ2 := (21, 0, 0)) hn hM rfl rfl rfl rfl rfl rfl a1 rfl ?_
  refine zr_fr hM rfl rfl rfl ?_
  refine zr_fr hM rfl rfl rfl ?_
  refine zr_getf (κ := (20, 0, 0)) hn hM rfl rfl rfl rfl ?_
  refine zr_fr hM rfl rfl rfl ?_
  refine zr_fr hM rfl rfl rfl ?_
  refine zr_putf (κ := (20, 0, 0)) hn hM rfl rfl rfl rfl rfl rfl rfl rfl ?_
  exact zr_vret2 hM rfl rfl rfl
