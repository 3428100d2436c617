set_option maxHeartbeats 4000000 in
theorem s1_0_f {n L : Nat} {σ : Ks} {g : List Nat} {cl : Bool} {p1 : Int32} {p2 : Int32} (hn : 2 ≤ n ∧ n ≤ 5) (h1 : zcnd .gt p1 p2 = false) : ZR 1 0 [.val (.int p1), .val (.int p2)] [] (khp n L σ g) cl (.inl (some (.int p1)), khp n L σ (g), cl) := by
  have hM : zmi[1]? = some _ := rfl
  refine zr_fr hM rfl rfl rfl ?_
  refine zr_fr hM rfl rfl rfl ?_
  refine zr_icf hM rfl rfl h1 ?_
  refine zr_fr hM rfl rfl rfl ?_
  refine zr_fr hM rfl rfl rfl ?_
  exact zr_iret2 hM rfl rfl rfl
set_option maxHeartbeats 4000000 in
theorem s1_0_t {n L : Nat} {σ : Ks} {g : List Nat} {cl : Bool} {p1 : Int32} {p2 : Int32} (hn : 2 ≤ n ∧ n ≤ 5) (h1 : zcnd .gt p1 p2 = true) : ZR 1 0 [.val (.int p1), .val (.int p2)] [] (khp n L σ g) cl (.inl (some (.int p2)), khp n L σ (g), cl) := by
  have hM : zmi[1]? = some _ := rfl
  refine zr_fr hM rfl rfl rfl ?_
  refine zr_fr hM rfl rfl rfl ?_
  refine zr_ict hM rfl rfl h1 ?_
  refine zr_fr hM rfl rfl rfl ?_
  exact zr_iret2 hM rfl rfl rfl
set_option maxHeartbeats 4000000 in
theorem s2_0_f {n L : Nat} {σ : Ks} {g : List Nat} {cl : Bool} {p1 : Int32} {p2 : Int32} (hn : 2 ≤ n ∧ n ≤ 5) (h1 : zcnd .lt p1 p2 = false) : ZR 2 0 [.val (.int p1), .val (.int p2)] [] (khp n L σ g) cl (.inl (some (.int p1)), khp n L σ (g), cl) := by
  have hM : zmi[2]? = some _ := rfl
  refine zr_fr hM rfl rfl rfl ?_
  refine zr_fr hM rfl rfl rfl ?_
  refine zr_icf hM rfl rfl h1 ?_
  refine zr_fr hM rfl rfl rfl ?_
  refine zr_fr hM rfl rfl rfl ?_
  exact zr_iret2 hM rfl rfl rfl
set_option maxHeartbeats 4000000 in
theorem s2_0_t {n L : Nat} {σ : Ks} {g : List Nat} {cl : Bool} {p1 : Int32} {p2 : Int32} (hn : 2 ≤ n ∧ n ≤ 5) (h1 : zcnd .lt p1 p2 = true) : ZR 2 0 [.val (.int p1), .val (.int p2)] [] (khp n L σ g) cl (.inl (some (.int p2)), khp n L σ (g), cl) := by
  have hM : zmi[2]? = some _ := rfl
  refine zr_fr hM rfl rfl rfl ?_
  refine zr_fr hM rfl rfl rfl ?_
  refine zr_ict hM rfl rfl h1 ?_
  refine zr_fr hM rfl rfl rfl ?_
  exact zr_iret2 hM rfl rfl rfl
set_option maxHeartbeats 4000000 in
theorem s9_0_f {n L : Nat} {σ : Ks} {g : List Nat} {cl : Bool} {p1 : Int32} {p2 : Int32} {r1 : Int32} (hn : 2 ≤ n ∧ n ≤ 5) (c1_ : ZR 10 0 [.val (.ref (kad n (0, 0, 0))), .val (.int p1)] [] (khp n L σ g) true (.inl (some (.int r1)), khp n L σ g, true)) (h2 : zcnd .ne r1 0 = false) : ZR 9 0 [.val (.ref (kad n (0, 0, 0))), .val (.int p1), .val (.int p2), .unset, .unset] [] (khp n L σ g) cl (.inl (some (.int (Int32.ofInt 0))), khp n L σ (g), cl) := by
  have hM : zmi[9]? = some _ := rfl
  refine zr_fr hM rfl rfl rfl ?_
  refine zr_fr hM rfl rfl rfl ?_
  refine zr_virt (κ := (0, 0, 0)) hn hM rfl rfl rfl rfl rfl rfl rfl rfl rfl ?_
  refine zgo_ret rfl rfl c1_ ?_
  rw [Bool.and_true]
  refine zr_iff hM rfl rfl h2 ?_
  refine zr_fr hM rfl rfl rfl ?_
  exact zr_zret2 hM rfl rfl (by decide) rfl
set_option maxHeartbeats 4000000 in
theorem s9_0_tf {n L : Nat} {σ : Ks} {g : List Nat} {cl : Bool} {p1 : Int32} {p2 : Int32} {r1 : Int32} {x3 : Nat} {r4 : Int32} (hn : 2 ≤ n ∧ n ≤ 5) (c1_ : ZR 10 0 [.val (.ref (kad n (0, 0, 0))), .val (.int p1)] [] (khp n L σ g) true (.inl (some (.int r1)), khp n L σ g, true)) (h2 : zcnd .ne r1 0 = true) (z3 : zix p1 n = some x3) (c4_ : ZR 12 0 [.val (.ref (kad n (8, 2 * x3, 0))), .val (.int p2), .unset] [] (khp n L σ g) true (.inl (some (.int r4)), khp n L σ g, true)) (h5 : zcnd .ne r4 (Int32.ofInt (-1)) = false) : ZR 9 0 [.val (.ref (kad n (0, 0, 0))), .val (.int p1), .val (.int p2), .unset, .unset] [] (khp n L σ g) cl (.inl (some (.int (Int32.ofInt 0))), khp n L σ (g), cl) := by
  have hM : zmi[9]? = some _ := rfl
  have l3 := (zix_some z3).2.2
  refine zr_fr hM rfl rfl rfl ?_
  refine zr_fr hM rfl rfl rfl ?_
  refine zr_virt (κ := (0, 0, 0)) hn hM rfl rfl rfl rfl rfl rfl rfl rfl rfl ?_
  refine zgo_ret rfl rfl c1_ ?_
  rw [Bool.and_true]
  refine zr_ift hM rfl rfl h2 ?_
  refine zr_fr hM rfl rfl rfl ?_
  refine zr_getf (κ := (0, 0, 0)) hn hM rfl rfl rfl rfl ?_
  refine zr_fr hM rfl rfl rfl ?_
  refine zr_aald (κ := (1, 0, 0)) hn hM rfl rfl rfl rfl z3 ?_
  refine zr_getf (κ := (2, x3, 0)) hn hM rfl (kokT (by omega)) rfl rfl ?_
  refine zr_fr hM rfl rfl rfl ?_
  refine zr_fr hM rfl rfl rfl ?_
  refine zr_getf (κ := (3, 2 * x3, 0)) hn hM rfl (kokB rfl (by omega)) rfl rfl ?_
  refine zr_fr hM rfl rfl rfl ?_
  refine zr_virt (κ := (8, 2 * x3, 0)) hn hM rfl rfl rfl rfl rfl rfl (kokB rfl (by omega)) rfl rfl ?_
  refine zgo_ret rfl rfl c4_ ?_
  rw [Bool.and_true]
  refine zr_fr hM rfl rfl rfl ?_
  refine zr_fr hM rfl rfl rfl ?_
  refine zr_fr hM rfl rfl rfl ?_
  refine zr_icf hM rfl rfl h5 ?_
  refine zr_fr hM rfl rfl rfl ?_
  exact zr_zret2 hM rfl rfl (by decide) rfl
set_option maxHeartbeats 4000000 in
theorem s9_0_tt {n L : Nat} {σ : Ks} {g : List Nat} {cl : Bool} {p1 : Int32} {p2 : Int32} {r1 : Int32} {x3 : Nat} {r4 : Int32} {x6 : Nat} {x7 : Nat} {σ8 : Ks} {c8 : Bool} (hn : 2 ≤ n ∧ n ≤ 5) (c1_ : ZR 10 0 [.val (.ref (kad n (0, 0, 0))), .val (.int p1)] [] (khp n L σ g) true (.inl (some (.int r1)), khp n L σ g, true)) (h2 : zcnd .ne r1 0 = true) (z3 : zix p1 n = some x3) (c4_ : ZR 12 0 [.val (.ref (kad n (8, 2 * x3, 0))), .val (.int p2), .unset] [] (khp n L σ g) true (.inl (some (.int r4)), khp n L σ g, true)) (h5 : zcnd .ne r4 (Int32.ofInt (-1)) = true) (z6 : zix r4 6 = some x6) (z7 : zix (σ (2 * x3) (20 + 4 * x6 + 1)) 4 = some x7) (c8_ : ZR 13 0 [.val (.ref (kad n (8, 2 * x3, 0))), .val (.int r4), .unset] [] (khp n L (kup σ (2 * x3) (4 + x7) ((σ (2 * x3) (4 + x7)) + (σ (2 * x3) (20 + 4 * x6 + 2)))) g) true (.inl (none), khp n L σ8 g, c8)) : ZR 9 0 [.val (.ref (kad n (0, 0, 0))), .val (.int p1), .val (.int p2), .unset, .unset] [] (khp n L σ g) cl (.inl (some (.int (Int32.ofInt 1))), khp n L σ8 (g), false) := by
  have hM : zmi[9]? = some _ := rfl
  have l3 := (zix_some z3).2.2
  have l6 := (zix_some z6).2.2
  have l7 := (zix_some z7).2.2
  refine zr_fr hM rfl rfl rfl ?_
  refine zr_fr hM rfl rfl rfl ?_
  refine zr_virt (κ := (0, 0, 0)) hn hM rfl rfl rfl rfl rfl rfl rfl rfl rfl ?_
  refine zgo_ret rfl rfl c1_ ?_
  rw [Bool.and_true]
  refine zr_ift hM rfl rfl h2 ?_
  refine zr_fr hM rfl rfl rfl ?_
  refine zr_getf (κ := (0, 0, 0)) hn hM rfl rfl rfl rfl ?_
  refine zr_fr hM rfl rfl rfl ?_
  refine zr_aald (κ := (1, 0, 0)) hn hM rfl rfl rfl rfl z3 ?_
  refine zr_getf (κ := (2, x3, 0)) hn hM rfl (kokT (by omega)) rfl rfl ?_
  refine zr_fr hM rfl rfl rfl ?_
  refine zr_fr hM rfl rfl rfl ?_
  refine zr_getf (κ := (3, 2 * x3, 0)) hn hM rfl (kokB rfl (by omega)) rfl rfl ?_
  refine zr_fr hM rfl rfl rfl ?_
  refine zr_virt (κ := (8, 2 * x3, 0)) hn hM rfl rfl rfl rfl rfl rfl (kokB rfl (by omega)) rfl rfl ?_
  refine zgo_ret rfl rfl c4_ ?_
  rw [Bool.and_true]
  refine zr_fr hM rfl rfl rfl ?_
  refine zr_fr hM rfl rfl rfl ?_
  refine zr_fr hM rfl rfl rfl ?_
  refine zr_ict hM rfl rfl h5 ?_
  refine zr_fr hM rfl rfl rfl ?_
  refine zr_getf (κ := (3, 2 * x3, 0)) hn hM rfl (kokB rfl (by omega)) rfl rfl ?_
  refine zr_fr hM rfl rfl rfl ?_
  refine zr_getf (κ := (3, 2 * x3, 0)) hn hM rfl (kokB rfl (by omega)) rfl rfl ?_
  refine zr_getf (κ := (8, 2 * x3, 0)) hn hM rfl (kokB rfl (by omega)) rfl rfl ?_
  refine zr_fr hM rfl rfl rfl ?_
  refine zr_iald (κ := (10, 2 * x3, 0)) hn hM rfl (kokB rfl (by omega)) rfl z6 ?_
  refine zr_fr hM rfl rfl rfl ?_
  refine zr_iald (κ := (5, 2 * x3, 0)) hn hM rfl (kokB rfl (by omega)) rfl z7 ?_
  refine zr_fr hM rfl rfl rfl ?_
  refine zr_getf (κ := (3, 2 * x3, 0)) hn hM rfl (kokB rfl (by omega)) rfl rfl ?_
  refine zr_getf (κ := (8, 2 * x3, 0)) hn hM rfl (kokB rfl (by omega)) rfl rfl ?_
  refine zr_fr hM rfl rfl rfl ?_
  refine zr_iald (κ := (11, 2 * x3, 0)) hn hM rfl (kokB rfl (by omega)) rfl z6 ?_
  refine zr_fr hM rfl rfl rfl ?_
  refine zr_iast (κ := (5, 2 * x3, 0)) hn hM rfl (kokB rfl (by omega)) rfl rfl z7 rfl ?_
  refine zr_fr hM rfl rfl rfl ?_
  refine zr_getf (κ := (3, 2 * x3, 0)) hn hM rfl (kokB rfl (by omega)) rfl rfl ?_
  refine zr_fr hM rfl rfl rfl ?_
  refine zr_virt (κ := (8, 2 * x3, 0)) hn hM rfl rfl rfl rfl rfl rfl (kokB rfl (by omega)) rfl rfl ?_
  refine zgo_ret rfl rfl c8_ ?_
  rw [Bool.false_and]
  refine zr_fr hM rfl rfl rfl ?_
  exact zr_zret2 hM rfl rfl (by decide) rfl
set_option maxHeartbeats 4000000 in
theorem s10_0_ff {n L : Nat} {σ : Ks} {g : List Nat} {cl : Bool} {p1 : Int32} {r1 : Int32} {x3 : Nat} (hn : 2 ≤ n ∧ n ≤ 5) (c1_ : ZR 11 0 [.val (.ref (kad n (0, 0, 0))), .val (.int p1)] [] (khp n L σ g) true (.inl (some (.int r1)), khp n L σ g, true)) (h2 : zcnd .eq r1 0 = false) (z3 : zix p1 n = some x3) (h4 : zcnd .eq (σ 10 x3) 0 = false) : ZR 10 0 [.val (.ref (kad n (0, 0, 0))), .val (.int p1)] [] (khp n L σ g) cl (.inl (some (.int (Int32.ofInt 1))), khp n L σ (g), cl) := by
  have hM : zmi[10]? = some _ := rfl
  have l3 := (zix_some z3).2.2
  refine zr_fr hM rfl rfl rfl ?_
  refine zr_fr hM rfl rfl rfl ?_
  refine zr_virt (κ := (0, 0, 0)) hn hM rfl rfl rfl rfl rfl rfl rfl rfl rfl ?_
  refine zgo_ret rfl rfl c1_ ?_
  rw [Bool.and_true]
  refine zr_iff hM rfl rfl h2 ?_
  refine zr_fr hM rfl rfl rfl ?_
  refine zr_getf (κ := (0, 0, 0)) hn hM rfl rfl rfl rfl ?_
  refine zr_fr hM rfl rfl rfl ?_
  refine zr_aald (κ := (1, 0, 0)) hn hM rfl rfl rfl rfl z3 ?_
  refine zr_getf (κ := (2, x3, 0)) hn hM rfl (kokT (by omega)) rfl rfl ?_
  refine zr_iff hM rfl rfl h4 ?_
  refine zr_fr hM rfl rfl rfl ?_
  refine zr_fr hM rfl rfl rfl ?_
  exact zr_zret2 hM rfl rfl (by decide) rfl
set_option maxHeartbeats 4000000 in
theorem s10_0_ft {n L : Nat} {σ : Ks} {g : List Nat} {cl : Bool} {p1 : Int32} {r1 : Int32} {x3 : Nat} (hn : 2 ≤ n ∧ n ≤ 5) (c1_ : ZR 11 0 [.val (.ref (kad n (0, 0, 0))), .val (.int p1)] [] (khp n L σ g) true (.inl (some (.int r1)), khp n L σ g, true)) (h2 : zcnd .eq r1 0 = false) (z3 : zix p1 n = some x3) (h4 : zcnd .eq (σ 10 x3) 0 = true) : ZR 10 0 [.val (.ref (kad n (0, 0, 0))), .val (.int p1)] [] (khp n L σ g) cl (.inl (some (.int (Int32.ofInt 0))), khp n L σ (g), cl) := by
  have hM : zmi[10]? = some _ := rfl
  have l3 := (zix_some z3).2.2
  refine zr_fr hM rfl rfl rfl ?_
  refine zr_fr hM rfl rfl rfl ?_
  refine zr_virt (κ := (0, 0, 0)) hn hM rfl rfl rfl rfl rfl rfl rfl rfl rfl ?_
  refine zgo_ret rfl rfl c1_ ?_
  rw [Bool.and_true]
  refine zr_iff hM rfl rfl h2 ?_
  refine zr_fr hM rfl rfl rfl ?_
  refine zr_getf (κ := (0, 0, 0)) hn hM rfl rfl rfl rfl ?_
  refine zr_fr hM rfl rfl rfl ?_
  refine zr_aald (κ := (1, 0, 0)) hn hM rfl rfl rfl rfl z3 ?_
  refine zr_getf (κ := (2, x3, 0)) hn hM rfl (kokT (by omega)) rfl rfl ?_
  refine zr_ift hM rfl rfl h4 ?_
  refine zr_fr hM rfl rfl rfl ?_
  exact zr_zret2 hM rfl rfl (by decide) rfl
set_option maxHeartbeats 4000000 in
theorem s10_0_t {n L : Nat} {σ : Ks} {g : List Nat} {cl : Bool} {p1 : Int32} {r1 : Int32} (hn : 2 ≤ n ∧ n ≤ 5) (c1_ : ZR 11 0 [.val (.ref (kad n (0, 0, 0))), .val (.int p1)] [] (khp n L σ g) true (.inl (some (.int r1)), khp n L σ g, true)) (h2 : zcnd .eq r1 0 = true) : ZR 10 0 [.val (.ref (kad n (0, 0, 0))), .val (.int p1)] [] (khp n L σ g) cl (.inl (some (.int (Int32.ofInt 0))), khp n L σ (g), cl) := by
  have hM : zmi[10]? = some _ := rfl
  refine zr_fr hM rfl rfl rfl ?_
  refine zr_fr hM rfl rfl rfl ?_
  refine zr_virt (κ := (0, 0, 0)) hn hM rfl rfl rfl rfl rfl rfl rfl rfl rfl ?_
  refine zgo_ret rfl rfl c1_ ?_
  rw [Bool.and_true]
  refine zr_ift hM rfl rfl h2 ?_
  refine zr_fr hM rfl rfl rfl ?_
  exact zr_zret2 hM rfl rfl (by decide) rfl
set_option maxHeartbeats 4000000 in
theorem s11_0_ff {n L : Nat} {σ : Ks} {g : List Nat} {cl : Bool} {p1 : Int32} (hn : 2 ≤ n ∧ n ≤ 5) (h1 : zcnd .lt p1 0 = false) (h2 : zcnd .ge p1 (Int32.ofNat n) = false) : ZR 11 0 [.val (.ref (kad n (0, 0, 0))), .val (.int p1)] [] (khp n L σ g) cl (.inl (some (.int (Int32.ofInt 1))), khp n L σ (g), cl) := by
  have hM : zmi[11]? = some _ := rfl
  refine zr_fr hM rfl rfl rfl ?_
  refine zr_iff hM rfl rfl h1 ?_
  refine zr_fr hM rfl rfl rfl ?_
  refine zr_fr hM rfl rfl rfl ?_
  refine zr_getf (κ := (0, 0, 0)) hn hM rfl rfl rfl rfl ?_
  refine zr_alen (κ := (1, 0, 0)) hn hM rfl rfl rfl ?_
  refine zr_icf hM rfl rfl h2 ?_
  refine zr_fr hM rfl rfl rfl ?_
  refine zr_fr hM rfl rfl rfl ?_
  exact zr_zret2 hM rfl rfl (by decide) rfl
set_option maxHeartbeats 4000000 in
theorem s11_0_ft {n L : Nat} {σ : Ks} {g : List Nat} {cl : Bool} {p1 : Int32} (hn : 2 ≤ n ∧ n ≤ 5) (h1 : zcnd .lt p1 0 = false) (h2 : zcnd .ge p1 (Int32.ofNat n) = true) : ZR 11 0 [.val (.ref (kad n (0, 0, 0))), .val (.int p1)] [] (khp n L σ g) cl (.inl (some (.int (Int32.ofInt 0))), khp n L σ (g), cl) := by
  have hM : zmi[11]? = some _ := rfl
  refine zr_fr hM rfl rfl rfl ?_
  refine zr_iff hM rfl rfl h1 ?_
  refine zr_fr hM rfl rfl rfl ?_
  refine zr_fr hM rfl rfl rfl ?_
  refine zr_getf (κ := (0, 0, 0)) hn hM rfl rfl rfl rfl ?_
  refine zr_alen (κ := (1, 0, 0)) hn hM rfl rfl rfl ?_
  refine zr_ict hM rfl rfl h2 ?_
  refine zr_fr hM rfl rfl rfl ?_
  exact zr_zret2 hM rfl rfl (by decide) rfl
set_option maxHeartbeats 4000000 in
theorem s11_0_t {n L : Nat} {σ : Ks} {g : List Nat} {cl : Bool} {p1 : Int32} (hn : 2 ≤ n ∧ n ≤ 5) (h1 : zcnd .lt p1 0 = true) : ZR 11 0 [.val (.ref (kad n (0, 0, 0))), .val (.int p1)] [] (khp n L σ g) cl (.inl (some (.int (Int32.ofInt 0))), khp n L σ (g), cl) := by
  have hM : zmi[11]? = some _ := rfl
  refine zr_fr hM rfl rfl rfl ?_
  refine zr_ift hM rfl rfl h1 ?_
  refine zr_fr hM rfl rfl rfl ?_
  exact zr_zret2 hM rfl rfl (by decide) rfl
set_option maxHeartbeats 4000000 in
theorem s12_0_r {n L : Nat} {σ : Ks} {g : List Nat} {cl : Bool} {r : Zr} {b : Nat} {p1 : Int32} (hn : 2 ≤ n ∧ n ≤ 5) (hb : b < 2 * n) (k : ZR 12 2 [.val (.ref (kad n (8, b, 0))), .val (.int p1), .val (.int (Int32.ofInt 0))] [] (khp n L σ (g)) cl r) : ZR 12 0 [.val (.ref (kad n (8, b, 0))), .val (.int p1), .unset] [] (khp n L σ g) cl r := by
  have hM : zmi[12]? = some _ := rfl
  refine zr_fr hM rfl rfl rfl ?_
  refine zr_fr hM rfl rfl rfl ?_
  exact k
set_option maxHeartbeats 4000000 in
theorem s12_2_ff {n L : Nat} {σ : Ks} {g : List Nat} {cl : Bool} {b : Nat} {v1 : Int32} {v2 : Int32} {x2 : Nat} (hn : 2 ≤ n ∧ n ≤ 5) (hb : b < 2 * n) (h1 : zcnd .ge v2 (σ b 19) = false) (z2 : zix v2 6 = some x2) (h3 : zcnd .ne (σ b (20 + 4 * x2)) v1 = false) : ZR 12 2 [.val (.ref (kad n (8, b, 0))), .val (.int v1), .val (.int v2)] [] (khp n L σ g) cl (.inl (some (.int v2)), khp n L σ (g), cl) := by
  have hM : zmi[12]? = some _ := rfl
  have l2 := (zix_some z2).2.2
  refine zr_fr hM rfl rfl rfl ?_
  refine zr_fr hM rfl rfl rfl ?_
  refine zr_getf (κ := (8, b, 0)) hn hM rfl (kokB rfl (by omega)) rfl rfl ?_
  refine zr_icf hM rfl rfl h1 ?_
  refine zr_fr hM rfl rfl rfl ?_
  refine zr_getf (κ := (8, b, 0)) hn hM rfl (kokB rfl (by omega)) rfl rfl ?_
  refine zr_fr hM rfl rfl rfl ?_
  refine zr_iald (κ := (9, b, 0)) hn hM rfl (kokB rfl (by omega)) rfl z2 ?_
  refine zr_fr hM rfl rfl rfl ?_
  refine zr_icf hM rfl rfl h3 ?_
  refine zr_fr hM rfl rfl rfl ?_
  exact zr_iret2 hM rfl rfl rfl
set_option maxHeartbeats 4000000 in
theorem s12_2_ft {n L : Nat} {σ : Ks} {g : List Nat} {cl : Bool} {r : Zr} {b : Nat} {v1 : Int32} {v2 : Int32} {x2 : Nat} (hn : 2 ≤ n ∧ n ≤ 5) (hb : b < 2 * n) (h1 : zcnd .ge v2 (σ b 19) = false) (z2 : zix v2 6 = some x2) (h3 : zcnd .ne (σ b (20 + 4 * x2)) v1 = true) (k : ZR 12 2 [.val (.ref (kad n (8, b, 0))), .val (.int v1), .val (.int (v2 + Int32.ofInt 1))] [] (khp n L σ (g)) cl r) : ZR 12 2 [.val (.ref (kad n (8, b, 0))), .val (.int v1), .val (.int v2)] [] (khp n L σ g) cl r := by
  have hM : zmi[12]? = some _ := rfl
  have l2 := (zix_some z2).2.2
  refine zr_fr hM rfl rfl rfl ?_
  refine zr_fr hM rfl rfl rfl ?_
  refine zr_getf (κ := (8, b, 0)) hn hM rfl (kokB rfl (by omega)) rfl rfl ?_
  refine zr_icf hM rfl rfl h1 ?_
  refine zr_fr hM rfl rfl rfl ?_
  refine zr_getf (κ := (8, b, 0)) hn hM rfl (kokB rfl (by omega)) rfl rfl ?_
  refine zr_fr hM rfl rfl rfl ?_
  refine zr_iald (κ := (9, b, 0)) hn hM rfl (kokB rfl (by omega)) rfl z2 ?_
  refine zr_fr hM rfl rfl rfl ?_
  refine zr_ict hM rfl rfl h3 ?_
  refine zr_fr hM rfl rfl rfl ?_
  refine zr_fr hM rfl rfl rfl ?_
  exact k
set_option maxHeartbeats 4000000 in
theorem s12_2_t {n L : Nat} {σ : Ks} {g : List Nat} {cl : Bool} {b : Nat} {v1 : Int32} {v2 : Int32} (hn : 2 ≤ n ∧ n ≤ 5) (hb : b < 2 * n) (h1 : zcnd .ge v2 (σ b 19) = true) : ZR 12 2 [.val (.ref (kad n (8, b, 0))), .val (.int v1), .val (.int v2)] [] (khp n L σ g) cl (.inl (some (.int (Int32.ofInt (-1)))), khp n L σ (g), cl) := by
  have hM : zmi[12]? = some _ := rfl
  refine zr_fr hM rfl rfl rfl ?_
  refine zr_fr hM rfl rfl rfl ?_
  refine zr_getf (κ := (8, b, 0)) hn hM rfl (kokB rfl (by omega)) rfl rfl ?_
  refine zr_ict hM rfl rfl h1 ?_
  refine zr_fr hM rfl rfl rfl ?_
  exact zr_iret2 hM rfl rfl rfl
set_option maxHeartbeats 4000000 in
theorem s13_0_r {n L : Nat} {σ : Ks} {g : List Nat} {cl : Bool} {r : Zr} {b : Nat} {p1 : Int32} (hn : 2 ≤ n ∧ n ≤ 5) (hb : b < 2 * n) (k : ZR 13 12 [.val (.ref (kad n (8, b, 0))), .val (.int p1), .val (.int p1)] [] (khp n L (kup σ b 19 ((σ b 19) - (Int32.ofInt 1))) (g)) false r) : ZR 13 0 [.val (.ref (kad n (8, b, 0))), .val (.int p1), .unset] [] (khp n L σ g) cl r := by
  have hM : zmi[13]? = some _ := rfl
  refine zr_fr hM rfl rfl rfl ?_
  refine zr_fr hM rfl rfl rfl ?_
  refine zr_getf (κ := (8, b, 0)) hn hM rfl (kokB rfl (by omega)) rfl rfl ?_
  refine zr_fr hM rfl rfl rfl ?_
  refine zr_fr hM rfl rfl rfl ?_
  refine zr_putf (κ := (8, b, 0)) hn hM rfl (kokB rfl (by omega)) rfl rfl rfl rfl rfl rfl ?_
  refine zr_fr hM rfl rfl rfl ?_
  refine zr_fr hM rfl rfl rfl ?_
  exact k
set_option maxHeartbeats 4000000 in
theorem s13_12_f {n L : Nat} {σ : Ks} {g : List Nat} {cl : Bool} {r : Zr} {b : Nat} {v1 : Int32} {v2 : Int32} {x2 : Nat} {x3 : Nat} (hn : 2 ≤ n ∧ n ≤ 5) (hb : b < 2 * n) (h1 : zcnd .ge v2 (σ b 19) = false) (z2 : zix (v2 + (Int32.ofInt 1)) 6 = some x2) (z3 : zix v2 6 = some x3) (k : ZR 13 12 [.val (.ref (kad n (8, b, 0))), .val (.int v1), .val (.int (v2 + Int32.ofInt 1))] [] (khp n L (kup (kup (kup (kup σ b (20 + 4 * x3) (σ b (20 + 4 * x2))) b (20 + 4 * x3 + 1) ((kup σ b (20 + 4 * x3) (σ b (20 + 4 * x2))) b (20 + 4 * x2 + 1))) b (20 + 4 * x3 + 2) ((kup (kup σ b (20 + 4 * x3) (σ b (20 + 4 * x2))) b (20 + 4 * x3 + 1) ((kup σ b (20 + 4 * x3) (σ b (20 + 4 * x2))) b (20 + 4 * x2 + 1))) b (20 + 4 * x2 + 2))) b (20 + 4 * x3 + 3) ((kup (kup (kup σ b (20 + 4 * x3) (σ b (20 + 4 * x2))) b (20 + 4 * x3 + 1) ((kup σ b (20 + 4 * x3) (σ b (20 + 4 * x2))) b (20 + 4 * x2 + 1))) b (20 + 4 * x3 + 2) ((kup (kup σ b (20 + 4 * x3) (σ b (20 + 4 * x2))) b (20 + 4 * x3 + 1) ((kup σ b (20 + 4 * x3) (σ b (20 + 4 * x2))) b (20 + 4 * x2 + 1))) b (20 + 4 * x2 + 2))) b (20 + 4 * x2 + 3))) (g)) false r) : ZR 13 12 [.val (.ref (kad n (8, b, 0))), .val (.int v1), .val (.int v2)] [] (khp n L σ g) cl r := by
  have hM : zmi[13]? = some _ := rfl
  have l2 := (zix_some z2).2.2
  have l3 := (zix_some z3).2.2
  refine zr_fr hM rfl rfl rfl ?_
  refine zr_fr hM rfl rfl rfl ?_
  refine zr_getf (κ := (8, b, 0)) hn hM rfl (kokB rfl (by omega)) rfl rfl ?_
  refine zr_icf hM rfl rfl h1 ?_
  refine zr_fr hM rfl rfl rfl ?_
  refine zr_getf (κ := (8, b, 0)) hn hM rfl (kokB rfl (by omega)) rfl rfl ?_
  refine zr_fr hM rfl rfl rfl ?_
  refine zr_fr hM rfl rfl rfl ?_
  refine zr_getf (κ := (8, b, 0)) hn hM rfl (kokB rfl (by omega)) rfl rfl ?_
  refine zr_fr hM rfl rfl rfl ?_
  refine zr_fr hM rfl rfl rfl ?_
  refine zr_fr hM rfl rfl rfl ?_
  refine zr_iald (κ := (9, b, 0)) hn hM rfl (kokB rfl (by omega)) rfl z2 ?_
  refine zr_iast (κ := (9, b, 0)) hn hM rfl (kokB rfl (by omega)) rfl rfl z3 rfl ?_
  refine zr_fr hM rfl rfl rfl ?_
  refine zr_getf (κ := (8, b, 0)) hn hM rfl (kokB rfl (by omega)) rfl rfl ?_
  refine zr_fr hM rfl rfl rfl ?_
  refine zr_fr hM rfl rfl rfl ?_
  refine zr_getf (κ := (8, b, 0)) hn hM rfl (kokB rfl (by omega)) rfl rfl ?_
  refine zr_fr hM rfl rfl rfl ?_
  refine zr_fr hM rfl rfl rfl ?_
  refine zr_fr hM rfl rfl rfl ?_
  refine zr_iald (κ := (10, b, 0)) hn hM rfl (kokB rfl (by omega)) rfl z2 ?_
  refine zr_iast (κ := (10, b, 0)) hn hM rfl (kokB rfl (by omega)) rfl rfl z3 rfl ?_
  refine zr_fr hM rfl rfl rfl ?_
  refine zr_getf (κ := (8, b, 0)) hn hM rfl (kokB rfl (by omega)) rfl rfl ?_
  refine zr_fr hM rfl rfl rfl ?_
  refine zr_fr hM rfl rfl rfl ?_
  refine zr_getf (κ := (8, b, 0)) hn hM rfl (kokB rfl (by omega)) rfl rfl ?_
  refine zr_fr hM rfl rfl rfl ?_
  refine zr_fr hM rfl rfl rfl ?_
  refine zr_fr hM rfl rfl rfl ?_
  refine zr_iald (κ := (11, b, 0)) hn hM rfl (kokB rfl (by omega)) rfl z2 ?_
  refine zr_iast (κ := (11, b, 0)) hn hM rfl (kokB rfl (by omega)) rfl rfl z3 rfl ?_
  refine zr_fr hM rfl rfl rfl ?_
  refine zr_getf (κ := (8, b, 0)) hn hM rfl (kokB rfl (by omega)) rfl rfl ?_
  refine zr_fr hM rfl rfl rfl ?_
  refine zr_fr hM rfl rfl rfl ?_
  refine zr_getf (κ := (8, b, 0)) hn hM rfl (kokB rfl (by omega)) rfl rfl ?_
  refine zr_fr hM rfl rfl rfl ?_
  refine zr_fr hM rfl rfl rfl ?_
  refine zr_fr hM rfl rfl rfl ?_
  refine zr_iald (κ := (12, b, 0)) hn hM rfl (kokB rfl (by omega)) rfl z2 ?_
  refine zr_iast (κ := (12, b, 0)) hn hM rfl (kokB rfl (by omega)) rfl rfl z3 rfl ?_
  refine zr_fr hM rfl rfl rfl ?_
  refine zr_fr hM rfl rfl rfl ?_
  exact k
set_option maxHeartbeats 4000000 in
theorem s13_12_t {n L : Nat} {σ : Ks} {g : List Nat} {cl : Bool} {b : Nat} {v1 : Int32} {v2 : Int32} (hn : 2 ≤ n ∧ n ≤ 5) (hb : b < 2 * n) (h1 : zcnd .ge v2 (σ b 19) = true) : ZR 13 12 [.val (.ref (kad n (8, b, 0))), .val (.int v1), .val (.int v2)] [] (khp n L σ g) cl (.inl (none), khp n L σ (g), cl) := by
  have hM : zmi[13]? = some _ := rfl
  refine zr_fr hM rfl rfl rfl ?_
  refine zr_fr hM rfl rfl rfl ?_
  refine zr_getf (κ := (8, b, 0)) hn hM rfl (kokB rfl (by omega)) rfl rfl ?_
  refine zr_ict hM rfl rfl h1 ?_
  exact zr_vret2 hM rfl rfl rfl
set_option maxHeartbeats 4000000 in
theorem s14_0_f {n L : Nat} {σ : Ks} {g : List Nat} {cl : Bool} {p1 : Int32} {r1 : Int32} (hn : 2 ≤ n ∧ n ≤ 5) (c1_ : ZR 10 0 [.val (.ref (kad n (0, 0, 0))), .val (.int p1)] [] (khp n L σ g) true (.inl (some (.int r1)), khp n L σ g, true)) (h2 : zcnd .ne r1 0 = false) : ZR 14 0 [.val (.ref (kad n (0, 0, 0))), .val (.int p1)] [] (khp n L σ g) cl (.inl (some (.int (Int32.ofInt 0))), khp n L σ (g), cl) := by
  have hM : zmi[14]? = some _ := rfl
  refine zr_fr hM rfl rfl rfl ?_
  refine zr_fr hM rfl rfl rfl ?_
  refine zr_virt (κ := (0, 0, 0)) hn hM rfl rfl rfl rfl rfl rfl rfl rfl rfl ?_
  refine zgo_ret rfl rfl c1_ ?_
  rw [Bool.and_true]
  refine zr_iff hM rfl rfl h2 ?_
  refine zr_fr hM rfl rfl rfl ?_
  exact zr_zret2 hM rfl rfl (by decide) rfl
set_option maxHeartbeats 4000000 in
theorem s14_0_t {n L : Nat} {σ : Ks} {g : List Nat} {cl : Bool} {p1 : Int32} {r1 : Int32} {x3 : Nat} {σ4 : Ks} {c4 : Bool} (hn : 2 ≤ n ∧ n ≤ 5) (c1_ : ZR 10 0 [.val (.ref (kad n (0, 0, 0))), .val (.int p1)] [] (khp n L σ g) true (.inl (some (.int r1)), khp n L σ g, true)) (h2 : zcnd .ne r1 0 = true) (z3 : zix p1 n = some x3) (c4_ : ZR 15 0 [.val (.ref (kad n (2, x3, 0)))] [] (khp n L σ g) true (.inl (none), khp n L σ4 g, c4)) : ZR 14 0 [.val (.ref (kad n (0, 0, 0))), .val (.int p1)] [] (khp n L σ g) cl (.inl (some (.int (Int32.ofInt 1))), khp n L σ4 (g), cl && c4) := by
  have hM : zmi[14]? = some _ := rfl
  have l3 := (zix_some z3).2.2
  refine zr_fr hM rfl rfl rfl ?_
  refine zr_fr hM rfl rfl rfl ?_
  refine zr_virt (κ := (0, 0, 0)) hn hM rfl rfl rfl rfl rfl rfl rfl rfl rfl ?_
  refine zgo_ret rfl rfl c1_ ?_
  rw [Bool.and_true]
  refine zr_ift hM rfl rfl h2 ?_
  refine zr_fr hM rfl rfl rfl ?_
  refine zr_getf (κ := (0, 0, 0)) hn hM rfl rfl rfl rfl ?_
  refine zr_fr hM rfl rfl rfl ?_
  refine zr_aald (κ := (1, 0, 0)) hn hM rfl rfl rfl rfl z3 ?_
  refine zr_virt (κ := (2, x3, 0)) hn hM rfl rfl rfl rfl rfl rfl (kokT (by omega)) rfl rfl ?_
  refine zgo_ret rfl rfl c4_ ?_
  refine zr_fr hM rfl rfl rfl ?_
  exact zr_zret2 hM rfl rfl (by decide) rfl
set_option maxHeartbeats 4000000 in
theorem s15_0_r {n L : Nat} {σ : Ks} {g : List Nat} {cl : Bool} {b : Nat} {σ1 : Ks} {c1 : Bool} (hn : 2 ≤ n ∧ n ≤ 5) (hb : b < n) (c1_ : ZR 16 0 [.val (.ref (kad n (3, 2 * b + 1, 0))), .val (.ref (kad n (3, 2 * b, 0))), .unset] [] (khp n L σ g) true (.inl (none), khp n L σ1 g, c1)) : ZR 15 0 [.val (.ref (kad n (2, b, 0)))] [] (khp n L σ g) cl (.inl (none), khp n L σ1 (g), cl && c1) := by
  have hM : zmi[15]? = some _ := rfl
  refine zr_fr hM rfl rfl rfl ?_
  refine zr_getf (κ := (2, b, 0)) hn hM rfl (kokT (by omega)) rfl rfl ?_
  refine zr_fr hM rfl rfl rfl ?_
  refine zr_getf (κ := (2, b, 0)) hn hM rfl (kokT (by omega)) rfl rfl ?_
  refine zr_virt (κ := (3, 2 * b + 1, 0)) hn hM rfl rfl rfl rfl rfl rfl (kokB rfl (by omega)) rfl rfl ?_
  refine zgo_ret rfl rfl c1_ ?_
  exact zr_vret2 hM rfl rfl rfl
set_option maxHeartbeats 4000000 in
theorem s16_0_r {n L : Nat} {σ : Ks} {g : List Nat} {cl : Bool} {r : Zr} {b : Nat} {b2 : Nat} {σ1 : Ks} {σ2 : Ks} {σ3 : Ks} {σ4 : Ks} {σ5 : Ks} {c5 : Bool} (hn : 2 ≤ n ∧ n ≤ 5) (hb : b < 2 * n) (hb2 : b2 < 2 * n) (a1 : Kcp n L σ (4, b2, 0) (Int32.ofInt 0) (4, b, 0) (Int32.ofInt 0) (Int32.ofInt 4) σ1) (a2 : Kcp n L σ1 (5, b2, 0) (Int32.ofInt 0) (5, b, 0) (Int32.ofInt 0) (Int32.ofInt 4) σ2) (a3 : Kcp n L σ2 (6, b2, 0) (Int32.ofInt 0) (6, b, 0) (Int32.ofInt 0) (Int32.ofInt 4) σ3) (a4 : Kcp n L σ3 (7, b2, 0) (Int32.ofInt 0) (7, b, 0) (Int32.ofInt 0) (Int32.ofInt 4) σ4) (c5_ : ZR 17 0 [.val (.ref (kad n (8, b, 0))), .val (.ref (kad n (8, b2, 0)))] [] (khp n L (kup (kup σ4 b 16 (σ4 b2 16)) b 18 ((kup σ4 b 16 (σ4 b2 16)) b2 18)) g) true (.inl (none), khp n L σ5 g, c5)) (k : ZR 16 85 [.val (.ref (kad n (3, b, 0))), .val (.ref (kad n (3, b2, 0))), .val (.int (Int32.ofInt 0))] [] (khp n L σ5 (g)) false r) : ZR 16 0 [.val (.ref (kad n (3, b, 0))), .val (.ref (kad n (3, b2, 0))), .unset] [] (khp n L σ g) cl r := by
  have hM : zmi[16]? = some _ := rfl
  refine zr_fr hM rfl rfl rfl ?_
  refine zr_getf (κ := (3, b2, 0)) hn hM rfl (kokB rfl (by omega)) rfl rfl ?_
  refine zr_fr hM rfl rfl rfl ?_
  refine zr_fr hM rfl rfl rfl ?_
  refine zr_getf (κ := (3, b, 0)) hn hM rfl (kokB rfl (by omega)) rfl rfl ?_
  refine zr_fr hM rfl rfl rfl ?_
  refine zr_fr hM rfl rfl rfl ?_
  refine zr_copy (κ1 := (4, b2, 0)) (κ2 := (4, b, 0)) hn hM rfl (kokB rfl (by omega)) (kokB rfl (by omega)) rfl rfl rfl a1 rfl ?_
  refine zr_fr hM rfl rfl rfl ?_
  refine zr_getf (κ := (3, b2, 0)) hn hM rfl (kokB rfl (by omega)) rfl rfl ?_
  refine zr_fr hM rfl rfl rfl ?_
  refine zr_fr hM rfl rfl rfl ?_
  refine zr_getf (κ := (3, b, 0)) hn hM rfl (kokB rfl (by omega)) rfl rfl ?_
  refine zr_fr hM rfl rfl rfl ?_
  refine zr_fr hM rfl rfl rfl ?_
  refine zr_copy (κ1 := (5, b2, 0)) (κ2 := (5, b, 0)) hn hM rfl (kokB rfl (by omega)) (kokB rfl (by omega)) rfl rfl rfl a2 rfl ?_
  refine zr_fr hM rfl rfl rfl ?_
  refine zr_getf (κ := (3, b2, 0)) hn hM rfl (kokB rfl (by omega)) rfl rfl ?_
  refine zr_fr hM rfl rfl rfl ?_
  refine zr_fr hM rfl rfl rfl ?_
  refine zr_getf (κ := (3, b, 0)) hn hM rfl (kokB rfl (by omega)) rfl rfl ?_
  refine zr_fr hM rfl rfl rfl ?_
  refine zr_fr hM rfl rfl rfl ?_
  refine zr_copy (κ1 := (6, b2, 0)) (κ2 := (6, b, 0)) hn hM rfl (kokB rfl (by omega)) (kokB rfl (by omega)) rfl rfl rfl a3 rfl ?_
  refine zr_fr hM rfl rfl rfl ?_
  refine zr_getf (κ := (3, b2, 0)) hn hM rfl (kokB rfl (by omega)) rfl rfl ?_
  refine zr_fr hM rfl rfl rfl ?_
  refine zr_fr hM rfl rfl rfl ?_
  refine zr_getf (κ := (3, b, 0)) hn hM rfl (kokB rfl (by omega)) rfl rfl ?_
  refine zr_fr hM rfl rfl rfl ?_
  refine zr_fr hM rfl rfl rfl ?_
  refine zr_copy (κ1 := (7, b2, 0)) (κ2 := (7, b, 0)) hn hM rfl (kokB rfl (by omega)) (kokB rfl (by omega)) rfl rfl rfl a4 rfl ?_
  refine zr_fr hM rfl rfl rfl ?_
  refine zr_fr hM rfl rfl rfl ?_
  refine zr_getf (κ := (3, b2, 0)) hn hM rfl (kokB rfl (by omega)) rfl rfl ?_
  refine zr_putf (κ := (3, b, 0)) hn hM rfl (kokB rfl (by omega)) rfl rfl rfl rfl rfl rfl ?_
  refine zr_fr hM rfl rfl rfl ?_
  refine zr_fr hM rfl rfl rfl ?_
  refine zr_getf (κ := (3, b2, 0)) hn hM rfl (kokB rfl (by omega)) rfl rfl ?_
  refine zr_putf (κ := (3, b, 0)) hn hM rfl (kokB rfl (by omega)) rfl rfl rfl rfl rfl rfl ?_
  refine zr_fr hM rfl rfl rfl ?_
  refine zr_getf (κ := (3, b, 0)) hn hM rfl (kokB rfl (by omega)) rfl rfl ?_
  refine zr_fr hM rfl rfl rfl ?_
  refine zr_getf (κ := (3, b2, 0)) hn hM rfl (kokB rfl (by omega)) rfl rfl ?_
  refine zr_virt (κ := (8, b, 0)) hn hM rfl rfl rfl rfl rfl rfl (kokB rfl (by omega)) rfl rfl ?_
  refine zgo_ret rfl rfl c5_ ?_
  rw [Bool.false_and]
  refine zr_fr hM rfl rfl rfl ?_
  refine zr_fr hM rfl rfl rfl ?_
  exact k
set_option maxHeartbeats 4000000 in
theorem s16_85_f {n L : Nat} {σ : Ks} {g : List Nat} {cl : Bool} {r : Zr} {b : Nat} {b2 : Nat} {v2 : Int32} {x2 : Nat} {σ3 : Ks} {c3 : Bool} (hn : 2 ≤ n ∧ n ≤ 5) (hb : b < 2 * n) (hb2 : b2 < 2 * n) (h1 : zcnd .ge v2 (Int32.ofNat n) = false) (z2 : zix v2 n = some x2) (c3_ : ZR 18 0 [.val (.ref (kad n (14, b, x2))), .val (.ref (kad n (14, b2, x2)))] [] (khp n L σ g) true (.inl (none), khp n L σ3 g, c3)) (k : ZR 16 85 [.val (.ref (kad n (3, b, 0))), .val (.ref (kad n (3, b2, 0))), .val (.int (v2 + Int32.ofInt 1))] [] (khp n L σ3 (g)) (cl && c3) r) : ZR 16 85 [.val (.ref (kad n (3, b, 0))), .val (.ref (kad n (3, b2, 0))), .val (.int v2)] [] (khp n L σ g) cl r := by
  have hM : zmi[16]? = some _ := rfl
  have l2 := (zix_some z2).2.2
  refine zr_fr hM rfl rfl rfl ?_
  refine zr_fr hM rfl rfl rfl ?_
  refine zr_getf (κ := (3, b, 0)) hn hM rfl (kokB rfl (by omega)) rfl rfl ?_
  refine zr_alen (κ := (13, b, 0)) hn hM rfl (kokB rfl (by omega)) rfl ?_
  refine zr_icf hM rfl rfl h1 ?_
  refine zr_fr hM rfl rfl rfl ?_
  refine zr_getf (κ := (3, b, 0)) hn hM rfl (kokB rfl (by omega)) rfl rfl ?_
  refine zr_fr hM rfl rfl rfl ?_
  refine zr_aald (κ := (13, b, 0)) hn hM rfl (kokB rfl (by omega)) rfl rfl z2 ?_
  refine zr_fr hM rfl rfl rfl ?_
  refine zr_getf (κ := (3, b2, 0)) hn hM rfl (kokB rfl (by omega)) rfl rfl ?_
  refine zr_fr hM rfl rfl rfl ?_
  refine zr_aald (κ := (13, b2, 0)) hn hM rfl (kokB rfl (by omega)) rfl rfl z2 ?_
  refine zr_virt (κ := (14, b, x2)) hn hM rfl rfl rfl rfl rfl rfl (kokP rfl (by omega) (by omega)) rfl rfl ?_
  refine zgo_ret rfl rfl c3_ ?_
  refine zr_fr hM rfl rfl rfl ?_
  refine zr_fr hM rfl rfl rfl ?_
  exact k
set_option maxHeartbeats 4000000 in
theorem s16_85_t {n L : Nat} {σ : Ks} {g : List Nat} {cl : Bool} {b : Nat} {b2 : Nat} {v2 : Int32} (hn : 2 ≤ n ∧ n ≤ 5) (hb : b < 2 * n) (hb2 : b2 < 2 * n) (h1 : zcnd .ge v2 (Int32.ofNat n) = true) : ZR 16 85 [.val (.ref (kad n (3, b, 0))), .val (.ref (kad n (3, b2, 0))), .val (.int v2)] [] (khp n L σ g) cl (.inl (none), khp n L σ (g), cl) := by
  have hM : zmi[16]? = some _ := rfl
  refine zr_fr hM rfl rfl rfl ?_
  refine zr_fr hM rfl rfl rfl ?_
  refine zr_getf (κ := (3, b, 0)) hn hM rfl (kokB rfl (by omega)) rfl rfl ?_
  refine zr_alen (κ := (13, b, 0)) hn hM rfl (kokB rfl (by omega)) rfl ?_
  refine zr_ict hM rfl rfl h1 ?_
  exact zr_vret2 hM rfl rfl rfl
set_option maxHeartbeats 4000000 in
theorem s17_0_r {n L : Nat} {σ : Ks} {g : List Nat} {cl : Bool} {b : Nat} {b2 : Nat} {σ1 : Ks} {σ2 : Ks} {σ3 : Ks} {σ4 : Ks} (hn : 2 ≤ n ∧ n ≤ 5) (hb : b < 2 * n) (hb2 : b2 < 2 * n) (a1 : Kcp n L (kup (kup σ b 17 (σ b2 17)) b 19 ((kup σ b 17 (σ b2 17)) b2 19)) (9, b2, 0) (Int32.ofInt 0) (9, b, 0) (Int32.ofInt 0) ((Int8.ofInt 6).toInt32) σ1) (a2 : Kcp n L σ1 (10, b2, 0) (Int32.ofInt 0) (10, b, 0) (Int32.ofInt 0) ((Int8.ofInt 6).toInt32) σ2) (a3 : Kcp n L σ2 (11, b2, 0) (Int32.ofInt 0) (11, b, 0) (Int32.ofInt 0) ((Int8.ofInt 6).toInt32) σ3) (a4 : Kcp n L σ3 (12, b2, 0) (Int32.ofInt 0) (12, b, 0) (Int32.ofInt 0) ((Int8.ofInt 6).toInt32) σ4) : ZR 17 0 [.val (.ref (kad n (8, b, 0))), .val (.ref (kad n (8, b2, 0)))] [] (khp n L σ g) cl (.inl (none), khp n L σ4 (g), false) := by
  have hM : zmi[17]? = some _ := rfl
  refine zr_fr hM rfl rfl rfl ?_
  refine zr_fr hM rfl rfl rfl ?_
  refine zr_getf (κ := (8, b2, 0)) hn hM rfl (kokB rfl (by omega)) rfl rfl ?_
  refine zr_putf (κ := (8, b, 0)) hn hM rfl (kokB rfl (by omega)) rfl rfl rfl rfl rfl rfl ?_
  refine zr_fr hM rfl rfl rfl ?_
  refine zr_fr hM rfl rfl rfl ?_
  refine zr_getf (κ := (8, b2, 0)) hn hM rfl (kokB rfl (by omega)) rfl rfl ?_
  refine zr_putf (κ := (8, b, 0)) hn hM rfl (kokB rfl (by omega)) rfl rfl rfl rfl rfl rfl ?_
  refine zr_fr hM rfl rfl rfl ?_
  refine zr_getf (κ := (8, b2, 0)) hn hM rfl (kokB rfl (by omega)) rfl rfl ?_
  refine zr_fr hM rfl rfl rfl ?_
  refine zr_fr hM rfl rfl rfl ?_
  refine zr_getf (κ := (8, b, 0)) hn hM rfl (kokB rfl (by omega)) rfl rfl ?_
  refine zr_fr hM rfl rfl rfl ?_
  refine zr_fr hM rfl rfl rfl ?_
  refine zr_copy (κ1 := (9, b2, 0)) (κ2 := (9, b, 0)) hn hM rfl (kokB rfl (by omega)) (kokB rfl (by omega)) rfl rfl rfl a1 rfl ?_
  refine zr_fr hM rfl rfl rfl ?_
  refine zr_getf (κ := (8, b2, 0)) hn hM rfl (kokB rfl (by omega)) rfl rfl ?_
  refine zr_fr hM rfl rfl rfl ?_
  refine zr_fr hM rfl rfl rfl ?_
  refine zr_getf (κ := (8, b, 0)) hn hM rfl (kokB rfl (by omega)) rfl rfl ?_
  refine zr_fr hM rfl rfl rfl ?_
  refine zr_fr hM rfl rfl rfl ?_
  refine zr_copy (κ1 := (10, b2, 0)) (κ2 := (10, b, 0)) hn hM rfl (kokB rfl (by omega)) (kokB rfl (by omega)) rfl rfl rfl a2 rfl ?_
  refine zr_fr hM rfl rfl rfl ?_
  refine zr_getf (κ := (8, b2, 0)) hn hM rfl (kokB rfl (by omega)) rfl rfl ?_
  refine zr_fr hM rfl rfl rfl ?_
  refine zr_fr hM rfl rfl rfl ?_
  refine zr_getf (κ := (8, b, 0)) hn hM rfl (kokB rfl (by omega)) rfl rfl ?_
  refine zr_fr hM rfl rfl rfl ?_
  refine zr_fr hM rfl rfl rfl ?_
  refine zr_copy (κ1 := (11, b2, 0)) (κ2 := (11, b, 0)) hn hM rfl (kokB rfl (by omega)) (kokB rfl (by omega)) rfl rfl rfl a3 rfl ?_
  refine zr_fr hM rfl rfl rfl ?_
  refine zr_getf (κ := (8, b2, 0)) hn hM rfl (kokB rfl (by omega)) rfl rfl ?_
  refine zr_fr hM rfl rfl rfl ?_
  refine zr_fr hM rfl rfl rfl ?_
  refine zr_getf (κ := (8, b, 0)) hn hM rfl (kokB rfl (by omega)) rfl rfl ?_
  refine zr_fr hM rfl rfl rfl ?_
  refine zr_fr hM rfl rfl rfl ?_
  refine zr_copy (κ1 := (12, b2, 0)) (κ2 := (12, b, 0)) hn hM rfl (kokB rfl (by omega)) (kokB rfl (by omega)) rfl rfl rfl a4 rfl ?_
  exact zr_vret2 hM rfl rfl rfl
set_option maxHeartbeats 4000000 in
theorem s18_0_r {n L : Nat} {σ : Ks} {g : List Nat} {cl : Bool} {b : Nat} {o : Nat} {b2 : Nat} {o2 : Nat} {σ1 : Ks} {σ2 : Ks} {σ3 : Ks} {σ4 : Ks} {σ5 : Ks} (hn : 2 ≤ n ∧ n ≤ 5) (hb : b < 2 * n) (hb2 : b2 < 2 * n) (ho : o < n) (ho2 : o2 < n) (a1 : Kcp n L (kup (kup σ b (44 + 24 * o) (σ b2 (44 + 24 * o2))) b (44 + 24 * o + 1) ((kup σ b (44 + 24 * o) (σ b2 (44 + 24 * o2))) b2 (44 + 24 * o2 + 1))) (15, b2, o2) (Int32.ofInt 0) (15, b, o) (Int32.ofInt 0) (Int32.ofInt 4) σ1) (a2 : Kcp n L σ1 (16, b2, o2) (Int32.ofInt 0) (16, b, o) (Int32.ofInt 0) (Int32.ofInt 4) σ2) (a3 : Kcp n L σ2 (17, b2, o2) (Int32.ofInt 0) (17, b, o) (Int32.ofInt 0) (Int32.ofInt 4) σ3) (a4 : Kcp n L (kup (kup σ3 b (44 + 24 * o + 14) (σ3 b2 (44 + 24 * o2 + 14))) b (44 + 24 * o + 15) ((kup σ3 b (44 + 24 * o + 14) (σ3 b2 (44 + 24 * o2 + 14))) b2 (44 + 24 * o2 + 15))) (18, b2, o2) (Int32.ofInt 0) (18, b, o) (Int32.ofInt 0) (Int32.ofInt 4) σ4) (a5 : Kcp n L σ4 (19, b2, o2) (Int32.ofInt 0) (19, b, o) (Int32.ofInt 0) (Int32.ofInt 4) σ5) : ZR 18 0 [.val (.ref (kad n (14, b, o))), .val (.ref (kad n (14, b2, o2)))] [] (khp n L σ g) cl (.inl (none), khp n L σ5 (g), false) := by
  have hM : zmi[18]? = some _ := rfl
  refine zr_fr hM rfl rfl rfl ?_
  refine zr_fr hM rfl rfl rfl ?_
  refine zr_getf (κ := (14, b2, o2)) hn hM rfl (kokP rfl (by omega) (by omega)) rfl rfl ?_
  refine zr_putf (κ := (14, b, o)) hn hM rfl (kokP rfl (by omega) (by omega)) rfl rfl rfl rfl rfl rfl ?_
  refine zr_fr hM rfl rfl rfl ?_
  refine zr_fr hM rfl rfl rfl ?_
  refine zr_getf (κ := (14, b2, o2)) hn hM rfl (kokP rfl (by omega) (by omega)) rfl rfl ?_
  refine zr_putf (κ := (14, b, o)) hn hM rfl (kokP rfl (by omega) (by omega)) rfl rfl rfl rfl rfl rfl ?_
  refine zr_fr hM rfl rfl rfl ?_
  refine zr_getf (κ := (14, b2, o2)) hn hM rfl (kokP rfl (by omega) (by omega)) rfl rfl ?_
  refine zr_fr hM rfl rfl rfl ?_
  refine zr_fr hM rfl rfl rfl ?_
  refine zr_getf (κ := (14, b, o)) hn hM rfl (kokP rfl (by omega) (by omega)) rfl rfl ?_
  refine zr_fr hM rfl rfl rfl ?_
  refine zr_fr hM rfl rfl rfl ?_
  refine zr_copy (κ1 := (15, b2, o2)) (κ2 := (15, b, o)) hn hM rfl (kokP rfl (by omega) (by omega)) (kokP rfl (by omega) (by omega)) rfl rfl rfl a1 rfl ?_
  refine zr_fr hM rfl rfl rfl ?_
  refine zr_getf (κ := (14, b2, o2)) hn hM rfl (kokP rfl (by omega) (by omega)) rfl rfl ?_
  refine zr_fr hM rfl rfl rfl ?_
  refine zr_fr hM rfl rfl rfl ?_
  refine zr_getf (κ := (14, b, o)) hn hM rfl (kokP rfl (by omega) (by omega)) rfl rfl ?_
  refine zr_fr hM rfl rfl rfl ?_
  refine zr_fr hM rfl rfl rfl ?_
  refine zr_copy (κ1 := (16, b2, o2)) (κ2 := (16, b, o)) hn hM rfl (kokP rfl (by omega) (by omega)) (kokP rfl (by omega) (by omega)) rfl rfl rfl a2 rfl ?_
  refine zr_fr hM rfl rfl rfl ?_
  refine zr_getf (κ := (14, b2, o2)) hn hM rfl (kokP rfl (by omega) (by omega)) rfl rfl ?_
  refine zr_fr hM rfl rfl rfl ?_
  refine zr_fr hM rfl rfl rfl ?_
  refine zr_getf (κ := (14, b, o)) hn hM rfl (kokP rfl (by omega) (by omega)) rfl rfl ?_
  refine zr_fr hM rfl rfl rfl ?_
  refine zr_fr hM rfl rfl rfl ?_
  refine zr_copy (κ1 := (17, b2, o2)) (κ2 := (17, b, o)) hn hM rfl (kokP rfl (by omega) (by omega)) (kokP rfl (by omega) (by omega)) rfl rfl rfl a3 rfl ?_
  refine zr_fr hM rfl rfl rfl ?_
  refine zr_fr hM rfl rfl rfl ?_
  refine zr_getf (κ := (14, b2, o2)) hn hM rfl (kokP rfl (by omega) (by omega)) rfl rfl ?_
  refine zr_putf (κ := (14, b, o)) hn hM rfl (kokP rfl (by omega) (by omega)) rfl rfl rfl rfl rfl rfl ?_
  refine zr_fr hM rfl rfl rfl ?_
  refine zr_fr hM rfl rfl rfl ?_
  refine zr_getf (κ := (14, b2, o2)) hn hM rfl (kokP rfl (by omega) (by omega)) rfl rfl ?_
  refine zr_putf (κ := (14, b, o)) hn hM rfl (kokP rfl (by omega) (by omega)) rfl rfl rfl rfl rfl rfl ?_
  refine zr_fr hM rfl rfl rfl ?_
  refine zr_getf (κ := (14, b2, o2)) hn hM rfl (kokP rfl (by omega) (by omega)) rfl rfl ?_
  refine zr_fr hM rfl rfl rfl ?_
  refine zr_fr hM rfl rfl rfl ?_
  refine zr_getf (κ := (14, b, o)) hn hM rfl (kokP rfl (by omega) (by omega)) rfl rfl ?_
  refine zr_fr hM rfl rfl rfl ?_
  refine zr_fr hM rfl rfl rfl ?_
  refine zr_copy (κ1 := (18, b2, o2)) (κ2 := (18, b, o)) hn hM rfl (kokP rfl (by omega) (by omega)) (kokP rfl (by omega) (by omega)) rfl rfl rfl a4 rfl ?_
  refine zr_fr hM rfl rfl rfl ?_
  refine zr_getf (κ := (14, b2, o2)) hn hM rfl (kokP rfl (by omega) (by omega)) rfl rfl ?_
  refine zr_fr hM rfl rfl rfl ?_
  refine zr_fr hM rfl rfl rfl ?_
  refine zr_getf (κ := (14, b, o)) hn hM rfl (kokP rfl (by omega) (by omega)) rfl rfl ?_
  refine zr_fr hM rfl rfl rfl ?_
  refine zr_fr hM rfl rfl rfl ?_
  refine zr_copy (κ1 := (19, b2, o2)) (κ2 := (19, b, o)) hn hM rfl (kokP rfl (by omega) (by omega)) (kokP rfl (by omega) (by omega)) rfl rfl rfl a5 rfl ?_
  exact zr_vret2 hM rfl rfl rfl
set_option maxHeartbeats 4000000 in
theorem s19_0_f {n L : Nat} {σ : Ks} {g : List Nat} {cl : Bool} {p1 : Int32} {r1 : Int32} (hn : 2 ≤ n ∧ n ≤ 5) (c1_ : ZR 10 0 [.val (.ref (kad n (0, 0, 0))), .val (.int p1)] [] (khp n L σ g) true (.inl (some (.int r1)), khp n L σ g, true)) (h2 : zcnd .ne r1 0 = false) : ZR 19 0 [.val (.ref (kad n (0, 0, 0))), .val (.int p1)] [] (khp n L σ g) cl (.inl (some (.int (Int32.ofInt 0))), khp n L σ (g), cl) := by
  have hM : zmi[19]? = some _ := rfl
  refine zr_fr hM rfl rfl rfl ?_
  refine zr_fr hM rfl rfl rfl ?_
  refine zr_virt (κ := (0, 0, 0)) hn hM rfl rfl rfl rfl rfl rfl rfl rfl rfl ?_
  refine zgo_ret rfl rfl c1_ ?_
  rw [Bool.and_true]
  refine zr_iff hM rfl rfl h2 ?_
  refine zr_fr hM rfl rfl rfl ?_
  exact zr_zret2 hM rfl rfl (by decide) rfl
set_option maxHeartbeats 4000000 in
theorem s19_0_t {n L : Nat} {σ : Ks} {g : List Nat} {cl : Bool} {p1 : Int32} {r1 : Int32} {x3 : Nat} {σ4 : Ks} {c4 : Bool} (hn : 2 ≤ n ∧ n ≤ 5) (c1_ : ZR 10 0 [.val (.ref (kad n (0, 0, 0))), .val (.int p1)] [] (khp n L σ g) true (.inl (some (.int r1)), khp n L σ g, true)) (h2 : zcnd .ne r1 0 = true) (z3 : zix p1 n = some x3) (c4_ : ZR 20 0 [.val (.ref (kad n (2, x3, 0)))] [] (khp n L (kup σ 10 x3 (Int32.ofInt 0)) g) true (.inl (none), khp n L σ4 g, c4)) : ZR 19 0 [.val (.ref (kad n (0, 0, 0))), .val (.int p1)] [] (khp n L σ g) cl (.inl (some (.int (Int32.ofInt 1))), khp n L σ4 (g), false) := by
  have hM : zmi[19]? = some _ := rfl
  have l3 := (zix_some z3).2.2
  refine zr_fr hM rfl rfl rfl ?_
  refine zr_fr hM rfl rfl rfl ?_
  refine zr_virt (κ := (0, 0, 0)) hn hM rfl rfl rfl rfl rfl rfl rfl rfl rfl ?_
  refine zgo_ret rfl rfl c1_ ?_
  rw [Bool.and_true]
  refine zr_ift hM rfl rfl h2 ?_
  refine zr_fr hM rfl rfl rfl ?_
  refine zr_getf (κ := (0, 0, 0)) hn hM rfl rfl rfl rfl ?_
  refine zr_fr hM rfl rfl rfl ?_
  refine zr_aald (κ := (1, 0, 0)) hn hM rfl rfl rfl rfl z3 ?_
  refine zr_fr hM rfl rfl rfl ?_
  refine zr_putf (κ := (2, x3, 0)) hn hM rfl (kokT (by omega)) rfl rfl rfl rfl rfl (by decide) ?_
  refine zr_fr hM rfl rfl rfl ?_
  refine zr_getf (κ := (0, 0, 0)) hn hM rfl rfl rfl rfl ?_
  refine zr_fr hM rfl rfl rfl ?_
  refine zr_aald (κ := (1, 0, 0)) hn hM rfl rfl rfl rfl z3 ?_
  refine zr_virt (κ := (2, x3, 0)) hn hM rfl rfl rfl rfl rfl rfl (kokT (by omega)) rfl rfl ?_
  refine zgo_ret rfl rfl c4_ ?_
  rw [Bool.false_and]
  refine zr_fr hM rfl rfl rfl ?_
  exact zr_zret2 hM rfl rfl (by decide) rfl
set_option maxHeartbeats 4000000 in
theorem s20_0_r {n L : Nat} {σ : Ks} {g : List Nat} {cl : Bool} {b : Nat} {σ1 : Ks} {c1 : Bool} (hn : 2 ≤ n ∧ n ≤ 5) (hb : b < n) (c1_ : ZR 16 0 [.val (.ref (kad n (3, 2 * b, 0))), .val (.ref (kad n (3, 2 * b + 1, 0))), .unset] [] (khp n L σ g) true (.inl (none), khp n L σ1 g, c1)) : ZR 20 0 [.val (.ref (kad n (2, b, 0)))] [] (khp n L σ g) cl (.inl (none), khp n L σ1 (g), cl && c1) := by
  have hM : zmi[20]? = some _ := rfl
  refine zr_fr hM rfl rfl rfl ?_
  refine zr_getf (κ := (2, b, 0)) hn hM rfl (kokT (by omega)) rfl rfl ?_
  refine zr_fr hM rfl rfl rfl ?_
  refine zr_getf (κ := (2, b, 0)) hn hM rfl (kokT (by omega)) rfl rfl ?_
  refine zr_virt (κ := (3, 2 * b, 0)) hn hM rfl rfl rfl rfl rfl rfl (kokB rfl (by omega)) rfl rfl ?_
  refine zgo_ret rfl rfl c1_ ?_
  exact zr_vret2 hM rfl rfl rfl
set_option maxHeartbeats 4000000 in
theorem s21_0_ff {n L : Nat} {σ : Ks} {g : List Nat} {cl : Bool} {p1 : Int32} {r1 : Int32} {x3 : Nat} (hn : 2 ≤ n ∧ n ≤ 5) (c1_ : ZR 11 0 [.val (.ref (kad n (0, 0, 0))), .val (.int p1)] [] (khp n L σ g) true (.inl (some (.int r1)), khp n L σ g, true)) (h2 : zcnd .eq r1 0 = false) (z3 : zix p1 n = some x3) (h4 : zcnd .eq (σ 10 x3) 0 = false) : ZR 21 0 [.val (.ref (kad n (0, 0, 0))), .val (.int p1)] [] (khp n L σ g) cl (.inl (some (.int (Int32.ofInt 0))), khp n L σ (g), cl) := by
  have hM : zmi[21]? = some _ := rfl
  have l3 := (zix_some z3).2.2
  refine zr_fr hM rfl rfl rfl ?_
  refine zr_fr hM rfl rfl rfl ?_
  refine zr_virt (κ := (0, 0, 0)) hn hM rfl rfl rfl rfl rfl rfl rfl rfl rfl ?_
  refine zgo_ret rfl rfl c1_ ?_
  rw [Bool.and_true]
  refine zr_iff hM rfl rfl h2 ?_
  refine zr_fr hM rfl rfl rfl ?_
  refine zr_getf (κ := (0, 0, 0)) hn hM rfl rfl rfl rfl ?_
  refine zr_fr hM rfl rfl rfl ?_
  refine zr_aald (κ := (1, 0, 0)) hn hM rfl rfl rfl rfl z3 ?_
  refine zr_getf (κ := (2, x3, 0)) hn hM rfl (kokT (by omega)) rfl rfl ?_
  refine zr_iff hM rfl rfl h4 ?_
  refine zr_fr hM rfl rfl rfl ?_
  exact zr_zret2 hM rfl rfl (by decide) rfl
set_option maxHeartbeats 4000000 in
theorem s21_0_ft {n L : Nat} {σ : Ks} {g : List Nat} {cl : Bool} {p1 : Int32} {r1 : Int32} {x3 : Nat} (hn : 2 ≤ n ∧ n ≤ 5) (c1_ : ZR 11 0 [.val (.ref (kad n (0, 0, 0))), .val (.int p1)] [] (khp n L σ g) true (.inl (some (.int r1)), khp n L σ g, true)) (h2 : zcnd .eq r1 0 = false) (z3 : zix p1 n = some x3) (h4 : zcnd .eq (σ 10 x3) 0 = true) : ZR 21 0 [.val (.ref (kad n (0, 0, 0))), .val (.int p1)] [] (khp n L σ g) cl (.inl (some (.int (Int32.ofInt 1))), khp n L (kup σ 10 x3 (Int32.ofInt 1)) (g), false) := by
  have hM : zmi[21]? = some _ := rfl
  have l3 := (zix_some z3).2.2
  refine zr_fr hM rfl rfl rfl ?_
  refine zr_fr hM rfl rfl rfl ?_
  refine zr_virt (κ := (0, 0, 0)) hn hM rfl rfl rfl rfl rfl rfl rfl rfl rfl ?_
  refine zgo_ret rfl rfl c1_ ?_
  rw [Bool.and_true]
  refine zr_iff hM rfl rfl h2 ?_
  refine zr_fr hM rfl rfl rfl ?_
  refine zr_getf (κ := (0, 0, 0)) hn hM rfl rfl rfl rfl ?_
  refine zr_fr hM rfl rfl rfl ?_
  refine zr_aald (κ := (1, 0, 0)) hn hM rfl rfl rfl rfl z3 ?_
  refine zr_getf (κ := (2, x3, 0)) hn hM rfl (kokT (by omega)) rfl rfl ?_
  refine zr_ift hM rfl rfl h4 ?_
  refine zr_fr hM rfl rfl rfl ?_
  refine zr_getf (κ := (0, 0, 0)) hn hM rfl rfl rfl rfl ?_
  refine zr_fr hM rfl rfl rfl ?_
  refine zr_aald (κ := (1, 0, 0)) hn hM rfl rfl rfl rfl z3 ?_
  refine zr_fr hM rfl rfl rfl ?_
  refine zr_putf (κ := (2, x3, 0)) hn hM rfl (kokT (by omega)) rfl rfl rfl rfl rfl (by decide) ?_
  refine zr_fr hM rfl rfl rfl ?_
  exact zr_zret2 hM rfl rfl (by decide) rfl
set_option maxHeartbeats 4000000 in
theorem s21_0_t {n L : Nat} {σ : Ks} {g : List Nat} {cl : Bool} {p1 : Int32} {r1 : Int32} (hn : 2 ≤ n ∧ n ≤ 5) (c1_ : ZR 11 0 [.val (.ref (kad n (0, 0, 0))), .val (.int p1)] [] (khp n L σ g) true (.inl (some (.int r1)), khp n L σ g, true)) (h2 : zcnd .eq r1 0 = true) : ZR 21 0 [.val (.ref (kad n (0, 0, 0))), .val (.int p1)] [] (khp n L σ g) cl (.inl (some (.int (Int32.ofInt 0))), khp n L σ (g), cl) := by
  have hM : zmi[21]? = some _ := rfl
  refine zr_fr hM rfl rfl rfl ?_
  refine zr_fr hM rfl rfl rfl ?_
  refine zr_virt (κ := (0, 0, 0)) hn hM rfl rfl rfl rfl rfl rfl rfl rfl rfl ?_
  refine zgo_ret rfl rfl c1_ ?_
  rw [Bool.and_true]
  refine zr_ift hM rfl rfl h2 ?_
  refine zr_fr hM rfl rfl rfl ?_
  exact zr_zret2 hM rfl rfl (by decide) rfl
set_option maxHeartbeats 4000000 in
theorem s22_0_f {n L : Nat} {σ : Ks} {g : List Nat} {cl : Bool} {p1 : Int32} {r1 : Int32} (hn : 2 ≤ n ∧ n ≤ 5) (c1_ : ZR 23 0 [.val (.ref (kad n (20, 0, 0))), .val (.int p1)] [] (khp n L σ g) true (.inl (some (.int r1)), khp n L σ g, true)) (h2 : zcnd .ne r1 0 = false) : ZR 22 0 [.val (.ref (kad n (0, 0, 0))), .val (.int p1)] [] (khp n L σ g) cl (.inl (some (.int (Int32.ofInt 0))), khp n L σ (g), cl) := by
  have hM : zmi[22]? = some _ := rfl
  refine zr_fr hM rfl rfl rfl ?_
  refine zr_getf (κ := (0, 0, 0)) hn hM rfl rfl rfl rfl ?_
  refine zr_fr hM rfl rfl rfl ?_
  refine zr_virt (κ := (20, 0, 0)) hn hM rfl rfl rfl rfl rfl rfl rfl rfl rfl ?_
  refine zgo_ret rfl rfl c1_ ?_
  rw [Bool.and_true]
  refine zr_iff hM rfl rfl h2 ?_
  refine zr_fr hM rfl rfl rfl ?_
  exact zr_zret2 hM rfl rfl (by decide) rfl
set_option maxHeartbeats 4000000 in
theorem s22_0_t {n L : Nat} {σ : Ks} {g : List Nat} {cl : Bool} {p1 : Int32} {r1 : Int32} {σ3 : Ks} {c3 : Bool} (hn : 2 ≤ n ∧ n ≤ 5) (c1_ : ZR 23 0 [.val (.ref (kad n (20, 0, 0))), .val (.int p1)] [] (khp n L σ g) true (.inl (some (.int r1)), khp n L σ g, true)) (h2 : zcnd .ne r1 0 = true) (c3_ : ZR 24 0 [.val (.ref (kad n (20, 0, 0))), .val (.int p1)] [] (khp n L σ g) true (.inl (none), khp n L σ3 g, c3)) : ZR 22 0 [.val (.ref (kad n (0, 0, 0))), .val (.int p1)] [] (khp n L σ g) cl (.inl (some (.int (Int32.ofInt 1))), khp n L σ3 (g), cl && c3) := by
  have hM : zmi[22]? = some _ := rfl
  refine zr_fr hM rfl rfl rfl ?_
  refine zr_getf (κ := (0, 0, 0)) hn hM rfl rfl rfl rfl ?_
  refine zr_fr hM rfl rfl rfl ?_
  refine zr_virt (κ := (20, 0, 0)) hn hM rfl rfl rfl rfl rfl rfl rfl rfl rfl ?_
  refine zgo_ret rfl rfl c1_ ?_
  rw [Bool.and_true]
  refine zr_ift hM rfl rfl h2 ?_
  refine zr_fr hM rfl rfl rfl ?_
  refine zr_getf (κ := (0, 0, 0)) hn hM rfl rfl rfl rfl ?_
  refine zr_fr hM rfl rfl rfl ?_
  refine zr_virt (κ := (20, 0, 0)) hn hM rfl rfl rfl rfl rfl rfl rfl rfl rfl ?_
  refine zgo_ret rfl rfl c3_ ?_
  refine zr_fr hM rfl rfl rfl ?_
  exact zr_zret2 hM rfl rfl (by decide) rfl
set_option maxHeartbeats 4000000 in
theorem s23_0_ff {n L : Nat} {σ : Ks} {g : List Nat} {cl : Bool} {p1 : Int32} (hn : 2 ≤ n ∧ n ≤ 5) (h1 : zcnd .lt p1 0 = false) (h2 : zcnd .ge p1 (σ 12 0) = false) : ZR 23 0 [.val (.ref (kad n (20, 0, 0))), .val (.int p1)] [] (khp n L σ g) cl (.inl (some (.int (Int32.ofInt 1))), khp n L σ (g), cl) := by
  have hM : zmi[23]? = some _ := rfl
  refine zr_fr hM rfl rfl rfl ?_
  refine zr_iff hM rfl rfl h1 ?_
  refine zr_fr hM rfl rfl rfl ?_
  refine zr_fr hM rfl rfl rfl ?_
  refine zr_getf (κ := (20, 0, 0)) hn hM rfl rfl rfl rfl ?_
  refine zr_icf hM rfl rfl h2 ?_
  refine zr_fr hM rfl rfl rfl ?_
  refine zr_fr hM rfl rfl rfl ?_
  exact zr_zret2 hM rfl rfl (by decide) rfl
set_option maxHeartbeats 4000000 in
theorem s23_0_ft {n L : Nat} {σ : Ks} {g : List Nat} {cl : Bool} {p1 : Int32} (hn : 2 ≤ n ∧ n ≤ 5) (h1 : zcnd .lt p1 0 = false) (h2 : zcnd .ge p1 (σ 12 0) = true) : ZR 23 0 [.val (.ref (kad n (20, 0, 0))), .val (.int p1)] [] (khp n L σ g) cl (.inl (some (.int (Int32.ofInt 0))), khp n L σ (g), cl) := by
  have hM : zmi[23]? = some _ := rfl
  refine zr_fr hM rfl rfl rfl ?_
  refine zr_iff hM rfl rfl h1 ?_
  refine zr_fr hM rfl rfl rfl ?_
  refine zr_fr hM rfl rfl rfl ?_
  refine zr_getf (κ := (20, 0, 0)) hn hM rfl rfl rfl rfl ?_
  refine zr_ict hM rfl rfl h2 ?_
  refine zr_fr hM rfl rfl rfl ?_
  exact zr_zret2 hM rfl rfl (by decide) rfl
set_option maxHeartbeats 4000000 in
theorem s23_0_t {n L : Nat} {σ : Ks} {g : List Nat} {cl : Bool} {p1 : Int32} (hn : 2 ≤ n ∧ n ≤ 5) (h1 : zcnd .lt p1 0 = true) : ZR 23 0 [.val (.ref (kad n (20, 0, 0))), .val (.int p1)] [] (khp n L σ g) cl (.inl (some (.int (Int32.ofInt 0))), khp n L σ (g), cl) := by
  have hM : zmi[23]? = some _ := rfl
  refine zr_fr hM rfl rfl rfl ?_
  refine zr_ift hM rfl rfl h1 ?_
  refine zr_fr hM rfl rfl rfl ?_
  exact zr_zret2 hM rfl rfl (by decide) rfl
set_option maxHeartbeats 4000000 in
theorem s24_0_r {n L : Nat} {σ : Ks} {g : List Nat} {cl : Bool} {p1 : Int32} {σ1 : Ks} (hn : 2 ≤ n ∧ n ≤ 5) (a1 : Kcp n L (kup σ 12 0 ((σ 12 0) - (Int32.ofInt 1))) (21, 0, 0) ((p1 + (Int32.ofInt 1)) * ((Int8.ofInt 6).toInt32)) (21, 0, 0) (p1 * ((Int8.ofInt 6).toInt32)) ((((kup σ 12 0 ((σ 12 0) - (Int32.ofInt 1))) 12 0) - p1) * ((Int8.ofInt 6).toInt32)) σ1) : ZR 24 0 [.val (.ref (kad n (20, 0, 0))), .val (.int p1)] [] (khp n L σ g) cl (.inl (none), khp n L σ1 (g), false) := by
  have hM : zmi[24]? = some _ := rfl
  refine zr_fr hM rfl rfl rfl ?_
  refine zr_fr hM rfl rfl rfl ?_
  refine zr_getf (κ := (20, 0, 0)) hn hM rfl rfl rfl rfl ?_
  refine zr_fr hM rfl rfl rfl ?_
  refine zr_fr hM rfl rfl rfl ?_
  refine zr_putf (κ := (20, 0, 0)) hn hM rfl rfl rfl rfl rfl rfl rfl rfl ?_
  refine zr_fr hM rfl rfl rfl ?_
  refine zr_getf (κ := (20, 0, 0)) hn hM rfl rfl rfl rfl ?_
  refine zr_fr hM rfl rfl rfl ?_
  refine zr_fr hM rfl rfl rfl ?_
  refine zr_fr hM rfl rfl rfl ?_
  refine zr_fr hM rfl rfl rfl ?_
  refine zr_fr hM rfl rfl rfl ?_
  refine zr_fr hM rfl rfl rfl ?_
  refine zr_getf (κ := (20, 0, 0)) hn hM rfl rfl rfl rfl ?_
  refine zr_fr hM rfl rfl rfl ?_
  refine zr_fr hM rfl rfl rfl ?_
  refine zr_fr hM rfl rfl rfl ?_
  refine zr_fr hM rfl rfl rfl ?_
  refine zr_getf (κ := (20, 0, 0)) hn hM rfl rfl rfl rfl ?_
  refine zr_fr hM rfl rfl rfl ?_
  refine zr_fr hM rfl rfl rfl ?_
  refine zr_fr hM rfl rfl rfl ?_
  refine zr_fr hM rfl rfl rfl ?_
  refine zr_copy (κ1 := (21, 0, 0)) (κ2 := (21, 0, 0)) hn hM rfl rfl rfl rfl rfl rfl a1 rfl ?_
  exact zr_vret2 hM rfl rfl rfl
set_option maxHeartbeats 4000000 in
theorem s25_0_ff {n L : Nat} {σ : Ks} {g : List Nat} {cl : Bool} {p1 : Int32} {r1 : Int32} {r3 : Int32} (hn : 2 ≤ n ∧ n ≤ 5) (c1_ : ZR 23 0 [.val (.ref (kad n (20, 0, 0))), .val (.int p1)] [] (khp n L σ g) true (.inl (some (.int r1)), khp n L σ g, true)) (h2 : zcnd .eq r1 0 = false) (c3_ : ZR 26 0 [.val (.ref (kad n (20, 0, 0)))] [] (khp n L σ g) true (.inl (some (.int r3)), khp n L σ g, true)) (h4 : zcnd .eq r3 0 = false) : ZR 25 0 [.val (.ref (kad n (0, 0, 0))), .val (.int p1)] [] (khp n L σ g) cl (.inl (some (.int (Int32.ofInt 0))), khp n L σ (g), cl) := by
  have hM : zmi[25]? = some _ := rfl
  refine zr_fr hM rfl rfl rfl ?_
  refine zr_getf (κ := (0, 0, 0)) hn hM rfl rfl rfl rfl ?_
  refine zr_fr hM rfl rfl rfl ?_
  refine zr_virt (κ := (20, 0, 0)) hn hM rfl rfl rfl rfl rfl rfl rfl rfl rfl ?_
  refine zgo_ret rfl rfl c1_ ?_
  rw [Bool.and_true]
  refine zr_iff hM rfl rfl h2 ?_
  refine zr_fr hM rfl rfl rfl ?_
  refine zr_getf (κ := (0, 0, 0)) hn hM rfl rfl rfl rfl ?_
  refine zr_virt (κ := (20, 0, 0)) hn hM rfl rfl rfl rfl rfl rfl rfl rfl rfl ?_
  refine zgo_ret rfl rfl c3_ ?_
  rw [Bool.and_true]
  refine zr_iff hM rfl rfl h4 ?_
  refine zr_fr hM rfl rfl rfl ?_
  exact zr_zret2 hM rfl rfl (by decide) rfl
set_option maxHeartbeats 4000000 in
theorem s25_0_ft {n L : Nat} {σ : Ks} {g : List Nat} {cl : Bool} {p1 : Int32} {r1 : Int32} {r3 : Int32} {σ5 : Ks} {c5 : Bool} (hn : 2 ≤ n ∧ n ≤ 5) (c1_ : ZR 23 0 [.val (.ref (kad n (20, 0, 0))), .val (.int p1)] [] (khp n L σ g) true (.inl (some (.int r1)), khp n L σ g, true)) (h2 : zcnd .eq r1 0 = false) (c3_ : ZR 26 0 [.val (.ref (kad n (20, 0, 0)))] [] (khp n L σ g) true (.inl (some (.int r3)), khp n L σ g, true)) (h4 : zcnd .eq r3 0 = true) (c5_ : ZR 27 0 [.val (.ref (kad n (20, 0, 0))), .val (.int p1)] [] (khp n L σ g) true (.inl (none), khp n L σ5 g, c5)) : ZR 25 0 [.val (.ref (kad n (0, 0, 0))), .val (.int p1)] [] (khp n L σ g) cl (.inl (some (.int (Int32.ofInt 1))), khp n L σ5 (g), cl && c5) := by
  have hM : zmi[25]? = some _ := rfl
  refine zr_fr hM rfl rfl rfl ?_
  refine zr_getf (κ := (0, 0, 0)) hn hM rfl rfl rfl rfl ?_
  refine zr_fr hM rfl rfl rfl ?_
  refine zr_virt (κ := (20, 0, 0)) hn hM rfl rfl rfl rfl rfl rfl rfl rfl rfl ?_
  refine zgo_ret rfl rfl c1_ ?_
  rw [Bool.and_true]
  refine zr_iff hM rfl rfl h2 ?_
  refine zr_fr hM rfl rfl rfl ?_
  refine zr_getf (κ := (0, 0, 0)) hn hM rfl rfl rfl rfl ?_
  refine zr_virt (κ := (20, 0, 0)) hn hM rfl rfl rfl rfl rfl rfl rfl rfl rfl ?_
  refine zgo_ret rfl rfl c3_ ?_
  rw [Bool.and_true]
  refine zr_ift hM rfl rfl h4 ?_
  refine zr_fr hM rfl rfl rfl ?_
  refine zr_getf (κ := (0, 0, 0)) hn hM rfl rfl rfl rfl ?_
  refine zr_fr hM rfl rfl rfl ?_
  refine zr_virt (κ := (20, 0, 0)) hn hM rfl rfl rfl rfl rfl rfl rfl rfl rfl ?_
  refine zgo_ret rfl rfl c5_ ?_
  refine zr_fr hM rfl rfl rfl ?_
  exact zr_zret2 hM rfl rfl (by decide) rfl
set_option maxHeartbeats 4000000 in
theorem s25_0_t {n L : Nat} {σ : Ks} {g : List Nat} {cl : Bool} {p1 : Int32} {r1 : Int32} (hn : 2 ≤ n ∧ n ≤ 5) (c1_ : ZR 23 0 [.val (.ref (kad n (20, 0, 0))), .val (.int p1)] [] (khp n L σ g) true (.inl (some (.int r1)), khp n L σ g, true)) (h2 : zcnd .eq r1 0 = true) : ZR 25 0 [.val (.ref (kad n (0, 0, 0))), .val (.int p1)] [] (khp n L σ g) cl (.inl (some (.int (Int32.ofInt 0))), khp n L σ (g), cl) := by
  have hM : zmi[25]? = some _ := rfl
  refine zr_fr hM rfl rfl rfl ?_
  refine zr_getf (κ := (0, 0, 0)) hn hM rfl rfl rfl rfl ?_
  refine zr_fr hM rfl rfl rfl ?_
  refine zr_virt (κ := (20, 0, 0)) hn hM rfl rfl rfl rfl rfl rfl rfl rfl rfl ?_
  refine zgo_ret rfl rfl c1_ ?_
  rw [Bool.and_true]
  refine zr_ift hM rfl rfl h2 ?_
  refine zr_fr hM rfl rfl rfl ?_
  exact zr_zret2 hM rfl rfl (by decide) rfl
set_option maxHeartbeats 4000000 in
theorem s26_0_f {n L : Nat} {σ : Ks} {g : List Nat} {cl : Bool} (hn : 2 ≤ n ∧ n ≤ 5) (h1 : zcnd .lt (σ 12 0) ((Int8.ofInt 24).toInt32) = false) : ZR 26 0 [.val (.ref (kad n (20, 0, 0)))] [] (khp n L σ g) cl (.inl (some (.int (Int32.ofInt 1))), khp n L σ (g), cl) := by
  have hM : zmi[26]? = some _ := rfl
  refine zr_fr hM rfl rfl rfl ?_
  refine zr_getf (κ := (20, 0, 0)) hn hM rfl rfl rfl rfl ?_
  refine zr_fr hM rfl rfl rfl ?_
  refine zr_icf hM rfl rfl h1 ?_
  refine zr_fr hM rfl rfl rfl ?_
  refine zr_fr hM rfl rfl rfl ?_
  exact zr_zret2 hM rfl rfl (by decide) rfl
set_option maxHeartbeats 4000000 in
theorem s26_0_t {n L : Nat} {σ : Ks} {g : List Nat} {cl : Bool} (hn : 2 ≤ n ∧ n ≤ 5) (h1 : zcnd .lt (σ 12 0) ((Int8.ofInt 24).toInt32) = true) : ZR 26 0 [.val (.ref (kad n (20, 0, 0)))] [] (khp n L σ g) cl (.inl (some (.int (Int32.ofInt 0))), khp n L σ (g), cl) := by
  have hM : zmi[26]? = some _ := rfl
  refine zr_fr hM rfl rfl rfl ?_
  refine zr_getf (κ := (20, 0, 0)) hn hM rfl rfl rfl rfl ?_
  refine zr_fr hM rfl rfl rfl ?_
  refine zr_ict hM rfl rfl h1 ?_
  refine zr_fr hM rfl rfl rfl ?_
  exact zr_zret2 hM rfl rfl (by decide) rfl
set_option maxHeartbeats 4000000 in
theorem s27_0_r {n L : Nat} {σ : Ks} {g : List Nat} {cl : Bool} {p1 : Int32} {σ1 : Ks} (hn : 2 ≤ n ∧ n ≤ 5) (a1 : Kcp n L σ (21, 0, 0) (p1 * ((Int8.ofInt 6).toInt32)) (21, 0, 0) ((σ 12 0) * ((Int8.ofInt 6).toInt32)) ((Int8.ofInt 6).toInt32) σ1) : ZR 27 0 [.val (.ref (kad n (20, 0, 0))), .val (.int p1)] [] (khp n L σ g) cl (.inl (none), khp n L (kup σ1 12 0 ((σ1 12 0) + (Int32.ofInt 1))) (g), false) := by
  have hM : zmi[27]? = some _ := rfl
  refine zr_fr hM rfl rfl rfl ?_
  refine zr_getf (κ := (20, 0, 0)) hn hM rfl rfl rfl rfl ?_
  refine zr_fr hM rfl rfl rfl ?_
  refine zr_fr hM rfl rfl rfl ?_
  refine zr_fr hM rfl rfl rfl ?_
  refine zr_fr hM rfl rfl rfl ?_
  refine zr_getf (κ := (20, 0, 0)) hn hM rfl rfl rfl rfl ?_
  refine zr_fr hM rfl rfl rfl ?_
  refine zr_getf (κ := (20, 0, 0)) hn hM rfl rfl rfl rfl ?_
  refine zr_fr hM rfl rfl rfl ?_
  refine zr_fr hM rfl rfl rfl ?_
  refine zr_fr hM rfl rfl rfl ?_
  refine zr_copy (κ1 := (21, 0, 0)) (κ2 := (21, 0, 0)) hn hM rfl rfl rfl rfl rfl rfl a1 rfl ?_
  refine zr_fr hM rfl rfl rfl ?_
  refine zr_fr hM rfl rfl rfl ?_
  refine zr_getf (κ := (20, 0, 0)) hn hM rfl rfl rfl rfl ?_
  refine zr_fr hM rfl rfl rfl ?_
  refine zr_fr hM rfl rfl rfl ?_
  refine zr_putf (κ := (20, 0, 0)) hn hM rfl rfl rfl rfl rfl rfl rfl rfl ?_
  exact zr_vret2 hM rfl rfl rfl
set_option maxHeartbeats 4000000 in
theorem s28_0_fff {n L : Nat} {σ : Ks} {g : List Nat} {cl : Bool} {p1 : Int32} {p2 : Int32} {r1 : Int32} (hn : 2 ≤ n ∧ n ≤ 5) (c1_ : ZR 23 0 [.val (.ref (kad n (20, 0, 0))), .val (.int p1)] [] (khp n L σ g) true (.inl (some (.int r1)), khp n L σ g, true)) (h2 : zcnd .eq r1 0 = false) (h3 : zcnd .lt p2 0 = false) (h4 : zcnd .lt p2 ((Int8.ofInt 6).toInt32) = false) : ZR 28 0 [.val (.ref (kad n (0, 0, 0))), .val (.int p1), .val (.int p2)] [] (khp n L σ g) cl (.inl (some (.int (Int32.ofInt (-1)))), khp n L σ (g), cl) := by
  have hM : zmi[28]? = some _ := rfl
  refine zr_fr hM rfl rfl rfl ?_
  refine zr_getf (κ := (0, 0, 0)) hn hM rfl rfl rfl rfl ?_
  refine zr_fr hM rfl rfl rfl ?_
  refine zr_virt (κ := (20, 0, 0)) hn hM rfl rfl rfl rfl rfl rfl rfl rfl rfl ?_
  refine zgo_ret rfl rfl c1_ ?_
  rw [Bool.and_true]
  refine zr_iff hM rfl rfl h2 ?_
  refine zr_fr hM rfl rfl rfl ?_
  refine zr_iff hM rfl rfl h3 ?_
  refine zr_fr hM rfl rfl rfl ?_
  refine zr_fr hM rfl rfl rfl ?_
  refine zr_icf hM rfl rfl h4 ?_
  refine zr_fr hM rfl rfl rfl ?_
  exact zr_iret2 hM rfl rfl rfl
set_option maxHeartbeats 4000000 in
theorem s28_0_fft {n L : Nat} {σ : Ks} {g : List Nat} {cl : Bool} {p1 : Int32} {p2 : Int32} {r1 : Int32} {r5 : Int32} (hn : 2 ≤ n ∧ n ≤ 5) (c1_ : ZR 23 0 [.val (.ref (kad n (20, 0, 0))), .val (.int p1)] [] (khp n L σ g) true (.inl (some (.int r1)), khp n L σ g, true)) (h2 : zcnd .eq r1 0 = false) (h3 : zcnd .lt p2 0 = false) (h4 : zcnd .lt p2 ((Int8.ofInt 6).toInt32) = true) (c5_ : ZR 29 0 [.val (.ref (kad n (20, 0, 0))), .val (.int p1), .val (.int p2)] [] (khp n L σ g) true (.inl (some (.int r5)), khp n L σ g, true)) : ZR 28 0 [.val (.ref (kad n (0, 0, 0))), .val (.int p1), .val (.int p2)] [] (khp n L σ g) cl (.inl (some (.int r5)), khp n L σ (g), cl) := by
  have hM : zmi[28]? = some _ := rfl
  refine zr_fr hM rfl rfl rfl ?_
  refine zr_getf (κ := (0, 0, 0)) hn hM rfl rfl rfl rfl ?_
  refine zr_fr hM rfl rfl rfl ?_
  refine zr_virt (κ := (20, 0, 0)) hn hM rfl rfl rfl rfl rfl rfl rfl rfl rfl ?_
  refine zgo_ret rfl rfl c1_ ?_
  rw [Bool.and_true]
  refine zr_iff hM rfl rfl h2 ?_
  refine zr_fr hM rfl rfl rfl ?_
  refine zr_iff hM rfl rfl h3 ?_
  refine zr_fr hM rfl rfl rfl ?_
  refine zr_fr hM rfl rfl rfl ?_
  refine zr_ict hM rfl rfl h4 ?_
  refine zr_fr hM rfl rfl rfl ?_
  refine zr_getf (κ := (0, 0, 0)) hn hM rfl rfl rfl rfl ?_
  refine zr_fr hM rfl rfl rfl ?_
  refine zr_fr hM rfl rfl rfl ?_
  refine zr_virt (κ := (20, 0, 0)) hn hM rfl rfl rfl rfl rfl rfl rfl rfl rfl ?_
  refine zgo_ret rfl rfl c5_ ?_
  rw [Bool.and_true]
  exact zr_iret2 hM rfl rfl rfl
set_option maxHeartbeats 4000000 in
theorem s28_0_ft {n L : Nat} {σ : Ks} {g : List Nat} {cl : Bool} {p1 : Int32} {p2 : Int32} {r1 : Int32} (hn : 2 ≤ n ∧ n ≤ 5) (c1_ : ZR 23 0 [.val (.ref (kad n (20, 0, 0))), .val (.int p1)] [] (khp n L σ g) true (.inl (some (.int r1)), khp n L σ g, true)) (h2 : zcnd .eq r1 0 = false) (h3 : zcnd .lt p2 0 = true) : ZR 28 0 [.val (.ref (kad n (0, 0, 0))), .val (.int p1), .val (.int p2)] [] (khp n L σ g) cl (.inl (some (.int (Int32.ofInt (-1)))), khp n L σ (g), cl) := by
  have hM : zmi[28]? = some _ := rfl
  refine zr_fr hM rfl rfl rfl ?_
  refine zr_getf (κ := (0, 0, 0)) hn hM rfl rfl rfl rfl ?_
  refine zr_fr hM rfl rfl rfl ?_
  refine zr_virt (κ := (20, 0, 0)) hn hM rfl rfl rfl rfl rfl rfl rfl rfl rfl ?_
  refine zgo_ret rfl rfl c1_ ?_
  rw [Bool.and_true]
  refine zr_iff hM rfl rfl h2 ?_
  refine zr_fr hM rfl rfl rfl ?_
  refine zr_ift hM rfl rfl h3 ?_
  refine zr_fr hM rfl rfl rfl ?_
  exact zr_iret2 hM rfl rfl rfl
set_option maxHeartbeats 4000000 in
theorem s28_0_t {n L : Nat} {σ : Ks} {g : List Nat} {cl : Bool} {p1 : Int32} {p2 : Int32} {r1 : Int32} (hn : 2 ≤ n ∧ n ≤ 5) (c1_ : ZR 23 0 [.val (.ref (kad n (20, 0, 0))), .val (.int p1)] [] (khp n L σ g) true (.inl (some (.int r1)), khp n L σ g, true)) (h2 : zcnd .eq r1 0 = true) : ZR 28 0 [.val (.ref (kad n (0, 0, 0))), .val (.int p1), .val (.int p2)] [] (khp n L σ g) cl (.inl (some (.int (Int32.ofInt (-1)))), khp n L σ (g), cl) := by
  have hM : zmi[28]? = some _ := rfl
  refine zr_fr hM rfl rfl rfl ?_
  refine zr_getf (κ := (0, 0, 0)) hn hM rfl rfl rfl rfl ?_
  refine zr_fr hM rfl rfl rfl ?_
  refine zr_virt (κ := (20, 0, 0)) hn hM rfl rfl rfl rfl rfl rfl rfl rfl rfl ?_
  refine zgo_ret rfl rfl c1_ ?_
  rw [Bool.and_true]
  refine zr_ift hM rfl rfl h2 ?_
  refine zr_fr hM rfl rfl rfl ?_
  exact zr_iret2 hM rfl rfl rfl
set_option maxHeartbeats 4000000 in
theorem s29_0_r {n L : Nat} {σ : Ks} {g : List Nat} {cl : Bool} {p1 : Int32} {p2 : Int32} {x1 : Nat} (hn : 2 ≤ n ∧ n ≤ 5) (z1 : zix ((p1 * ((Int8.ofInt 6).toInt32)) + p2) 144 = some x1) : ZR 29 0 [.val (.ref (kad n (20, 0, 0))), .val (.int p1), .val (.int p2)] [] (khp n L σ g) cl (.inl (some (.int (σ 11 x1))), khp n L σ (g), cl) := by
  have hM : zmi[29]? = some _ := rfl
  have l1 := (zix_some z1).2.2
  refine zr_fr hM rfl rfl rfl ?_
  refine zr_getf (κ := (20, 0, 0)) hn hM rfl rfl rfl rfl ?_
  refine zr_fr hM rfl rfl rfl ?_
  refine zr_fr hM rfl rfl rfl ?_
  refine zr_fr hM rfl rfl rfl ?_
  refine zr_fr hM rfl rfl rfl ?_
  refine zr_fr hM rfl rfl rfl ?_
  refine zr_iald (κ := (21, 0, 0)) hn hM rfl rfl rfl z1 ?_
  exact zr_iret2 hM rfl rfl rfl
set_option maxHeartbeats 4000000 in
theorem s30_0_fff {n L : Nat} {σ : Ks} {g : List Nat} {cl : Bool} {p1 : Int32} {p2 : Int32} {p3 : Int32} {r1 : Int32} {r3 : Int32} {r5 : Int32} (hn : 2 ≤ n ∧ n ≤ 5) (c1_ : ZR 11 0 [.val (.ref (kad n (0, 0, 0))), .val (.int p1)] [] (khp n L σ g) true (.inl (some (.int r1)), khp n L σ g, true)) (h2 : zcnd .eq r1 0 = false) (c3_ : ZR 11 0 [.val (.ref (kad n (0, 0, 0))), .val (.int p2)] [] (khp n L σ g) true (.inl (some (.int r3)), khp n L σ g, true)) (h4 : zcnd .eq r3 0 = false) (c5_ : ZR 31 0 [.val (.int p3)] [] (khp n L σ g) true (.inl (some (.int r5)), khp n L σ g, true)) (h6 : zcnd .ne r5 0 = false) : ZR 30 0 [.val (.ref (kad n (0, 0, 0))), .val (.int p1), .val (.int p2), .val (.int p3)] [] (khp n L σ g) cl (.inl (some (.int (Int32.ofInt (-1)))), khp n L σ (g), cl) := by
  have hM : zmi[30]? = some _ := rfl
  refine zr_fr hM rfl rfl rfl ?_
  refine zr_fr hM rfl rfl rfl ?_
  refine zr_virt (κ := (0, 0, 0)) hn hM rfl rfl rfl rfl rfl rfl rfl rfl rfl ?_
  refine zgo_ret rfl rfl c1_ ?_
  rw [Bool.and_true]
  refine zr_iff hM rfl rfl h2 ?_
  refine zr_fr hM rfl rfl rfl ?_
  refine zr_fr hM rfl rfl rfl ?_
  refine zr_virt (κ := (0, 0, 0)) hn hM rfl rfl rfl rfl rfl rfl rfl rfl rfl ?_
  refine zgo_ret rfl rfl c3_ ?_
  rw [Bool.and_true]
  refine zr_iff hM rfl rfl h4 ?_
  refine zr_fr hM rfl rfl rfl ?_
  refine zr_stat hM rfl rfl rfl rfl rfl rfl ?_
  refine zgo_ret rfl rfl c5_ ?_
  rw [Bool.and_true]
  refine zr_iff hM rfl rfl h6 ?_
  refine zr_fr hM rfl rfl rfl ?_
  exact zr_iret2 hM rfl rfl rfl
set_option maxHeartbeats 4000000 in
theorem s30_0_fft {n L : Nat} {σ : Ks} {g : List Nat} {cl : Bool} {p1 : Int32} {p2 : Int32} {p3 : Int32} {r1 : Int32} {r3 : Int32} {r5 : Int32} {x7 : Nat} {x8 : Nat} {x9 : Nat} (hn : 2 ≤ n ∧ n ≤ 5) (c1_ : ZR 11 0 [.val (.ref (kad n (0, 0, 0))), .val (.int p1)] [] (khp n L σ g) true (.inl (some (.int r1)), khp n L σ g, true)) (h2 : zcnd .eq r1 0 = false) (c3_ : ZR 11 0 [.val (.ref (kad n (0, 0, 0))), .val (.int p2)] [] (khp n L σ g) true (.inl (some (.int r3)), khp n L σ g, true)) (h4 : zcnd .eq r3 0 = false) (c5_ : ZR 31 0 [.val (.int p3)] [] (khp n L σ g) true (.inl (some (.int r5)), khp n L σ g, true)) (h6 : zcnd .ne r5 0 = true) (z7 : zix p1 n = some x7) (z8 : zix p2 n = some x8) (z9 : zix p3 4 = some x9) : ZR 30 0 [.val (.ref (kad n (0, 0, 0))), .val (.int p1), .val (.int p2), .val (.int p3)] [] (khp n L σ g) cl (.inl (some (.int (σ (2 * x7) (44 + 24 * x8 + 16 + x9)))), khp n L σ (g), cl) := by
  have hM : zmi[30]? = some _ := rfl
  have l7 := (zix_some z7).2.2
  have l8 := (zix_some z8).2.2
  have l9 := (zix_some z9).2.2
  refine zr_fr hM rfl rfl rfl ?_
  refine zr_fr hM rfl rfl rfl ?_
  refine zr_virt (κ := (0, 0, 0)) hn hM rfl rfl rfl rfl rfl rfl rfl rfl rfl ?_
  refine zgo_ret rfl rfl c1_ ?_
  rw [Bool.and_true]
  refine zr_iff hM rfl rfl h2 ?_
  refine zr_fr hM rfl rfl rfl ?_
  refine zr_fr hM rfl rfl rfl ?_
  refine zr_virt (κ := (0, 0, 0)) hn hM rfl rfl rfl rfl rfl rfl rfl rfl rfl ?_
  refine zgo_ret rfl rfl c3_ ?_
  rw [Bool.and_true]
  refine zr_iff hM rfl rfl h4 ?_
  refine zr_fr hM rfl rfl rfl ?_
  refine zr_stat hM rfl rfl rfl rfl rfl rfl ?_
  refine zgo_ret rfl rfl c5_ ?_
  rw [Bool.and_true]
  refine zr_ift hM rfl rfl h6 ?_
  refine zr_fr hM rfl rfl rfl ?_
  refine zr_getf (κ := (0, 0, 0)) hn hM rfl rfl rfl rfl ?_
  refine zr_fr hM rfl rfl rfl ?_
  refine zr_aald (κ := (1, 0, 0)) hn hM rfl rfl rfl rfl z7 ?_
  refine zr_getf (κ := (2, x7, 0)) hn hM rfl (kokT (by omega)) rfl rfl ?_
  refine zr_getf (κ := (3, 2 * x7, 0)) hn hM rfl (kokB rfl (by omega)) rfl rfl ?_
  refine zr_fr hM rfl rfl rfl ?_
  refine zr_aald (κ := (13, 2 * x7, 0)) hn hM rfl (kokB rfl (by omega)) rfl rfl z8 ?_
  refine zr_getf (κ := (14, 2 * x7, x8)) hn hM rfl (kokP rfl (by omega) (by omega)) rfl rfl ?_
  refine zr_fr hM rfl rfl rfl ?_
  refine zr_iald (κ := (18, 2 * x7, x8)) hn hM rfl (kokP rfl (by omega) (by omega)) rfl z9 ?_
  exact zr_iret2 hM rfl rfl rfl
set_option maxHeartbeats 4000000 in
theorem s30_0_ft {n L : Nat} {σ : Ks} {g : List Nat} {cl : Bool} {p1 : Int32} {p2 : Int32} {p3 : Int32} {r1 : Int32} {r3 : Int32} (hn : 2 ≤ n ∧ n ≤ 5) (c1_ : ZR 11 0 [.val (.ref (kad n (0, 0, 0))), .val (.int p1)] [] (khp n L σ g) true (.inl (some (.int r1)), khp n L σ g, true)) (h2 : zcnd .eq r1 0 = false) (c3_ : ZR 11 0 [.val (.ref (kad n (0, 0, 0))), .val (.int p2)] [] (khp n L σ g) true (.inl (some (.int r3)), khp n L σ g, true)) (h4 : zcnd .eq r3 0 = true) : ZR 30 0 [.val (.ref (kad n (0, 0, 0))), .val (.int p1), .val (.int p2), .val (.int p3)] [] (khp n L σ g) cl (.inl (some (.int (Int32.ofInt (-1)))), khp n L σ (g), cl) := by
  have hM : zmi[30]? = some _ := rfl
  refine zr_fr hM rfl rfl rfl ?_
  refine zr_fr hM rfl rfl rfl ?_
  refine zr_virt (κ := (0, 0, 0)) hn hM rfl rfl rfl rfl rfl rfl rfl rfl rfl ?_
  refine zgo_ret rfl rfl c1_ ?_
  rw [Bool.and_true]
  refine zr_iff hM rfl rfl h2 ?_
  refine zr_fr hM rfl rfl rfl ?_
  refine zr_fr hM rfl rfl rfl ?_
  refine zr_virt (κ := (0, 0, 0)) hn hM rfl rfl rfl rfl rfl rfl rfl rfl rfl ?_
  refine zgo_ret rfl rfl c3_ ?_
  rw [Bool.and_true]
  refine zr_ift hM rfl rfl h4 ?_
  refine zr_fr hM rfl rfl rfl ?_
  exact zr_iret2 hM rfl rfl rfl
set_option maxHeartbeats 4000000 in
theorem s30_0_t {n L : Nat} {σ : Ks} {g : List Nat} {cl : Bool} {p1 : Int32} {p2 : Int32} {p3 : Int32} {r1 : Int32} (hn : 2 ≤ n ∧ n ≤ 5) (c1_ : ZR 11 0 [.val (.ref (kad n (0, 0, 0))), .val (.int p1)] [] (khp n L σ g) true (.inl (some (.int r1)), khp n L σ g, true)) (h2 : zcnd .eq r1 0 = true) : ZR 30 0 [.val (.ref (kad n (0, 0, 0))), .val (.int p1), .val (.int p2), .val (.int p3)] [] (khp n L σ g) cl (.inl (some (.int (Int32.ofInt (-1)))), khp n L σ (g), cl) := by
  have hM : zmi[30]? = some _ := rfl
  refine zr_fr hM rfl rfl rfl ?_
  refine zr_fr hM rfl rfl rfl ?_
  refine zr_virt (κ := (0, 0, 0)) hn hM rfl rfl rfl rfl rfl rfl rfl rfl rfl ?_
  refine zgo_ret rfl rfl c1_ ?_
  rw [Bool.and_true]
  refine zr_ift hM rfl rfl h2 ?_
  refine zr_fr hM rfl rfl rfl ?_
  exact zr_iret2 hM rfl rfl rfl
set_option maxHeartbeats 4000000 in
theorem s31_0_ff {n L : Nat} {σ : Ks} {g : List Nat} {cl : Bool} {p1 : Int32} (hn : 2 ≤ n ∧ n ≤ 5) (h1 : zcnd .lt p1 0 = false) (h2 : zcnd .ge p1 (Int32.ofInt 4) = false) : ZR 31 0 [.val (.int p1)] [] (khp n L σ g) cl (.inl (some (.int (Int32.ofInt 1))), khp n L σ (g), cl) := by
  have hM : zmi[31]? = some _ := rfl
  refine zr_fr hM rfl rfl rfl ?_
  refine zr_iff hM rfl rfl h1 ?_
  refine zr_fr hM rfl rfl rfl ?_
  refine zr_fr hM rfl rfl rfl ?_
  refine zr_icf hM rfl rfl h2 ?_
  refine zr_fr hM rfl rfl rfl ?_
  refine zr_fr hM rfl rfl rfl ?_
  exact zr_zret2 hM rfl rfl (by decide) rfl
set_option maxHeartbeats 4000000 in
theorem s31_0_ft {n L : Nat} {σ : Ks} {g : List Nat} {cl : Bool} {p1 : Int32} (hn : 2 ≤ n ∧ n ≤ 5) (h1 : zcnd .lt p1 0 = false) (h2 : zcnd .ge p1 (Int32.ofInt 4) = true) : ZR 31 0 [.val (.int p1)] [] (khp n L σ g) cl (.inl (some (.int (Int32.ofInt 0))), khp n L σ (g), cl) := by
  have hM : zmi[31]? = some _ := rfl
  refine zr_fr hM rfl rfl rfl ?_
  refine zr_iff hM rfl rfl h1 ?_
  refine zr_fr hM rfl rfl rfl ?_
  refine zr_fr hM rfl rfl rfl ?_
  refine zr_ict hM rfl rfl h2 ?_
  refine zr_fr hM rfl rfl rfl ?_
  exact zr_zret2 hM rfl rfl (by decide) rfl
set_option maxHeartbeats 4000000 in
theorem s31_0_t {n L : Nat} {σ : Ks} {g : List Nat} {cl : Bool} {p1 : Int32} (hn : 2 ≤ n ∧ n ≤ 5) (h1 : zcnd .lt p1 0 = true) : ZR 31 0 [.val (.int p1)] [] (khp n L σ g) cl (.inl (some (.int (Int32.ofInt 0))), khp n L σ (g), cl) := by
  have hM : zmi[31]? = some _ := rfl
  refine zr_fr hM rfl rfl rfl ?_
  refine zr_ift hM rfl rfl h1 ?_
  refine zr_fr hM rfl rfl rfl ?_
  exact zr_zret2 hM rfl rfl (by decide) rfl
set_option maxHeartbeats 4000000 in
theorem s32_0_fff {n L : Nat} {σ : Ks} {g : List Nat} {cl : Bool} {p1 : Int32} {p2 : Int32} {p3 : Int32} {r1 : Int32} {r3 : Int32} (hn : 2 ≤ n ∧ n ≤ 5) (c1_ : ZR 11 0 [.val (.ref (kad n (0, 0, 0))), .val (.int p1)] [] (khp n L σ g) true (.inl (some (.int r1)), khp n L σ g, true)) (h2 : zcnd .eq r1 0 = false) (c3_ : ZR 11 0 [.val (.ref (kad n (0, 0, 0))), .val (.int p2)] [] (khp n L σ g) true (.inl (some (.int r3)), khp n L σ g, true)) (h4 : zcnd .eq r3 0 = false) (h5 : zcnd .ne p1 p2 = false) : ZR 32 0 [.val (.ref (kad n (0, 0, 0))), .val (.int p1), .val (.int p2), .val (.int p3), .unset] [] (khp n L σ g) cl (.inl (some (.int (Int32.ofInt (-1)))), khp n L σ (g), cl) := by
  have hM : zmi[32]? = some _ := rfl
  refine zr_fr hM rfl rfl rfl ?_
  refine zr_fr hM rfl rfl rfl ?_
  refine zr_virt (κ := (0, 0, 0)) hn hM rfl rfl rfl rfl rfl rfl rfl rfl rfl ?_
  refine zgo_ret rfl rfl c1_ ?_
  rw [Bool.and_true]
  refine zr_iff hM rfl rfl h2 ?_
  refine zr_fr hM rfl rfl rfl ?_
  refine zr_fr hM rfl rfl rfl ?_
  refine zr_virt (κ := (0, 0, 0)) hn hM rfl rfl rfl rfl rfl rfl rfl rfl rfl ?_
  refine zgo_ret rfl rfl c3_ ?_
  rw [Bool.and_true]
  refine zr_iff hM rfl rfl h4 ?_
  refine zr_fr hM rfl rfl rfl ?_
  refine zr_fr hM rfl rfl rfl ?_
  refine zr_icf hM rfl rfl h5 ?_
  refine zr_fr hM rfl rfl rfl ?_
  exact zr_iret2 hM rfl rfl rfl
set_option maxHeartbeats 4000000 in
theorem s32_0_ffts0_ {n L : Nat} {σ : Ks} {g : List Nat} {cl : Bool} {p1 : Int32} {p2 : Int32} {p3 : Int32} {r1 : Int32} {r3 : Int32} {x6 : Nat} {x7 : Nat} (hn : 2 ≤ n ∧ n ≤ 5) (c1_ : ZR 11 0 [.val (.ref (kad n (0, 0, 0))), .val (.int p1)] [] (khp n L σ g) true (.inl (some (.int r1)), khp n L σ g, true)) (h2 : zcnd .eq r1 0 = false) (c3_ : ZR 11 0 [.val (.ref (kad n (0, 0, 0))), .val (.int p2)] [] (khp n L σ g) true (.inl (some (.int r3)), khp n L σ g, true)) (h4 : zcnd .eq r3 0 = false) (h5 : zcnd .ne p1 p2 = true) (z6 : zix p1 n = some x6) (z7 : zix p2 n = some x7) (h8 : p3.toInt = 0) : ZR 32 0 [.val (.ref (kad n (0, 0, 0))), .val (.int p1), .val (.int p2), .val (.int p3), .unset] [] (khp n L σ g) cl (.inl (some (.int (σ (2 * x6) (44 + 24 * x7)))), khp n L σ (g), cl) := by
  have hM : zmi[32]? = some _ := rfl
  have l6 := (zix_some z6).2.2
  have l7 := (zix_some z7).2.2
  refine zr_fr hM rfl rfl rfl ?_
  refine zr_fr hM rfl rfl rfl ?_
  refine zr_virt (κ := (0, 0, 0)) hn hM rfl rfl rfl rfl rfl rfl rfl rfl rfl ?_
  refine zgo_ret rfl rfl c1_ ?_
  rw [Bool.and_true]
  refine zr_iff hM rfl rfl h2 ?_
  refine zr_fr hM rfl rfl rfl ?_
  refine zr_fr hM rfl rfl rfl ?_
  refine zr_virt (κ := (0, 0, 0)) hn hM rfl rfl rfl rfl rfl rfl rfl rfl rfl ?_
  refine zgo_ret rfl rfl c3_ ?_
  rw [Bool.and_true]
  refine zr_iff hM rfl rfl h4 ?_
  refine zr_fr hM rfl rfl rfl ?_
  refine zr_fr hM rfl rfl rfl ?_
  refine zr_ict hM rfl rfl h5 ?_
  refine zr_fr hM rfl rfl rfl ?_
  refine zr_getf (κ := (0, 0, 0)) hn hM rfl rfl rfl rfl ?_
  refine zr_fr hM rfl rfl rfl ?_
  refine zr_aald (κ := (1, 0, 0)) hn hM rfl rfl rfl rfl z6 ?_
  refine zr_getf (κ := (2, x6, 0)) hn hM rfl (kokT (by omega)) rfl rfl ?_
  refine zr_getf (κ := (3, 2 * x6, 0)) hn hM rfl (kokB rfl (by omega)) rfl rfl ?_
  refine zr_fr hM rfl rfl rfl ?_
  refine zr_aald (κ := (13, 2 * x6, 0)) hn hM rfl (kokB rfl (by omega)) rfl rfl z7 ?_
  refine zr_fr hM rfl rfl rfl ?_
  refine zr_fr hM rfl rfl rfl ?_
  refine zr_swi hM rfl h8 rfl rfl rfl ?_
  refine zr_fr hM rfl rfl rfl ?_
  refine zr_getf (κ := (14, 2 * x6, x7)) hn hM rfl (kokP rfl (by omega) (by omega)) rfl rfl ?_
  exact zr_iret2 hM rfl rfl rfl
set_option maxHeartbeats 4000000 in
theorem s32_0_fftd {n L : Nat} {σ : Ks} {g : List Nat} {cl : Bool} {p1 : Int32} {p2 : Int32} {p3 : Int32} {r1 : Int32} {r3 : Int32} {x6 : Nat} {x7 : Nat} (hn : 2 ≤ n ∧ n ≤ 5) (c1_ : ZR 11 0 [.val (.ref (kad n (0, 0, 0))), .val (.int p1)] [] (khp n L σ g) true (.inl (some (.int r1)), khp n L σ g, true)) (h2 : zcnd .eq r1 0 = false) (c3_ : ZR 11 0 [.val (.ref (kad n (0, 0, 0))), .val (.int p2)] [] (khp n L σ g) true (.inl (some (.int r3)), khp n L σ g, true)) (h4 : zcnd .eq r3 0 = false) (h5 : zcnd .ne p1 p2 = true) (z6 : zix p1 n = some x6) (z7 : zix p2 n = some x7) (h8 : p3.toInt < 0 ∨ 3 < p3.toInt) : ZR 32 0 [.val (.ref (kad n (0, 0, 0))), .val (.int p1), .val (.int p2), .val (.int p3), .unset] [] (khp n L σ g) cl (.inl (some (.int (Int32.ofInt (-1)))), khp n L σ (g), cl) := by
  have hM : zmi[32]? = some _ := rfl
  have l6 := (zix_some z6).2.2
  have l7 := (zix_some z7).2.2
  refine zr_fr hM rfl rfl rfl ?_
  refine zr_fr hM rfl rfl rfl ?_
  refine zr_virt (κ := (0, 0, 0)) hn hM rfl rfl rfl rfl rfl rfl rfl rfl rfl ?_
  refine zgo_ret rfl rfl c1_ ?_
  rw [Bool.and_true]
  refine zr_iff hM rfl rfl h2 ?_
  refine zr_fr hM rfl rfl rfl ?_
  refine zr_fr hM rfl rfl rfl ?_
  refine zr_virt (κ := (0, 0, 0)) hn hM rfl rfl rfl rfl rfl rfl rfl rfl rfl ?_
  refine zgo_ret rfl rfl c3_ ?_
  rw [Bool.and_true]
  refine zr_iff hM rfl rfl h4 ?_
  refine zr_fr hM rfl rfl rfl ?_
  refine zr_fr hM rfl rfl rfl ?_
  refine zr_ict hM rfl rfl h5 ?_
  refine zr_fr hM rfl rfl rfl ?_
  refine zr_getf (κ := (0, 0, 0)) hn hM rfl rfl rfl rfl ?_
  refine zr_fr hM rfl rfl rfl ?_
  refine zr_aald (κ := (1, 0, 0)) hn hM rfl rfl rfl rfl z6 ?_
  refine zr_getf (κ := (2, x6, 0)) hn hM rfl (kokT (by omega)) rfl rfl ?_
  refine zr_getf (κ := (3, 2 * x6, 0)) hn hM rfl (kokB rfl (by omega)) rfl rfl ?_
  refine zr_fr hM rfl rfl rfl ?_
  refine zr_aald (κ := (13, 2 * x6, 0)) hn hM rfl (kokB rfl (by omega)) rfl rfl z7 ?_
  refine zr_fr hM rfl rfl rfl ?_
  refine zr_fr hM rfl rfl rfl ?_
  refine zr_swo hM rfl h8 rfl ?_
  refine zr_fr hM rfl rfl rfl ?_
  exact zr_iret2 hM rfl rfl rfl
set_option maxHeartbeats 4000000 in
theorem s32_0_ffts3_ {n L : Nat} {σ : Ks} {g : List Nat} {cl : Bool} {p1 : Int32} {p2 : Int32} {p3 : Int32} {r1 : Int32} {r3 : Int32} {x6 : Nat} {x7 : Nat} {r9 : Int32} (hn : 2 ≤ n ∧ n ≤ 5) (c1_ : ZR 11 0 [.val (.ref (kad n (0, 0, 0))), .val (.int p1)] [] (khp n L σ g) true (.inl (some (.int r1)), khp n L σ g, true)) (h2 : zcnd .eq r1 0 = false) (c3_ : ZR 11 0 [.val (.ref (kad n (0, 0, 0))), .val (.int p2)] [] (khp n L σ g) true (.inl (some (.int r3)), khp n L σ g, true)) (h4 : zcnd .eq r3 0 = false) (h5 : zcnd .ne p1 p2 = true) (z6 : zix p1 n = some x6) (z7 : zix p2 n = some x7) (h8 : p3.toInt = 3) (c9_ : ZR 33 0 [.val (.ref (kad n (14, 2 * x6, x7)))] [] (khp n L σ g) true (.inl (some (.int r9)), khp n L σ g, true)) : ZR 32 0 [.val (.ref (kad n (0, 0, 0))), .val (.int p1), .val (.int p2), .val (.int p3), .unset] [] (khp n L σ g) cl (.inl (some (.int r9)), khp n L σ (g), cl) := by
  have hM : zmi[32]? = some _ := rfl
  have l6 := (zix_some z6).2.2
  have l7 := (zix_some z7).2.2
  refine zr_fr hM rfl rfl rfl ?_
  refine zr_fr hM rfl rfl rfl ?_
  refine zr_virt (κ := (0, 0, 0)) hn hM rfl rfl rfl rfl rfl rfl rfl rfl rfl ?_
  refine zgo_ret rfl rfl c1_ ?_
  rw [Bool.and_true]
  refine zr_iff hM rfl rfl h2 ?_
  refine zr_fr hM rfl rfl rfl ?_
  refine zr_fr hM rfl rfl rfl ?_
  refine zr_virt (κ := (0, 0, 0)) hn hM rfl rfl rfl rfl rfl rfl rfl rfl rfl ?_
  refine zgo_ret rfl rfl c3_ ?_
  rw [Bool.and_true]
  refine zr_iff hM rfl rfl h4 ?_
  refine zr_fr hM rfl rfl rfl ?_
  refine zr_fr hM rfl rfl rfl ?_
  refine zr_ict hM rfl rfl h5 ?_
  refine zr_fr hM rfl rfl rfl ?_
  refine zr_getf (κ := (0, 0, 0)) hn hM rfl rfl rfl rfl ?_
  refine zr_fr hM rfl rfl rfl ?_
  refine zr_aald (κ := (1, 0, 0)) hn hM rfl rfl rfl rfl z6 ?_
  refine zr_getf (κ := (2, x6, 0)) hn hM rfl (kokT (by omega)) rfl rfl ?_
  refine zr_getf (κ := (3, 2 * x6, 0)) hn hM rfl (kokB rfl (by omega)) rfl rfl ?_
  refine zr_fr hM rfl rfl rfl ?_
  refine zr_aald (κ := (13, 2 * x6, 0)) hn hM rfl (kokB rfl (by omega)) rfl rfl z7 ?_
  refine zr_fr hM rfl rfl rfl ?_
  refine zr_fr hM rfl rfl rfl ?_
  refine zr_swi hM rfl h8 rfl rfl rfl ?_
  refine zr_fr hM rfl rfl rfl ?_
  refine zr_virt (κ := (14, 2 * x6, x7)) hn hM rfl rfl rfl rfl rfl rfl (kokP rfl (by omega) (by omega)) rfl rfl ?_
  refine zgo_ret rfl rfl c9_ ?_
  rw [Bool.and_true]
  exact zr_iret2 hM rfl rfl rfl
set_option maxHeartbeats 4000000 in
theorem s32_0_ffts2_ {n L : Nat} {σ : Ks} {g : List Nat} {cl : Bool} {p1 : Int32} {p2 : Int32} {p3 : Int32} {r1 : Int32} {r3 : Int32} {x6 : Nat} {x7 : Nat} (hn : 2 ≤ n ∧ n ≤ 5) (c1_ : ZR 11 0 [.val (.ref (kad n (0, 0, 0))), .val (.int p1)] [] (khp n L σ g) true (.inl (some (.int r1)), khp n L σ g, true)) (h2 : zcnd .eq r1 0 = false) (c3_ : ZR 11 0 [.val (.ref (kad n (0, 0, 0))), .val (.int p2)] [] (khp n L σ g) true (.inl (some (.int r3)), khp n L σ g, true)) (h4 : zcnd .eq r3 0 = false) (h5 : zcnd .ne p1 p2 = true) (z6 : zix p1 n = some x6) (z7 : zix p2 n = some x7) (h8 : p3.toInt = 2) : ZR 32 0 [.val (.ref (kad n (0, 0, 0))), .val (.int p1), .val (.int p2), .val (.int p3), .unset] [] (khp n L σ g) cl (.inl (some (.int (σ (2 * x6) (44 + 24 * x7 + 14)))), khp n L σ (g), cl) := by
  have hM : zmi[32]? = some _ := rfl
  have l6 := (zix_some z6).2.2
  have l7 := (zix_some z7).2.2
  refine zr_fr hM rfl rfl rfl ?_
  refine zr_fr hM rfl rfl rfl ?_
  refine zr_virt (κ := (0, 0, 0)) hn hM rfl rfl rfl rfl rfl rfl rfl rfl rfl ?_
  refine zgo_ret rfl rfl c1_ ?_
  rw [Bool.and_true]
  refine zr_iff hM rfl rfl h2 ?_
  refine zr_fr hM rfl rfl rfl ?_
  refine zr_fr hM rfl rfl rfl ?_
  refine zr_virt (κ := (0, 0, 0)) hn hM rfl rfl rfl rfl rfl rfl rfl rfl rfl ?_
  refine zgo_ret rfl rfl c3_ ?_
  rw [Bool.and_true]
  refine zr_iff hM rfl rfl h4 ?_
  refine zr_fr hM rfl rfl rfl ?_
  refine zr_fr hM rfl rfl rfl ?_
  refine zr_ict hM rfl rfl h5 ?_
  refine zr_fr hM rfl rfl rfl ?_
  refine zr_getf (κ := (0, 0, 0)) hn hM rfl rfl rfl rfl ?_
  refine zr_fr hM rfl rfl rfl ?_
  refine zr_aald (κ := (1, 0, 0)) hn hM rfl rfl rfl rfl z6 ?_
  refine zr_getf (κ := (2, x6, 0)) hn hM rfl (kokT (by omega)) rfl rfl ?_
  refine zr_getf (κ := (3, 2 * x6, 0)) hn hM rfl (kokB rfl (by omega)) rfl rfl ?_
  refine zr_fr hM rfl rfl rfl ?_
  refine zr_aald (κ := (13, 2 * x6, 0)) hn hM rfl (kokB rfl (by omega)) rfl rfl z7 ?_
  refine zr_fr hM rfl rfl rfl ?_
  refine zr_fr hM rfl rfl rfl ?_
  refine zr_swi hM rfl h8 rfl rfl rfl ?_
  refine zr_fr hM rfl rfl rfl ?_
  refine zr_getf (κ := (14, 2 * x6, x7)) hn hM rfl (kokP rfl (by omega) (by omega)) rfl rfl ?_
  exact zr_iret2 hM rfl rfl rfl
set_option maxHeartbeats 4000000 in
theorem s32_0_ffts1_ {n L : Nat} {σ : Ks} {g : List Nat} {cl : Bool} {p1 : Int32} {p2 : Int32} {p3 : Int32} {r1 : Int32} {r3 : Int32} {x6 : Nat} {x7 : Nat} (hn : 2 ≤ n ∧ n ≤ 5) (c1_ : ZR 11 0 [.val (.ref (kad n (0, 0, 0))), .val (.int p1)] [] (khp n L σ g) true (.inl (some (.int r1)), khp n L σ g, true)) (h2 : zcnd .eq r1 0 = false) (c3_ : ZR 11 0 [.val (.ref (kad n (0, 0, 0))), .val (.int p2)] [] (khp n L σ g) true (.inl (some (.int r3)), khp n L σ g, true)) (h4 : zcnd .eq r3 0 = false) (h5 : zcnd .ne p1 p2 = true) (z6 : zix p1 n = some x6) (z7 : zix p2 n = some x7) (h8 : p3.toInt = 1) : ZR 32 0 [.val (.ref (kad n (0, 0, 0))), .val (.int p1), .val (.int p2), .val (.int p3), .unset] [] (khp n L σ g) cl (.inl (some (.int (σ (2 * x6) (44 + 24 * x7 + 1)))), khp n L σ (g), cl) := by
  have hM : zmi[32]? = some _ := rfl
  have l6 := (zix_some z6).2.2
  have l7 := (zix_some z7).2.2
  refine zr_fr hM rfl rfl rfl ?_
  refine zr_fr hM rfl rfl rfl ?_
  refine zr_virt (κ := (0, 0, 0)) hn hM rfl rfl rfl rfl rfl rfl rfl rfl rfl ?_
  refine zgo_ret rfl rfl c1_ ?_
  rw [Bool.and_true]
  refine zr_iff hM rfl rfl h2 ?_
  refine zr_fr hM rfl rfl rfl ?_
  refine zr_fr hM rfl rfl rfl ?_
  refine zr_virt (κ := (0, 0, 0)) hn hM rfl rfl rfl rfl rfl rfl rfl rfl rfl ?_
  refine zgo_ret rfl rfl c3_ ?_
  rw [Bool.and_true]
  refine zr_iff hM rfl rfl h4 ?_
  refine zr_fr hM rfl rfl rfl ?_
  refine zr_fr hM rfl rfl rfl ?_
  refine zr_ict hM rfl rfl h5 ?_
  refine zr_fr hM rfl rfl rfl ?_
  refine zr_getf (κ := (0, 0, 0)) hn hM rfl rfl rfl rfl ?_
  refine zr_fr hM rfl rfl rfl ?_
  refine zr_aald (κ := (1, 0, 0)) hn hM rfl rfl rfl rfl z6 ?_
  refine zr_getf (κ := (2, x6, 0)) hn hM rfl (kokT (by omega)) rfl rfl ?_
  refine zr_getf (κ := (3, 2 * x6, 0)) hn hM rfl (kokB rfl (by omega)) rfl rfl ?_
  refine zr_fr hM rfl rfl rfl ?_
  refine zr_aald (κ := (13, 2 * x6, 0)) hn hM rfl (kokB rfl (by omega)) rfl rfl z7 ?_
  refine zr_fr hM rfl rfl rfl ?_
  refine zr_fr hM rfl rfl rfl ?_
  refine zr_swi hM rfl h8 rfl rfl rfl ?_
  refine zr_fr hM rfl rfl rfl ?_
  refine zr_getf (κ := (14, 2 * x6, x7)) hn hM rfl (kokP rfl (by omega) (by omega)) rfl rfl ?_
  exact zr_iret2 hM rfl rfl rfl
set_option maxHeartbeats 4000000 in
theorem s32_0_ft {n L : Nat} {σ : Ks} {g : List Nat} {cl : Bool} {p1 : Int32} {p2 : Int32} {p3 : Int32} {r1 : Int32} {r3 : Int32} (hn : 2 ≤ n ∧ n ≤ 5) (c1_ : ZR 11 0 [.val (.ref (kad n (0, 0, 0))), .val (.int p1)] [] (khp n L σ g) true (.inl (some (.int r1)), khp n L σ g, true)) (h2 : zcnd .eq r1 0 = false) (c3_ : ZR 11 0 [.val (.ref (kad n (0, 0, 0))), .val (.int p2)] [] (khp n L σ g) true (.inl (some (.int r3)), khp n L σ g, true)) (h4 : zcnd .eq r3 0 = true) : ZR 32 0 [.val (.ref (kad n (0, 0, 0))), .val (.int p1), .val (.int p2), .val (.int p3), .unset] [] (khp n L σ g) cl (.inl (some (.int (Int32.ofInt (-1)))), khp n L σ (g), cl) := by
  have hM : zmi[32]? = some _ := rfl
  refine zr_fr hM rfl rfl rfl ?_
  refine zr_fr hM rfl rfl rfl ?_
  refine zr_virt (κ := (0, 0, 0)) hn hM rfl rfl rfl rfl rfl rfl rfl rfl rfl ?_
  refine zgo_ret rfl rfl c1_ ?_
  rw [Bool.and_true]
  refine zr_iff hM rfl rfl h2 ?_
  refine zr_fr hM rfl rfl rfl ?_
  refine zr_fr hM rfl rfl rfl ?_
  refine zr_virt (κ := (0, 0, 0)) hn hM rfl rfl rfl rfl rfl rfl rfl rfl rfl ?_
  refine zgo_ret rfl rfl c3_ ?_
  rw [Bool.and_true]
  refine zr_ift hM rfl rfl h4 ?_
  refine zr_fr hM rfl rfl rfl ?_
  exact zr_iret2 hM rfl rfl rfl
set_option maxHeartbeats 4000000 in
theorem s32_0_t {n L : Nat} {σ : Ks} {g : List Nat} {cl : Bool} {p1 : Int32} {p2 : Int32} {p3 : Int32} {r1 : Int32} (hn : 2 ≤ n ∧ n ≤ 5) (c1_ : ZR 11 0 [.val (.ref (kad n (0, 0, 0))), .val (.int p1)] [] (khp n L σ g) true (.inl (some (.int r1)), khp n L σ g, true)) (h2 : zcnd .eq r1 0 = true) : ZR 32 0 [.val (.ref (kad n (0, 0, 0))), .val (.int p1), .val (.int p2), .val (.int p3), .unset] [] (khp n L σ g) cl (.inl (some (.int (Int32.ofInt (-1)))), khp n L σ (g), cl) := by
  have hM : zmi[32]? = some _ := rfl
  refine zr_fr hM rfl rfl rfl ?_
  refine zr_fr hM rfl rfl rfl ?_
  refine zr_virt (κ := (0, 0, 0)) hn hM rfl rfl rfl rfl rfl rfl rfl rfl rfl ?_
  refine zgo_ret rfl rfl c1_ ?_
  rw [Bool.and_true]
  refine zr_ift hM rfl rfl h2 ?_
  refine zr_fr hM rfl rfl rfl ?_
  exact zr_iret2 hM rfl rfl rfl
set_option maxHeartbeats 4000000 in
theorem s33_0_r {n L : Nat} {σ : Ks} {g : List Nat} {cl : Bool} {b : Nat} {o : Nat} {r1 : Int32} (hn : 2 ≤ n ∧ n ≤ 5) (hb : b < 2 * n) (ho : o < n) (c1_ : ZR 34 0 [.val (.int (σ b (44 + 24 * o + 15)))] [] (khp n L σ g) true (.inl (some (.int r1)), khp n L σ g, true)) : ZR 33 0 [.val (.ref (kad n (14, b, o)))] [] (khp n L σ g) cl (.inl (some (.int ((σ b (44 + 24 * o + 14)) + r1))), khp n L σ (g), cl) := by
  have hM : zmi[33]? = some _ := rfl
  refine zr_fr hM rfl rfl rfl ?_
  refine zr_getf (κ := (14, b, o)) hn hM rfl (kokP rfl (by omega) (by omega)) rfl rfl ?_
  refine zr_fr hM rfl rfl rfl ?_
  refine zr_getf (κ := (14, b, o)) hn hM rfl (kokP rfl (by omega) (by omega)) rfl rfl ?_
  refine zr_stat hM rfl rfl rfl rfl rfl rfl ?_
  refine zgo_ret rfl rfl c1_ ?_
  rw [Bool.and_true]
  refine zr_fr hM rfl rfl rfl ?_
  exact zr_iret2 hM rfl rfl rfl
set_option maxHeartbeats 4000000 in
theorem s34_0_r {n L : Nat} {σ : Ks} {g : List Nat} {cl : Bool} {p1 : Int32} (hn : 2 ≤ n ∧ n ≤ 5) : ZR 34 0 [.val (.int p1)] [] (khp n L σ g) cl (.inl (some (.int ((((((((p1 - (((p1.toUInt32 >>> ((Int32.ofInt 1).toUInt32 &&& Int32.toUInt32 31)).toInt32) &&& (Int32.ofNat 1431655765))) &&& (Int32.ofNat 858993459)) + ((((p1 - (((p1.toUInt32 >>> ((Int32.ofInt 1).toUInt32 &&& Int32.toUInt32 31)).toInt32) &&& (Int32.ofNat 1431655765))).toUInt32 >>> ((Int32.ofInt 2).toUInt32 &&& Int32.toUInt32 31)).toInt32) &&& (Int32.ofNat 858993459))) + (((((p1 - (((p1.toUInt32 >>> ((Int32.ofInt 1).toUInt32 &&& Int32.toUInt32 31)).toInt32) &&& (Int32.ofNat 1431655765))) &&& (Int32.ofNat 858993459)) + ((((p1 - (((p1.toUInt32 >>> ((Int32.ofInt 1).toUInt32 &&& Int32.toUInt32 31)).toInt32) &&& (Int32.ofNat 1431655765))).toUInt32 >>> ((Int32.ofInt 2).toUInt32 &&& Int32.toUInt32 31)).toInt32) &&& (Int32.ofNat 858993459))).toUInt32 >>> ((Int32.ofInt 4).toUInt32 &&& Int32.toUInt32 31)).toInt32)) &&& (Int32.ofNat 252645135)) + (((((((p1 - (((p1.toUInt32 >>> ((Int32.ofInt 1).toUInt32 &&& Int32.toUInt32 31)).toInt32) &&& (Int32.ofNat 1431655765))) &&& (Int32.ofNat 858993459)) + ((((p1 - (((p1.toUInt32 >>> ((Int32.ofInt 1).toUInt32 &&& Int32.toUInt32 31)).toInt32) &&& (Int32.ofNat 1431655765))).toUInt32 >>> ((Int32.ofInt 2).toUInt32 &&& Int32.toUInt32 31)).toInt32) &&& (Int32.ofNat 858993459))) + (((((p1 - (((p1.toUInt32 >>> ((Int32.ofInt 1).toUInt32 &&& Int32.toUInt32 31)).toInt32) &&& (Int32.ofNat 1431655765))) &&& (Int32.ofNat 858993459)) + ((((p1 - (((p1.toUInt32 >>> ((Int32.ofInt 1).toUInt32 &&& Int32.toUInt32 31)).toInt32) &&& (Int32.ofNat 1431655765))).toUInt32 >>> ((Int32.ofInt 2).toUInt32 &&& Int32.toUInt32 31)).toInt32) &&& (Int32.ofNat 858993459))).toUInt32 >>> ((Int32.ofInt 4).toUInt32 &&& Int32.toUInt32 31)).toInt32)) &&& (Int32.ofNat 252645135)).toUInt32 >>> (((Int8.ofInt 8).toInt32).toUInt32 &&& Int32.toUInt32 31)).toInt32)) + ((((((((p1 - (((p1.toUInt32 >>> ((Int32.ofInt 1).toUInt32 &&& Int32.toUInt32 31)).toInt32) &&& (Int32.ofNat 1431655765))) &&& (Int32.ofNat 858993459)) + ((((p1 - (((p1.toUInt32 >>> ((Int32.ofInt 1).toUInt32 &&& Int32.toUInt32 31)).toInt32) &&& (Int32.ofNat 1431655765))).toUInt32 >>> ((Int32.ofInt 2).toUInt32 &&& Int32.toUInt32 31)).toInt32) &&& (Int32.ofNat 858993459))) + (((((p1 - (((p1.toUInt32 >>> ((Int32.ofInt 1).toUInt32 &&& Int32.toUInt32 31)).toInt32) &&& (Int32.ofNat 1431655765))) &&& (Int32.ofNat 858993459)) + ((((p1 - (((p1.toUInt32 >>> ((Int32.ofInt 1).toUInt32 &&& Int32.toUInt32 31)).toInt32) &&& (Int32.ofNat 1431655765))).toUInt32 >>> ((Int32.ofInt 2).toUInt32 &&& Int32.toUInt32 31)).toInt32) &&& (Int32.ofNat 858993459))).toUInt32 >>> ((Int32.ofInt 4).toUInt32 &&& Int32.toUInt32 31)).toInt32)) &&& (Int32.ofNat 252645135)) + (((((((p1 - (((p1.toUInt32 >>> ((Int32.ofInt 1).toUInt32 &&& Int32.toUInt32 31)).toInt32) &&& (Int32.ofNat 1431655765))) &&& (Int32.ofNat 858993459)) + ((((p1 - (((p1.toUInt32 >>> ((Int32.ofInt 1).toUInt32 &&& Int32.toUInt32 31)).toInt32) &&& (Int32.ofNat 1431655765))).toUInt32 >>> ((Int32.ofInt 2).toUInt32 &&& Int32.toUInt32 31)).toInt32) &&& (Int32.ofNat 858993459))) + (((((p1 - (((p1.toUInt32 >>> ((Int32.ofInt 1).toUInt32 &&& Int32.toUInt32 31)).toInt32) &&& (Int32.ofNat 1431655765))) &&& (Int32.ofNat 858993459)) + ((((p1 - (((p1.toUInt32 >>> ((Int32.ofInt 1).toUInt32 &&& Int32.toUInt32 31)).toInt32) &&& (Int32.ofNat 1431655765))).toUInt32 >>> ((Int32.ofInt 2).toUInt32 &&& Int32.toUInt32 31)).toInt32) &&& (Int32.ofNat 858993459))).toUInt32 >>> ((Int32.ofInt 4).toUInt32 &&& Int32.toUInt32 31)).toInt32)) &&& (Int32.ofNat 252645135)).toUInt32 >>> (((Int8.ofInt 8).toInt32).toUInt32 &&& Int32.toUInt32 31)).toInt32)).toUInt32 >>> (((Int8.ofInt 16).toInt32).toUInt32 &&& Int32.toUInt32 31)).toInt32)) &&& ((Int8.ofInt 63).toInt32)))), khp n L σ (g), cl) := by
  have hM : zmi[34]? = some _ := rfl
  refine zr_fr hM rfl rfl rfl ?_
  refine zr_fr hM rfl rfl rfl ?_
  refine zr_fr hM rfl rfl rfl ?_
  refine zr_fr hM rfl rfl rfl ?_
  refine zr_ldcw hM rfl ?_
  refine zr_fr hM rfl rfl rfl ?_
  refine zr_fr hM rfl rfl rfl ?_
  refine zr_fr hM rfl rfl rfl ?_
  refine zr_fr hM rfl rfl rfl ?_
  refine zr_ldcw hM rfl ?_
  refine zr_fr hM rfl rfl rfl ?_
  refine zr_fr hM rfl rfl rfl ?_
  refine zr_fr hM rfl rfl rfl ?_
  refine zr_fr hM rfl rfl rfl ?_
  refine zr_ldcw hM rfl ?_
  refine zr_fr hM rfl rfl rfl ?_
  refine zr_fr hM rfl rfl rfl ?_
  refine zr_fr hM rfl rfl rfl ?_
  refine zr_fr hM rfl rfl rfl ?_
  refine zr_fr hM rfl rfl rfl ?_
  refine zr_fr hM rfl rfl rfl ?_
  refine zr_fr hM rfl rfl rfl ?_
  refine zr_fr hM rfl rfl rfl ?_
  refine zr_ldcw hM rfl ?_
  refine zr_fr hM rfl rfl rfl ?_
  refine zr_fr hM rfl rfl rfl ?_
  refine zr_fr hM rfl rfl rfl ?_
  refine zr_fr hM rfl rfl rfl ?_
  refine zr_fr hM rfl rfl rfl ?_
  refine zr_fr hM rfl rfl rfl ?_
  refine zr_fr hM rfl rfl rfl ?_
  refine zr_fr hM rfl rfl rfl ?_
  refine zr_fr hM rfl rfl rfl ?_
  refine zr_fr hM rfl rfl rfl ?_
  refine zr_fr hM rfl rfl rfl ?_
  refine zr_fr hM rfl rfl rfl ?_
  refine zr_fr hM rfl rfl rfl ?_
  refine zr_fr hM rfl rfl rfl ?_
  refine zr_fr hM rfl rfl rfl ?_
  refine zr_fr hM rfl rfl rfl ?_
  refine zr_fr hM rfl rfl rfl ?_
  exact zr_iret2 hM rfl rfl rfl
set_option maxHeartbeats 4000000 in
theorem s35_0_f {n L : Nat} {σ : Ks} {g : List Nat} {cl : Bool} {p1 : Int32} {p2 : Int32} {r1 : Int32} (hn : 2 ≤ n ∧ n ≤ 5) (c1_ : ZR 31 0 [.val (.int p1)] [] (khp n L σ g) true (.inl (some (.int r1)), khp n L σ g, true)) (h2 : zcnd .ne r1 0 = false) : ZR 35 0 [.val (.ref (kad n (0, 0, 0))), .val (.int p1), .val (.int p2)] [] (khp n L σ g) cl (.inl (some (.int (Int32.ofInt (-1)))), khp n L σ (g), cl) := by
  have hM : zmi[35]? = some _ := rfl
  refine zr_fr hM rfl rfl rfl ?_
  refine zr_stat hM rfl rfl rfl rfl rfl rfl ?_
  refine zgo_ret rfl rfl c1_ ?_
  rw [Bool.and_true]
  refine zr_iff hM rfl rfl h2 ?_
  refine zr_fr hM rfl rfl rfl ?_
  exact zr_iret2 hM rfl rfl rfl
set_option maxHeartbeats 4000000 in
theorem s35_0_ts0_ {n L : Nat} {σ : Ks} {g : List Nat} {cl : Bool} {p1 : Int32} {p2 : Int32} {r1 : Int32} {r4 : Int32} (hn : 2 ≤ n ∧ n ≤ 5) (c1_ : ZR 31 0 [.val (.int p1)] [] (khp n L σ g) true (.inl (some (.int r1)), khp n L σ g, true)) (h2 : zcnd .ne r1 0 = true) (h3 : p2.toInt = 0) (c4_ : ZR 36 0 [.val (.ref (kad n (0, 0, 0))), .val (.int p1), .unset, .unset, .unset, .unset] [] (khp n L σ g) true (.inl (some (.int r4)), khp n L σ g, true)) : ZR 35 0 [.val (.ref (kad n (0, 0, 0))), .val (.int p1), .val (.int p2)] [] (khp n L σ g) cl (.inl (some (.int r4)), khp n L σ (g), cl) := by
  have hM : zmi[35]? = some _ := rfl
  refine zr_fr hM rfl rfl rfl ?_
  refine zr_stat hM rfl rfl rfl rfl rfl rfl ?_
  refine zgo_ret rfl rfl c1_ ?_
  rw [Bool.and_true]
  refine zr_ift hM rfl rfl h2 ?_
  refine zr_fr hM rfl rfl rfl ?_
  refine zr_swi hM rfl h3 rfl rfl rfl ?_
  refine zr_fr hM rfl rfl rfl ?_
  refine zr_fr hM rfl rfl rfl ?_
  refine zr_virt (κ := (0, 0, 0)) hn hM rfl rfl rfl rfl rfl rfl rfl rfl rfl ?_
  refine zgo_ret rfl rfl c4_ ?_
  rw [Bool.and_true]
  exact zr_iret2 hM rfl rfl rfl
set_option maxHeartbeats 4000000 in
theorem s35_0_td {n L : Nat} {σ : Ks} {g : List Nat} {cl : Bool} {p1 : Int32} {p2 : Int32} {r1 : Int32} (hn : 2 ≤ n ∧ n ≤ 5) (c1_ : ZR 31 0 [.val (.int p1)] [] (khp n L σ g) true (.inl (some (.int r1)), khp n L σ g, true)) (h2 : zcnd .ne r1 0 = true) (h3 : p2.toInt < 0 ∨ 2 < p2.toInt) : ZR 35 0 [.val (.ref (kad n (0, 0, 0))), .val (.int p1), .val (.int p2)] [] (khp n L σ g) cl (.inl (some (.int (Int32.ofInt (-1)))), khp n L σ (g), cl) := by
  have hM : zmi[35]? = some _ := rfl
  refine zr_fr hM rfl rfl rfl ?_
  refine zr_stat hM rfl rfl rfl rfl rfl rfl ?_
  refine zgo_ret rfl rfl c1_ ?_
  rw [Bool.and_true]
  refine zr_ift hM rfl rfl h2 ?_
  refine zr_fr hM rfl rfl rfl ?_
  refine zr_swo hM rfl h3 rfl ?_
  refine zr_fr hM rfl rfl rfl ?_
  exact zr_iret2 hM rfl rfl rfl
set_option maxHeartbeats 4000000 in
theorem s35_0_ts2_ {n L : Nat} {σ : Ks} {g : List Nat} {cl : Bool} {p1 : Int32} {p2 : Int32} {r1 : Int32} {x4 : Nat} {x5 : Nat} (hn : 2 ≤ n ∧ n ≤ 5) (c1_ : ZR 31 0 [.val (.int p1)] [] (khp n L σ g) true (.inl (some (.int r1)), khp n L σ g, true)) (h2 : zcnd .ne r1 0 = true) (h3 : p2.toInt = 2) (z4 : zix (Int32.ofInt 0) n = some x4) (z5 : zix p1 4 = some x5) : ZR 35 0 [.val (.ref (kad n (0, 0, 0))), .val (.int p1), .val (.int p2)] [] (khp n L σ g) cl (.inl (some (.int (σ (2 * x4) (12 + x5)))), khp n L σ (g), cl) := by
  have hM : zmi[35]? = some _ := rfl
  have l4 := (zix_some z4).2.2
  have l5 := (zix_some z5).2.2
  refine zr_fr hM rfl rfl rfl ?_
  refine zr_stat hM rfl rfl rfl rfl rfl rfl ?_
  refine zgo_ret rfl rfl c1_ ?_
  rw [Bool.and_true]
  refine zr_ift hM rfl rfl h2 ?_
  refine zr_fr hM rfl rfl rfl ?_
  refine zr_swi hM rfl h3 rfl rfl rfl ?_
  refine zr_fr hM rfl rfl rfl ?_
  refine zr_getf (κ := (0, 0, 0)) hn hM rfl rfl rfl rfl ?_
  refine zr_fr hM rfl rfl rfl ?_
  refine zr_aald (κ := (1, 0, 0)) hn hM rfl rfl rfl rfl z4 ?_
  refine zr_getf (κ := (2, x4, 0)) hn hM rfl (kokT (by omega)) rfl rfl ?_
  refine zr_getf (κ := (3, 2 * x4, 0)) hn hM rfl (kokB rfl (by omega)) rfl rfl ?_
  refine zr_fr hM rfl rfl rfl ?_
  refine zr_iald (κ := (7, 2 * x4, 0)) hn hM rfl (kokB rfl (by omega)) rfl z5 ?_
  exact zr_iret2 hM rfl rfl rfl
set_option maxHeartbeats 4000000 in
theorem s35_0_ts1_ {n L : Nat} {σ : Ks} {g : List Nat} {cl : Bool} {p1 : Int32} {p2 : Int32} {r1 : Int32} {r4 : Int32} {r5 : Int32} (hn : 2 ≤ n ∧ n ≤ 5) (c1_ : ZR 31 0 [.val (.int p1)] [] (khp n L σ g) true (.inl (some (.int r1)), khp n L σ g, true)) (h2 : zcnd .ne r1 0 = true) (h3 : p2.toInt = 1) (c4_ : ZR 36 0 [.val (.ref (kad n (0, 0, 0))), .val (.int p1), .unset, .unset, .unset, .unset] [] (khp n L σ g) true (.inl (some (.int r4)), khp n L σ g, true)) (c5_ : ZR 39 0 [.val (.ref (kad n (0, 0, 0))), .val (.int p1), .unset, .unset] [] (khp n L σ g) true (.inl (some (.int r5)), khp n L σ g, true)) : ZR 35 0 [.val (.ref (kad n (0, 0, 0))), .val (.int p1), .val (.int p2)] [] (khp n L σ g) cl (.inl (some (.int (r4 + r5))), khp n L σ (g), cl) := by
  have hM : zmi[35]? = some _ := rfl
  refine zr_fr hM rfl rfl rfl ?_
  refine zr_stat hM rfl rfl rfl rfl rfl rfl ?_
  refine zgo_ret rfl rfl c1_ ?_
  rw [Bool.and_true]
  refine zr_ift hM rfl rfl h2 ?_
  refine zr_fr hM rfl rfl rfl ?_
  refine zr_swi hM rfl h3 rfl rfl rfl ?_
  refine zr_fr hM rfl rfl rfl ?_
  refine zr_fr hM rfl rfl rfl ?_
  refine zr_virt (κ := (0, 0, 0)) hn hM rfl rfl rfl rfl rfl rfl rfl rfl rfl ?_
  refine zgo_ret rfl rfl c4_ ?_
  rw [Bool.and_true]
  refine zr_fr hM rfl rfl rfl ?_
  refine zr_fr hM rfl rfl rfl ?_
  refine zr_virt (κ := (0, 0, 0)) hn hM rfl rfl rfl rfl rfl rfl rfl rfl rfl ?_
  refine zgo_ret rfl rfl c5_ ?_
  rw [Bool.and_true]
  refine zr_fr hM rfl rfl rfl ?_
  exact zr_iret2 hM rfl rfl rfl
set_option maxHeartbeats 4000000 in
theorem s36_0_r {n L : Nat} {σ : Ks} {g : List Nat} {cl : Bool} {r : Zr} {p1 : Int32} (hn : 2 ≤ n ∧ n ≤ 5) (k : ZR 36 4 [.val (.ref (kad n (0, 0, 0))), .val (.int p1), .val (.int (Int32.ofInt 0)), .val (.int (Int32.ofInt 0)), .unset, .unset] [] (khp n L σ (g)) cl r) : ZR 36 0 [.val (.ref (kad n (0, 0, 0))), .val (.int p1), .unset, .unset, .unset, .unset] [] (khp n L σ g) cl r := by
  have hM : zmi[36]? = some _ := rfl
  refine zr_fr hM rfl rfl rfl ?_
  refine zr_fr hM rfl rfl rfl ?_
  refine zr_fr hM rfl rfl rfl ?_
  refine zr_fr hM rfl rfl rfl ?_
  exact k
set_option maxHeartbeats 4000000 in
theorem s36_4_f {n L : Nat} {σ : Ks} {g : List Nat} {cl : Bool} {r : Zr} {v1 : Int32} {v2 : Int32} {v3 : Int32} {w4 : Option Int32} {w5 : Option Nat} (hn : 2 ≤ n ∧ n ≤ 5) (h1 : zcnd .ge v3 (Int32.ofNat n) = false) (k : ZR 36 16 [.val (.ref (kad n (0, 0, 0))), .val (.int v1), .val (.int v2), .val (.int v3), .val (.int (Int32.ofInt 0)), zopr w5] [] (khp n L σ (g)) cl r) : ZR 36 4 [.val (.ref (kad n (0, 0, 0))), .val (.int v1), .val (.int v2), .val (.int v3), zop w4, zopr w5] [] (khp n L σ g) cl r := by
  have hM : zmi[36]? = some _ := rfl
  refine zr_fr hM rfl rfl rfl ?_
  refine zr_fr hM rfl rfl rfl ?_
  refine zr_getf (κ := (0, 0, 0)) hn hM rfl rfl rfl rfl ?_
  refine zr_alen (κ := (1, 0, 0)) hn hM rfl rfl rfl ?_
  refine zr_icf hM rfl rfl h1 ?_
  refine zr_fr hM rfl rfl rfl ?_
  refine zr_fr (ls' := [.val (.ref (kad n (0, 0, 0))), .val (.int v1), .val (.int v2), .val (.int v3), .val (.int (Int32.ofInt 0)), zopr w5]) hM rfl rfl (by cases w4 <;> rfl) ?_
  exact k
set_option maxHeartbeats 4000000 in
theorem s36_4_t {n L : Nat} {σ : Ks} {g : List Nat} {cl : Bool} {v1 : Int32} {v2 : Int32} {v3 : Int32} {w4 : Option Int32} {w5 : Option Nat} (hn : 2 ≤ n ∧ n ≤ 5) (h1 : zcnd .ge v3 (Int32.ofNat n) = true) : ZR 36 4 [.val (.ref (kad n (0, 0, 0))), .val (.int v1), .val (.int v2), .val (.int v3), zop w4, zopr w5] [] (khp n L σ g) cl (.inl (some (.int v2)), khp n L σ (g), cl) := by
  have hM : zmi[36]? = some _ := rfl
  refine zr_fr hM rfl rfl rfl ?_
  refine zr_fr hM rfl rfl rfl ?_
  refine zr_getf (κ := (0, 0, 0)) hn hM rfl rfl rfl rfl ?_
  refine zr_alen (κ := (1, 0, 0)) hn hM rfl rfl rfl ?_
  refine zr_ict hM rfl rfl h1 ?_
  refine zr_fr hM rfl rfl rfl ?_
  exact zr_iret2 hM rfl rfl rfl
set_option maxHeartbeats 4000000 in
theorem s36_16_f {n L : Nat} {σ : Ks} {g : List Nat} {cl : Bool} {r : Zr} {v1 : Int32} {v2 : Int32} {v3 : Int32} {v4 : Int32} {w5 : Option Nat} {x2 : Nat} {x3 : Nat} {r4 : Int32} (hn : 2 ≤ n ∧ n ≤ 5) (h1 : zcnd .ge v4 (Int32.ofNat n) = false) (z2 : zix v4 n = some x2) (z3 : zix v3 n = some x3) (c4_ : ZR 37 0 [.val (.ref (kad n (14, 2 * x3, x2))), .val (.ref (kad n (14, 2 * x2, x3))), .val (.int v1), .unset, .unset] [] (khp n L σ g) true (.inl (some (.int r4)), khp n L σ g, true)) (k : ZR 36 16 [.val (.ref (kad n (0, 0, 0))), .val (.int v1), .val (.int (v2 + r4)), .val (.int v3), .val (.int (v4 + Int32.ofInt 1)), .val (.ref (kad n (14, 2 * x2, x3)))] [] (khp n L σ (g)) cl r) : ZR 36 16 [.val (.ref (kad n (0, 0, 0))), .val (.int v1), .val (.int v2), .val (.int v3), .val (.int v4), zopr w5] [] (khp n L σ g) cl r := by
  have hM : zmi[36]? = some _ := rfl
  have l2 := (zix_some z2).2.2
  have l3 := (zix_some z3).2.2
  refine zr_fr hM rfl rfl rfl ?_
  refine zr_fr hM rfl rfl rfl ?_
  refine zr_getf (κ := (0, 0, 0)) hn hM rfl rfl rfl rfl ?_
  refine zr_alen (κ := (1, 0, 0)) hn hM rfl rfl rfl ?_
  refine zr_icf hM rfl rfl h1 ?_
  refine zr_fr hM rfl rfl rfl ?_
  refine zr_getf (κ := (0, 0, 0)) hn hM rfl rfl rfl rfl ?_
  refine zr_fr hM rfl rfl rfl ?_
  refine zr_aald (κ := (1, 0, 0)) hn hM rfl rfl rfl rfl z2 ?_
  refine zr_getf (κ := (2, x2, 0)) hn hM rfl (kokT (by omega)) rfl rfl ?_
  refine zr_getf (κ := (3, 2 * x2, 0)) hn hM rfl (kokB rfl (by omega)) rfl rfl ?_
  refine zr_fr hM rfl rfl rfl ?_
  refine zr_aald (κ := (13, 2 * x2, 0)) hn hM rfl (kokB rfl (by omega)) rfl rfl z3 ?_
  refine zr_fr (ls' := [.val (.ref (kad n (0, 0, 0))), .val (.int v1), .val (.int v2), .val (.int v3), .val (.int v4), .val (.ref (kad n (14, 2 * x2, x3)))]) hM rfl rfl (by cases w5 <;> rfl) ?_
  refine zr_fr hM rfl rfl rfl ?_
  refine zr_fr hM rfl rfl rfl ?_
  refine zr_getf (κ := (0, 0, 0)) hn hM rfl rfl rfl rfl ?_
  refine zr_fr hM rfl rfl rfl ?_
  refine zr_aald (κ := (1, 0, 0)) hn hM rfl rfl rfl rfl z3 ?_
  refine zr_getf (κ := (2, x3, 0)) hn hM rfl (kokT (by omega)) rfl rfl ?_
  refine zr_getf (κ := (3, 2 * x3, 0)) hn hM rfl (kokB rfl (by omega)) rfl rfl ?_
  refine zr_fr hM rfl rfl rfl ?_
  refine zr_aald (κ := (13, 2 * x3, 0)) hn hM rfl (kokB rfl (by omega)) rfl rfl z2 ?_
  refine zr_fr hM rfl rfl rfl ?_
  refine zr_fr hM rfl rfl rfl ?_
  refine zr_virt (κ := (14, 2 * x3, x2)) hn hM rfl rfl rfl rfl rfl rfl (kokP rfl (by omega) (by omega)) rfl rfl ?_
  refine zgo_ret rfl rfl c4_ ?_
  rw [Bool.and_true]
  refine zr_fr hM rfl rfl rfl ?_
  refine zr_fr hM rfl rfl rfl ?_
  refine zr_fr hM rfl rfl rfl ?_
  refine zr_fr hM rfl rfl rfl ?_
  exact k
set_option maxHeartbeats 4000000 in
theorem s36_16_t {n L : Nat} {σ : Ks} {g : List Nat} {cl : Bool} {r : Zr} {v1 : Int32} {v2 : Int32} {v3 : Int32} {v4 : Int32} {w5 : Option Nat} (hn : 2 ≤ n ∧ n ≤ 5) (h1 : zcnd .ge v4 (Int32.ofNat n) = true) (k : ZR 36 4 [.val (.ref (kad n (0, 0, 0))), .val (.int v1), .val (.int v2), .val (.int (v3 + Int32.ofInt 1)), .val (.int v4), zopr w5] [] (khp n L σ (g)) cl r) : ZR 36 16 [.val (.ref (kad n (0, 0, 0))), .val (.int v1), .val (.int v2), .val (.int v3), .val (.int v4), zopr w5] [] (khp n L σ g) cl r := by
  have hM : zmi[36]? = some _ := rfl
  refine zr_fr hM rfl rfl rfl ?_
  refine zr_fr hM rfl rfl rfl ?_
  refine zr_getf (κ := (0, 0, 0)) hn hM rfl rfl rfl rfl ?_
  refine zr_alen (κ := (1, 0, 0)) hn hM rfl rfl rfl ?_
  refine zr_ict hM rfl rfl h1 ?_
  refine zr_fr hM rfl rfl rfl ?_
  refine zr_fr hM rfl rfl rfl ?_
  exact k
set_option maxHeartbeats 4000000 in
theorem s37_0_r {n L : Nat} {σ : Ks} {g : List Nat} {cl : Bool} {r : Zr} {b : Nat} {o : Nat} {b2 : Nat} {o2 : Nat} {p1 : Int32} (hn : 2 ≤ n ∧ n ≤ 5) (hb : b < 2 * n) (hb2 : b2 < 2 * n) (ho : o < n) (ho2 : o2 < n) (k : ZR 37 5 [.val (.ref (kad n (14, b, o))), .val (.ref (kad n (14, b2, o2))), .val (.int p1), .val (.int (Int32.ofInt 0)), .val (.int (Int32.ofInt 0))] [] (khp n L σ (g)) cl r) : ZR 37 0 [.val (.ref (kad n (14, b, o))), .val (.ref (kad n (14, b2, o2))), .val (.int p1), .unset, .unset] [] (khp n L σ g) cl r := by
  have hM : zmi[37]? = some _ := rfl
  refine zr_fr hM rfl rfl rfl ?_
  refine zr_fr hM rfl rfl rfl ?_
  refine zr_fr hM rfl rfl rfl ?_
  refine zr_fr hM rfl rfl rfl ?_
  exact k
set_option maxHeartbeats 4000000 in
theorem s37_5_fff {n L : Nat} {σ : Ks} {g : List Nat} {cl : Bool} {r : Zr} {b : Nat} {o : Nat} {b2 : Nat} {o2 : Nat} {v2 : Int32} {v3 : Int32} {v4 : Int32} {x2 : Nat} {r4 : Int32} (hn : 2 ≤ n ∧ n ≤ 5) (hb : b < 2 * n) (hb2 : b2 < 2 * n) (ho : o < n) (ho2 : o2 < n) (h1 : zcnd .ge v4 (σ b (44 + 24 * o + 1)) = false) (z2 : zix v4 4 = some x2) (h3 : zcnd .ne (σ b (44 + 24 * o + 2 + 3 * x2 + 1)) v2 = false) (c4_ : ZR 38 0 [.val (.ref (kad n (14, b2, o2))), .val (.int (σ b (44 + 24 * o + 2 + 3 * x2))), .unset] [] (khp n L σ g) true (.inl (some (.int r4)), khp n L σ g, true)) (h5 : zcnd .ne r4 0 = false) (k : ZR 37 5 [.val (.ref (kad n (14, b, o))), .val (.ref (kad n (14, b2, o2))), .val (.int v2), .val (.int (v3 + (σ b (44 + 24 * o + 2 + 3 * x2 + 2)))), .val (.int (v4 + Int32.ofInt 1))] [] (khp n L σ (g)) cl r) : ZR 37 5 [.val (.ref (kad n (14, b, o))), .val (.ref (kad n (14, b2, o2))), .val (.int v2), .val (.int v3), .val (.int v4)] [] (khp n L σ g) cl r := by
  have hM : zmi[37]? = some _ := rfl
  have l2 := (zix_some z2).2.2
  refine zr_fr hM rfl rfl rfl ?_
  refine zr_fr hM rfl rfl rfl ?_
  refine zr_getf (κ := (14, b, o)) hn hM rfl (kokP rfl (by omega) (by omega)) rfl rfl ?_
  refine zr_icf hM rfl rfl h1 ?_
  refine zr_fr hM rfl rfl rfl ?_
  refine zr_getf (κ := (14, b, o)) hn hM rfl (kokP rfl (by omega) (by omega)) rfl rfl ?_
  refine zr_fr hM rfl rfl rfl ?_
  refine zr_iald (κ := (16, b, o)) hn hM rfl (kokP rfl (by omega) (by omega)) rfl z2 ?_
  refine zr_fr hM rfl rfl rfl ?_
  refine zr_icf hM rfl rfl h3 ?_
  refine zr_fr hM rfl rfl rfl ?_
  refine zr_fr hM rfl rfl rfl ?_
  refine zr_getf (κ := (14, b, o)) hn hM rfl (kokP rfl (by omega) (by omega)) rfl rfl ?_
  refine zr_fr hM rfl rfl rfl ?_
  refine zr_iald (κ := (15, b, o)) hn hM rfl (kokP rfl (by omega) (by omega)) rfl z2 ?_
  refine zr_virt (κ := (14, b2, o2)) hn hM rfl rfl rfl rfl rfl rfl (kokP rfl (by omega) (by omega)) rfl rfl ?_
  refine zgo_ret rfl rfl c4_ ?_
  rw [Bool.and_true]
  refine zr_iff hM rfl rfl h5 ?_
  refine zr_fr hM rfl rfl rfl ?_
  refine zr_fr hM rfl rfl rfl ?_
  refine zr_getf (κ := (14, b, o)) hn hM rfl (kokP rfl (by omega) (by omega)) rfl rfl ?_
  refine zr_fr hM rfl rfl rfl ?_
  refine zr_iald (κ := (17, b, o)) hn hM rfl (kokP rfl (by omega) (by omega)) rfl z2 ?_
  refine zr_fr hM rfl rfl rfl ?_
  refine zr_fr hM rfl rfl rfl ?_
  refine zr_fr hM rfl rfl rfl ?_
  refine zr_fr hM rfl rfl rfl ?_
  exact k
set_option maxHeartbeats 4000000 in
theorem s37_5_fft {n L : Nat} {σ : Ks} {g : List Nat} {cl : Bool} {r : Zr} {b : Nat} {o : Nat} {b2 : Nat} {o2 : Nat} {v2 : Int32} {v3 : Int32} {v4 : Int32} {x2 : Nat} {r4 : Int32} (hn : 2 ≤ n ∧ n ≤ 5) (hb : b < 2 * n) (hb2 : b2 < 2 * n) (ho : o < n) (ho2 : o2 < n) (h1 : zcnd .ge v4 (σ b (44 + 24 * o + 1)) = false) (z2 : zix v4 4 = some x2) (h3 : zcnd .ne (σ b (44 + 24 * o + 2 + 3 * x2 + 1)) v2 = false) (c4_ : ZR 38 0 [.val (.ref (kad n (14, b2, o2))), .val (.int (σ b (44 + 24 * o + 2 + 3 * x2))), .unset] [] (khp n L σ g) true (.inl (some (.int r4)), khp n L σ g, true)) (h5 : zcnd .ne r4 0 = true) (k : ZR 37 5 [.val (.ref (kad n (14, b, o))), .val (.ref (kad n (14, b2, o2))), .val (.int v2), .val (.int v3), .val (.int (v4 + Int32.ofInt 1))] [] (khp n L σ (g)) cl r) : ZR 37 5 [.val (.ref (kad n (14, b, o))), .val (.ref (kad n (14, b2, o2))), .val (.int v2), .val (.int v3), .val (.int v4)] [] (khp n L σ g) cl r := by
  have hM : zmi[37]? = some _ := rfl
  have l2 := (zix_some z2).2.2
  refine zr_fr hM rfl rfl rfl ?_
  refine zr_fr hM rfl rfl rfl ?_
  refine zr_getf (κ := (14, b, o)) hn hM rfl (kokP rfl (by omega) (by omega)) rfl rfl ?_
  refine zr_icf hM rfl rfl h1 ?_
  refine zr_fr hM rfl rfl rfl ?_
  refine zr_getf (κ := (14, b, o)) hn hM rfl (kokP rfl (by omega) (by omega)) rfl rfl ?_
  refine zr_fr hM rfl rfl rfl ?_
  refine zr_iald (κ := (16, b, o)) hn hM rfl (kokP rfl (by omega) (by omega)) rfl z2 ?_
  refine zr_fr hM rfl rfl rfl ?_
  refine zr_icf hM rfl rfl h3 ?_
  refine zr_fr hM rfl rfl rfl ?_
  refine zr_fr hM rfl rfl rfl ?_
  refine zr_getf (κ := (14, b, o)) hn hM rfl (kokP rfl (by omega) (by omega)) rfl rfl ?_
  refine zr_fr hM rfl rfl rfl ?_
  refine zr_iald (κ := (15, b, o)) hn hM rfl (kokP rfl (by omega) (by omega)) rfl z2 ?_
  refine zr_virt (κ := (14, b2, o2)) hn hM rfl rfl rfl rfl rfl rfl (kokP rfl (by omega) (by omega)) rfl rfl ?_
  refine zgo_ret rfl rfl c4_ ?_
  rw [Bool.and_true]
  refine zr_ift hM rfl rfl h5 ?_
  refine zr_fr hM rfl rfl rfl ?_
  refine zr_fr hM rfl rfl rfl ?_
  exact k
set_option maxHeartbeats 4000000 in
theorem s37_5_ft {n L : Nat} {σ : Ks} {g : List Nat} {cl : Bool} {r : Zr} {b : Nat} {o : Nat} {b2 : Nat} {o2 : Nat} {v2 : Int32} {v3 : Int32} {v4 : Int32} {x2 : Nat} (hn : 2 ≤ n ∧ n ≤ 5) (hb : b < 2 * n) (hb2 : b2 < 2 * n) (ho : o < n) (ho2 : o2 < n) (h1 : zcnd .ge v4 (σ b (44 + 24 * o + 1)) = false) (z2 : zix v4 4 = some x2) (h3 : zcnd .ne (σ b (44 + 24 * o + 2 + 3 * x2 + 1)) v2 = true) (k : ZR 37 5 [.val (.ref (kad n (14, b, o))), .val (.ref (kad n (14, b2, o2))), .val (.int v2), .val (.int v3), .val (.int (v4 + Int32.ofInt 1))] [] (khp n L σ (g)) cl r) : ZR 37 5 [.val (.ref (kad n (14, b, o))), .val (.ref (kad n (14, b2, o2))), .val (.int v2), .val (.int v3), .val (.int v4)] [] (khp n L σ g) cl r := by
  have hM : zmi[37]? = some _ := rfl
  have l2 := (zix_some z2).2.2
  refine zr_fr hM rfl rfl rfl ?_
  refine zr_fr hM rfl rfl rfl ?_
  refine zr_getf (κ := (14, b, o)) hn hM rfl (kokP rfl (by omega) (by omega)) rfl rfl ?_
  refine zr_icf hM rfl rfl h1 ?_
  refine zr_fr hM rfl rfl rfl ?_
  refine zr_getf (κ := (14, b, o)) hn hM rfl (kokP rfl (by omega) (by omega)) rfl rfl ?_
  refine zr_fr hM rfl rfl rfl ?_
  refine zr_iald (κ := (16, b, o)) hn hM rfl (kokP rfl (by omega) (by omega)) rfl z2 ?_
  refine zr_fr hM rfl rfl rfl ?_
  refine zr_ict hM rfl rfl h3 ?_
  refine zr_fr hM rfl rfl rfl ?_
  refine zr_fr hM rfl rfl rfl ?_
  exact k
set_option maxHeartbeats 4000000 in
theorem s37_5_t {n L : Nat} {σ : Ks} {g : List Nat} {cl : Bool} {b : Nat} {o : Nat} {b2 : Nat} {o2 : Nat} {v2 : Int32} {v3 : Int32} {v4 : Int32} (hn : 2 ≤ n ∧ n ≤ 5) (hb : b < 2 * n) (hb2 : b2 < 2 * n) (ho : o < n) (ho2 : o2 < n) (h1 : zcnd .ge v4 (σ b (44 + 24 * o + 1)) = true) : ZR 37 5 [.val (.ref (kad n (14, b, o))), .val (.ref (kad n (14, b2, o2))), .val (.int v2), .val (.int v3), .val (.int v4)] [] (khp n L σ g) cl (.inl (some (.int v3)), khp n L σ (g), cl) := by
  have hM : zmi[37]? = some _ := rfl
  refine zr_fr hM rfl rfl rfl ?_
  refine zr_fr hM rfl rfl rfl ?_
  refine zr_getf (κ := (14, b, o)) hn hM rfl (kokP rfl (by omega) (by omega)) rfl rfl ?_
  refine zr_ict hM rfl rfl h1 ?_
  refine zr_fr hM rfl rfl rfl ?_
  exact zr_iret2 hM rfl rfl rfl
set_option maxHeartbeats 4000000 in
theorem s38_0_fff {n L : Nat} {σ : Ks} {g : List Nat} {cl : Bool} {b : Nat} {o : Nat} {p1 : Int32} (hn : 2 ≤ n ∧ n ≤ 5) (hb : b < 2 * n) (ho : o < n) (h1 : zcnd .lt (p1 - (σ b (44 + 24 * o + 14))) 0 = false) (h2 : zcnd .ge (p1 - (σ b (44 + 24 * o + 14))) ((Int8.ofInt 16).toInt32) = false) (h3 : zcnd .eq ((((σ b (44 + 24 * o + 15)).toUInt32 >>> ((p1 - (σ b (44 + 24 * o + 14))).toUInt32 &&& Int32.toUInt32 31)).toInt32) &&& (Int32.ofInt 1)) 0 = false) : ZR 38 0 [.val (.ref (kad n (14, b, o))), .val (.int p1), .unset] [] (khp n L σ g) cl (.inl (some (.int (Int32.ofInt 1))), khp n L σ (g), cl) := by
  have hM : zmi[38]? = some _ := rfl
  refine zr_fr hM rfl rfl rfl ?_
  refine zr_fr hM rfl rfl rfl ?_
  refine zr_getf (κ := (14, b, o)) hn hM rfl (kokP rfl (by omega) (by omega)) rfl rfl ?_
  refine zr_fr hM rfl rfl rfl ?_
  refine zr_fr hM rfl rfl rfl ?_
  refine zr_fr hM rfl rfl rfl ?_
  refine zr_iff hM rfl rfl h1 ?_
  refine zr_fr hM rfl rfl rfl ?_
  refine zr_fr hM rfl rfl rfl ?_
  refine zr_icf hM rfl rfl h2 ?_
  refine zr_fr hM rfl rfl rfl ?_
  refine zr_getf (κ := (14, b, o)) hn hM rfl (kokP rfl (by omega) (by omega)) rfl rfl ?_
  refine zr_fr hM rfl rfl rfl ?_
  refine zr_fr hM rfl rfl rfl ?_
  refine zr_fr hM rfl rfl rfl ?_
  refine zr_fr hM rfl rfl rfl ?_
  refine zr_iff hM rfl rfl h3 ?_
  refine zr_fr hM rfl rfl rfl ?_
  refine zr_fr hM rfl rfl rfl ?_
  exact zr_zret2 hM rfl rfl (by decide) rfl
set_option maxHeartbeats 4000000 in
theorem s38_0_fft {n L : Nat} {σ : Ks} {g : List Nat} {cl : Bool} {b : Nat} {o : Nat} {p1 : Int32} (hn : 2 ≤ n ∧ n ≤ 5) (hb : b < 2 * n) (ho : o < n) (h1 : zcnd .lt (p1 - (σ b (44 + 24 * o + 14))) 0 = false) (h2 : zcnd .ge (p1 - (σ b (44 + 24 * o + 14))) ((Int8.ofInt 16).toInt32) = false) (h3 : zcnd .eq ((((σ b (44 + 24 * o + 15)).toUInt32 >>> ((p1 - (σ b (44 + 24 * o + 14))).toUInt32 &&& Int32.toUInt32 31)).toInt32) &&& (Int32.ofInt 1)) 0 = true) : ZR 38 0 [.val (.ref (kad n (14, b, o))), .val (.int p1), .unset] [] (khp n L σ g) cl (.inl (some (.int (Int32.ofInt 0))), khp n L σ (g), cl) := by
  have hM : zmi[38]? = some _ := rfl
  refine zr_fr hM rfl rfl rfl ?_
  refine zr_fr hM rfl rfl rfl ?_
  refine zr_getf (κ := (14, b, o)) hn hM rfl (kokP rfl (by omega) (by omega)) rfl rfl ?_
  refine zr_fr hM rfl rfl rfl ?_
  refine zr_fr hM rfl rfl rfl ?_
  refine zr_fr hM rfl rfl rfl ?_
  refine zr_iff hM rfl rfl h1 ?_
  refine zr_fr hM rfl rfl rfl ?_
  refine zr_fr hM rfl rfl rfl ?_
  refine zr_icf hM rfl rfl h2 ?_
  refine zr_fr hM rfl rfl rfl ?_
  refine zr_getf (κ := (14, b, o)) hn hM rfl (kokP rfl (by omega) (by omega)) rfl rfl ?_
  refine zr_fr hM rfl rfl rfl ?_
  refine zr_fr hM rfl rfl rfl ?_
  refine zr_fr hM rfl rfl rfl ?_
  refine zr_fr hM rfl rfl rfl ?_
  refine zr_ift hM rfl rfl h3 ?_
  refine zr_fr hM rfl rfl rfl ?_
  exact zr_zret2 hM rfl rfl (by decide) rfl
set_option maxHeartbeats 4000000 in
theorem s38_0_ft {n L : Nat} {σ : Ks} {g : List Nat} {cl : Bool} {b : Nat} {o : Nat} {p1 : Int32} (hn : 2 ≤ n ∧ n ≤ 5) (hb : b < 2 * n) (ho : o < n) (h1 : zcnd .lt (p1 - (σ b (44 + 24 * o + 14))) 0 = false) (h2 : zcnd .ge (p1 - (σ b (44 + 24 * o + 14))) ((Int8.ofInt 16).toInt32) = true) : ZR 38 0 [.val (.ref (kad n (14, b, o))), .val (.int p1), .unset] [] (khp n L σ g) cl (.inl (some (.int (Int32.ofInt 0))), khp n L σ (g), cl) := by
  have hM : zmi[38]? = some _ := rfl
  refine zr_fr hM rfl rfl rfl ?_
  refine zr_fr hM rfl rfl rfl ?_
  refine zr_getf (κ := (14, b, o)) hn hM rfl (kokP rfl (by omega) (by omega)) rfl rfl ?_
  refine zr_fr hM rfl rfl rfl ?_
  refine zr_fr hM rfl rfl rfl ?_
  refine zr_fr hM rfl rfl rfl ?_
  refine zr_iff hM rfl rfl h1 ?_
  refine zr_fr hM rfl rfl rfl ?_
  refine zr_fr hM rfl rfl rfl ?_
  refine zr_ict hM rfl rfl h2 ?_
  refine zr_fr hM rfl rfl rfl ?_
  exact zr_zret2 hM rfl rfl (by decide) rfl
set_option maxHeartbeats 4000000 in
theorem s38_0_t {n L : Nat} {σ : Ks} {g : List Nat} {cl : Bool} {b : Nat} {o : Nat} {p1 : Int32} (hn : 2 ≤ n ∧ n ≤ 5) (hb : b < 2 * n) (ho : o < n) (h1 : zcnd .lt (p1 - (σ b (44 + 24 * o + 14))) 0 = true) : ZR 38 0 [.val (.ref (kad n (14, b, o))), .val (.int p1), .unset] [] (khp n L σ g) cl (.inl (some (.int (Int32.ofInt 1))), khp n L σ (g), cl) := by
  have hM : zmi[38]? = some _ := rfl
  refine zr_fr hM rfl rfl rfl ?_
  refine zr_fr hM rfl rfl rfl ?_
  refine zr_getf (κ := (14, b, o)) hn hM rfl (kokP rfl (by omega) (by omega)) rfl rfl ?_
  refine zr_fr hM rfl rfl rfl ?_
  refine zr_fr hM rfl rfl rfl ?_
  refine zr_fr hM rfl rfl rfl ?_
  refine zr_ift hM rfl rfl h1 ?_
  refine zr_fr hM rfl rfl rfl ?_
  refine zr_fr hM rfl rfl rfl ?_
  exact zr_zret2 hM rfl rfl (by decide) rfl
set_option maxHeartbeats 4000000 in
theorem s39_0_r {n L : Nat} {σ : Ks} {g : List Nat} {cl : Bool} {r : Zr} {p1 : Int32} (hn : 2 ≤ n ∧ n ≤ 5) (k : ZR 39 4 [.val (.ref (kad n (0, 0, 0))), .val (.int p1), .val (.int (Int32.ofInt 0)), .val (.int (Int32.ofInt 0))] [] (khp n L σ (g)) cl r) : ZR 39 0 [.val (.ref (kad n (0, 0, 0))), .val (.int p1), .unset, .unset] [] (khp n L σ g) cl r := by
  have hM : zmi[39]? = some _ := rfl
  refine zr_fr hM rfl rfl rfl ?_
  refine zr_fr hM rfl rfl rfl ?_
  refine zr_fr hM rfl rfl rfl ?_
  refine zr_fr hM rfl rfl rfl ?_
  exact k
set_option maxHeartbeats 4000000 in
theorem s39_4_f {n L : Nat} {σ : Ks} {g : List Nat} {cl : Bool} {r : Zr} {v1 : Int32} {v2 : Int32} {v3 : Int32} {x2 : Nat} {r3 : Int32} (hn : 2 ≤ n ∧ n ≤ 5) (h1 : zcnd .ge v3 (Int32.ofNat n) = false) (z2 : zix v3 n = some x2) (c3_ : ZR 40 0 [.val (.ref (kad n (3, 2 * x2, 0))), .val (.int v1)] [] (khp n L σ g) true (.inl (some (.int r3)), khp n L σ g, true)) (k : ZR 39 4 [.val (.ref (kad n (0, 0, 0))), .val (.int v1), .val (.int (v2 + r3)), .val (.int (v3 + Int32.ofInt 1))] [] (khp n L σ (g)) cl r) : ZR 39 4 [.val (.ref (kad n (0, 0, 0))), .val (.int v1), .val (.int v2), .val (.int v3)] [] (khp n L σ g) cl r := by
  have hM : zmi[39]? = some _ := rfl
  have l2 := (zix_some z2).2.2
  refine zr_fr hM rfl rfl rfl ?_
  refine zr_fr hM rfl rfl rfl ?_
  refine zr_getf (κ := (0, 0, 0)) hn hM rfl rfl rfl rfl ?_
  refine zr_alen (κ := (1, 0, 0)) hn hM rfl rfl rfl ?_
  refine zr_icf hM rfl rfl h1 ?_
  refine zr_fr hM rfl rfl rfl ?_
  refine zr_fr hM rfl rfl rfl ?_
  refine zr_getf (κ := (0, 0, 0)) hn hM rfl rfl rfl rfl ?_
  refine zr_fr hM rfl rfl rfl ?_
  refine zr_aald (κ := (1, 0, 0)) hn hM rfl rfl rfl rfl z2 ?_
  refine zr_getf (κ := (2, x2, 0)) hn hM rfl (kokT (by omega)) rfl rfl ?_
  refine zr_fr hM rfl rfl rfl ?_
  refine zr_virt (κ := (3, 2 * x2, 0)) hn hM rfl rfl rfl rfl rfl rfl (kokB rfl (by omega)) rfl rfl ?_
  refine zgo_ret rfl rfl c3_ ?_
  rw [Bool.and_true]
  refine zr_fr hM rfl rfl rfl ?_
  refine zr_fr hM rfl rfl rfl ?_
  refine zr_fr hM rfl rfl rfl ?_
  refine zr_fr hM rfl rfl rfl ?_
  exact k
set_option maxHeartbeats 4000000 in
theorem s39_4_t {n L : Nat} {σ : Ks} {g : List Nat} {cl : Bool} {v1 : Int32} {v2 : Int32} {v3 : Int32} (hn : 2 ≤ n ∧ n ≤ 5) (h1 : zcnd .ge v3 (Int32.ofNat n) = true) : ZR 39 4 [.val (.ref (kad n (0, 0, 0))), .val (.int v1), .val (.int v2), .val (.int v3)] [] (khp n L σ g) cl (.inl (some (.int v2)), khp n L σ (g), cl) := by
  have hM : zmi[39]? = some _ := rfl
  refine zr_fr hM rfl rfl rfl ?_
  refine zr_fr hM rfl rfl rfl ?_
  refine zr_getf (κ := (0, 0, 0)) hn hM rfl rfl rfl rfl ?_
  refine zr_alen (κ := (1, 0, 0)) hn hM rfl rfl rfl ?_
  refine zr_ict hM rfl rfl h1 ?_
  refine zr_fr hM rfl rfl rfl ?_
  exact zr_iret2 hM rfl rfl rfl
set_option maxHeartbeats 4000000 in
theorem s40_0_r {n L : Nat} {σ : Ks} {g : List Nat} {cl : Bool} {b : Nat} {p1 : Int32} {x1 : Nat} {r2 : Int32} (hn : 2 ≤ n ∧ n ≤ 5) (hb : b < 2 * n) (z1 : zix p1 4 = some x1) (c2_ : ZR 41 0 [.val (.ref (kad n (8, b, 0))), .val (.int p1), .unset, .unset] [] (khp n L σ g) true (.inl (some (.int r2)), khp n L σ g, true)) : ZR 40 0 [.val (.ref (kad n (3, b, 0))), .val (.int p1)] [] (khp n L σ g) cl (.inl (some (.int ((((σ b x1) + (σ b (4 + x1))) + (σ b (8 + x1))) + r2))), khp n L σ (g), cl) := by
  have hM : zmi[40]? = some _ := rfl
  have l1 := (zix_some z1).2.2
  refine zr_fr hM rfl rfl rfl ?_
  refine zr_getf (κ := (3, b, 0)) hn hM rfl (kokB rfl (by omega)) rfl rfl ?_
  refine zr_fr hM rfl rfl rfl ?_
  refine zr_iald (κ := (4, b, 0)) hn hM rfl (kokB rfl (by omega)) rfl z1 ?_
  refine zr_fr hM rfl rfl rfl ?_
  refine zr_getf (κ := (3, b, 0)) hn hM rfl (kokB rfl (by omega)) rfl rfl ?_
  refine zr_fr hM rfl rfl rfl ?_
  refine zr_iald (κ := (5, b, 0)) hn hM rfl (kokB rfl (by omega)) rfl z1 ?_
  refine zr_fr hM rfl rfl rfl ?_
  refine zr_fr hM rfl rfl rfl ?_
  refine zr_getf (κ := (3, b, 0)) hn hM rfl (kokB rfl (by omega)) rfl rfl ?_
  refine zr_fr hM rfl rfl rfl ?_
  refine zr_iald (κ := (6, b, 0)) hn hM rfl (kokB rfl (by omega)) rfl z1 ?_
  refine zr_fr hM rfl rfl rfl ?_
  refine zr_fr hM rfl rfl rfl ?_
  refine zr_getf (κ := (3, b, 0)) hn hM rfl (kokB rfl (by omega)) rfl rfl ?_
  refine zr_fr hM rfl rfl rfl ?_
  refine zr_virt (κ := (8, b, 0)) hn hM rfl rfl rfl rfl rfl rfl (kokB rfl (by omega)) rfl rfl ?_
  refine zgo_ret rfl rfl c2_ ?_
  rw [Bool.and_true]
  refine zr_fr hM rfl rfl rfl ?_
  exact zr_iret2 hM rfl rfl rfl
set_option maxHeartbeats 4000000 in
theorem s41_0_r {n L : Nat} {σ : Ks} {g : List Nat} {cl : Bool} {r : Zr} {b : Nat} {p1 : Int32} (hn : 2 ≤ n ∧ n ≤ 5) (hb : b < 2 * n) (k : ZR 41 4 [.val (.ref (kad n (8, b, 0))), .val (.int p1), .val (.int (Int32.ofInt 0)), .val (.int (Int32.ofInt 0))] [] (khp n L σ (g)) cl r) : ZR 41 0 [.val (.ref (kad n (8, b, 0))), .val (.int p1), .unset, .unset] [] (khp n L σ g) cl r := by
  have hM : zmi[41]? = some _ := rfl
  refine zr_fr hM rfl rfl rfl ?_
  refine zr_fr hM rfl rfl rfl ?_
  refine zr_fr hM rfl rfl rfl ?_
  refine zr_fr hM rfl rfl rfl ?_
  exact k
set_option maxHeartbeats 4000000 in
theorem s41_4_ff {n L : Nat} {σ : Ks} {g : List Nat} {cl : Bool} {r : Zr} {b : Nat} {v1 : Int32} {v2 : Int32} {v3 : Int32} {x2 : Nat} (hn : 2 ≤ n ∧ n ≤ 5) (hb : b < 2 * n) (h1 : zcnd .ge v3 (σ b 19) = false) (z2 : zix v3 6 = some x2) (h3 : zcnd .ne (σ b (20 + 4 * x2 + 1)) v1 = false) (k : ZR 41 4 [.val (.ref (kad n (8, b, 0))), .val (.int v1), .val (.int (v2 + (σ b (20 + 4 * x2 + 2)))), .val (.int (v3 + Int32.ofInt 1))] [] (khp n L σ (g)) cl r) : ZR 41 4 [.val (.ref (kad n (8, b, 0))), .val (.int v1), .val (.int v2), .val (.int v3)] [] (khp n L σ g) cl r := by
  have hM : zmi[41]? = some _ := rfl
  have l2 := (zix_some z2).2.2
  refine zr_fr hM rfl rfl rfl ?_
  refine zr_fr hM rfl rfl rfl ?_
  refine zr_getf (κ := (8, b, 0)) hn hM rfl (kokB rfl (by omega)) rfl rfl ?_
  refine zr_icf hM rfl rfl h1 ?_
  refine zr_fr hM rfl rfl rfl ?_
  refine zr_getf (κ := (8, b, 0)) hn hM rfl (kokB rfl (by omega)) rfl rfl ?_
  refine zr_fr hM rfl rfl rfl ?_
  refine zr_iald (κ := (10, b, 0)) hn hM rfl (kokB rfl (by omega)) rfl z2 ?_
  refine zr_fr hM rfl rfl rfl ?_
  refine zr_icf hM rfl rfl h3 ?_
  refine zr_fr hM rfl rfl rfl ?_
  refine zr_fr hM rfl rfl rfl ?_
  refine zr_getf (κ := (8, b, 0)) hn hM rfl (kokB rfl (by omega)) rfl rfl ?_
  refine zr_fr hM rfl rfl rfl ?_
  refine zr_iald (κ := (11, b, 0)) hn hM rfl (kokB rfl (by omega)) rfl z2 ?_
  refine zr_fr hM rfl rfl rfl ?_
  refine zr_fr hM rfl rfl rfl ?_
  refine zr_fr hM rfl rfl rfl ?_
  refine zr_fr hM rfl rfl rfl ?_
  exact k
set_option maxHeartbeats 4000000 in
theorem s41_4_ft {n L : Nat} {σ : Ks} {g : List Nat} {cl : Bool} {r : Zr} {b : Nat} {v1 : Int32} {v2 : Int32} {v3 : Int32} {x2 : Nat} (hn : 2 ≤ n ∧ n ≤ 5) (hb : b < 2 * n) (h1 : zcnd .ge v3 (σ b 19) = false) (z2 : zix v3 6 = some x2) (h3 : zcnd .ne (σ b (20 + 4 * x2 + 1)) v1 = true) (k : ZR 41 4 [.val (.ref (kad n (8, b, 0))), .val (.int v1), .val (.int v2), .val (.int (v3 + Int32.ofInt 1))] [] (khp n L σ (g)) cl r) : ZR 41 4 [.val (.ref (kad n (8, b, 0))), .val (.int v1), .val (.int v2), .val (.int v3)] [] (khp n L σ g) cl r := by
  have hM : zmi[41]? = some _ := rfl
  have l2 := (zix_some z2).2.2
  refine zr_fr hM rfl rfl rfl ?_
  refine zr_fr hM rfl rfl rfl ?_
  refine zr_getf (κ := (8, b, 0)) hn hM rfl (kokB rfl (by omega)) rfl rfl ?_
  refine zr_icf hM rfl rfl h1 ?_
  refine zr_fr hM rfl rfl rfl ?_
  refine zr_getf (κ := (8, b, 0)) hn hM rfl (kokB rfl (by omega)) rfl rfl ?_
  refine zr_fr hM rfl rfl rfl ?_
  refine zr_iald (κ := (10, b, 0)) hn hM rfl (kokB rfl (by omega)) rfl z2 ?_
  refine zr_fr hM rfl rfl rfl ?_
  refine zr_ict hM rfl rfl h3 ?_
  refine zr_fr hM rfl rfl rfl ?_
  refine zr_fr hM rfl rfl rfl ?_
  exact k
set_option maxHeartbeats 4000000 in
theorem s41_4_t {n L : Nat} {σ : Ks} {g : List Nat} {cl : Bool} {b : Nat} {v1 : Int32} {v2 : Int32} {v3 : Int32} (hn : 2 ≤ n ∧ n ≤ 5) (hb : b < 2 * n) (h1 : zcnd .ge v3 (σ b 19) = true) : ZR 41 4 [.val (.ref (kad n (8, b, 0))), .val (.int v1), .val (.int v2), .val (.int v3)] [] (khp n L σ g) cl (.inl (some (.int v2)), khp n L σ (g), cl) := by
  have hM : zmi[41]? = some _ := rfl
  refine zr_fr hM rfl rfl rfl ?_
  refine zr_fr hM rfl rfl rfl ?_
  refine zr_getf (κ := (8, b, 0)) hn hM rfl (kokB rfl (by omega)) rfl rfl ?_
  refine zr_ict hM rfl rfl h1 ?_
  refine zr_fr hM rfl rfl rfl ?_
  exact zr_iret2 hM rfl rfl rfl
set_option maxHeartbeats 4000000 in
theorem s42_0_ff {n L : Nat} {σ : Ks} {g : List Nat} {cl : Bool} {p1 : Int32} {x3 : Nat} (hn : 2 ≤ n ∧ n ≤ 5) (h1 : zcnd .lt p1 (Int32.ofInt 5) = false) (h2 : zcnd .ge p1 ((Int32.ofInt 5) + (Int32.ofNat n)) = false) (z3 : zix (p1 - (Int32.ofInt 5)) n = some x3) : ZR 42 0 [.val (.ref (kad n (0, 0, 0))), .val (.int p1)] [] (khp n L σ g) cl (.inl (some (.int (σ (2 * x3) 16))), khp n L σ (g), cl) := by
  have hM : zmi[42]? = some _ := rfl
  have l3 := (zix_some z3).2.2
  refine zr_fr hM rfl rfl rfl ?_
  refine zr_fr hM rfl rfl rfl ?_
  refine zr_icf hM rfl rfl h1 ?_
  refine zr_fr hM rfl rfl rfl ?_
  refine zr_fr hM rfl rfl rfl ?_
  refine zr_fr hM rfl rfl rfl ?_
  refine zr_getf (κ := (0, 0, 0)) hn hM rfl rfl rfl rfl ?_
  refine zr_alen (κ := (1, 0, 0)) hn hM rfl rfl rfl ?_
  refine zr_fr hM rfl rfl rfl ?_
  refine zr_icf hM rfl rfl h2 ?_
  refine zr_fr hM rfl rfl rfl ?_
  refine zr_getf (κ := (0, 0, 0)) hn hM rfl rfl rfl rfl ?_
  refine zr_fr hM rfl rfl rfl ?_
  refine zr_fr hM rfl rfl rfl ?_
  refine zr_fr hM rfl rfl rfl ?_
  refine zr_aald (κ := (1, 0, 0)) hn hM rfl rfl rfl rfl z3 ?_
  refine zr_getf (κ := (2, x3, 0)) hn hM rfl (kokT (by omega)) rfl rfl ?_
  refine zr_getf (κ := (3, 2 * x3, 0)) hn hM rfl (kokB rfl (by omega)) rfl rfl ?_
  exact zr_iret2 hM rfl rfl rfl
set_option maxHeartbeats 4000000 in
theorem s42_0_ftfff {n L : Nat} {σ : Ks} {g : List Nat} {cl : Bool} {p1 : Int32} {x5 : Nat} (hn : 2 ≤ n ∧ n ≤ 5) (h1 : zcnd .lt p1 (Int32.ofInt 5) = false) (h2 : zcnd .ge p1 ((Int32.ofInt 5) + (Int32.ofNat n)) = true) (h3 : zcnd .lt p1 ((Int8.ofInt 10).toInt32) = false) (h4 : zcnd .ge p1 (((Int8.ofInt 10).toInt32) + (Int32.ofNat n)) = false) (z5 : zix (p1 - ((Int8.ofInt 10).toInt32)) n = some x5) (h6 : zcnd .eq (σ 10 x5) 0 = false) : ZR 42 0 [.val (.ref (kad n (0, 0, 0))), .val (.int p1)] [] (khp n L σ g) cl (.inl (some (.int (Int32.ofInt 1))), khp n L σ (g), cl) := by
  have hM : zmi[42]? = some _ := rfl
  have l5 := (zix_some z5).2.2
  refine zr_fr hM rfl rfl rfl ?_
  refine zr_fr hM rfl rfl rfl ?_
  refine zr_icf hM rfl rfl h1 ?_
  refine zr_fr hM rfl rfl rfl ?_
  refine zr_fr hM rfl rfl rfl ?_
  refine zr_fr hM rfl rfl rfl ?_
  refine zr_getf (κ := (0, 0, 0)) hn hM rfl rfl rfl rfl ?_
  refine zr_alen (κ := (1, 0, 0)) hn hM rfl rfl rfl ?_
  refine zr_fr hM rfl rfl rfl ?_
  refine zr_ict hM rfl rfl h2 ?_
  refine zr_fr hM rfl rfl rfl ?_
  refine zr_fr hM rfl rfl rfl ?_
  refine zr_icf hM rfl rfl h3 ?_
  refine zr_fr hM rfl rfl rfl ?_
  refine zr_fr hM rfl rfl rfl ?_
  refine zr_fr hM rfl rfl rfl ?_
  refine zr_getf (κ := (0, 0, 0)) hn hM rfl rfl rfl rfl ?_
  refine zr_alen (κ := (1, 0, 0)) hn hM rfl rfl rfl ?_
  refine zr_fr hM rfl rfl rfl ?_
  refine zr_icf hM rfl rfl h4 ?_
  refine zr_fr hM rfl rfl rfl ?_
  refine zr_getf (κ := (0, 0, 0)) hn hM rfl rfl rfl rfl ?_
  refine zr_fr hM rfl rfl rfl ?_
  refine zr_fr hM rfl rfl rfl ?_
  refine zr_fr hM rfl rfl rfl ?_
  refine zr_aald (κ := (1, 0, 0)) hn hM rfl rfl rfl rfl z5 ?_
  refine zr_getf (κ := (2, x5, 0)) hn hM rfl (kokT (by omega)) rfl rfl ?_
  refine zr_iff hM rfl rfl h6 ?_
  refine zr_fr hM rfl rfl rfl ?_
  refine zr_fr hM rfl rfl rfl ?_
  exact zr_iret2 hM rfl rfl rfl
set_option maxHeartbeats 4000000 in
theorem s42_0_ftfft {n L : Nat} {σ : Ks} {g : List Nat} {cl : Bool} {p1 : Int32} {x5 : Nat} (hn : 2 ≤ n ∧ n ≤ 5) (h1 : zcnd .lt p1 (Int32.ofInt 5) = false) (h2 : zcnd .ge p1 ((Int32.ofInt 5) + (Int32.ofNat n)) = true) (h3 : zcnd .lt p1 ((Int8.ofInt 10).toInt32) = false) (h4 : zcnd .ge p1 (((Int8.ofInt 10).toInt32) + (Int32.ofNat n)) = false) (z5 : zix (p1 - ((Int8.ofInt 10).toInt32)) n = some x5) (h6 : zcnd .eq (σ 10 x5) 0 = true) : ZR 42 0 [.val (.ref (kad n (0, 0, 0))), .val (.int p1)] [] (khp n L σ g) cl (.inl (some (.int (Int32.ofInt 0))), khp n L σ (g), cl) := by
  have hM : zmi[42]? = some _ := rfl
  have l5 := (zix_some z5).2.2
  refine zr_fr hM rfl rfl rfl ?_
  refine zr_fr hM rfl rfl rfl ?_
  refine zr_icf hM rfl rfl h1 ?_
  refine zr_fr hM rfl rfl rfl ?_
  refine zr_fr hM rfl rfl rfl ?_
  refine zr_fr hM rfl rfl rfl ?_
  refine zr_getf (κ := (0, 0, 0)) hn hM rfl rfl rfl rfl ?_
  refine zr_alen (κ := (1, 0, 0)) hn hM rfl rfl rfl ?_
  refine zr_fr hM rfl rfl rfl ?_
  refine zr_ict hM rfl rfl h2 ?_
  refine zr_fr hM rfl rfl rfl ?_
  refine zr_fr hM rfl rfl rfl ?_
  refine zr_icf hM rfl rfl h3 ?_
  refine zr_fr hM rfl rfl rfl ?_
  refine zr_fr hM rfl rfl rfl ?_
  refine zr_fr hM rfl rfl rfl ?_
  refine zr_getf (κ := (0, 0, 0)) hn hM rfl rfl rfl rfl ?_
  refine zr_alen (κ := (1, 0, 0)) hn hM rfl rfl rfl ?_
  refine zr_fr hM rfl rfl rfl ?_
  refine zr_icf hM rfl rfl h4 ?_
  refine zr_fr hM rfl rfl rfl ?_
  refine zr_getf (κ := (0, 0, 0)) hn hM rfl rfl rfl rfl ?_
  refine zr_fr hM rfl rfl rfl ?_
  refine zr_fr hM rfl rfl rfl ?_
  refine zr_fr hM rfl rfl rfl ?_
  refine zr_aald (κ := (1, 0, 0)) hn hM rfl rfl rfl rfl z5 ?_
  refine zr_getf (κ := (2, x5, 0)) hn hM rfl (kokT (by omega)) rfl rfl ?_
  refine zr_ift hM rfl rfl h6 ?_
  refine zr_fr hM rfl rfl rfl ?_
  exact zr_iret2 hM rfl rfl rfl
set_option maxHeartbeats 4000000 in
theorem s42_0_ftfts0_ {n L : Nat} {σ : Ks} {g : List Nat} {cl : Bool} {p1 : Int32} (hn : 2 ≤ n ∧ n ≤ 5) (h1 : zcnd .lt p1 (Int32.ofInt 5) = false) (h2 : zcnd .ge p1 ((Int32.ofInt 5) + (Int32.ofNat n)) = true) (h3 : zcnd .lt p1 ((Int8.ofInt 10).toInt32) = false) (h4 : zcnd .ge p1 (((Int8.ofInt 10).toInt32) + (Int32.ofNat n)) = true) (h5 : p1.toInt = 0) : ZR 42 0 [.val (.ref (kad n (0, 0, 0))), .val (.int p1)] [] (khp n L σ g) cl (.inl (some (.int (Int32.ofNat n))), khp n L σ (g), cl) := by
  have hM : zmi[42]? = some _ := rfl
  refine zr_fr hM rfl rfl rfl ?_
  refine zr_fr hM rfl rfl rfl ?_
  refine zr_icf hM rfl rfl h1 ?_
  refine zr_fr hM rfl rfl rfl ?_
  refine zr_fr hM rfl rfl rfl ?_
  refine zr_fr hM rfl rfl rfl ?_
  refine zr_getf (κ := (0, 0, 0)) hn hM rfl rfl rfl rfl ?_
  refine zr_alen (κ := (1, 0, 0)) hn hM rfl rfl rfl ?_
  refine zr_fr hM rfl rfl rfl ?_
  refine zr_ict hM rfl rfl h2 ?_
  refine zr_fr hM rfl rfl rfl ?_
  refine zr_fr hM rfl rfl rfl ?_
  refine zr_icf hM rfl rfl h3 ?_
  refine zr_fr hM rfl rfl rfl ?_
  refine zr_fr hM rfl rfl rfl ?_
  refine zr_fr hM rfl rfl rfl ?_
  refine zr_getf (κ := (0, 0, 0)) hn hM rfl rfl rfl rfl ?_
  refine zr_alen (κ := (1, 0, 0)) hn hM rfl rfl rfl ?_
  refine zr_fr hM rfl rfl rfl ?_
  refine zr_ict hM rfl rfl h4 ?_
  refine zr_fr hM rfl rfl rfl ?_
  refine zr_swi hM rfl h5 rfl rfl rfl ?_
  refine zr_fr hM rfl rfl rfl ?_
  refine zr_getf (κ := (0, 0, 0)) hn hM rfl rfl rfl rfl ?_
  refine zr_alen (κ := (1, 0, 0)) hn hM rfl rfl rfl ?_
  exact zr_iret2 hM rfl rfl rfl
set_option maxHeartbeats 4000000 in
theorem s42_0_ftftd {n L : Nat} {σ : Ks} {g : List Nat} {cl : Bool} {p1 : Int32} (hn : 2 ≤ n ∧ n ≤ 5) (h1 : zcnd .lt p1 (Int32.ofInt 5) = false) (h2 : zcnd .ge p1 ((Int32.ofInt 5) + (Int32.ofNat n)) = true) (h3 : zcnd .lt p1 ((Int8.ofInt 10).toInt32) = false) (h4 : zcnd .ge p1 (((Int8.ofInt 10).toInt32) + (Int32.ofNat n)) = true) (h5 : p1.toInt < 0 ∨ 4 < p1.toInt) : ZR 42 0 [.val (.ref (kad n (0, 0, 0))), .val (.int p1)] [] (khp n L σ g) cl (.inl (some (.int (Int32.ofInt (-1)))), khp n L σ (g), cl) := by
  have hM : zmi[42]? = some _ := rfl
  refine zr_fr hM rfl rfl rfl ?_
  refine zr_fr hM rfl rfl rfl ?_
  refine zr_icf hM rfl rfl h1 ?_
  refine zr_fr hM rfl rfl rfl ?_
  refine zr_fr hM rfl rfl rfl ?_
  refine zr_fr hM rfl rfl rfl ?_
  refine zr_getf (κ := (0, 0, 0)) hn hM rfl rfl rfl rfl ?_
  refine zr_alen (κ := (1, 0, 0)) hn hM rfl rfl rfl ?_
  refine zr_fr hM rfl rfl rfl ?_
  refine zr_ict hM rfl rfl h2 ?_
  refine zr_fr hM rfl rfl rfl ?_
  refine zr_fr hM rfl rfl rfl ?_
  refine zr_icf hM rfl rfl h3 ?_
  refine zr_fr hM rfl rfl rfl ?_
  refine zr_fr hM rfl rfl rfl ?_
  refine zr_fr hM rfl rfl rfl ?_
  refine zr_getf (κ := (0, 0, 0)) hn hM rfl rfl rfl rfl ?_
  refine zr_alen (κ := (1, 0, 0)) hn hM rfl rfl rfl ?_
  refine zr_fr hM rfl rfl rfl ?_
  refine zr_ict hM rfl rfl h4 ?_
  refine zr_fr hM rfl rfl rfl ?_
  refine zr_swo hM rfl h5 rfl ?_
  refine zr_fr hM rfl rfl rfl ?_
  exact zr_iret2 hM rfl rfl rfl
set_option maxHeartbeats 4000000 in
theorem s42_0_ftfts4_ {n L : Nat} {σ : Ks} {g : List Nat} {cl : Bool} {p1 : Int32} {r6 : Int32} (hn : 2 ≤ n ∧ n ≤ 5) (h1 : zcnd .lt p1 (Int32.ofInt 5) = false) (h2 : zcnd .ge p1 ((Int32.ofInt 5) + (Int32.ofNat n)) = true) (h3 : zcnd .lt p1 ((Int8.ofInt 10).toInt32) = false) (h4 : zcnd .ge p1 (((Int8.ofInt 10).toInt32) + (Int32.ofNat n)) = true) (h5 : p1.toInt = 4) (c6_ : ZR 43 0 [.val (.ref (kad n (0, 0, 0))), .unset, .unset, .unset] [] (khp n L σ g) true (.inl (some (.int r6)), khp n L σ g, true)) : ZR 42 0 [.val (.ref (kad n (0, 0, 0))), .val (.int p1)] [] (khp n L σ g) cl (.inl (some (.int r6)), khp n L σ (g), cl) := by
  have hM : zmi[42]? = some _ := rfl
  refine zr_fr hM rfl rfl rfl ?_
  refine zr_fr hM rfl rfl rfl ?_
  refine zr_icf hM rfl rfl h1 ?_
  refine zr_fr hM rfl rfl rfl ?_
  refine zr_fr hM rfl rfl rfl ?_
  refine zr_fr hM rfl rfl rfl ?_
  refine zr_getf (κ := (0, 0, 0)) hn hM rfl rfl rfl rfl ?_
  refine zr_alen (κ := (1, 0, 0)) hn hM rfl rfl rfl ?_
  refine zr_fr hM rfl rfl rfl ?_
  refine zr_ict hM rfl rfl h2 ?_
  refine zr_fr hM rfl rfl rfl ?_
  refine zr_fr hM rfl rfl rfl ?_
  refine zr_icf hM rfl rfl h3 ?_
  refine zr_fr hM rfl rfl rfl ?_
  refine zr_fr hM rfl rfl rfl ?_
  refine zr_fr hM rfl rfl rfl ?_
  refine zr_getf (κ := (0, 0, 0)) hn hM rfl rfl rfl rfl ?_
  refine zr_alen (κ := (1, 0, 0)) hn hM rfl rfl rfl ?_
  refine zr_fr hM rfl rfl rfl ?_
  refine zr_ict hM rfl rfl h4 ?_
  refine zr_fr hM rfl rfl rfl ?_
  refine zr_swi hM rfl h5 rfl rfl rfl ?_
  refine zr_fr hM rfl rfl rfl ?_
  refine zr_virt (κ := (0, 0, 0)) hn hM rfl rfl rfl rfl rfl rfl rfl rfl rfl ?_
  refine zgo_ret rfl rfl c6_ ?_
  rw [Bool.and_true]
  exact zr_iret2 hM rfl rfl rfl
set_option maxHeartbeats 4000000 in
theorem s42_0_ftfts3_ff {n L : Nat} {σ : Ks} {g : List Nat} {cl : Bool} {p1 : Int32} {r6 : Int32} {r8 : Int32} (hn : 2 ≤ n ∧ n ≤ 5) (h1 : zcnd .lt p1 (Int32.ofInt 5) = false) (h2 : zcnd .ge p1 ((Int32.ofInt 5) + (Int32.ofNat n)) = true) (h3 : zcnd .lt p1 ((Int8.ofInt 10).toInt32) = false) (h4 : zcnd .ge p1 (((Int8.ofInt 10).toInt32) + (Int32.ofNat n)) = true) (h5 : p1.toInt = 3) (c6_ : ZR 43 0 [.val (.ref (kad n (0, 0, 0))), .unset, .unset, .unset] [] (khp n L σ g) true (.inl (some (.int r6)), khp n L σ g, true)) (h7 : zcnd .ne r6 0 = false) (c8_ : ZR 44 0 [.val (.ref (kad n (0, 0, 0))), .unset, .unset] [] (khp n L σ g) true (.inl (some (.int r8)), khp n L σ g, true)) (h9 : zcnd .eq r8 0 = false) : ZR 42 0 [.val (.ref (kad n (0, 0, 0))), .val (.int p1)] [] (khp n L σ g) cl (.inl (some (.int (Int32.ofInt 1))), khp n L σ (g), cl) := by
  have hM : zmi[42]? = some _ := rfl
  refine zr_fr hM rfl rfl rfl ?_
  refine zr_fr hM rfl rfl rfl ?_
  refine zr_icf hM rfl rfl h1 ?_
  refine zr_fr hM rfl rfl rfl ?_
  refine zr_fr hM rfl rfl rfl ?_
  refine zr_fr hM rfl rfl rfl ?_
  refine zr_getf (κ := (0, 0, 0)) hn hM rfl rfl rfl rfl ?_
  refine zr_alen (κ := (1, 0, 0)) hn hM rfl rfl rfl ?_
  refine zr_fr hM rfl rfl rfl ?_
  refine zr_ict hM rfl rfl h2 ?_
  refine zr_fr hM rfl rfl rfl ?_
  refine zr_fr hM rfl rfl rfl ?_
  refine zr_icf hM rfl rfl h3 ?_
  refine zr_fr hM rfl rfl rfl ?_
  refine zr_fr hM rfl rfl rfl ?_
  refine zr_fr hM rfl rfl rfl ?_
  refine zr_getf (κ := (0, 0, 0)) hn hM rfl rfl rfl rfl ?_
  refine zr_alen (κ := (1, 0, 0)) hn hM rfl rfl rfl ?_
  refine zr_fr hM rfl rfl rfl ?_
  refine zr_ict hM rfl rfl h4 ?_
  refine zr_fr hM rfl rfl rfl ?_
  refine zr_swi hM rfl h5 rfl rfl rfl ?_
  refine zr_fr hM rfl rfl rfl ?_
  refine zr_virt (κ := (0, 0, 0)) hn hM rfl rfl rfl rfl rfl rfl rfl rfl rfl ?_
  refine zgo_ret rfl rfl c6_ ?_
  rw [Bool.and_true]
  refine zr_iff hM rfl rfl h7 ?_
  refine zr_fr hM rfl rfl rfl ?_
  refine zr_virt (κ := (0, 0, 0)) hn hM rfl rfl rfl rfl rfl rfl rfl rfl rfl ?_
  refine zgo_ret rfl rfl c8_ ?_
  rw [Bool.and_true]
  refine zr_iff hM rfl rfl h9 ?_
  refine zr_fr hM rfl rfl rfl ?_
  refine zr_fr hM rfl rfl rfl ?_
  exact zr_iret2 hM rfl rfl rfl
set_option maxHeartbeats 4000000 in
theorem s42_0_ftfts3_ft {n L : Nat} {σ : Ks} {g : List Nat} {cl : Bool} {p1 : Int32} {r6 : Int32} {r8 : Int32} (hn : 2 ≤ n ∧ n ≤ 5) (h1 : zcnd .lt p1 (Int32.ofInt 5) = false) (h2 : zcnd .ge p1 ((Int32.ofInt 5) + (Int32.ofNat n)) = true) (h3 : zcnd .lt p1 ((Int8.ofInt 10).toInt32) = false) (h4 : zcnd .ge p1 (((Int8.ofInt 10).toInt32) + (Int32.ofNat n)) = true) (h5 : p1.toInt = 3) (c6_ : ZR 43 0 [.val (.ref (kad n (0, 0, 0))), .unset, .unset, .unset] [] (khp n L σ g) true (.inl (some (.int r6)), khp n L σ g, true)) (h7 : zcnd .ne r6 0 = false) (c8_ : ZR 44 0 [.val (.ref (kad n (0, 0, 0))), .unset, .unset] [] (khp n L σ g) true (.inl (some (.int r8)), khp n L σ g, true)) (h9 : zcnd .eq r8 0 = true) : ZR 42 0 [.val (.ref (kad n (0, 0, 0))), .val (.int p1)] [] (khp n L σ g) cl (.inl (some (.int (Int32.ofInt 0))), khp n L σ (g), cl) := by
  have hM : zmi[42]? = some _ := rfl
  refine zr_fr hM rfl rfl rfl ?_
  refine zr_fr hM rfl rfl rfl ?_
  refine zr_icf hM rfl rfl h1 ?_
  refine zr_fr hM rfl rfl rfl ?_
  refine zr_fr hM rfl rfl rfl ?_
  refine zr_fr hM rfl rfl rfl ?_
  refine zr_getf (κ := (0, 0, 0)) hn hM rfl rfl rfl rfl ?_
  refine zr_alen (κ := (1, 0, 0)) hn hM rfl rfl rfl ?_
  refine zr_fr hM rfl rfl rfl ?_
  refine zr_ict hM rfl rfl h2 ?_
  refine zr_fr hM rfl rfl rfl ?_
  refine zr_fr hM rfl rfl rfl ?_
  refine zr_icf hM rfl rfl h3 ?_
  refine zr_fr hM rfl rfl rfl ?_
  refine zr_fr hM rfl rfl rfl ?_
  refine zr_fr hM rfl rfl rfl ?_
  refine zr_getf (κ := (0, 0, 0)) hn hM rfl rfl rfl rfl ?_
  refine zr_alen (κ := (1, 0, 0)) hn hM rfl rfl rfl ?_
  refine zr_fr hM rfl rfl rfl ?_
  refine zr_ict hM rfl rfl h4 ?_
  refine zr_fr hM rfl rfl rfl ?_
  refine zr_swi hM rfl h5 rfl rfl rfl ?_
  refine zr_fr hM rfl rfl rfl ?_
  refine zr_virt (κ := (0, 0, 0)) hn hM rfl rfl rfl rfl rfl rfl rfl rfl rfl ?_
  refine zgo_ret rfl rfl c6_ ?_
  rw [Bool.and_true]
  refine zr_iff hM rfl rfl h7 ?_
  refine zr_fr hM rfl rfl rfl ?_
  refine zr_virt (κ := (0, 0, 0)) hn hM rfl rfl rfl rfl rfl rfl rfl rfl rfl ?_
  refine zgo_ret rfl rfl c8_ ?_
  rw [Bool.and_true]
  refine zr_ift hM rfl rfl h9 ?_
  refine zr_fr hM rfl rfl rfl ?_
  exact zr_iret2 hM rfl rfl rfl
set_option maxHeartbeats 4000000 in
theorem s42_0_ftfts3_t {n L : Nat} {σ : Ks} {g : List Nat} {cl : Bool} {p1 : Int32} {r6 : Int32} (hn : 2 ≤ n ∧ n ≤ 5) (h1 : zcnd .lt p1 (Int32.ofInt 5) = false) (h2 : zcnd .ge p1 ((Int32.ofInt 5) + (Int32.ofNat n)) = true) (h3 : zcnd .lt p1 ((Int8.ofInt 10).toInt32) = false) (h4 : zcnd .ge p1 (((Int8.ofInt 10).toInt32) + (Int32.ofNat n)) = true) (h5 : p1.toInt = 3) (c6_ : ZR 43 0 [.val (.ref (kad n (0, 0, 0))), .unset, .unset, .unset] [] (khp n L σ g) true (.inl (some (.int r6)), khp n L σ g, true)) (h7 : zcnd .ne r6 0 = true) : ZR 42 0 [.val (.ref (kad n (0, 0, 0))), .val (.int p1)] [] (khp n L σ g) cl (.inl (some (.int (Int32.ofInt 0))), khp n L σ (g), cl) := by
  have hM : zmi[42]? = some _ := rfl
  refine zr_fr hM rfl rfl rfl ?_
  refine zr_fr hM rfl rfl rfl ?_
  refine zr_icf hM rfl rfl h1 ?_
  refine zr_fr hM rfl rfl rfl ?_
  refine zr_fr hM rfl rfl rfl ?_
  refine zr_fr hM rfl rfl rfl ?_
  refine zr_getf (κ := (0, 0, 0)) hn hM rfl rfl rfl rfl ?_
  refine zr_alen (κ := (1, 0, 0)) hn hM rfl rfl rfl ?_
  refine zr_fr hM rfl rfl rfl ?_
  refine zr_ict hM rfl rfl h2 ?_
  refine zr_fr hM rfl rfl rfl ?_
  refine zr_fr hM rfl rfl rfl ?_
  refine zr_icf hM rfl rfl h3 ?_
  refine zr_fr hM rfl rfl rfl ?_
  refine zr_fr hM rfl rfl rfl ?_
  refine zr_fr hM rfl rfl rfl ?_
  refine zr_getf (κ := (0, 0, 0)) hn hM rfl rfl rfl rfl ?_
  refine zr_alen (κ := (1, 0, 0)) hn hM rfl rfl rfl ?_
  refine zr_fr hM rfl rfl rfl ?_
  refine zr_ict hM rfl rfl h4 ?_
  refine zr_fr hM rfl rfl rfl ?_
  refine zr_swi hM rfl h5 rfl rfl rfl ?_
  refine zr_fr hM rfl rfl rfl ?_
  refine zr_virt (κ := (0, 0, 0)) hn hM rfl rfl rfl rfl rfl rfl rfl rfl rfl ?_
  refine zgo_ret rfl rfl c6_ ?_
  rw [Bool.and_true]
  refine zr_ift hM rfl rfl h7 ?_
  refine zr_fr hM rfl rfl rfl ?_
  exact zr_iret2 hM rfl rfl rfl
set_option maxHeartbeats 4000000 in
theorem s42_0_ftfts2_ {n L : Nat} {σ : Ks} {g : List Nat} {cl : Bool} {p1 : Int32} (hn : 2 ≤ n ∧ n ≤ 5) (h1 : zcnd .lt p1 (Int32.ofInt 5) = false) (h2 : zcnd .ge p1 ((Int32.ofInt 5) + (Int32.ofNat n)) = true) (h3 : zcnd .lt p1 ((Int8.ofInt 10).toInt32) = false) (h4 : zcnd .ge p1 (((Int8.ofInt 10).toInt32) + (Int32.ofNat n)) = true) (h5 : p1.toInt = 2) : ZR 42 0 [.val (.ref (kad n (0, 0, 0))), .val (.int p1)] [] (khp n L σ g) cl (.inl (some (.int (σ 12 1))), khp n L σ (g), cl) := by
  have hM : zmi[42]? = some _ := rfl
  refine zr_fr hM rfl rfl rfl ?_
  refine zr_fr hM rfl rfl rfl ?_
  refine zr_icf hM rfl rfl h1 ?_
  refine zr_fr hM rfl rfl rfl ?_
  refine zr_fr hM rfl rfl rfl ?_
  refine zr_fr hM rfl rfl rfl ?_
  refine zr_getf (κ := (0, 0, 0)) hn hM rfl rfl rfl rfl ?_
  refine zr_alen (κ := (1, 0, 0)) hn hM rfl rfl rfl ?_
  refine zr_fr hM rfl rfl rfl ?_
  refine zr_ict hM rfl rfl h2 ?_
  refine zr_fr hM rfl rfl rfl ?_
  refine zr_fr hM rfl rfl rfl ?_
  refine zr_icf hM rfl rfl h3 ?_
  refine zr_fr hM rfl rfl rfl ?_
  refine zr_fr hM rfl rfl rfl ?_
  refine zr_fr hM rfl rfl rfl ?_
  refine zr_getf (κ := (0, 0, 0)) hn hM rfl rfl rfl rfl ?_
  refine zr_alen (κ := (1, 0, 0)) hn hM rfl rfl rfl ?_
  refine zr_fr hM rfl rfl rfl ?_
  refine zr_ict hM rfl rfl h4 ?_
  refine zr_fr hM rfl rfl rfl ?_
  refine zr_swi hM rfl h5 rfl rfl rfl ?_
  refine zr_fr hM rfl rfl rfl ?_
  refine zr_getf (κ := (0, 0, 0)) hn hM rfl rfl rfl rfl ?_
  refine zr_getf (κ := (20, 0, 0)) hn hM rfl rfl rfl rfl ?_
  exact zr_iret2 hM rfl rfl rfl
set_option maxHeartbeats 4000000 in
theorem s42_0_ftfts1_ {n L : Nat} {σ : Ks} {g : List Nat} {cl : Bool} {p1 : Int32} (hn : 2 ≤ n ∧ n ≤ 5) (h1 : zcnd .lt p1 (Int32.ofInt 5) = false) (h2 : zcnd .ge p1 ((Int32.ofInt 5) + (Int32.ofNat n)) = true) (h3 : zcnd .lt p1 ((Int8.ofInt 10).toInt32) = false) (h4 : zcnd .ge p1 (((Int8.ofInt 10).toInt32) + (Int32.ofNat n)) = true) (h5 : p1.toInt = 1) : ZR 42 0 [.val (.ref (kad n (0, 0, 0))), .val (.int p1)] [] (khp n L σ g) cl (.inl (some (.int (σ 12 0))), khp n L σ (g), cl) := by
  have hM : zmi[42]? = some _ := rfl
  refine zr_fr hM rfl rfl rfl ?_
  refine zr_fr hM rfl rfl rfl ?_
  refine zr_icf hM rfl rfl h1 ?_
  refine zr_fr hM rfl rfl rfl ?_
  refine zr_fr hM rfl rfl rfl ?_
  refine zr_fr hM rfl rfl rfl ?_
  refine zr_getf (κ := (0, 0, 0)) hn hM rfl rfl rfl rfl ?_
  refine zr_alen (κ := (1, 0, 0)) hn hM rfl rfl rfl ?_
  refine zr_fr hM rfl rfl rfl ?_
  refine zr_ict hM rfl rfl h2 ?_
  refine zr_fr hM rfl rfl rfl ?_
  refine zr_fr hM rfl rfl rfl ?_
  refine zr_icf hM rfl rfl h3 ?_
  refine zr_fr hM rfl rfl rfl ?_
  refine zr_fr hM rfl rfl rfl ?_
  refine zr_fr hM rfl rfl rfl ?_
  refine zr_getf (κ := (0, 0, 0)) hn hM rfl rfl rfl rfl ?_
  refine zr_alen (κ := (1, 0, 0)) hn hM rfl rfl rfl ?_
  refine zr_fr hM rfl rfl rfl ?_
  refine zr_ict hM rfl rfl h4 ?_
  refine zr_fr hM rfl rfl rfl ?_
  refine zr_swi hM rfl h5 rfl rfl rfl ?_
  refine zr_fr hM rfl rfl rfl ?_
  refine zr_getf (κ := (0, 0, 0)) hn hM rfl rfl rfl rfl ?_
  refine zr_getf (κ := (20, 0, 0)) hn hM rfl rfl rfl rfl ?_
  exact zr_iret2 hM rfl rfl rfl
set_option maxHeartbeats 4000000 in
theorem s42_0_ftts0_ {n L : Nat} {σ : Ks} {g : List Nat} {cl : Bool} {p1 : Int32} (hn : 2 ≤ n ∧ n ≤ 5) (h1 : zcnd .lt p1 (Int32.ofInt 5) = false) (h2 : zcnd .ge p1 ((Int32.ofInt 5) + (Int32.ofNat n)) = true) (h3 : zcnd .lt p1 ((Int8.ofInt 10).toInt32) = true) (h4 : p1.toInt = 0) : ZR 42 0 [.val (.ref (kad n (0, 0, 0))), .val (.int p1)] [] (khp n L σ g) cl (.inl (some (.int (Int32.ofNat n))), khp n L σ (g), cl) := by
  have hM : zmi[42]? = some _ := rfl
  refine zr_fr hM rfl rfl rfl ?_
  refine zr_fr hM rfl rfl rfl ?_
  refine zr_icf hM rfl rfl h1 ?_
  refine zr_fr hM rfl rfl rfl ?_
  refine zr_fr hM rfl rfl rfl ?_
  refine zr_fr hM rfl rfl rfl ?_
  refine zr_getf (κ := (0, 0, 0)) hn hM rfl rfl rfl rfl ?_
  refine zr_alen (κ := (1, 0, 0)) hn hM rfl rfl rfl ?_
  refine zr_fr hM rfl rfl rfl ?_
  refine zr_ict hM rfl rfl h2 ?_
  refine zr_fr hM rfl rfl rfl ?_
  refine zr_fr hM rfl rfl rfl ?_
  refine zr_ict hM rfl rfl h3 ?_
  refine zr_fr hM rfl rfl rfl ?_
  refine zr_swi hM rfl h4 rfl rfl rfl ?_
  refine zr_fr hM rfl rfl rfl ?_
  refine zr_getf (κ := (0, 0, 0)) hn hM rfl rfl rfl rfl ?_
  refine zr_alen (κ := (1, 0, 0)) hn hM rfl rfl rfl ?_
  exact zr_iret2 hM rfl rfl rfl
set_option maxHeartbeats 4000000 in
theorem s42_0_fttd {n L : Nat} {σ : Ks} {g : List Nat} {cl : Bool} {p1 : Int32} (hn : 2 ≤ n ∧ n ≤ 5) (h1 : zcnd .lt p1 (Int32.ofInt 5) = false) (h2 : zcnd .ge p1 ((Int32.ofInt 5) + (Int32.ofNat n)) = true) (h3 : zcnd .lt p1 ((Int8.ofInt 10).toInt32) = true) (h4 : p1.toInt < 0 ∨ 4 < p1.toInt) : ZR 42 0 [.val (.ref (kad n (0, 0, 0))), .val (.int p1)] [] (khp n L σ g) cl (.inl (some (.int (Int32.ofInt (-1)))), khp n L σ (g), cl) := by
  have hM : zmi[42]? = some _ := rfl
  refine zr_fr hM rfl rfl rfl ?_
  refine zr_fr hM rfl rfl rfl ?_
  refine zr_icf hM rfl rfl h1 ?_
  refine zr_fr hM rfl rfl rfl ?_
  refine zr_fr hM rfl rfl rfl ?_
  refine zr_fr hM rfl rfl rfl ?_
  refine zr_getf (κ := (0, 0, 0)) hn hM rfl rfl rfl rfl ?_
  refine zr_alen (κ := (1, 0, 0)) hn hM rfl rfl rfl ?_
  refine zr_fr hM rfl rfl rfl ?_
  refine zr_ict hM rfl rfl h2 ?_
  refine zr_fr hM rfl rfl rfl ?_
  refine zr_fr hM rfl rfl rfl ?_
  refine zr_ict hM rfl rfl h3 ?_
  refine zr_fr hM rfl rfl rfl ?_
  refine zr_swo hM rfl h4 rfl ?_
  refine zr_fr hM rfl rfl rfl ?_
  exact zr_iret2 hM rfl rfl rfl
set_option maxHeartbeats 4000000 in
theorem s42_0_ftts4_ {n L : Nat} {σ : Ks} {g : List Nat} {cl : Bool} {p1 : Int32} {r5 : Int32} (hn : 2 ≤ n ∧ n ≤ 5) (h1 : zcnd .lt p1 (Int32.ofInt 5) = false) (h2 : zcnd .ge p1 ((Int32.ofInt 5) + (Int32.ofNat n)) = true) (h3 : zcnd .lt p1 ((Int8.ofInt 10).toInt32) = true) (h4 : p1.toInt = 4) (c5_ : ZR 43 0 [.val (.ref (kad n (0, 0, 0))), .unset, .unset, .unset] [] (khp n L σ g) true (.inl (some (.int r5)), khp n L σ g, true)) : ZR 42 0 [.val (.ref (kad n (0, 0, 0))), .val (.int p1)] [] (khp n L σ g) cl (.inl (some (.int r5)), khp n L σ (g), cl) := by
  have hM : zmi[42]? = some _ := rfl
  refine zr_fr hM rfl rfl rfl ?_
  refine zr_fr hM rfl rfl rfl ?_
  refine zr_icf hM rfl rfl h1 ?_
  refine zr_fr hM rfl rfl rfl ?_
  refine zr_fr hM rfl rfl rfl ?_
  refine zr_fr hM rfl rfl rfl ?_
  refine zr_getf (κ := (0, 0, 0)) hn hM rfl rfl rfl rfl ?_
  refine zr_alen (κ := (1, 0, 0)) hn hM rfl rfl rfl ?_
  refine zr_fr hM rfl rfl rfl ?_
  refine zr_ict hM rfl rfl h2 ?_
  refine zr_fr hM rfl rfl rfl ?_
  refine zr_fr hM rfl rfl rfl ?_
  refine zr_ict hM rfl rfl h3 ?_
  refine zr_fr hM rfl rfl rfl ?_
  refine zr_swi hM rfl h4 rfl rfl rfl ?_
  refine zr_fr hM rfl rfl rfl ?_
  refine zr_virt (κ := (0, 0, 0)) hn hM rfl rfl rfl rfl rfl rfl rfl rfl rfl ?_
  refine zgo_ret rfl rfl c5_ ?_
  rw [Bool.and_true]
  exact zr_iret2 hM rfl rfl rfl
set_option maxHeartbeats 4000000 in
theorem s42_0_ftts3_ff {n L : Nat} {σ : Ks} {g : List Nat} {cl : Bool} {p1 : Int32} {r5 : Int32} {r7 : Int32} (hn : 2 ≤ n ∧ n ≤ 5) (h1 : zcnd .lt p1 (Int32.ofInt 5) = false) (h2 : zcnd .ge p1 ((Int32.ofInt 5) + (Int32.ofNat n)) = true) (h3 : zcnd .lt p1 ((Int8.ofInt 10).toInt32) = true) (h4 : p1.toInt = 3) (c5_ : ZR 43 0 [.val (.ref (kad n (0, 0, 0))), .unset, .unset, .unset] [] (khp n L σ g) true (.inl (some (.int r5)), khp n L σ g, true)) (h6 : zcnd .ne r5 0 = false) (c7_ : ZR 44 0 [.val (.ref (kad n (0, 0, 0))), .unset, .unset] [] (khp n L σ g) true (.inl (some (.int r7)), khp n L σ g, true)) (h8 : zcnd .eq r7 0 = false) : ZR 42 0 [.val (.ref (kad n (0, 0, 0))), .val (.int p1)] [] (khp n L σ g) cl (.inl (some (.int (Int32.ofInt 1))), khp n L σ (g), cl) := by
  have hM : zmi[42]? = some _ := rfl
  refine zr_fr hM rfl rfl rfl ?_
  refine zr_fr hM rfl rfl rfl ?_
  refine zr_icf hM rfl rfl h1 ?_
  refine zr_fr hM rfl rfl rfl ?_
  refine zr_fr hM rfl rfl rfl ?_
  refine zr_fr hM rfl rfl rfl ?_
  refine zr_getf (κ := (0, 0, 0)) hn hM rfl rfl rfl rfl ?_
  refine zr_alen (κ := (1, 0, 0)) hn hM rfl rfl rfl ?_
  refine zr_fr hM rfl rfl rfl ?_
  refine zr_ict hM rfl rfl h2 ?_
  refine zr_fr hM rfl rfl rfl ?_
  refine zr_fr hM rfl rfl rfl ?_
  refine zr_ict hM rfl rfl h3 ?_
  refine zr_fr hM rfl rfl rfl ?_
  refine zr_swi hM rfl h4 rfl rfl rfl ?_
  refine zr_fr hM rfl rfl rfl ?_
  refine zr_virt (κ := (0, 0, 0)) hn hM rfl rfl rfl rfl rfl rfl rfl rfl rfl ?_
  refine zgo_ret rfl rfl c5_ ?_
  rw [Bool.and_true]
  refine zr_iff hM rfl rfl h6 ?_
  refine zr_fr hM rfl rfl rfl ?_
  refine zr_virt (κ := (0, 0, 0)) hn hM rfl rfl rfl rfl rfl rfl rfl rfl rfl ?_
  refine zgo_ret rfl rfl c7_ ?_
  rw [Bool.and_true]
  refine zr_iff hM rfl rfl h8 ?_
  refine zr_fr hM rfl rfl rfl ?_
  refine zr_fr hM rfl rfl rfl ?_
  exact zr_iret2 hM rfl rfl rfl
set_option maxHeartbeats 4000000 in
theorem s42_0_ftts3_ft {n L : Nat} {σ : Ks} {g : List Nat} {cl : Bool} {p1 : Int32} {r5 : Int32} {r7 : Int32} (hn : 2 ≤ n ∧ n ≤ 5) (h1 : zcnd .lt p1 (Int32.ofInt 5) = false) (h2 : zcnd .ge p1 ((Int32.ofInt 5) + (Int32.ofNat n)) = true) (h3 : zcnd .lt p1 ((Int8.ofInt 10).toInt32) = true) (h4 : p1.toInt = 3) (c5_ : ZR 43 0 [.val (.ref (kad n (0, 0, 0))), .unset, .unset, .unset] [] (khp n L σ g) true (.inl (some (.int r5)), khp n L σ g, true)) (h6 : zcnd .ne r5 0 = false) (c7_ : ZR 44 0 [.val (.ref (kad n (0, 0, 0))), .unset, .unset] [] (khp n L σ g) true (.inl (some (.int r7)), khp n L σ g, true)) (h8 : zcnd .eq r7 0 = true) : ZR 42 0 [.val (.ref (kad n (0, 0, 0))), .val (.int p1)] [] (khp n L σ g) cl (.inl (some (.int (Int32.ofInt 0))), khp n L σ (g), cl) := by
  have hM : zmi[42]? = some _ := rfl
  refine zr_fr hM rfl rfl rfl ?_
  refine zr_fr hM rfl rfl rfl ?_
  refine zr_icf hM rfl rfl h1 ?_
  refine zr_fr hM rfl rfl rfl ?_
  refine zr_fr hM rfl rfl rfl ?_
  refine zr_fr hM rfl rfl rfl ?_
  refine zr_getf (κ := (0, 0, 0)) hn hM rfl rfl rfl rfl ?_
  refine zr_alen (κ := (1, 0, 0)) hn hM rfl rfl rfl ?_
  refine zr_fr hM rfl rfl rfl ?_
  refine zr_ict hM rfl rfl h2 ?_
  refine zr_fr hM rfl rfl rfl ?_
  refine zr_fr hM rfl rfl rfl ?_
  refine zr_ict hM rfl rfl h3 ?_
  refine zr_fr hM rfl rfl rfl ?_
  refine zr_swi hM rfl h4 rfl rfl rfl ?_
  refine zr_fr hM rfl rfl rfl ?_
  refine zr_virt (κ := (0, 0, 0)) hn hM rfl rfl rfl rfl rfl rfl rfl rfl rfl ?_
  refine zgo_ret rfl rfl c5_ ?_
  rw [Bool.and_true]
  refine zr_iff hM rfl rfl h6 ?_
  refine zr_fr hM rfl rfl rfl ?_
  refine zr_virt (κ := (0, 0, 0)) hn hM rfl rfl rfl rfl rfl rfl rfl rfl rfl ?_
  refine zgo_ret rfl rfl c7_ ?_
  rw [Bool.and_true]
  refine zr_ift hM rfl rfl h8 ?_
  refine zr_fr hM rfl rfl rfl ?_
  exact zr_iret2 hM rfl rfl rfl
set_option maxHeartbeats 4000000 in
theorem s42_0_ftts3_t {n L : Nat} {σ : Ks} {g : List Nat} {cl : Bool} {p1 : Int32} {r5 : Int32} (hn : 2 ≤ n ∧ n ≤ 5) (h1 : zcnd .lt p1 (Int32.ofInt 5) = false) (h2 : zcnd .ge p1 ((Int32.ofInt 5) + (Int32.ofNat n)) = true) (h3 : zcnd .lt p1 ((Int8.ofInt 10).toInt32) = true) (h4 : p1.toInt = 3) (c5_ : ZR 43 0 [.val (.ref (kad n (0, 0, 0))), .unset, .unset, .unset] [] (khp n L σ g) true (.inl (some (.int r5)), khp n L σ g, true)) (h6 : zcnd .ne r5 0 = true) : ZR 42 0 [.val (.ref (kad n (0, 0, 0))), .val (.int p1)] [] (khp n L σ g) cl (.inl (some (.int (Int32.ofInt 0))), khp n L σ (g), cl) := by
  have hM : zmi[42]? = some _ := rfl
  refine zr_fr hM rfl rfl rfl ?_
  refine zr_fr hM rfl rfl rfl ?_
  refine zr_icf hM rfl rfl h1 ?_
  refine zr_fr hM rfl rfl rfl ?_
  refine zr_fr hM rfl rfl rfl ?_
  refine zr_fr hM rfl rfl rfl ?_
  refine zr_getf (κ := (0, 0, 0)) hn hM rfl rfl rfl rfl ?_
  refine zr_alen (κ := (1, 0, 0)) hn hM rfl rfl rfl ?_
  refine zr_fr hM rfl rfl rfl ?_
  refine zr_ict hM rfl rfl h2 ?_
  refine zr_fr hM rfl rfl rfl ?_
  refine zr_fr hM rfl rfl rfl ?_
  refine zr_ict hM rfl rfl h3 ?_
  refine zr_fr hM rfl rfl rfl ?_
  refine zr_swi hM rfl h4 rfl rfl rfl ?_
  refine zr_fr hM rfl rfl rfl ?_
  refine zr_virt (κ := (0, 0, 0)) hn hM rfl rfl rfl rfl rfl rfl rfl rfl rfl ?_
  refine zgo_ret rfl rfl c5_ ?_
  rw [Bool.and_true]
  refine zr_ift hM rfl rfl h6 ?_
  refine zr_fr hM rfl rfl rfl ?_
  exact zr_iret2 hM rfl rfl rfl
set_option maxHeartbeats 4000000 in
theorem s42_0_ftts2_ {n L : Nat} {σ : Ks} {g : List Nat} {cl : Bool} {p1 : Int32} (hn : 2 ≤ n ∧ n ≤ 5) (h1 : zcnd .lt p1 (Int32.ofInt 5) = false) (h2 : zcnd .ge p1 ((Int32.ofInt 5) + (Int32.ofNat n)) = true) (h3 : zcnd .lt p1 ((Int8.ofInt 10).toInt32) = true) (h4 : p1.toInt = 2) : ZR 42 0 [.val (.ref (kad n (0, 0, 0))), .val (.int p1)] [] (khp n L σ g) cl (.inl (some (.int (σ 12 1))), khp n L σ (g), cl) := by
  have hM : zmi[42]? = some _ := rfl
  refine zr_fr hM rfl rfl rfl ?_
  refine zr_fr hM rfl rfl rfl ?_
  refine zr_icf hM rfl rfl h1 ?_
  refine zr_fr hM rfl rfl rfl ?_
  refine zr_fr hM rfl rfl rfl ?_
  refine zr_fr hM rfl rfl rfl ?_
  refine zr_getf (κ := (0, 0, 0)) hn hM rfl rfl rfl rfl ?_
  refine zr_alen (κ := (1, 0, 0)) hn hM rfl rfl rfl ?_
  refine zr_fr hM rfl rfl rfl ?_
  refine zr_ict hM rfl rfl h2 ?_
  refine zr_fr hM rfl rfl rfl ?_
  refine zr_fr hM rfl rfl rfl ?_
  refine zr_ict hM rfl rfl h3 ?_
  refine zr_fr hM rfl rfl rfl ?_
  refine zr_swi hM rfl h4 rfl rfl rfl ?_
  refine zr_fr hM rfl rfl rfl ?_
  refine zr_getf (κ := (0, 0, 0)) hn hM rfl rfl rfl rfl ?_
  refine zr_getf (κ := (20, 0, 0)) hn hM rfl rfl rfl rfl ?_
  exact zr_iret2 hM rfl rfl rfl
set_option maxHeartbeats 4000000 in
theorem s42_0_ftts1_ {n L : Nat} {σ : Ks} {g : List Nat} {cl : Bool} {p1 : Int32} (hn : 2 ≤ n ∧ n ≤ 5) (h1 : zcnd .lt p1 (Int32.ofInt 5) = false) (h2 : zcnd .ge p1 ((Int32.ofInt 5) + (Int32.ofNat n)) = true) (h3 : zcnd .lt p1 ((Int8.ofInt 10).toInt32) = true) (h4 : p1.toInt = 1) : ZR 42 0 [.val (.ref (kad n (0, 0, 0))), .val (.int p1)] [] (khp n L σ g) cl (.inl (some (.int (σ 12 0))), khp n L σ (g), cl) := by
  have hM : zmi[42]? = some _ := rfl
  refine zr_fr hM rfl rfl rfl ?_
  refine zr_fr hM rfl rfl rfl ?_
  refine zr_icf hM rfl rfl h1 ?_
  refine zr_fr hM rfl rfl rfl ?_
  refine zr_fr hM rfl rfl rfl ?_
  refine zr_fr hM rfl rfl rfl ?_
  refine zr_getf (κ := (0, 0, 0)) hn hM rfl rfl rfl rfl ?_
  refine zr_alen (κ := (1, 0, 0)) hn hM rfl rfl rfl ?_
  refine zr_fr hM rfl rfl rfl ?_
  refine zr_ict hM rfl rfl h2 ?_
  refine zr_fr hM rfl rfl rfl ?_
  refine zr_fr hM rfl rfl rfl ?_
  refine zr_ict hM rfl rfl h3 ?_
  refine zr_fr hM rfl rfl rfl ?_
  refine zr_swi hM rfl h4 rfl rfl rfl ?_
  refine zr_fr hM rfl rfl rfl ?_
  refine zr_getf (κ := (0, 0, 0)) hn hM rfl rfl rfl rfl ?_
  refine zr_getf (κ := (20, 0, 0)) hn hM rfl rfl rfl rfl ?_
  exact zr_iret2 hM rfl rfl rfl
set_option maxHeartbeats 4000000 in
theorem s42_0_tfff {n L : Nat} {σ : Ks} {g : List Nat} {cl : Bool} {p1 : Int32} {x4 : Nat} (hn : 2 ≤ n ∧ n ≤ 5) (h1 : zcnd .lt p1 (Int32.ofInt 5) = true) (h2 : zcnd .lt p1 ((Int8.ofInt 10).toInt32) = false) (h3 : zcnd .ge p1 (((Int8.ofInt 10).toInt32) + (Int32.ofNat n)) = false) (z4 : zix (p1 - ((Int8.ofInt 10).toInt32)) n = some x4) (h5 : zcnd .eq (σ 10 x4) 0 = false) : ZR 42 0 [.val (.ref (kad n (0, 0, 0))), .val (.int p1)] [] (khp n L σ g) cl (.inl (some (.int (Int32.ofInt 1))), khp n L σ (g), cl) := by
  have hM : zmi[42]? = some _ := rfl
  have l4 := (zix_some z4).2.2
  refine zr_fr hM rfl rfl rfl ?_
  refine zr_fr hM rfl rfl rfl ?_
  refine zr_ict hM rfl rfl h1 ?_
  refine zr_fr hM rfl rfl rfl ?_
  refine zr_fr hM rfl rfl rfl ?_
  refine zr_icf hM rfl rfl h2 ?_
  refine zr_fr hM rfl rfl rfl ?_
  refine zr_fr hM rfl rfl rfl ?_
  refine zr_fr hM rfl rfl rfl ?_
  refine zr_getf (κ := (0, 0, 0)) hn hM rfl rfl rfl rfl ?_
  refine zr_alen (κ := (1, 0, 0)) hn hM rfl rfl rfl ?_
  refine zr_fr hM rfl rfl rfl ?_
  refine zr_icf hM rfl rfl h3 ?_
  refine zr_fr hM rfl rfl rfl ?_
  refine zr_getf (κ := (0, 0, 0)) hn hM rfl rfl rfl rfl ?_
  refine zr_fr hM rfl rfl rfl ?_
  refine zr_fr hM rfl rfl rfl ?_
  refine zr_fr hM rfl rfl rfl ?_
  refine zr_aald (κ := (1, 0, 0)) hn hM rfl rfl rfl rfl z4 ?_
  refine zr_getf (κ := (2, x4, 0)) hn hM rfl (kokT (by omega)) rfl rfl ?_
  refine zr_iff hM rfl rfl h5 ?_
  refine zr_fr hM rfl rfl rfl ?_
  refine zr_fr hM rfl rfl rfl ?_
  exact zr_iret2 hM rfl rfl rfl
set_option maxHeartbeats 4000000 in
theorem s42_0_tfft {n L : Nat} {σ : Ks} {g : List Nat} {cl : Bool} {p1 : Int32} {x4 : Nat} (hn : 2 ≤ n ∧ n ≤ 5) (h1 : zcnd .lt p1 (Int32.ofInt 5) = true) (h2 : zcnd .lt p1 ((Int8.ofInt 10).toInt32) = false) (h3 : zcnd .ge p1 (((Int8.ofInt 10).toInt32) + (Int32.ofNat n)) = false) (z4 : zix (p1 - ((Int8.ofInt 10).toInt32)) n = some x4) (h5 : zcnd .eq (σ 10 x4) 0 = true) : ZR 42 0 [.val (.ref (kad n (0, 0, 0))), .val (.int p1)] [] (khp n L σ g) cl (.inl (some (.int (Int32.ofInt 0))), khp n L σ (g), cl) := by
  have hM : zmi[42]? = some _ := rfl
  have l4 := (zix_some z4).2.2
  refine zr_fr hM rfl rfl rfl ?_
  refine zr_fr hM rfl rfl rfl ?_
  refine zr_ict hM rfl rfl h1 ?_
  refine zr_fr hM rfl rfl rfl ?_
  refine zr_fr hM rfl rfl rfl ?_
  refine zr_icf hM rfl rfl h2 ?_
  refine zr_fr hM rfl rfl rfl ?_
  refine zr_fr hM rfl rfl rfl ?_
  refine zr_fr hM rfl rfl rfl ?_
  refine zr_getf (κ := (0, 0, 0)) hn hM rfl rfl rfl rfl ?_
  refine zr_alen (κ := (1, 0, 0)) hn hM rfl rfl rfl ?_
  refine zr_fr hM rfl rfl rfl ?_
  refine zr_icf hM rfl rfl h3 ?_
  refine zr_fr hM rfl rfl rfl ?_
  refine zr_getf (κ := (0, 0, 0)) hn hM rfl rfl rfl rfl ?_
  refine zr_fr hM rfl rfl rfl ?_
  refine zr_fr hM rfl rfl rfl ?_
  refine zr_fr hM rfl rfl rfl ?_
  refine zr_aald (κ := (1, 0, 0)) hn hM rfl rfl rfl rfl z4 ?_
  refine zr_getf (κ := (2, x4, 0)) hn hM rfl (kokT (by omega)) rfl rfl ?_
  refine zr_ift hM rfl rfl h5 ?_
  refine zr_fr hM rfl rfl rfl ?_
  exact zr_iret2 hM rfl rfl rfl
set_option maxHeartbeats 4000000 in
theorem s42_0_tfts0_ {n L : Nat} {σ : Ks} {g : List Nat} {cl : Bool} {p1 : Int32} (hn : 2 ≤ n ∧ n ≤ 5) (h1 : zcnd .lt p1 (Int32.ofInt 5) = true) (h2 : zcnd .lt p1 ((Int8.ofInt 10).toInt32) = false) (h3 : zcnd .ge p1 (((Int8.ofInt 10).toInt32) + (Int32.ofNat n)) = true) (h4 : p1.toInt = 0) : ZR 42 0 [.val (.ref (kad n (0, 0, 0))), .val (.int p1)] [] (khp n L σ g) cl (.inl (some (.int (Int32.ofNat n))), khp n L σ (g), cl) := by
  have hM : zmi[42]? = some _ := rfl
  refine zr_fr hM rfl rfl rfl ?_
  refine zr_fr hM rfl rfl rfl ?_
  refine zr_ict hM rfl rfl h1 ?_
  refine zr_fr hM rfl rfl rfl ?_
  refine zr_fr hM rfl rfl rfl ?_
  refine zr_icf hM rfl rfl h2 ?_
  refine zr_fr hM rfl rfl rfl ?_
  refine zr_fr hM rfl rfl rfl ?_
  refine zr_fr hM rfl rfl rfl ?_
  refine zr_getf (κ := (0, 0, 0)) hn hM rfl rfl rfl rfl ?_
  refine zr_alen (κ := (1, 0, 0)) hn hM rfl rfl rfl ?_
  refine zr_fr hM rfl rfl rfl ?_
  refine zr_ict hM rfl rfl h3 ?_
  refine zr_fr hM rfl rfl rfl ?_
  refine zr_swi hM rfl h4 rfl rfl rfl ?_
  refine zr_fr hM rfl rfl rfl ?_
  refine zr_getf (κ := (0, 0, 0)) hn hM rfl rfl rfl rfl ?_
  refine zr_alen (κ := (1, 0, 0)) hn hM rfl rfl rfl ?_
  exact zr_iret2 hM rfl rfl rfl
set_option maxHeartbeats 4000000 in
theorem s42_0_tftd {n L : Nat} {σ : Ks} {g : List Nat} {cl : Bool} {p1 : Int32} (hn : 2 ≤ n ∧ n ≤ 5) (h1 : zcnd .lt p1 (Int32.ofInt 5) = true) (h2 : zcnd .lt p1 ((Int8.ofInt 10).toInt32) = false) (h3 : zcnd .ge p1 (((Int8.ofInt 10).toInt32) + (Int32.ofNat n)) = true) (h4 : p1.toInt < 0 ∨ 4 < p1.toInt) : ZR 42 0 [.val (.ref (kad n (0, 0, 0))), .val (.int p1)] [] (khp n L σ g) cl (.inl (some (.int (Int32.ofInt (-1)))), khp n L σ (g), cl) := by
  have hM : zmi[42]? = some _ := rfl
  refine zr_fr hM rfl rfl rfl ?_
  refine zr_fr hM rfl rfl rfl ?_
  refine zr_ict hM rfl rfl h1 ?_
  refine zr_fr hM rfl rfl rfl ?_
  refine zr_fr hM rfl rfl rfl ?_
  refine zr_icf hM rfl rfl h2 ?_
  refine zr_fr hM rfl rfl rfl ?_
  refine zr_fr hM rfl rfl rfl ?_
  refine zr_fr hM rfl rfl rfl ?_
  refine zr_getf (κ := (0, 0, 0)) hn hM rfl rfl rfl rfl ?_
  refine zr_alen (κ := (1, 0, 0)) hn hM rfl rfl rfl ?_
  refine zr_fr hM rfl rfl rfl ?_
  refine zr_ict hM rfl rfl h3 ?_
  refine zr_fr hM rfl rfl rfl ?_
  refine zr_swo hM rfl h4 rfl ?_
  refine zr_fr hM rfl rfl rfl ?_
  exact zr_iret2 hM rfl rfl rfl
set_option maxHeartbeats 4000000 in
theorem s42_0_tfts4_ {n L : Nat} {σ : Ks} {g : List Nat} {cl : Bool} {p1 : Int32} {r5 : Int32} (hn : 2 ≤ n ∧ n ≤ 5) (h1 : zcnd .lt p1 (Int32.ofInt 5) = true) (h2 : zcnd .lt p1 ((Int8.ofInt 10).toInt32) = false) (h3 : zcnd .ge p1 (((Int8.ofInt 10).toInt32) + (Int32.ofNat n)) = true) (h4 : p1.toInt = 4) (c5_ : ZR 43 0 [.val (.ref (kad n (0, 0, 0))), .unset, .unset, .unset] [] (khp n L σ g) true (.inl (some (.int r5)), khp n L σ g, true)) : ZR 42 0 [.val (.ref (kad n (0, 0, 0))), .val (.int p1)] [] (khp n L σ g) cl (.inl (some (.int r5)), khp n L σ (g), cl) := by
  have hM : zmi[42]? = some _ := rfl
  refine zr_fr hM rfl rfl rfl ?_
  refine zr_fr hM rfl rfl rfl ?_
  refine zr_ict hM rfl rfl h1 ?_
  refine zr_fr hM rfl rfl rfl ?_
  refine zr_fr hM rfl rfl rfl ?_
  refine zr_icf hM rfl rfl h2 ?_
  refine zr_fr hM rfl rfl rfl ?_
  refine zr_fr hM rfl rfl rfl ?_
  refine zr_fr hM rfl rfl rfl ?_
  refine zr_getf (κ := (0, 0, 0)) hn hM rfl rfl rfl rfl ?_
  refine zr_alen (κ := (1, 0, 0)) hn hM rfl rfl rfl ?_
  refine zr_fr hM rfl rfl rfl ?_
  refine zr_ict hM rfl rfl h3 ?_
  refine zr_fr hM rfl rfl rfl ?_
  refine zr_swi hM rfl h4 rfl rfl rfl ?_
  refine zr_fr hM rfl rfl rfl ?_
  refine zr_virt (κ := (0, 0, 0)) hn hM rfl rfl rfl rfl rfl rfl rfl rfl rfl ?_
  refine zgo_ret rfl rfl c5_ ?_
  rw [Bool.and_true]
  exact zr_iret2 hM rfl rfl rfl
set_option maxHeartbeats 4000000 in
theorem s42_0_tfts3_ff {n L : Nat} {σ : Ks} {g : List Nat} {cl : Bool} {p1 : Int32} {r5 : Int32} {r7 : Int32} (hn : 2 ≤ n ∧ n ≤ 5) (h1 : zcnd .lt p1 (Int32.ofInt 5) = true) (h2 : zcnd .lt p1 ((Int8.ofInt 10).toInt32) = false) (h3 : zcnd .ge p1 (((Int8.ofInt 10).toInt32) + (Int32.ofNat n)) = true) (h4 : p1.toInt = 3) (c5_ : ZR 43 0 [.val (.ref (kad n (0, 0, 0))), .unset, .unset, .unset] [] (khp n L σ g) true (.inl (some (.int r5)), khp n L σ g, true)) (h6 : zcnd .ne r5 0 = false) (c7_ : ZR 44 0 [.val (.ref (kad n (0, 0, 0))), .unset, .unset] [] (khp n L σ g) true (.inl (some (.int r7)), khp n L σ g, true)) (h8 : zcnd .eq r7 0 = false) : ZR 42 0 [.val (.ref (kad n (0, 0, 0))), .val (.int p1)] [] (khp n L σ g) cl (.inl (some (.int (Int32.ofInt 1))), khp n L σ (g), cl) := by
  have hM : zmi[42]? = some _ := rfl
  refine zr_fr hM rfl rfl rfl ?_
  refine zr_fr hM rfl rfl rfl ?_
  refine zr_ict hM rfl rfl h1 ?_
  refine zr_fr hM rfl rfl rfl ?_
  refine zr_fr hM rfl rfl rfl ?_
  refine zr_icf hM rfl rfl h2 ?_
  refine zr_fr hM rfl rfl rfl ?_
  refine zr_fr hM rfl rfl rfl ?_
  refine zr_fr hM rfl rfl rfl ?_
  refine zr_getf (κ := (0, 0, 0)) hn hM rfl rfl rfl rfl ?_
  refine zr_alen (κ := (1, 0, 0)) hn hM rfl rfl rfl ?_
  refine zr_fr hM rfl rfl rfl ?_
  refine zr_ict hM rfl rfl h3 ?_
  refine zr_fr hM rfl rfl rfl ?_
  refine zr_swi hM rfl h4 rfl rfl rfl ?_
  refine zr_fr hM rfl rfl rfl ?_
  refine zr_virt (κ := (0, 0, 0)) hn hM rfl rfl rfl rfl rfl rfl rfl rfl rfl ?_
  refine zgo_ret rfl rfl c5_ ?_
  rw [Bool.and_true]
  refine zr_iff hM rfl rfl h6 ?_
  refine zr_fr hM rfl rfl rfl ?_
  refine zr_virt (κ := (0, 0, 0)) hn hM rfl rfl rfl rfl rfl rfl rfl rfl rfl ?_
  refine zgo_ret rfl rfl c7_ ?_
  rw [Bool.and_true]
  refine zr_iff hM rfl rfl h8 ?_
  refine zr_fr hM rfl rfl rfl ?_
  refine zr_fr hM rfl rfl rfl ?_
  exact zr_iret2 hM rfl rfl rfl
set_option maxHeartbeats 4000000 in
theorem s42_0_tfts3_ft {n L : Nat} {σ : Ks} {g : List Nat} {cl : Bool} {p1 : Int32} {r5 : Int32} {r7 : Int32} (hn : 2 ≤ n ∧ n ≤ 5) (h1 : zcnd .lt p1 (Int32.ofInt 5) = true) (h2 : zcnd .lt p1 ((Int8.ofInt 10).toInt32) = false) (h3 : zcnd .ge p1 (((Int8.ofInt 10).toInt32) + (Int32.ofNat n)) = true) (h4 : p1.toInt = 3) (c5_ : ZR 43 0 [.val (.ref (kad n (0, 0, 0))), .unset, .unset, .unset] [] (khp n L σ g) true (.inl (some (.int r5)), khp n L σ g, true)) (h6 : zcnd .ne r5 0 = false) (c7_ : ZR 44 0 [.val (.ref (kad n (0, 0, 0))), .unset, .unset] [] (khp n L σ g) true (.inl (some (.int r7)), khp n L σ g, true)) (h8 : zcnd .eq r7 0 = true) : ZR 42 0 [.val (.ref (kad n (0, 0, 0))), .val (.int p1)] [] (khp n L σ g) cl (.inl (some (.int (Int32.ofInt 0))), khp n L σ (g), cl) := by
  have hM : zmi[42]? = some _ := rfl
  refine zr_fr hM rfl rfl rfl ?_
  refine zr_fr hM rfl rfl rfl ?_
  refine zr_ict hM rfl rfl h1 ?_
  refine zr_fr hM rfl rfl rfl ?_
  refine zr_fr hM rfl rfl rfl ?_
  refine zr_icf hM rfl rfl h2 ?_
  refine zr_fr hM rfl rfl rfl ?_
  refine zr_fr hM rfl rfl rfl ?_
  refine zr_fr hM rfl rfl rfl ?_
  refine zr_getf (κ := (0, 0, 0)) hn hM rfl rfl rfl rfl ?_
  refine zr_alen (κ := (1, 0, 0)) hn hM rfl rfl rfl ?_
  refine zr_fr hM rfl rfl rfl ?_
  refine zr_ict hM rfl rfl h3 ?_
  refine zr_fr hM rfl rfl rfl ?_
  refine zr_swi hM rfl h4 rfl rfl rfl ?_
  refine zr_fr hM rfl rfl rfl ?_
  refine zr_virt (κ := (0, 0, 0)) hn hM rfl rfl rfl rfl rfl rfl rfl rfl rfl ?_
  refine zgo_ret rfl rfl c5_ ?_
  rw [Bool.and_true]
  refine zr_iff hM rfl rfl h6 ?_
  refine zr_fr hM rfl rfl rfl ?_
  refine zr_virt (κ := (0, 0, 0)) hn hM rfl rfl rfl rfl rfl rfl rfl rfl rfl ?_
  refine zgo_ret rfl rfl c7_ ?_
  rw [Bool.and_true]
  refine zr_ift hM rfl rfl h8 ?_
  refine zr_fr hM rfl rfl rfl ?_
  exact zr_iret2 hM rfl rfl rfl
set_option maxHeartbeats 4000000 in
theorem s42_0_tfts3_t {n L : Nat} {σ : Ks} {g : List Nat} {cl : Bool} {p1 : Int32} {r5 : Int32} (hn : 2 ≤ n ∧ n ≤ 5) (h1 : zcnd .lt p1 (Int32.ofInt 5) = true) (h2 : zcnd .lt p1 ((Int8.ofInt 10).toInt32) = false) (h3 : zcnd .ge p1 (((Int8.ofInt 10).toInt32) + (Int32.ofNat n)) = true) (h4 : p1.toInt = 3) (c5_ : ZR 43 0 [.val (.ref (kad n (0, 0, 0))), .unset, .unset, .unset] [] (khp n L σ g) true (.inl (some (.int r5)), khp n L σ g, true)) (h6 : zcnd .ne r5 0 = true) : ZR 42 0 [.val (.ref (kad n (0, 0, 0))), .val (.int p1)] [] (khp n L σ g) cl (.inl (some (.int (Int32.ofInt 0))), khp n L σ (g), cl) := by
  have hM : zmi[42]? = some _ := rfl
  refine zr_fr hM rfl rfl rfl ?_
  refine zr_fr hM rfl rfl rfl ?_
  refine zr_ict hM rfl rfl h1 ?_
  refine zr_fr hM rfl rfl rfl ?_
  refine zr_fr hM rfl rfl rfl ?_
  refine zr_icf hM rfl rfl h2 ?_
  refine zr_fr hM rfl rfl rfl ?_
  refine zr_fr hM rfl rfl rfl ?_
  refine zr_fr hM rfl rfl rfl ?_
  refine zr_getf (κ := (0, 0, 0)) hn hM rfl rfl rfl rfl ?_
  refine zr_alen (κ := (1, 0, 0)) hn hM rfl rfl rfl ?_
  refine zr_fr hM rfl rfl rfl ?_
  refine zr_ict hM rfl rfl h3 ?_
  refine zr_fr hM rfl rfl rfl ?_
  refine zr_swi hM rfl h4 rfl rfl rfl ?_
  refine zr_fr hM rfl rfl rfl ?_
  refine zr_virt (κ := (0, 0, 0)) hn hM rfl rfl rfl rfl rfl rfl rfl rfl rfl ?_
  refine zgo_ret rfl rfl c5_ ?_
  rw [Bool.and_true]
  refine zr_ift hM rfl rfl h6 ?_
  refine zr_fr hM rfl rfl rfl ?_
  exact zr_iret2 hM rfl rfl rfl
set_option maxHeartbeats 4000000 in
theorem s42_0_tfts2_ {n L : Nat} {σ : Ks} {g : List Nat} {cl : Bool} {p1 : Int32} (hn : 2 ≤ n ∧ n ≤ 5) (h1 : zcnd .lt p1 (Int32.ofInt 5) = true) (h2 : zcnd .lt p1 ((Int8.ofInt 10).toInt32) = false) (h3 : zcnd .ge p1 (((Int8.ofInt 10).toInt32) + (Int32.ofNat n)) = true) (h4 : p1.toInt = 2) : ZR 42 0 [.val (.ref (kad n (0, 0, 0))), .val (.int p1)] [] (khp n L σ g) cl (.inl (some (.int (σ 12 1))), khp n L σ (g), cl) := by
  have hM : zmi[42]? = some _ := rfl
  refine zr_fr hM rfl rfl rfl ?_
  refine zr_fr hM rfl rfl rfl ?_
  refine zr_ict hM rfl rfl h1 ?_
  refine zr_fr hM rfl rfl rfl ?_
  refine zr_fr hM rfl rfl rfl ?_
  refine zr_icf hM rfl rfl h2 ?_
  refine zr_fr hM rfl rfl rfl ?_
  refine zr_fr hM rfl rfl rfl ?_
  refine zr_fr hM rfl rfl rfl ?_
  refine zr_getf (κ := (0, 0, 0)) hn hM rfl rfl rfl rfl ?_
  refine zr_alen (κ := (1, 0, 0)) hn hM rfl rfl rfl ?_
  refine zr_fr hM rfl rfl rfl ?_
  refine zr_ict hM rfl rfl h3 ?_
  refine zr_fr hM rfl rfl rfl ?_
  refine zr_swi hM rfl h4 rfl rfl rfl ?_
  refine zr_fr hM rfl rfl rfl ?_
  refine zr_getf (κ := (0, 0, 0)) hn hM rfl rfl rfl rfl ?_
  refine zr_getf (κ := (20, 0, 0)) hn hM rfl rfl rfl rfl ?_
  exact zr_iret2 hM rfl rfl rfl
set_option maxHeartbeats 4000000 in
theorem s42_0_tfts1_ {n L : Nat} {σ : Ks} {g : List Nat} {cl : Bool} {p1 : Int32} (hn : 2 ≤ n ∧ n ≤ 5) (h1 : zcnd .lt p1 (Int32.ofInt 5) = true) (h2 : zcnd .lt p1 ((Int8.ofInt 10).toInt32) = false) (h3 : zcnd .ge p1 (((Int8.ofInt 10).toInt32) + (Int32.ofNat n)) = true) (h4 : p1.toInt = 1) : ZR 42 0 [.val (.ref (kad n (0, 0, 0))), .val (.int p1)] [] (khp n L σ g) cl (.inl (some (.int (σ 12 0))), khp n L σ (g), cl) := by
  have hM : zmi[42]? = some _ := rfl
  refine zr_fr hM rfl rfl rfl ?_
  refine zr_fr hM rfl rfl rfl ?_
  refine zr_ict hM rfl rfl h1 ?_
  refine zr_fr hM rfl rfl rfl ?_
  refine zr_fr hM rfl rfl rfl ?_
  refine zr_icf hM rfl rfl h2 ?_
  refine zr_fr hM rfl rfl rfl ?_
  refine zr_fr hM rfl rfl rfl ?_
  refine zr_fr hM rfl rfl rfl ?_
  refine zr_getf (κ := (0, 0, 0)) hn hM rfl rfl rfl rfl ?_
  refine zr_alen (κ := (1, 0, 0)) hn hM rfl rfl rfl ?_
  refine zr_fr hM rfl rfl rfl ?_
  refine zr_ict hM rfl rfl h3 ?_
  refine zr_fr hM rfl rfl rfl ?_
  refine zr_swi hM rfl h4 rfl rfl rfl ?_
  refine zr_fr hM rfl rfl rfl ?_
  refine zr_getf (κ := (0, 0, 0)) hn hM rfl rfl rfl rfl ?_
  refine zr_getf (κ := (20, 0, 0)) hn hM rfl rfl rfl rfl ?_
  exact zr_iret2 hM rfl rfl rfl
set_option maxHeartbeats 4000000 in
theorem s42_0_tts0_ {n L : Nat} {σ : Ks} {g : List Nat} {cl : Bool} {p1 : Int32} (hn : 2 ≤ n ∧ n ≤ 5) (h1 : zcnd .lt p1 (Int32.ofInt 5) = true) (h2 : zcnd .lt p1 ((Int8.ofInt 10).toInt32) = true) (h3 : p1.toInt = 0) : ZR 42 0 [.val (.ref (kad n (0, 0, 0))), .val (.int p1)] [] (khp n L σ g) cl (.inl (some (.int (Int32.ofNat n))), khp n L σ (g), cl) := by
  have hM : zmi[42]? = some _ := rfl
  refine zr_fr hM rfl rfl rfl ?_
  refine zr_fr hM rfl rfl rfl ?_
  refine zr_ict hM rfl rfl h1 ?_
  refine zr_fr hM rfl rfl rfl ?_
  refine zr_fr hM rfl rfl rfl ?_
  refine zr_ict hM rfl rfl h2 ?_
  refine zr_fr hM rfl rfl rfl ?_
  refine zr_swi hM rfl h3 rfl rfl rfl ?_
  refine zr_fr hM rfl rfl rfl ?_
  refine zr_getf (κ := (0, 0, 0)) hn hM rfl rfl rfl rfl ?_
  refine zr_alen (κ := (1, 0, 0)) hn hM rfl rfl rfl ?_
  exact zr_iret2 hM rfl rfl rfl
set_option maxHeartbeats 4000000 in
theorem s42_0_ttd {n L : Nat} {σ : Ks} {g : List Nat} {cl : Bool} {p1 : Int32} (hn : 2 ≤ n ∧ n ≤ 5) (h1 : zcnd .lt p1 (Int32.ofInt 5) = true) (h2 : zcnd .lt p1 ((Int8.ofInt 10).toInt32) = true) (h3 : p1.toInt < 0 ∨ 4 < p1.toInt) : ZR 42 0 [.val (.ref (kad n (0, 0, 0))), .val (.int p1)] [] (khp n L σ g) cl (.inl (some (.int (Int32.ofInt (-1)))), khp n L σ (g), cl) := by
  have hM : zmi[42]? = some _ := rfl
  refine zr_fr hM rfl rfl rfl ?_
  refine zr_fr hM rfl rfl rfl ?_
  refine zr_ict hM rfl rfl h1 ?_
  refine zr_fr hM rfl rfl rfl ?_
  refine zr_fr hM rfl rfl rfl ?_
  refine zr_ict hM rfl rfl h2 ?_
  refine zr_fr hM rfl rfl rfl ?_
  refine zr_swo hM rfl h3 rfl ?_
  refine zr_fr hM rfl rfl rfl ?_
  exact zr_iret2 hM rfl rfl rfl
set_option maxHeartbeats 4000000 in
theorem s42_0_tts4_ {n L : Nat} {σ : Ks} {g : List Nat} {cl : Bool} {p1 : Int32} {r4 : Int32} (hn : 2 ≤ n ∧ n ≤ 5) (h1 : zcnd .lt p1 (Int32.ofInt 5) = true) (h2 : zcnd .lt p1 ((Int8.ofInt 10).toInt32) = true) (h3 : p1.toInt = 4) (c4_ : ZR 43 0 [.val (.ref (kad n (0, 0, 0))), .unset, .unset, .unset] [] (khp n L σ g) true (.inl (some (.int r4)), khp n L σ g, true)) : ZR 42 0 [.val (.ref (kad n (0, 0, 0))), .val (.int p1)] [] (khp n L σ g) cl (.inl (some (.int r4)), khp n L σ (g), cl) := by
  have hM : zmi[42]? = some _ := rfl
  refine zr_fr hM rfl rfl rfl ?_
  refine zr_fr hM rfl rfl rfl ?_
  refine zr_ict hM rfl rfl h1 ?_
  refine zr_fr hM rfl rfl rfl ?_
  refine zr_fr hM rfl rfl rfl ?_
  refine zr_ict hM rfl rfl h2 ?_
  refine zr_fr hM rfl rfl rfl ?_
  refine zr_swi hM rfl h3 rfl rfl rfl ?_
  refine zr_fr hM rfl rfl rfl ?_
  refine zr_virt (κ := (0, 0, 0)) hn hM rfl rfl rfl rfl rfl rfl rfl rfl rfl ?_
  refine zgo_ret rfl rfl c4_ ?_
  rw [Bool.and_true]
  exact zr_iret2 hM rfl rfl rfl
set_option maxHeartbeats 4000000 in
theorem s42_0_tts3_ff {n L : Nat} {σ : Ks} {g : List Nat} {cl : Bool} {p1 : Int32} {r4 : Int32} {r6 : Int32} (hn : 2 ≤ n ∧ n ≤ 5) (h1 : zcnd .lt p1 (Int32.ofInt 5) = true) (h2 : zcnd .lt p1 ((Int8.ofInt 10).toInt32) = true) (h3 : p1.toInt = 3) (c4_ : ZR 43 0 [.val (.ref (kad n (0, 0, 0))), .unset, .unset, .unset] [] (khp n L σ g) true (.inl (some (.int r4)), khp n L σ g, true)) (h5 : zcnd .ne r4 0 = false) (c6_ : ZR 44 0 [.val (.ref (kad n (0, 0, 0))), .unset, .unset] [] (khp n L σ g) true (.inl (some (.int r6)), khp n L σ g, true)) (h7 : zcnd .eq r6 0 = false) : ZR 42 0 [.val (.ref (kad n (0, 0, 0))), .val (.int p1)] [] (khp n L σ g) cl (.inl (some (.int (Int32.ofInt 1))), khp n L σ (g), cl) := by
  have hM : zmi[42]? = some _ := rfl
  refine zr_fr hM rfl rfl rfl ?_
  refine zr_fr hM rfl rfl rfl ?_
  refine zr_ict hM rfl rfl h1 ?_
  refine zr_fr hM rfl rfl rfl ?_
  refine zr_fr hM rfl rfl rfl ?_
  refine zr_ict hM rfl rfl h2 ?_
  refine zr_fr hM rfl rfl rfl ?_
  refine zr_swi hM rfl h3 rfl rfl rfl ?_
  refine zr_fr hM rfl rfl rfl ?_
  refine zr_virt (κ := (0, 0, 0)) hn hM rfl rfl rfl rfl rfl rfl rfl rfl rfl ?_
  refine zgo_ret rfl rfl c4_ ?_
  rw [Bool.and_true]
  refine zr_iff hM rfl rfl h5 ?_
  refine zr_fr hM rfl rfl rfl ?_
  refine zr_virt (κ := (0, 0, 0)) hn hM rfl rfl rfl rfl rfl rfl rfl rfl rfl ?_
  refine zgo_ret rfl rfl c6_ ?_
  rw [Bool.and_true]
  refine zr_iff hM rfl rfl h7 ?_
  refine zr_fr hM rfl rfl rfl ?_
  refine zr_fr hM rfl rfl rfl ?_
  exact zr_iret2 hM rfl rfl rfl
set_option maxHeartbeats 4000000 in
theorem s42_0_tts3_ft {n L : Nat} {σ : Ks} {g : List Nat} {cl : Bool} {p1 : Int32} {r4 : Int32} {r6 : Int32} (hn : 2 ≤ n ∧ n ≤ 5) (h1 : zcnd .lt p1 (Int32.ofInt 5) = true) (h2 : zcnd .lt p1 ((Int8.ofInt 10).toInt32) = true) (h3 : p1.toInt = 3) (c4_ : ZR 43 0 [.val (.ref (kad n (0, 0, 0))), .unset, .unset, .unset] [] (khp n L σ g) true (.inl (some (.int r4)), khp n L σ g, true)) (h5 : zcnd .ne r4 0 = false) (c6_ : ZR 44 0 [.val (.ref (kad n (0, 0, 0))), .unset, .unset] [] (khp n L σ g) true (.inl (some (.int r6)), khp n L σ g, true)) (h7 : zcnd .eq r6 0 = true) : ZR 42 0 [.val (.ref (kad n (0, 0, 0))), .val (.int p1)] [] (khp n L σ g) cl (.inl (some (.int (Int32.ofInt 0))), khp n L σ (g), cl) := by
  have hM : zmi[42]? = some _ := rfl
  refine zr_fr hM rfl rfl rfl ?_
  refine zr_fr hM rfl rfl rfl ?_
  refine zr_ict hM rfl rfl h1 ?_
  refine zr_fr hM rfl rfl rfl ?_
  refine zr_fr hM rfl rfl rfl ?_
  refine zr_ict hM rfl rfl h2 ?_
  refine zr_fr hM rfl rfl rfl ?_
  refine zr_swi hM rfl h3 rfl rfl rfl ?_
  refine zr_fr hM rfl rfl rfl ?_
  refine zr_virt (κ := (0, 0, 0)) hn hM rfl rfl rfl rfl rfl rfl rfl rfl rfl ?_
  refine zgo_ret rfl rfl c4_ ?_
  rw [Bool.and_true]
  refine zr_iff hM rfl rfl h5 ?_
  refine zr_fr hM rfl rfl rfl ?_
  refine zr_virt (κ := (0, 0, 0)) hn hM rfl rfl rfl rfl rfl rfl rfl rfl rfl ?_
  refine zgo_ret rfl rfl c6_ ?_
  rw [Bool.and_true]
  refine zr_ift hM rfl rfl h7 ?_
  refine zr_fr hM rfl rfl rfl ?_
  exact zr_iret2 hM rfl rfl rfl
set_option maxHeartbeats 4000000 in
theorem s42_0_tts3_t {n L : Nat} {σ : Ks} {g : List Nat} {cl : Bool} {p1 : Int32} {r4 : Int32} (hn : 2 ≤ n ∧ n ≤ 5) (h1 : zcnd .lt p1 (Int32.ofInt 5) = true) (h2 : zcnd .lt p1 ((Int8.ofInt 10).toInt32) = true) (h3 : p1.toInt = 3) (c4_ : ZR 43 0 [.val (.ref (kad n (0, 0, 0))), .unset, .unset, .unset] [] (khp n L σ g) true (.inl (some (.int r4)), khp n L σ g, true)) (h5 : zcnd .ne r4 0 = true) : ZR 42 0 [.val (.ref (kad n (0, 0, 0))), .val (.int p1)] [] (khp n L σ g) cl (.inl (some (.int (Int32.ofInt 0))), khp n L σ (g), cl) := by
  have hM : zmi[42]? = some _ := rfl
  refine zr_fr hM rfl rfl rfl ?_
  refine zr_fr hM rfl rfl rfl ?_
  refine zr_ict hM rfl rfl h1 ?_
  refine zr_fr hM rfl rfl rfl ?_
  refine zr_fr hM rfl rfl rfl ?_
  refine zr_ict hM rfl rfl h2 ?_
  refine zr_fr hM rfl rfl rfl ?_
  refine zr_swi hM rfl h3 rfl rfl rfl ?_
  refine zr_fr hM rfl rfl rfl ?_
  refine zr_virt (κ := (0, 0, 0)) hn hM rfl rfl rfl rfl rfl rfl rfl rfl rfl ?_
  refine zgo_ret rfl rfl c4_ ?_
  rw [Bool.and_true]
  refine zr_ift hM rfl rfl h5 ?_
  refine zr_fr hM rfl rfl rfl ?_
  exact zr_iret2 hM rfl rfl rfl
set_option maxHeartbeats 4000000 in
theorem s42_0_tts2_ {n L : Nat} {σ : Ks} {g : List Nat} {cl : Bool} {p1 : Int32} (hn : 2 ≤ n ∧ n ≤ 5) (h1 : zcnd .lt p1 (Int32.ofInt 5) = true) (h2 : zcnd .lt p1 ((Int8.ofInt 10).toInt32) = true) (h3 : p1.toInt = 2) : ZR 42 0 [.val (.ref (kad n (0, 0, 0))), .val (.int p1)] [] (khp n L σ g) cl (.inl (some (.int (σ 12 1))), khp n L σ (g), cl) := by
  have hM : zmi[42]? = some _ := rfl
  refine zr_fr hM rfl rfl rfl ?_
  refine zr_fr hM rfl rfl rfl ?_
  refine zr_ict hM rfl rfl h1 ?_
  refine zr_fr hM rfl rfl rfl ?_
  refine zr_fr hM rfl rfl rfl ?_
  refine zr_ict hM rfl rfl h2 ?_
  refine zr_fr hM rfl rfl rfl ?_
  refine zr_swi hM rfl h3 rfl rfl rfl ?_
  refine zr_fr hM rfl rfl rfl ?_
  refine zr_getf (κ := (0, 0, 0)) hn hM rfl rfl rfl rfl ?_
  refine zr_getf (κ := (20, 0, 0)) hn hM rfl rfl rfl rfl ?_
  exact zr_iret2 hM rfl rfl rfl
set_option maxHeartbeats 4000000 in
theorem s42_0_tts1_ {n L : Nat} {σ : Ks} {g : List Nat} {cl : Bool} {p1 : Int32} (hn : 2 ≤ n ∧ n ≤ 5) (h1 : zcnd .lt p1 (Int32.ofInt 5) = true) (h2 : zcnd .lt p1 ((Int8.ofInt 10).toInt32) = true) (h3 : p1.toInt = 1) : ZR 42 0 [.val (.ref (kad n (0, 0, 0))), .val (.int p1)] [] (khp n L σ g) cl (.inl (some (.int (σ 12 0))), khp n L σ (g), cl) := by
  have hM : zmi[42]? = some _ := rfl
  refine zr_fr hM rfl rfl rfl ?_
  refine zr_fr hM rfl rfl rfl ?_
  refine zr_ict hM rfl rfl h1 ?_
  refine zr_fr hM rfl rfl rfl ?_
  refine zr_fr hM rfl rfl rfl ?_
  refine zr_ict hM rfl rfl h2 ?_
  refine zr_fr hM rfl rfl rfl ?_
  refine zr_swi hM rfl h3 rfl rfl rfl ?_
  refine zr_fr hM rfl rfl rfl ?_
  refine zr_getf (κ := (0, 0, 0)) hn hM rfl rfl rfl rfl ?_
  refine zr_getf (κ := (20, 0, 0)) hn hM rfl rfl rfl rfl ?_
  exact zr_iret2 hM rfl rfl rfl
set_option maxHeartbeats 4000000 in
theorem s43_0_r {n L : Nat} {σ : Ks} {g : List Nat} {cl : Bool} {r : Zr} (hn : 2 ≤ n ∧ n ≤ 5) (k : ZR 43 4 [.val (.ref (kad n (0, 0, 0))), .val (.int (Int32.ofInt 0)), .val (.int (Int32.ofInt 0)), .unset] [] (khp n L σ (g)) cl r) : ZR 43 0 [.val (.ref (kad n (0, 0, 0))), .unset, .unset, .unset] [] (khp n L σ g) cl r := by
  have hM : zmi[43]? = some _ := rfl
  refine zr_fr hM rfl rfl rfl ?_
  refine zr_fr hM rfl rfl rfl ?_
  refine zr_fr hM rfl rfl rfl ?_
  refine zr_fr hM rfl rfl rfl ?_
  exact k
set_option maxHeartbeats 4000000 in
theorem s43_4_f {n L : Nat} {σ : Ks} {g : List Nat} {cl : Bool} {r : Zr} {v1 : Int32} {v2 : Int32} {w3 : Option Int32} (hn : 2 ≤ n ∧ n ≤ 5) (h1 : zcnd .ge v2 (Int32.ofNat n) = false) (k : ZR 43 15 [.val (.ref (kad n (0, 0, 0))), .val (.int v1), .val (.int v2), .val (.int (Int32.ofInt 0))] [] (khp n L σ (g)) cl r) : ZR 43 4 [.val (.ref (kad n (0, 0, 0))), .val (.int v1), .val (.int v2), zop w3] [] (khp n L σ g) cl r := by
  have hM : zmi[43]? = some _ := rfl
  refine zr_fr hM rfl rfl rfl ?_
  refine zr_fr hM rfl rfl rfl ?_
  refine zr_getf (κ := (0, 0, 0)) hn hM rfl rfl rfl rfl ?_
  refine zr_alen (κ := (1, 0, 0)) hn hM rfl rfl rfl ?_
  refine zr_icf hM rfl rfl h1 ?_
  refine zr_fr hM rfl rfl rfl ?_
  refine zr_fr (ls' := [.val (.ref (kad n (0, 0, 0))), .val (.int v1), .val (.int v2), .val (.int (Int32.ofInt 0))]) hM rfl rfl (by cases w3 <;> rfl) ?_
  exact k
set_option maxHeartbeats 4000000 in
theorem s43_4_t {n L : Nat} {σ : Ks} {g : List Nat} {cl : Bool} {v1 : Int32} {v2 : Int32} {w3 : Option Int32} (hn : 2 ≤ n ∧ n ≤ 5) (h1 : zcnd .ge v2 (Int32.ofNat n) = true) : ZR 43 4 [.val (.ref (kad n (0, 0, 0))), .val (.int v1), .val (.int v2), zop w3] [] (khp n L σ g) cl (.inl (some (.int v1)), khp n L σ (g), cl) := by
  have hM : zmi[43]? = some _ := rfl
  refine zr_fr hM rfl rfl rfl ?_
  refine zr_fr hM rfl rfl rfl ?_
  refine zr_getf (κ := (0, 0, 0)) hn hM rfl rfl rfl rfl ?_
  refine zr_alen (κ := (1, 0, 0)) hn hM rfl rfl rfl ?_
  refine zr_ict hM rfl rfl h1 ?_
  refine zr_fr hM rfl rfl rfl ?_
  exact zr_iret2 hM rfl rfl rfl
set_option maxHeartbeats 4000000 in
theorem s43_15_f {n L : Nat} {σ : Ks} {g : List Nat} {cl : Bool} {r : Zr} {v1 : Int32} {v2 : Int32} {v3 : Int32} {x2 : Nat} {x3 : Nat} (hn : 2 ≤ n ∧ n ≤ 5) (h1 : zcnd .ge v3 (Int32.ofNat n) = false) (z2 : zix v2 n = some x2) (z3 : zix v3 n = some x3) (k : ZR 43 15 [.val (.ref (kad n (0, 0, 0))), .val (.int (v1 + (σ (2 * x2) (44 + 24 * x3 + 1)))), .val (.int v2), .val (.int (v3 + Int32.ofInt 1))] [] (khp n L σ (g)) cl r) : ZR 43 15 [.val (.ref (kad n (0, 0, 0))), .val (.int v1), .val (.int v2), .val (.int v3)] [] (khp n L σ g) cl r := by
  have hM : zmi[43]? = some _ := rfl
  have l2 := (zix_some z2).2.2
  have l3 := (zix_some z3).2.2
  refine zr_fr hM rfl rfl rfl ?_
  refine zr_fr hM rfl rfl rfl ?_
  refine zr_getf (κ := (0, 0, 0)) hn hM rfl rfl rfl rfl ?_
  refine zr_alen (κ := (1, 0, 0)) hn hM rfl rfl rfl ?_
  refine zr_icf hM rfl rfl h1 ?_
  refine zr_fr hM rfl rfl rfl ?_
  refine zr_fr hM rfl rfl rfl ?_
  refine zr_getf (κ := (0, 0, 0)) hn hM rfl rfl rfl rfl ?_
  refine zr_fr hM rfl rfl rfl ?_
  refine zr_aald (κ := (1, 0, 0)) hn hM rfl rfl rfl rfl z2 ?_
  refine zr_getf (κ := (2, x2, 0)) hn hM rfl (kokT (by omega)) rfl rfl ?_
  refine zr_getf (κ := (3, 2 * x2, 0)) hn hM rfl (kokB rfl (by omega)) rfl rfl ?_
  refine zr_fr hM rfl rfl rfl ?_
  refine zr_aald (κ := (13, 2 * x2, 0)) hn hM rfl (kokB rfl (by omega)) rfl rfl z3 ?_
  refine zr_getf (κ := (14, 2 * x2, x3)) hn hM rfl (kokP rfl (by omega) (by omega)) rfl rfl ?_
  refine zr_fr hM rfl rfl rfl ?_
  refine zr_fr hM rfl rfl rfl ?_
  refine zr_fr hM rfl rfl rfl ?_
  refine zr_fr hM rfl rfl rfl ?_
  exact k
set_option maxHeartbeats 4000000 in
theorem s43_15_t {n L : Nat} {σ : Ks} {g : List Nat} {cl : Bool} {r : Zr} {v1 : Int32} {v2 : Int32} {v3 : Int32} (hn : 2 ≤ n ∧ n ≤ 5) (h1 : zcnd .ge v3 (Int32.ofNat n) = true) (k : ZR 43 4 [.val (.ref (kad n (0, 0, 0))), .val (.int v1), .val (.int (v2 + Int32.ofInt 1)), .val (.int v3)] [] (khp n L σ (g)) cl r) : ZR 43 15 [.val (.ref (kad n (0, 0, 0))), .val (.int v1), .val (.int v2), .val (.int v3)] [] (khp n L σ g) cl r := by
  have hM : zmi[43]? = some _ := rfl
  refine zr_fr hM rfl rfl rfl ?_
  refine zr_fr hM rfl rfl rfl ?_
  refine zr_getf (κ := (0, 0, 0)) hn hM rfl rfl rfl rfl ?_
  refine zr_alen (κ := (1, 0, 0)) hn hM rfl rfl rfl ?_
  refine zr_ict hM rfl rfl h1 ?_
  refine zr_fr hM rfl rfl rfl ?_
  refine zr_fr hM rfl rfl rfl ?_
  exact k
set_option maxHeartbeats 4000000 in
theorem s44_0_r {n L : Nat} {σ : Ks} {g : List Nat} {cl : Bool} {r : Zr} (hn : 2 ≤ n ∧ n ≤ 5) (k : ZR 44 2 [.val (.ref (kad n (0, 0, 0))), .val (.int (Int32.ofInt 0)), .unset] [] (khp n L σ (g)) cl r) : ZR 44 0 [.val (.ref (kad n (0, 0, 0))), .unset, .unset] [] (khp n L σ g) cl r := by
  have hM : zmi[44]? = some _ := rfl
  refine zr_fr hM rfl rfl rfl ?_
  refine zr_fr hM rfl rfl rfl ?_
  exact k
set_option maxHeartbeats 4000000 in
theorem s44_2_f {n L : Nat} {σ : Ks} {g : List Nat} {cl : Bool} {r : Zr} {v1 : Int32} {w2 : Option Int32} (hn : 2 ≤ n ∧ n ≤ 5) (h1 : zcnd .ge v1 (Int32.ofNat n) = false) (k : ZR 44 13 [.val (.ref (kad n (0, 0, 0))), .val (.int v1), .val (.int (Int32.ofInt 0))] [] (khp n L σ (g)) cl r) : ZR 44 2 [.val (.ref (kad n (0, 0, 0))), .val (.int v1), zop w2] [] (khp n L σ g) cl r := by
  have hM : zmi[44]? = some _ := rfl
  refine zr_fr hM rfl rfl rfl ?_
  refine zr_fr hM rfl rfl rfl ?_
  refine zr_getf (κ := (0, 0, 0)) hn hM rfl rfl rfl rfl ?_
  refine zr_alen (κ := (1, 0, 0)) hn hM rfl rfl rfl ?_
  refine zr_icf hM rfl rfl h1 ?_
  refine zr_fr hM rfl rfl rfl ?_
  refine zr_fr (ls' := [.val (.ref (kad n (0, 0, 0))), .val (.int v1), .val (.int (Int32.ofInt 0))]) hM rfl rfl (by cases w2 <;> rfl) ?_
  exact k
set_option maxHeartbeats 4000000 in
theorem s44_2_t {n L : Nat} {σ : Ks} {g : List Nat} {cl : Bool} {v1 : Int32} {w2 : Option Int32} (hn : 2 ≤ n ∧ n ≤ 5) (h1 : zcnd .ge v1 (Int32.ofNat n) = true) : ZR 44 2 [.val (.ref (kad n (0, 0, 0))), .val (.int v1), zop w2] [] (khp n L σ g) cl (.inl (some (.int (Int32.ofInt 1))), khp n L σ (g), cl) := by
  have hM : zmi[44]? = some _ := rfl
  refine zr_fr hM rfl rfl rfl ?_
  refine zr_fr hM rfl rfl rfl ?_
  refine zr_getf (κ := (0, 0, 0)) hn hM rfl rfl rfl rfl ?_
  refine zr_alen (κ := (1, 0, 0)) hn hM rfl rfl rfl ?_
  refine zr_ict hM rfl rfl h1 ?_
  refine zr_fr hM rfl rfl rfl ?_
  exact zr_zret2 hM rfl rfl (by decide) rfl
set_option maxHeartbeats 4000000 in
theorem s44_13_fff {n L : Nat} {σ : Ks} {g : List Nat} {cl : Bool} {v1 : Int32} {v2 : Int32} {r3 : Int32} (hn : 2 ≤ n ∧ n ≤ 5) (h1 : zcnd .ge v2 (Int32.ofNat n) = false) (h2 : zcnd .eq v1 v2 = false) (c3_ : ZR 45 0 [.val (.ref (kad n (0, 0, 0))), .val (.int v1), .val (.int v2), .unset] [] (khp n L σ g) true (.inl (some (.int r3)), khp n L σ g, true)) (h4 : zcnd .ne r3 0 = false) : ZR 44 13 [.val (.ref (kad n (0, 0, 0))), .val (.int v1), .val (.int v2)] [] (khp n L σ g) cl (.inl (some (.int (Int32.ofInt 0))), khp n L σ (g), cl) := by
  have hM : zmi[44]? = some _ := rfl
  refine zr_fr hM rfl rfl rfl ?_
  refine zr_fr hM rfl rfl rfl ?_
  refine zr_getf (κ := (0, 0, 0)) hn hM rfl rfl rfl rfl ?_
  refine zr_alen (κ := (1, 0, 0)) hn hM rfl rfl rfl ?_
  refine zr_icf hM rfl rfl h1 ?_
  refine zr_fr hM rfl rfl rfl ?_
  refine zr_fr hM rfl rfl rfl ?_
  refine zr_icf hM rfl rfl h2 ?_
  refine zr_fr hM rfl rfl rfl ?_
  refine zr_fr hM rfl rfl rfl ?_
  refine zr_fr hM rfl rfl rfl ?_
  refine zr_virt (κ := (0, 0, 0)) hn hM rfl rfl rfl rfl rfl rfl rfl rfl rfl ?_
  refine zgo_ret rfl rfl c3_ ?_
  rw [Bool.and_true]
  refine zr_iff hM rfl rfl h4 ?_
  refine zr_fr hM rfl rfl rfl ?_
  exact zr_zret2 hM rfl rfl (by decide) rfl
set_option maxHeartbeats 4000000 in
theorem s44_13_fft {n L : Nat} {σ : Ks} {g : List Nat} {cl : Bool} {r : Zr} {v1 : Int32} {v2 : Int32} {r3 : Int32} (hn : 2 ≤ n ∧ n ≤ 5) (h1 : zcnd .ge v2 (Int32.ofNat n) = false) (h2 : zcnd .eq v1 v2 = false) (c3_ : ZR 45 0 [.val (.ref (kad n (0, 0, 0))), .val (.int v1), .val (.int v2), .unset] [] (khp n L σ g) true (.inl (some (.int r3)), khp n L σ g, true)) (h4 : zcnd .ne r3 0 = true) (k : ZR 44 13 [.val (.ref (kad n (0, 0, 0))), .val (.int v1), .val (.int (v2 + Int32.ofInt 1))] [] (khp n L σ (g)) cl r) : ZR 44 13 [.val (.ref (kad n (0, 0, 0))), .val (.int v1), .val (.int v2)] [] (khp n L σ g) cl r := by
  have hM : zmi[44]? = some _ := rfl
  refine zr_fr hM rfl rfl rfl ?_
  refine zr_fr hM rfl rfl rfl ?_
  refine zr_getf (κ := (0, 0, 0)) hn hM rfl rfl rfl rfl ?_
  refine zr_alen (κ := (1, 0, 0)) hn hM rfl rfl rfl ?_
  refine zr_icf hM rfl rfl h1 ?_
  refine zr_fr hM rfl rfl rfl ?_
  refine zr_fr hM rfl rfl rfl ?_
  refine zr_icf hM rfl rfl h2 ?_
  refine zr_fr hM rfl rfl rfl ?_
  refine zr_fr hM rfl rfl rfl ?_
  refine zr_fr hM rfl rfl rfl ?_
  refine zr_virt (κ := (0, 0, 0)) hn hM rfl rfl rfl rfl rfl rfl rfl rfl rfl ?_
  refine zgo_ret rfl rfl c3_ ?_
  rw [Bool.and_true]
  refine zr_ift hM rfl rfl h4 ?_
  refine zr_fr hM rfl rfl rfl ?_
  refine zr_fr hM rfl rfl rfl ?_
  exact k
set_option maxHeartbeats 4000000 in
theorem s44_13_ft {n L : Nat} {σ : Ks} {g : List Nat} {cl : Bool} {r : Zr} {v1 : Int32} {v2 : Int32} (hn : 2 ≤ n ∧ n ≤ 5) (h1 : zcnd .ge v2 (Int32.ofNat n) = false) (h2 : zcnd .eq v1 v2 = true) (k : ZR 44 13 [.val (.ref (kad n (0, 0, 0))), .val (.int v1), .val (.int (v2 + Int32.ofInt 1))] [] (khp n L σ (g)) cl r) : ZR 44 13 [.val (.ref (kad n (0, 0, 0))), .val (.int v1), .val (.int v2)] [] (khp n L σ g) cl r := by
  have hM : zmi[44]? = some _ := rfl
  refine zr_fr hM rfl rfl rfl ?_
  refine zr_fr hM rfl rfl rfl ?_
  refine zr_getf (κ := (0, 0, 0)) hn hM rfl rfl rfl rfl ?_
  refine zr_alen (κ := (1, 0, 0)) hn hM rfl rfl rfl ?_
  refine zr_icf hM rfl rfl h1 ?_
  refine zr_fr hM rfl rfl rfl ?_
  refine zr_fr hM rfl rfl rfl ?_
  refine zr_ict hM rfl rfl h2 ?_
  refine zr_fr hM rfl rfl rfl ?_
  refine zr_fr hM rfl rfl rfl ?_
  exact k
set_option maxHeartbeats 4000000 in
theorem s44_13_t {n L : Nat} {σ : Ks} {g : List Nat} {cl : Bool} {r : Zr} {v1 : Int32} {v2 : Int32} (hn : 2 ≤ n ∧ n ≤ 5) (h1 : zcnd .ge v2 (Int32.ofNat n) = true) (k : ZR 44 2 [.val (.ref (kad n (0, 0, 0))), .val (.int (v1 + Int32.ofInt 1)), .val (.int v2)] [] (khp n L σ (g)) cl r) : ZR 44 13 [.val (.ref (kad n (0, 0, 0))), .val (.int v1), .val (.int v2)] [] (khp n L σ g) cl r := by
  have hM : zmi[44]? = some _ := rfl
  refine zr_fr hM rfl rfl rfl ?_
  refine zr_fr hM rfl rfl rfl ?_
  refine zr_getf (κ := (0, 0, 0)) hn hM rfl rfl rfl rfl ?_
  refine zr_alen (κ := (1, 0, 0)) hn hM rfl rfl rfl ?_
  refine zr_ict hM rfl rfl h1 ?_
  refine zr_fr hM rfl rfl rfl ?_
  refine zr_fr hM rfl rfl rfl ?_
  exact k
set_option maxHeartbeats 4000000 in
theorem s45_0_r {n L : Nat} {σ : Ks} {g : List Nat} {cl : Bool} {r : Zr} {p1 : Int32} {p2 : Int32} (hn : 2 ≤ n ∧ n ≤ 5) (k : ZR 45 2 [.val (.ref (kad n (0, 0, 0))), .val (.int p1), .val (.int p2), .val (.int (Int32.ofInt 0))] [] (khp n L σ (g)) cl r) : ZR 45 0 [.val (.ref (kad n (0, 0, 0))), .val (.int p1), .val (.int p2), .unset] [] (khp n L σ g) cl r := by
  have hM : zmi[45]? = some _ := rfl
  refine zr_fr hM rfl rfl rfl ?_
  refine zr_fr hM rfl rfl rfl ?_
  exact k
set_option maxHeartbeats 4000000 in
theorem s45_2_ff {n L : Nat} {σ : Ks} {g : List Nat} {cl : Bool} {v1 : Int32} {v2 : Int32} {v3 : Int32} {x2 : Nat} {x3 : Nat} {x4 : Nat} (hn : 2 ≤ n ∧ n ≤ 5) (h1 : zcnd .ge v3 (Int32.ofInt 4) = false) (z2 : zix v1 n = some x2) (z3 : zix v2 n = some x3) (z4 : zix v3 4 = some x4) (h5 : zcnd .eq (σ (2 * x2) (44 + 24 * x3 + 16 + x4)) (σ (2 * x3) x4) = false) : ZR 45 2 [.val (.ref (kad n (0, 0, 0))), .val (.int v1), .val (.int v2), .val (.int v3)] [] (khp n L σ g) cl (.inl (some (.int (Int32.ofInt 0))), khp n L σ (g), cl) := by
  have hM : zmi[45]? = some _ := rfl
  have l2 := (zix_some z2).2.2
  have l3 := (zix_some z3).2.2
  have l4 := (zix_some z4).2.2
  refine zr_fr hM rfl rfl rfl ?_
  refine zr_fr hM rfl rfl rfl ?_
  refine zr_icf hM rfl rfl h1 ?_
  refine zr_fr hM rfl rfl rfl ?_
  refine zr_getf (κ := (0, 0, 0)) hn hM rfl rfl rfl rfl ?_
  refine zr_fr hM rfl rfl rfl ?_
  refine zr_aald (κ := (1, 0, 0)) hn hM rfl rfl rfl rfl z2 ?_
  refine zr_getf (κ := (2, x2, 0)) hn hM rfl (kokT (by omega)) rfl rfl ?_
  refine zr_getf (κ := (3, 2 * x2, 0)) hn hM rfl (kokB rfl (by omega)) rfl rfl ?_
  refine zr_fr hM rfl rfl rfl ?_
  refine zr_aald (κ := (13, 2 * x2, 0)) hn hM rfl (kokB rfl (by omega)) rfl rfl z3 ?_
  refine zr_getf (κ := (14, 2 * x2, x3)) hn hM rfl (kokP rfl (by omega) (by omega)) rfl rfl ?_
  refine zr_fr hM rfl rfl rfl ?_
  refine zr_iald (κ := (18, 2 * x2, x3)) hn hM rfl (kokP rfl (by omega) (by omega)) rfl z4 ?_
  refine zr_fr hM rfl rfl rfl ?_
  refine zr_getf (κ := (0, 0, 0)) hn hM rfl rfl rfl rfl ?_
  refine zr_fr hM rfl rfl rfl ?_
  refine zr_aald (κ := (1, 0, 0)) hn hM rfl rfl rfl rfl z3 ?_
  refine zr_getf (κ := (2, x3, 0)) hn hM rfl (kokT (by omega)) rfl rfl ?_
  refine zr_getf (κ := (3, 2 * x3, 0)) hn hM rfl (kokB rfl (by omega)) rfl rfl ?_
  refine zr_fr hM rfl rfl rfl ?_
  refine zr_iald (κ := (4, 2 * x3, 0)) hn hM rfl (kokB rfl (by omega)) rfl z4 ?_
  refine zr_icf hM rfl rfl h5 ?_
  refine zr_fr hM rfl rfl rfl ?_
  exact zr_zret2 hM rfl rfl (by decide) rfl
set_option maxHeartbeats 4000000 in
theorem s45_2_ft {n L : Nat} {σ : Ks} {g : List Nat} {cl : Bool} {r : Zr} {v1 : Int32} {v2 : Int32} {v3 : Int32} {x2 : Nat} {x3 : Nat} {x4 : Nat} (hn : 2 ≤ n ∧ n ≤ 5) (h1 : zcnd .ge v3 (Int32.ofInt 4) = false) (z2 : zix v1 n = some x2) (z3 : zix v2 n = some x3) (z4 : zix v3 4 = some x4) (h5 : zcnd .eq (σ (2 * x2) (44 + 24 * x3 + 16 + x4)) (σ (2 * x3) x4) = true) (k : ZR 45 2 [.val (.ref (kad n (0, 0, 0))), .val (.int v1), .val (.int v2), .val (.int (v3 + Int32.ofInt 1))] [] (khp n L σ (g)) cl r) : ZR 45 2 [.val (.ref (kad n (0, 0, 0))), .val (.int v1), .val (.int v2), .val (.int v3)] [] (khp n L σ g) cl r := by
  have hM : zmi[45]? = some _ := rfl
  have l2 := (zix_some z2).2.2
  have l3 := (zix_some z3).2.2
  have l4 := (zix_some z4).2.2
  refine zr_fr hM rfl rfl rfl ?_
  refine zr_fr hM rfl rfl rfl ?_
  refine zr_icf hM rfl rfl h1 ?_
  refine zr_fr hM rfl rfl rfl ?_
  refine zr_getf (κ := (0, 0, 0)) hn hM rfl rfl rfl rfl ?_
  refine zr_fr hM rfl rfl rfl ?_
  refine zr_aald (κ := (1, 0, 0)) hn hM rfl rfl rfl rfl z2 ?_
  refine zr_getf (κ := (2, x2, 0)) hn hM rfl (kokT (by omega)) rfl rfl ?_
  refine zr_getf (κ := (3, 2 * x2, 0)) hn hM rfl (kokB rfl (by omega)) rfl rfl ?_
  refine zr_fr hM rfl rfl rfl ?_
  refine zr_aald (κ := (13, 2 * x2, 0)) hn hM rfl (kokB rfl (by omega)) rfl rfl z3 ?_
  refine zr_getf (κ := (14, 2 * x2, x3)) hn hM rfl (kokP rfl (by omega) (by omega)) rfl rfl ?_
  refine zr_fr hM rfl rfl rfl ?_
  refine zr_iald (κ := (18, 2 * x2, x3)) hn hM rfl (kokP rfl (by omega) (by omega)) rfl z4 ?_
  refine zr_fr hM rfl rfl rfl ?_
  refine zr_getf (κ := (0, 0, 0)) hn hM rfl rfl rfl rfl ?_
  refine zr_fr hM rfl rfl rfl ?_
  refine zr_aald (κ := (1, 0, 0)) hn hM rfl rfl rfl rfl z3 ?_
  refine zr_getf (κ := (2, x3, 0)) hn hM rfl (kokT (by omega)) rfl rfl ?_
  refine zr_getf (κ := (3, 2 * x3, 0)) hn hM rfl (kokB rfl (by omega)) rfl rfl ?_
  refine zr_fr hM rfl rfl rfl ?_
  refine zr_iald (κ := (4, 2 * x3, 0)) hn hM rfl (kokB rfl (by omega)) rfl z4 ?_
  refine zr_ict hM rfl rfl h5 ?_
  refine zr_fr hM rfl rfl rfl ?_
  refine zr_fr hM rfl rfl rfl ?_
  exact k
set_option maxHeartbeats 4000000 in
theorem s45_2_t {n L : Nat} {σ : Ks} {g : List Nat} {cl : Bool} {v1 : Int32} {v2 : Int32} {v3 : Int32} (hn : 2 ≤ n ∧ n ≤ 5) (h1 : zcnd .ge v3 (Int32.ofInt 4) = true) : ZR 45 2 [.val (.ref (kad n (0, 0, 0))), .val (.int v1), .val (.int v2), .val (.int v3)] [] (khp n L σ g) cl (.inl (some (.int (Int32.ofInt 1))), khp n L σ (g), cl) := by
  have hM : zmi[45]? = some _ := rfl
  refine zr_fr hM rfl rfl rfl ?_
  refine zr_fr hM rfl rfl rfl ?_
  refine zr_ict hM rfl rfl h1 ?_
  refine zr_fr hM rfl rfl rfl ?_
  exact zr_zret2 hM rfl rfl (by decide) rfl
set_option maxHeartbeats 4000000 in
theorem s46_0_f {n L : Nat} {σ : Ks} {g : List Nat} {cl : Bool} {p1 : Int32} {x2 : Nat} (hn : 2 ≤ n ∧ n ≤ 5) (h1 : zcnd .ge p1 (Int32.ofNat L) = false) (z2 : zix p1 L = some x2) : ZR 46 0 [.val (.ref (kad n (28, 0, 0))), .val (.int p1)] [] (khp n L σ g) cl (.inl (some (.int (σ 60 x2))), khp n L σ (g), cl) := by
  have hM : zmi[46]? = some _ := rfl
  have l2 := (zix_some z2).2.2
  refine zr_fr hM rfl rfl rfl ?_
  refine zr_fr hM rfl rfl rfl ?_
  refine zr_alen (κ := (28, 0, 0)) hn hM rfl rfl rfl ?_
  refine zr_icf hM rfl rfl h1 ?_
  refine zr_fr hM rfl rfl rfl ?_
  refine zr_fr hM rfl rfl rfl ?_
  refine zr_iald (κ := (28, 0, 0)) hn hM rfl rfl rfl z2 ?_
  refine zr_fr hM rfl rfl rfl ?_
  exact zr_iret2 hM rfl rfl rfl
set_option maxHeartbeats 4000000 in
theorem s46_0_t {n L : Nat} {σ : Ks} {g : List Nat} {cl : Bool} {p1 : Int32} (hn : 2 ≤ n ∧ n ≤ 5) (h1 : zcnd .ge p1 (Int32.ofNat L) = true) : ZR 46 0 [.val (.ref (kad n (28, 0, 0))), .val (.int p1)] [] (khp n L σ g) cl (.inl (some (.int (Int32.ofInt 0))), khp n L σ (g), cl) := by
  have hM : zmi[46]? = some _ := rfl
  refine zr_fr hM rfl rfl rfl ?_
  refine zr_fr hM rfl rfl rfl ?_
  refine zr_alen (κ := (28, 0, 0)) hn hM rfl rfl rfl ?_
  refine zr_ict hM rfl rfl h1 ?_
  refine zr_fr hM rfl rfl rfl ?_
  exact zr_iret2 hM rfl rfl rfl
set_option maxHeartbeats 4000000 in
theorem s47_0_k {n L : Nat} {σ : Ks} {g : List Nat} {cl : Bool} {p1 : Int32} {p2 : Int32} {σ1 : Ks} {c1 : Bool} {r1 : Int32} {x2 : Nat} (hn : 2 ≤ n ∧ n ≤ 5) (c1_ : ZR 48 0 [.val (.ref (kad n (0, 0, 0))), .val (.int p1), .val (.int p2), .unset, .unset] [] (khp n L σ g) true (.inl (some (.int r1)), khp n L σ1 g, c1)) (z2 : zix (Int32.ofInt 0) 1 = some x2) : ZR 47 0 [.val (.ref (kad n (0, 0, 0))), .val (.int p1), .val (.int p2), .val (.ref (kad n (27, 0, 0))), .unset] [] (khp n L σ g) cl (.inl (some (.int (Int32.ofInt 0))), khp n L (kup σ1 50 x2 r1) (g), false) := by
  have hM : zmi[47]? = some _ := rfl
  have l2 := (zix_some z2).2.2
  refine zr_fr hM rfl rfl rfl ?_
  refine zr_fr hM rfl rfl rfl ?_
  refine zr_fr hM rfl rfl rfl ?_
  refine zr_fr hM rfl rfl rfl ?_
  refine zr_fr hM rfl rfl rfl ?_
  refine zr_virt (κ := (0, 0, 0)) hn hM rfl rfl rfl rfl rfl rfl rfl rfl rfl ?_
  refine zgo_ret rfl rfl c1_ ?_
  refine zr_fr hM rfl rfl rfl ?_
  refine zr_last (κ := (27, 0, 0)) hn hM rfl rfl rfl rfl z2 rfl ?_
  refine zr_fr hM rfl rfl rfl ?_
  refine zr_fr hM rfl rfl rfl ?_
  exact zr_iret2 hM rfl rfl rfl
set_option maxHeartbeats 4000000 in
theorem s47_0_e201 {n L : Nat} {σ : Ks} {g : List Nat} {cl : Bool} {p1 : Int32} {p2 : Int32} (hn : 2 ≤ n ∧ n ≤ 5) (e1 : ZR 48 0 [.val (.ref (kad n (0, 0, 0))), .val (.int p1), .val (.int p2), .unset, .unset] [] (khp n L σ g) true (.inr (khp n L σ g).length, khp n L σ g ++ [(201, [])], false)) : ZR 47 0 [.val (.ref (kad n (0, 0, 0))), .val (.int p1), .val (.int p2), .val (.ref (kad n (27, 0, 0))), .unset] [] (khp n L σ g) cl (.inl (some (.int (Int32.ofInt 2))), khp n L σ (g ++ [201]), false) := by
  have hM : zmi[47]? = some _ := rfl
  refine zr_fr hM rfl rfl rfl ?_
  refine zr_fr hM rfl rfl rfl ?_
  refine zr_fr hM rfl rfl rfl ?_
  refine zr_fr hM rfl rfl rfl ?_
  refine zr_fr hM rfl rfl rfl ?_
  refine zr_virt (κ := (0, 0, 0)) hn hM rfl rfl rfl rfl rfl rfl rfl rfl rfl ?_
  refine zgo_cat rfl rfl e1 (by decide) rfl ?_
  rw [khp_thr]
  refine zr_fr hM rfl rfl rfl ?_
  refine zr_fr hM rfl rfl rfl ?_
  exact zr_iret2 hM rfl rfl rfl
set_option maxHeartbeats 4000000 in
theorem s47_0_e200 {n L : Nat} {σ : Ks} {g : List Nat} {cl : Bool} {p1 : Int32} {p2 : Int32} (hn : 2 ≤ n ∧ n ≤ 5) (e1 : ZR 48 0 [.val (.ref (kad n (0, 0, 0))), .val (.int p1), .val (.int p2), .unset, .unset] [] (khp n L σ g) true (.inr (khp n L σ g).length, khp n L σ g ++ [(200, [])], false)) : ZR 47 0 [.val (.ref (kad n (0, 0, 0))), .val (.int p1), .val (.int p2), .val (.ref (kad n (27, 0, 0))), .unset] [] (khp n L σ g) cl (.inl (some (.int (Int32.ofInt 1))), khp n L σ (g ++ [200]), false) := by
  have hM : zmi[47]? = some _ := rfl
  refine zr_fr hM rfl rfl rfl ?_
  refine zr_fr hM rfl rfl rfl ?_
  refine zr_fr hM rfl rfl rfl ?_
  refine zr_fr hM rfl rfl rfl ?_
  refine zr_fr hM rfl rfl rfl ?_
  refine zr_virt (κ := (0, 0, 0)) hn hM rfl rfl rfl rfl rfl rfl rfl rfl rfl ?_
  refine zgo_cat rfl rfl e1 (by decide) rfl ?_
  rw [khp_thr]
  refine zr_fr hM rfl rfl rfl ?_
  refine zr_fr hM rfl rfl rfl ?_
  exact zr_iret2 hM rfl rfl rfl
set_option maxHeartbeats 4000000 in
theorem s48_0_kkkf {n L : Nat} {σ : Ks} {g : List Nat} {cl : Bool} {p1 : Int32} {p2 : Int32} {x4 : Nat} {x5 : Nat} (hn : 2 ≤ n ∧ n ≤ 5) (c1_ : ZR 49 0 [.val (.int p1)] [] (khp n L σ g) true (.inl (none), khp n L σ g, true)) (c2_ : ZR 50 0 [.val (.int p2)] [] (khp n L σ g) true (.inl (none), khp n L σ g, true)) (c3_ : ZR 51 0 [.val (.ref (kad n (0, 0, 0))), .val (.int (Int32.ofInt 0))] [] (khp n L σ g) true (.inl (none), khp n L σ g, true)) (z4 : zix (Int32.ofInt 0) n = some x4) (z5 : zix p1 4 = some x5) (h6 : zcnd .le ((σ (2 * x4) (12 + x5)) + p2) (Int32.ofNat 100000000) = false) (hcap : (khp n L σ g).length < zcap) (hcl : cl = true) : ZR 48 0 [.val (.ref (kad n (0, 0, 0))), .val (.int p1), .val (.int p2), .unset, .unset] [] (khp n L σ g) cl (.inr (khp n L σ g).length, khp n L σ g ++ [(201, [])], false) := by
  have hM : zmi[48]? = some _ := rfl
  have l4 := (zix_some z4).2.2
  have l5 := (zix_some z5).2.2
  refine zr_fr hM rfl rfl rfl ?_
  refine zr_stat hM rfl rfl rfl rfl rfl rfl ?_
  refine zgo_ret rfl rfl c1_ ?_
  rw [Bool.and_true]
  refine zr_fr hM rfl rfl rfl ?_
  refine zr_stat hM rfl rfl rfl rfl rfl rfl ?_
  refine zgo_ret rfl rfl c2_ ?_
  rw [Bool.and_true]
  refine zr_fr hM rfl rfl rfl ?_
  refine zr_fr hM rfl rfl rfl ?_
  refine zr_virt (κ := (0, 0, 0)) hn hM rfl rfl rfl rfl rfl rfl rfl rfl rfl ?_
  refine zgo_ret rfl rfl c3_ ?_
  rw [Bool.and_true]
  refine zr_fr hM rfl rfl rfl ?_
  refine zr_getf (κ := (0, 0, 0)) hn hM rfl rfl rfl rfl ?_
  refine zr_fr hM rfl rfl rfl ?_
  refine zr_aald (κ := (1, 0, 0)) hn hM rfl rfl rfl rfl z4 ?_
  refine zr_fr hM rfl rfl rfl ?_
  refine zr_fr hM rfl rfl rfl ?_
  refine zr_getf (κ := (2, x4, 0)) hn hM rfl (kokT (by omega)) rfl rfl ?_
  refine zr_fr hM rfl rfl rfl ?_
  refine zr_fr hM rfl rfl rfl ?_
  refine zr_getf (κ := (3, 2 * x4, 0)) hn hM rfl (kokB rfl (by omega)) rfl rfl ?_
  refine zr_fr hM rfl rfl rfl ?_
  refine zr_iald (κ := (7, 2 * x4, 0)) hn hM rfl (kokB rfl (by omega)) rfl z5 ?_
  refine zr_fr hM rfl rfl rfl ?_
  refine zr_fr hM rfl rfl rfl ?_
  refine zr_ldc hM rfl ?_
  refine zr_icf hM rfl rfl h6 ?_
  exact zr_throw2 hM rfl rfl rfl rfl rfl rfl hcap hcl rfl
set_option maxHeartbeats 4000000 in
theorem s48_0_kkkt {n L : Nat} {σ : Ks} {g : List Nat} {cl : Bool} {p1 : Int32} {p2 : Int32} {x4 : Nat} {x5 : Nat} {σ7 : Ks} {c7 : Bool} (hn : 2 ≤ n ∧ n ≤ 5) (c1_ : ZR 49 0 [.val (.int p1)] [] (khp n L σ g) true (.inl (none), khp n L σ g, true)) (c2_ : ZR 50 0 [.val (.int p2)] [] (khp n L σ g) true (.inl (none), khp n L σ g, true)) (c3_ : ZR 51 0 [.val (.ref (kad n (0, 0, 0))), .val (.int (Int32.ofInt 0))] [] (khp n L σ g) true (.inl (none), khp n L σ g, true)) (z4 : zix (Int32.ofInt 0) n = some x4) (z5 : zix p1 4 = some x5) (h6 : zcnd .le ((σ (2 * x4) (12 + x5)) + p2) (Int32.ofNat 100000000) = true) (c7_ : ZR 15 0 [.val (.ref (kad n (2, x4, 0)))] [] (khp n L (kup (kup σ (2 * x4) x5 ((σ (2 * x4) x5) + p2)) (2 * x4) (12 + x5) (((kup σ (2 * x4) x5 ((σ (2 * x4) x5) + p2)) (2 * x4) (12 + x5)) + p2)) g) true (.inl (none), khp n L σ7 g, c7)) : ZR 48 0 [.val (.ref (kad n (0, 0, 0))), .val (.int p1), .val (.int p2), .unset, .unset] [] (khp n L σ g) cl (.inl (some (.int (σ7 (2 * x4) x5))), khp n L σ7 (g), false) := by
  have hM : zmi[48]? = some _ := rfl
  have l4 := (zix_some z4).2.2
  have l5 := (zix_some z5).2.2
  refine zr_fr hM rfl rfl rfl ?_
  refine zr_stat hM rfl rfl rfl rfl rfl rfl ?_
  refine zgo_ret rfl rfl c1_ ?_
  rw [Bool.and_true]
  refine zr_fr hM rfl rfl rfl ?_
  refine zr_stat hM rfl rfl rfl rfl rfl rfl ?_
  refine zgo_ret rfl rfl c2_ ?_
  rw [Bool.and_true]
  refine zr_fr hM rfl rfl rfl ?_
  refine zr_fr hM rfl rfl rfl ?_
  refine zr_virt (κ := (0, 0, 0)) hn hM rfl rfl rfl rfl rfl rfl rfl rfl rfl ?_
  refine zgo_ret rfl rfl c3_ ?_
  rw [Bool.and_true]
  refine zr_fr hM rfl rfl rfl ?_
  refine zr_getf (κ := (0, 0, 0)) hn hM rfl rfl rfl rfl ?_
  refine zr_fr hM rfl rfl rfl ?_
  refine zr_aald (κ := (1, 0, 0)) hn hM rfl rfl rfl rfl z4 ?_
  refine zr_fr hM rfl rfl rfl ?_
  refine zr_fr hM rfl rfl rfl ?_
  refine zr_getf (κ := (2, x4, 0)) hn hM rfl (kokT (by omega)) rfl rfl ?_
  refine zr_fr hM rfl rfl rfl ?_
  refine zr_fr hM rfl rfl rfl ?_
  refine zr_getf (κ := (3, 2 * x4, 0)) hn hM rfl (kokB rfl (by omega)) rfl rfl ?_
  refine zr_fr hM rfl rfl rfl ?_
  refine zr_iald (κ := (7, 2 * x4, 0)) hn hM rfl (kokB rfl (by omega)) rfl z5 ?_
  refine zr_fr hM rfl rfl rfl ?_
  refine zr_fr hM rfl rfl rfl ?_
  refine zr_ldc hM rfl ?_
  refine zr_ict hM rfl rfl h6 ?_
  refine zr_fr hM rfl rfl rfl ?_
  refine zr_getf (κ := (3, 2 * x4, 0)) hn hM rfl (kokB rfl (by omega)) rfl rfl ?_
  refine zr_fr hM rfl rfl rfl ?_
  refine zr_fr hM rfl rfl rfl ?_
  refine zr_iald (κ := (4, 2 * x4, 0)) hn hM rfl (kokB rfl (by omega)) rfl z5 ?_
  refine zr_fr hM rfl rfl rfl ?_
  refine zr_fr hM rfl rfl rfl ?_
  refine zr_iast (κ := (4, 2 * x4, 0)) hn hM rfl (kokB rfl (by omega)) rfl rfl z5 rfl ?_
  refine zr_fr hM rfl rfl rfl ?_
  refine zr_getf (κ := (3, 2 * x4, 0)) hn hM rfl (kokB rfl (by omega)) rfl rfl ?_
  refine zr_fr hM rfl rfl rfl ?_
  refine zr_fr hM rfl rfl rfl ?_
  refine zr_iald (κ := (7, 2 * x4, 0)) hn hM rfl (kokB rfl (by omega)) rfl z5 ?_
  refine zr_fr hM rfl rfl rfl ?_
  refine zr_fr hM rfl rfl rfl ?_
  refine zr_iast (κ := (7, 2 * x4, 0)) hn hM rfl (kokB rfl (by omega)) rfl rfl z5 rfl ?_
  refine zr_fr hM rfl rfl rfl ?_
  refine zr_virt (κ := (2, x4, 0)) hn hM rfl rfl rfl rfl rfl rfl (kokT (by omega)) rfl rfl ?_
  refine zgo_ret rfl rfl c7_ ?_
  rw [Bool.false_and]
  refine zr_fr hM rfl rfl rfl ?_
  refine zr_getf (κ := (3, 2 * x4, 0)) hn hM rfl (kokB rfl (by omega)) rfl rfl ?_
  refine zr_fr hM rfl rfl rfl ?_
  refine zr_iald (κ := (4, 2 * x4, 0)) hn hM rfl (kokB rfl (by omega)) rfl z5 ?_
  exact zr_iret2 hM rfl rfl rfl
set_option maxHeartbeats 4000000 in
theorem s48_0_e200 {n L : Nat} {σ : Ks} {g : List Nat} {cl : Bool} {p1 : Int32} {p2 : Int32} (hn : 2 ≤ n ∧ n ≤ 5) (e1 : ZR 49 0 [.val (.int p1)] [] (khp n L σ g) true (.inr (khp n L σ g).length, khp n L σ g ++ [(200, [])], false)) : ZR 48 0 [.val (.ref (kad n (0, 0, 0))), .val (.int p1), .val (.int p2), .unset, .unset] [] (khp n L σ g) cl (.inr (khp n L σ g).length, khp n L σ g ++ [(200, [])], false) := by
  have hM : zmi[48]? = some _ := rfl
  refine zr_fr hM rfl rfl rfl ?_
  refine zr_stat hM rfl rfl rfl rfl rfl rfl ?_
  exact zgo_thr2 rfl rfl e1 rfl rfl rfl
set_option maxHeartbeats 4000000 in
theorem s48_0_ke200 {n L : Nat} {σ : Ks} {g : List Nat} {cl : Bool} {p1 : Int32} {p2 : Int32} (hn : 2 ≤ n ∧ n ≤ 5) (c1_ : ZR 49 0 [.val (.int p1)] [] (khp n L σ g) true (.inl (none), khp n L σ g, true)) (e2 : ZR 50 0 [.val (.int p2)] [] (khp n L σ g) true (.inr (khp n L σ g).length, khp n L σ g ++ [(200, [])], false)) : ZR 48 0 [.val (.ref (kad n (0, 0, 0))), .val (.int p1), .val (.int p2), .unset, .unset] [] (khp n L σ g) cl (.inr (khp n L σ g).length, khp n L σ g ++ [(200, [])], false) := by
  have hM : zmi[48]? = some _ := rfl
  refine zr_fr hM rfl rfl rfl ?_
  refine zr_stat hM rfl rfl rfl rfl rfl rfl ?_
  refine zgo_ret rfl rfl c1_ ?_
  rw [Bool.and_true]
  refine zr_fr hM rfl rfl rfl ?_
  refine zr_stat hM rfl rfl rfl rfl rfl rfl ?_
  exact zgo_thr2 rfl rfl e2 rfl rfl rfl
set_option maxHeartbeats 4000000 in
theorem s48_0_kke201 {n L : Nat} {σ : Ks} {g : List Nat} {cl : Bool} {p1 : Int32} {p2 : Int32} (hn : 2 ≤ n ∧ n ≤ 5) (c1_ : ZR 49 0 [.val (.int p1)] [] (khp n L σ g) true (.inl (none), khp n L σ g, true)) (c2_ : ZR 50 0 [.val (.int p2)] [] (khp n L σ g) true (.inl (none), khp n L σ g, true)) (e3 : ZR 51 0 [.val (.ref (kad n (0, 0, 0))), .val (.int (Int32.ofInt 0))] [] (khp n L σ g) true (.inr (khp n L σ g).length, khp n L σ g ++ [(201, [])], false)) : ZR 48 0 [.val (.ref (kad n (0, 0, 0))), .val (.int p1), .val (.int p2), .unset, .unset] [] (khp n L σ g) cl (.inr (khp n L σ g).length, khp n L σ g ++ [(201, [])], false) := by
  have hM : zmi[48]? = some _ := rfl
  refine zr_fr hM rfl rfl rfl ?_
  refine zr_stat hM rfl rfl rfl rfl rfl rfl ?_
  refine zgo_ret rfl rfl c1_ ?_
  rw [Bool.and_true]
  refine zr_fr hM rfl rfl rfl ?_
  refine zr_stat hM rfl rfl rfl rfl rfl rfl ?_
  refine zgo_ret rfl rfl c2_ ?_
  rw [Bool.and_true]
  refine zr_fr hM rfl rfl rfl ?_
  refine zr_fr hM rfl rfl rfl ?_
  refine zr_virt (κ := (0, 0, 0)) hn hM rfl rfl rfl rfl rfl rfl rfl rfl rfl ?_
  exact zgo_thr2 rfl rfl e3 rfl rfl rfl
set_option maxHeartbeats 4000000 in
theorem s49_0_f {n L : Nat} {σ : Ks} {g : List Nat} {cl : Bool} {p1 : Int32} {r1 : Int32} (hn : 2 ≤ n ∧ n ≤ 5) (c1_ : ZR 31 0 [.val (.int p1)] [] (khp n L σ g) true (.inl (some (.int r1)), khp n L σ g, true)) (h2 : zcnd .ne r1 0 = false) (hcap : (khp n L σ g).length < zcap) (hcl : cl = true) : ZR 49 0 [.val (.int p1)] [] (khp n L σ g) cl (.inr (khp n L σ g).length, khp n L σ g ++ [(200, [])], false) := by
  have hM : zmi[49]? = some _ := rfl
  refine zr_fr hM rfl rfl rfl ?_
  refine zr_stat hM rfl rfl rfl rfl rfl rfl ?_
  refine zgo_ret rfl rfl c1_ ?_
  rw [Bool.and_true]
  refine zr_iff hM rfl rfl h2 ?_
  exact zr_throw2 hM rfl rfl rfl rfl rfl rfl hcap hcl rfl
set_option maxHeartbeats 4000000 in
theorem s49_0_t {n L : Nat} {σ : Ks} {g : List Nat} {cl : Bool} {p1 : Int32} {r1 : Int32} (hn : 2 ≤ n ∧ n ≤ 5) (c1_ : ZR 31 0 [.val (.int p1)] [] (khp n L σ g) true (.inl (some (.int r1)), khp n L σ g, true)) (h2 : zcnd .ne r1 0 = true) : ZR 49 0 [.val (.int p1)] [] (khp n L σ g) cl (.inl (none), khp n L σ (g), cl) := by
  have hM : zmi[49]? = some _ := rfl
  refine zr_fr hM rfl rfl rfl ?_
  refine zr_stat hM rfl rfl rfl rfl rfl rfl ?_
  refine zgo_ret rfl rfl c1_ ?_
  rw [Bool.and_true]
  refine zr_ift hM rfl rfl h2 ?_
  exact zr_vret2 hM rfl rfl rfl
set_option maxHeartbeats 4000000 in
theorem s50_0_ff {n L : Nat} {σ : Ks} {g : List Nat} {cl : Bool} {p1 : Int32} (hn : 2 ≤ n ∧ n ≤ 5) (h1 : zcnd .lt p1 (Int32.ofInt 1) = false) (h2 : zcnd .le p1 (Int32.ofNat 1000000) = false) (hcap : (khp n L σ g).length < zcap) (hcl : cl = true) : ZR 50 0 [.val (.int p1)] [] (khp n L σ g) cl (.inr (khp n L σ g).length, khp n L σ g ++ [(200, [])], false) := by
  have hM : zmi[50]? = some _ := rfl
  refine zr_fr hM rfl rfl rfl ?_
  refine zr_fr hM rfl rfl rfl ?_
  refine zr_icf hM rfl rfl h1 ?_
  refine zr_fr hM rfl rfl rfl ?_
  refine zr_ldc hM rfl ?_
  refine zr_icf hM rfl rfl h2 ?_
  exact zr_throw2 hM rfl rfl rfl rfl rfl rfl hcap hcl rfl
set_option maxHeartbeats 4000000 in
theorem s50_0_ft {n L : Nat} {σ : Ks} {g : List Nat} {cl : Bool} {p1 : Int32} (hn : 2 ≤ n ∧ n ≤ 5) (h1 : zcnd .lt p1 (Int32.ofInt 1) = false) (h2 : zcnd .le p1 (Int32.ofNat 1000000) = true) : ZR 50 0 [.val (.int p1)] [] (khp n L σ g) cl (.inl (none), khp n L σ (g), cl) := by
  have hM : zmi[50]? = some _ := rfl
  refine zr_fr hM rfl rfl rfl ?_
  refine zr_fr hM rfl rfl rfl ?_
  refine zr_icf hM rfl rfl h1 ?_
  refine zr_fr hM rfl rfl rfl ?_
  refine zr_ldc hM rfl ?_
  refine zr_ict hM rfl rfl h2 ?_
  exact zr_vret2 hM rfl rfl rfl
set_option maxHeartbeats 4000000 in
theorem s50_0_t {n L : Nat} {σ : Ks} {g : List Nat} {cl : Bool} {p1 : Int32} (hn : 2 ≤ n ∧ n ≤ 5) (h1 : zcnd .lt p1 (Int32.ofInt 1) = true) (hcap : (khp n L σ g).length < zcap) (hcl : cl = true) : ZR 50 0 [.val (.int p1)] [] (khp n L σ g) cl (.inr (khp n L σ g).length, khp n L σ g ++ [(200, [])], false) := by
  have hM : zmi[50]? = some _ := rfl
  refine zr_fr hM rfl rfl rfl ?_
  refine zr_fr hM rfl rfl rfl ?_
  refine zr_ict hM rfl rfl h1 ?_
  exact zr_throw2 hM rfl rfl rfl rfl rfl rfl hcap hcl rfl
set_option maxHeartbeats 4000000 in
theorem s51_0_f {n L : Nat} {σ : Ks} {g : List Nat} {cl : Bool} {p1 : Int32} {r1 : Int32} (hn : 2 ≤ n ∧ n ≤ 5) (c1_ : ZR 10 0 [.val (.ref (kad n (0, 0, 0))), .val (.int p1)] [] (khp n L σ g) true (.inl (some (.int r1)), khp n L σ g, true)) (h2 : zcnd .ne r1 0 = false) (hcap : (khp n L σ g).length < zcap) (hcl : cl = true) : ZR 51 0 [.val (.ref (kad n (0, 0, 0))), .val (.int p1)] [] (khp n L σ g) cl (.inr (khp n L σ g).length, khp n L σ g ++ [(201, [])], false) := by
  have hM : zmi[51]? = some _ := rfl
  refine zr_fr hM rfl rfl rfl ?_
  refine zr_fr hM rfl rfl rfl ?_
  refine zr_virt (κ := (0, 0, 0)) hn hM rfl rfl rfl rfl rfl rfl rfl rfl rfl ?_
  refine zgo_ret rfl rfl c1_ ?_
  rw [Bool.and_true]
  refine zr_iff hM rfl rfl h2 ?_
  exact zr_throw2 hM rfl rfl rfl rfl rfl rfl hcap hcl rfl
set_option maxHeartbeats 4000000 in
theorem s51_0_t {n L : Nat} {σ : Ks} {g : List Nat} {cl : Bool} {p1 : Int32} {r1 : Int32} (hn : 2 ≤ n ∧ n ≤ 5) (c1_ : ZR 10 0 [.val (.ref (kad n (0, 0, 0))), .val (.int p1)] [] (khp n L σ g) true (.inl (some (.int r1)), khp n L σ g, true)) (h2 : zcnd .ne r1 0 = true) : ZR 51 0 [.val (.ref (kad n (0, 0, 0))), .val (.int p1)] [] (khp n L σ g) cl (.inl (none), khp n L σ (g), cl) := by
  have hM : zmi[51]? = some _ := rfl
  refine zr_fr hM rfl rfl rfl ?_
  refine zr_fr hM rfl rfl rfl ?_
  refine zr_virt (κ := (0, 0, 0)) hn hM rfl rfl rfl rfl rfl rfl rfl rfl rfl ?_
  refine zgo_ret rfl rfl c1_ ?_
  rw [Bool.and_true]
  refine zr_ift hM rfl rfl h2 ?_
  exact zr_vret2 hM rfl rfl rfl
set_option maxHeartbeats 4000000 in
theorem s52_0_k {n L : Nat} {σ : Ks} {g : List Nat} {cl : Bool} {p1 : Int32} {p2 : Int32} {p3 : Int32} {σ1 : Ks} {c1 : Bool} {r1 : Int32} {x2 : Nat} (hn : 2 ≤ n ∧ n ≤ 5) (c1_ : ZR 53 0 [.val (.ref (kad n (0, 0, 0))), .val (.int p1), .val (.int p2), .val (.int p3), .unset] [] (khp n L σ g) true (.inl (some (.int r1)), khp n L σ1 g, c1)) (z2 : zix (Int32.ofInt 0) 1 = some x2) : ZR 52 0 [.val (.ref (kad n (0, 0, 0))), .val (.int p1), .val (.int p2), .val (.int p3), .val (.ref (kad n (27, 0, 0))), .unset] [] (khp n L σ g) cl (.inl (some (.int (Int32.ofInt 0))), khp n L (kup σ1 50 x2 r1) (g), false) := by
  have hM : zmi[52]? = some _ := rfl
  have l2 := (zix_some z2).2.2
  refine zr_fr hM rfl rfl rfl ?_
  refine zr_fr hM rfl rfl rfl ?_
  refine zr_fr hM rfl rfl rfl ?_
  refine zr_fr hM rfl rfl rfl ?_
  refine zr_fr hM rfl rfl rfl ?_
  refine zr_fr hM rfl rfl rfl ?_
  refine zr_virt (κ := (0, 0, 0)) hn hM rfl rfl rfl rfl rfl rfl rfl rfl rfl ?_
  refine zgo_ret rfl rfl c1_ ?_
  refine zr_fr hM rfl rfl rfl ?_
  refine zr_last (κ := (27, 0, 0)) hn hM rfl rfl rfl rfl z2 rfl ?_
  refine zr_fr hM rfl rfl rfl ?_
  refine zr_fr hM rfl rfl rfl ?_
  exact zr_iret2 hM rfl rfl rfl
set_option maxHeartbeats 4000000 in
theorem s52_0_e201 {n L : Nat} {σ : Ks} {g : List Nat} {cl : Bool} {p1 : Int32} {p2 : Int32} {p3 : Int32} (hn : 2 ≤ n ∧ n ≤ 5) (e1 : ZR 53 0 [.val (.ref (kad n (0, 0, 0))), .val (.int p1), .val (.int p2), .val (.int p3), .unset] [] (khp n L σ g) true (.inr (khp n L σ g).length, khp n L σ g ++ [(201, [])], false)) : ZR 52 0 [.val (.ref (kad n (0, 0, 0))), .val (.int p1), .val (.int p2), .val (.int p3), .val (.ref (kad n (27, 0, 0))), .unset] [] (khp n L σ g) cl (.inl (some (.int (Int32.ofInt 2))), khp n L σ (g ++ [201]), false) := by
  have hM : zmi[52]? = some _ := rfl
  refine zr_fr hM rfl rfl rfl ?_
  refine zr_fr hM rfl rfl rfl ?_
  refine zr_fr hM rfl rfl rfl ?_
  refine zr_fr hM rfl rfl rfl ?_
  refine zr_fr hM rfl rfl rfl ?_
  refine zr_fr hM rfl rfl rfl ?_
  refine zr_virt (κ := (0, 0, 0)) hn hM rfl rfl rfl rfl rfl rfl rfl rfl rfl ?_
  refine zgo_cat rfl rfl e1 (by decide) rfl ?_
  rw [khp_thr]
  refine zr_fr hM rfl rfl rfl ?_
  refine zr_fr hM rfl rfl rfl ?_
  exact zr_iret2 hM rfl rfl rfl
set_option maxHeartbeats 4000000 in
theorem s52_0_e200 {n L : Nat} {σ : Ks} {g : List Nat} {cl : Bool} {p1 : Int32} {p2 : Int32} {p3 : Int32} (hn : 2 ≤ n ∧ n ≤ 5) (e1 : ZR 53 0 [.val (.ref (kad n (0, 0, 0))), .val (.int p1), .val (.int p2), .val (.int p3), .unset] [] (khp n L σ g) true (.inr (khp n L σ g).length, khp n L σ g ++ [(200, [])], false)) : ZR 52 0 [.val (.ref (kad n (0, 0, 0))), .val (.int p1), .val (.int p2), .val (.int p3), .val (.ref (kad n (27, 0, 0))), .unset] [] (khp n L σ g) cl (.inl (some (.int (Int32.ofInt 1))), khp n L σ (g ++ [200]), false) := by
  have hM : zmi[52]? = some _ := rfl
  refine zr_fr hM rfl rfl rfl ?_
  refine zr_fr hM rfl rfl rfl ?_
  refine zr_fr hM rfl rfl rfl ?_
  refine zr_fr hM rfl rfl rfl ?_
  refine zr_fr hM rfl rfl rfl ?_
  refine zr_fr hM rfl rfl rfl ?_
  refine zr_virt (κ := (0, 0, 0)) hn hM rfl rfl rfl rfl rfl rfl rfl rfl rfl ?_
  refine zgo_cat rfl rfl e1 (by decide) rfl ?_
  rw [khp_thr]
  refine zr_fr hM rfl rfl rfl ?_
  refine zr_fr hM rfl rfl rfl ?_
  exact zr_iret2 hM rfl rfl rfl
set_option maxHeartbeats 4000000 in
theorem s53_0_kk {n L : Nat} {σ : Ks} {g : List Nat} {cl : Bool} {p1 : Int32} {p2 : Int32} {p3 : Int32} {x3 : Nat} {x4 : Nat} (hn : 2 ≤ n ∧ n ≤ 5) (c1_ : ZR 54 0 [.val (.ref (kad n (0, 0, 0))), .val (.int p1), .val (.int p2), .val (.int p3)] [] (khp n L σ g) true (.inl (none), khp n L σ g, true)) (c2_ : ZR 56 0 [.val (.ref (kad n (0, 0, 0))), .val (.int p1), .val (.int p2), .val (.int p3)] [] (khp n L σ g) true (.inl (none), khp n L σ g, true)) (z3 : zix p1 n = some x3) (z4 : zix p2 4 = some x4) : ZR 53 0 [.val (.ref (kad n (0, 0, 0))), .val (.int p1), .val (.int p2), .val (.int p3), .unset] [] (khp n L σ g) cl (.inl (some (.int ((kup (kup σ (2 * x3) x4 ((σ (2 * x3) x4) - p3)) (2 * x3) (4 + x4) (((kup σ (2 * x3) x4 ((σ (2 * x3) x4) - p3)) (2 * x3) (4 + x4)) + p3)) (2 * x3) x4))), khp n L (kup (kup σ (2 * x3) x4 ((σ (2 * x3) x4) - p3)) (2 * x3) (4 + x4) (((kup σ (2 * x3) x4 ((σ (2 * x3) x4) - p3)) (2 * x3) (4 + x4)) + p3)) (g), false) := by
  have hM : zmi[53]? = some _ := rfl
  have l3 := (zix_some z3).2.2
  have l4 := (zix_some z4).2.2
  refine zr_fr hM rfl rfl rfl ?_
  refine zr_fr hM rfl rfl rfl ?_
  refine zr_fr hM rfl rfl rfl ?_
  refine zr_fr hM rfl rfl rfl ?_
  refine zr_virt (κ := (0, 0, 0)) hn hM rfl rfl rfl rfl rfl rfl rfl rfl rfl ?_
  refine zgo_ret rfl rfl c1_ ?_
  rw [Bool.and_true]
  refine zr_fr hM rfl rfl rfl ?_
  refine zr_fr hM rfl rfl rfl ?_
  refine zr_fr hM rfl rfl rfl ?_
  refine zr_fr hM rfl rfl rfl ?_
  refine zr_virt (κ := (0, 0, 0)) hn hM rfl rfl rfl rfl rfl rfl rfl rfl rfl ?_
  refine zgo_ret rfl rfl c2_ ?_
  rw [Bool.and_true]
  refine zr_fr hM rfl rfl rfl ?_
  refine zr_getf (κ := (0, 0, 0)) hn hM rfl rfl rfl rfl ?_
  refine zr_fr hM rfl rfl rfl ?_
  refine zr_aald (κ := (1, 0, 0)) hn hM rfl rfl rfl rfl z3 ?_
  refine zr_getf (κ := (2, x3, 0)) hn hM rfl (kokT (by omega)) rfl rfl ?_
  refine zr_fr hM rfl rfl rfl ?_
  refine zr_fr hM rfl rfl rfl ?_
  refine zr_getf (κ := (3, 2 * x3, 0)) hn hM rfl (kokB rfl (by omega)) rfl rfl ?_
  refine zr_fr hM rfl rfl rfl ?_
  refine zr_fr hM rfl rfl rfl ?_
  refine zr_iald (κ := (4, 2 * x3, 0)) hn hM rfl (kokB rfl (by omega)) rfl z4 ?_
  refine zr_fr hM rfl rfl rfl ?_
  refine zr_fr hM rfl rfl rfl ?_
  refine zr_iast (κ := (4, 2 * x3, 0)) hn hM rfl (kokB rfl (by omega)) rfl rfl z4 rfl ?_
  refine zr_fr hM rfl rfl rfl ?_
  refine zr_getf (κ := (3, 2 * x3, 0)) hn hM rfl (kokB rfl (by omega)) rfl rfl ?_
  refine zr_fr hM rfl rfl rfl ?_
  refine zr_fr hM rfl rfl rfl ?_
  refine zr_iald (κ := (5, 2 * x3, 0)) hn hM rfl (kokB rfl (by omega)) rfl z4 ?_
  refine zr_fr hM rfl rfl rfl ?_
  refine zr_fr hM rfl rfl rfl ?_
  refine zr_iast (κ := (5, 2 * x3, 0)) hn hM rfl (kokB rfl (by omega)) rfl rfl z4 rfl ?_
  refine zr_fr hM rfl rfl rfl ?_
  refine zr_getf (κ := (3, 2 * x3, 0)) hn hM rfl (kokB rfl (by omega)) rfl rfl ?_
  refine zr_fr hM rfl rfl rfl ?_
  refine zr_iald (κ := (4, 2 * x3, 0)) hn hM rfl (kokB rfl (by omega)) rfl z4 ?_
  exact zr_iret2 hM rfl rfl rfl
set_option maxHeartbeats 4000000 in
theorem s53_0_e200 {n L : Nat} {σ : Ks} {g : List Nat} {cl : Bool} {p1 : Int32} {p2 : Int32} {p3 : Int32} (hn : 2 ≤ n ∧ n ≤ 5) (e1 : ZR 54 0 [.val (.ref (kad n (0, 0, 0))), .val (.int p1), .val (.int p2), .val (.int p3)] [] (khp n L σ g) true (.inr (khp n L σ g).length, khp n L σ g ++ [(200, [])], false)) : ZR 53 0 [.val (.ref (kad n (0, 0, 0))), .val (.int p1), .val (.int p2), .val (.int p3), .unset] [] (khp n L σ g) cl (.inr (khp n L σ g).length, khp n L σ g ++ [(200, [])], false) := by
  have hM : zmi[53]? = some _ := rfl
  refine zr_fr hM rfl rfl rfl ?_
  refine zr_fr hM rfl rfl rfl ?_
  refine zr_fr hM rfl rfl rfl ?_
  refine zr_fr hM rfl rfl rfl ?_
  refine zr_virt (κ := (0, 0, 0)) hn hM rfl rfl rfl rfl rfl rfl rfl rfl rfl ?_
  exact zgo_thr2 rfl rfl e1 rfl rfl rfl
set_option maxHeartbeats 4000000 in
theorem s53_0_ke201 {n L : Nat} {σ : Ks} {g : List Nat} {cl : Bool} {p1 : Int32} {p2 : Int32} {p3 : Int32} (hn : 2 ≤ n ∧ n ≤ 5) (c1_ : ZR 54 0 [.val (.ref (kad n (0, 0, 0))), .val (.int p1), .val (.int p2), .val (.int p3)] [] (khp n L σ g) true (.inl (none), khp n L σ g, true)) (e2 : ZR 56 0 [.val (.ref (kad n (0, 0, 0))), .val (.int p1), .val (.int p2), .val (.int p3)] [] (khp n L σ g) true (.inr (khp n L σ g).length, khp n L σ g ++ [(201, [])], false)) : ZR 53 0 [.val (.ref (kad n (0, 0, 0))), .val (.int p1), .val (.int p2), .val (.int p3), .unset] [] (khp n L σ g) cl (.inr (khp n L σ g).length, khp n L σ g ++ [(201, [])], false) := by
  have hM : zmi[53]? = some _ := rfl
  refine zr_fr hM rfl rfl rfl ?_
  refine zr_fr hM rfl rfl rfl ?_
  refine zr_fr hM rfl rfl rfl ?_
  refine zr_fr hM rfl rfl rfl ?_
  refine zr_virt (κ := (0, 0, 0)) hn hM rfl rfl rfl rfl rfl rfl rfl rfl rfl ?_
  refine zgo_ret rfl rfl c1_ ?_
  rw [Bool.and_true]
  refine zr_fr hM rfl rfl rfl ?_
  refine zr_fr hM rfl rfl rfl ?_
  refine zr_fr hM rfl rfl rfl ?_
  refine zr_fr hM rfl rfl rfl ?_
  refine zr_virt (κ := (0, 0, 0)) hn hM rfl rfl rfl rfl rfl rfl rfl rfl rfl ?_
  exact zgo_thr2 rfl rfl e2 rfl rfl rfl
set_option maxHeartbeats 4000000 in
theorem s54_0_kkk {n L : Nat} {σ : Ks} {g : List Nat} {cl : Bool} {p1 : Int32} {p2 : Int32} {p3 : Int32} (hn : 2 ≤ n ∧ n ≤ 5) (c1_ : ZR 55 0 [.val (.ref (kad n (0, 0, 0))), .val (.int p1)] [] (khp n L σ g) true (.inl (none), khp n L σ g, true)) (c2_ : ZR 49 0 [.val (.int p2)] [] (khp n L σ g) true (.inl (none), khp n L σ g, true)) (c3_ : ZR 50 0 [.val (.int p3)] [] (khp n L σ g) true (.inl (none), khp n L σ g, true)) : ZR 54 0 [.val (.ref (kad n (0, 0, 0))), .val (.int p1), .val (.int p2), .val (.int p3)] [] (khp n L σ g) cl (.inl (none), khp n L σ (g), cl) := by
  have hM : zmi[54]? = some _ := rfl
  refine zr_fr hM rfl rfl rfl ?_
  refine zr_fr hM rfl rfl rfl ?_
  refine zr_virt (κ := (0, 0, 0)) hn hM rfl rfl rfl rfl rfl rfl rfl rfl rfl ?_
  refine zgo_ret rfl rfl c1_ ?_
  rw [Bool.and_true]
  refine zr_fr hM rfl rfl rfl ?_
  refine zr_stat hM rfl rfl rfl rfl rfl rfl ?_
  refine zgo_ret rfl rfl c2_ ?_
  rw [Bool.and_true]
  refine zr_fr hM rfl rfl rfl ?_
  refine zr_stat hM rfl rfl rfl rfl rfl rfl ?_
  refine zgo_ret rfl rfl c3_ ?_
  rw [Bool.and_true]
  exact zr_vret2 hM rfl rfl rfl
set_option maxHeartbeats 4000000 in
theorem s54_0_e200 {n L : Nat} {σ : Ks} {g : List Nat} {cl : Bool} {p1 : Int32} {p2 : Int32} {p3 : Int32} (hn : 2 ≤ n ∧ n ≤ 5) (e1 : ZR 55 0 [.val (.ref (kad n (0, 0, 0))), .val (.int p1)] [] (khp n L σ g) true (.inr (khp n L σ g).length, khp n L σ g ++ [(200, [])], false)) : ZR 54 0 [.val (.ref (kad n (0, 0, 0))), .val (.int p1), .val (.int p2), .val (.int p3)] [] (khp n L σ g) cl (.inr (khp n L σ g).length, khp n L σ g ++ [(200, [])], false) := by
  have hM : zmi[54]? = some _ := rfl
  refine zr_fr hM rfl rfl rfl ?_
  refine zr_fr hM rfl rfl rfl ?_
  refine zr_virt (κ := (0, 0, 0)) hn hM rfl rfl rfl rfl rfl rfl rfl rfl rfl ?_
  exact zgo_thr2 rfl rfl e1 rfl rfl rfl
set_option maxHeartbeats 4000000 in
theorem s54_0_ke200 {n L : Nat} {σ : Ks} {g : List Nat} {cl : Bool} {p1 : Int32} {p2 : Int32} {p3 : Int32} (hn : 2 ≤ n ∧ n ≤ 5) (c1_ : ZR 55 0 [.val (.ref (kad n (0, 0, 0))), .val (.int p1)] [] (khp n L σ g) true (.inl (none), khp n L σ g, true)) (e2 : ZR 49 0 [.val (.int p2)] [] (khp n L σ g) true (.inr (khp n L σ g).length, khp n L σ g ++ [(200, [])], false)) : ZR 54 0 [.val (.ref (kad n (0, 0, 0))), .val (.int p1), .val (.int p2), .val (.int p3)] [] (khp n L σ g) cl (.inr (khp n L σ g).length, khp n L σ g ++ [(200, [])], false) := by
  have hM : zmi[54]? = some _ := rfl
  refine zr_fr hM rfl rfl rfl ?_
  refine zr_fr hM rfl rfl rfl ?_
  refine zr_virt (κ := (0, 0, 0)) hn hM rfl rfl rfl rfl rfl rfl rfl rfl rfl ?_
  refine zgo_ret rfl rfl c1_ ?_
  rw [Bool.and_true]
  refine zr_fr hM rfl rfl rfl ?_
  refine zr_stat hM rfl rfl rfl rfl rfl rfl ?_
  exact zgo_thr2 rfl rfl e2 rfl rfl rfl
set_option maxHeartbeats 4000000 in
theorem s54_0_kke200 {n L : Nat} {σ : Ks} {g : List Nat} {cl : Bool} {p1 : Int32} {p2 : Int32} {p3 : Int32} (hn : 2 ≤ n ∧ n ≤ 5) (c1_ : ZR 55 0 [.val (.ref (kad n (0, 0, 0))), .val (.int p1)] [] (khp n L σ g) true (.inl (none), khp n L σ g, true)) (c2_ : ZR 49 0 [.val (.int p2)] [] (khp n L σ g) true (.inl (none), khp n L σ g, true)) (e3 : ZR 50 0 [.val (.int p3)] [] (khp n L σ g) true (.inr (khp n L σ g).length, khp n L σ g ++ [(200, [])], false)) : ZR 54 0 [.val (.ref (kad n (0, 0, 0))), .val (.int p1), .val (.int p2), .val (.int p3)] [] (khp n L σ g) cl (.inr (khp n L σ g).length, khp n L σ g ++ [(200, [])], false) := by
  have hM : zmi[54]? = some _ := rfl
  refine zr_fr hM rfl rfl rfl ?_
  refine zr_fr hM rfl rfl rfl ?_
  refine zr_virt (κ := (0, 0, 0)) hn hM rfl rfl rfl rfl rfl rfl rfl rfl rfl ?_
  refine zgo_ret rfl rfl c1_ ?_
  rw [Bool.and_true]
  refine zr_fr hM rfl rfl rfl ?_
  refine zr_stat hM rfl rfl rfl rfl rfl rfl ?_
  refine zgo_ret rfl rfl c2_ ?_
  rw [Bool.and_true]
  refine zr_fr hM rfl rfl rfl ?_
  refine zr_stat hM rfl rfl rfl rfl rfl rfl ?_
  exact zgo_thr2 rfl rfl e3 rfl rfl rfl
set_option maxHeartbeats 4000000 in
theorem s55_0_f {n L : Nat} {σ : Ks} {g : List Nat} {cl : Bool} {p1 : Int32} {r1 : Int32} (hn : 2 ≤ n ∧ n ≤ 5) (c1_ : ZR 11 0 [.val (.ref (kad n (0, 0, 0))), .val (.int p1)] [] (khp n L σ g) true (.inl (some (.int r1)), khp n L σ g, true)) (h2 : zcnd .ne r1 0 = false) (hcap : (khp n L σ g).length < zcap) (hcl : cl = true) : ZR 55 0 [.val (.ref (kad n (0, 0, 0))), .val (.int p1)] [] (khp n L σ g) cl (.inr (khp n L σ g).length, khp n L σ g ++ [(200, [])], false) := by
  have hM : zmi[55]? = some _ := rfl
  refine zr_fr hM rfl rfl rfl ?_
  refine zr_fr hM rfl rfl rfl ?_
  refine zr_virt (κ := (0, 0, 0)) hn hM rfl rfl rfl rfl rfl rfl rfl rfl rfl ?_
  refine zgo_ret rfl rfl c1_ ?_
  rw [Bool.and_true]
  refine zr_iff hM rfl rfl h2 ?_
  exact zr_throw2 hM rfl rfl rfl rfl rfl rfl hcap hcl rfl
set_option maxHeartbeats 4000000 in
theorem s55_0_t {n L : Nat} {σ : Ks} {g : List Nat} {cl : Bool} {p1 : Int32} {r1 : Int32} (hn : 2 ≤ n ∧ n ≤ 5) (c1_ : ZR 11 0 [.val (.ref (kad n (0, 0, 0))), .val (.int p1)] [] (khp n L σ g) true (.inl (some (.int r1)), khp n L σ g, true)) (h2 : zcnd .ne r1 0 = true) : ZR 55 0 [.val (.ref (kad n (0, 0, 0))), .val (.int p1)] [] (khp n L σ g) cl (.inl (none), khp n L σ (g), cl) := by
  have hM : zmi[55]? = some _ := rfl
  refine zr_fr hM rfl rfl rfl ?_
  refine zr_fr hM rfl rfl rfl ?_
  refine zr_virt (κ := (0, 0, 0)) hn hM rfl rfl rfl rfl rfl rfl rfl rfl rfl ?_
  refine zgo_ret rfl rfl c1_ ?_
  rw [Bool.and_true]
  refine zr_ift hM rfl rfl h2 ?_
  exact zr_vret2 hM rfl rfl rfl
set_option maxHeartbeats 4000000 in
theorem s56_0_kf {n L : Nat} {σ : Ks} {g : List Nat} {cl : Bool} {p1 : Int32} {p2 : Int32} {p3 : Int32} {x2 : Nat} {x3 : Nat} (hn : 2 ≤ n ∧ n ≤ 5) (c1_ : ZR 51 0 [.val (.ref (kad n (0, 0, 0))), .val (.int p1)] [] (khp n L σ g) true (.inl (none), khp n L σ g, true)) (z2 : zix p1 n = some x2) (z3 : zix p2 4 = some x3) (h4 : zcnd .ge (σ (2 * x2) x3) p3 = false) (hcap : (khp n L σ g).length < zcap) (hcl : cl = true) : ZR 56 0 [.val (.ref (kad n (0, 0, 0))), .val (.int p1), .val (.int p2), .val (.int p3)] [] (khp n L σ g) cl (.inr (khp n L σ g).length, khp n L σ g ++ [(201, [])], false) := by
  have hM : zmi[56]? = some _ := rfl
  have l2 := (zix_some z2).2.2
  have l3 := (zix_some z3).2.2
  refine zr_fr hM rfl rfl rfl ?_
  refine zr_fr hM rfl rfl rfl ?_
  refine zr_virt (κ := (0, 0, 0)) hn hM rfl rfl rfl rfl rfl rfl rfl rfl rfl ?_
  refine zgo_ret rfl rfl c1_ ?_
  rw [Bool.and_true]
  refine zr_fr hM rfl rfl rfl ?_
  refine zr_getf (κ := (0, 0, 0)) hn hM rfl rfl rfl rfl ?_
  refine zr_fr hM rfl rfl rfl ?_
  refine zr_aald (κ := (1, 0, 0)) hn hM rfl rfl rfl rfl z2 ?_
  refine zr_getf (κ := (2, x2, 0)) hn hM rfl (kokT (by omega)) rfl rfl ?_
  refine zr_getf (κ := (3, 2 * x2, 0)) hn hM rfl (kokB rfl (by omega)) rfl rfl ?_
  refine zr_fr hM rfl rfl rfl ?_
  refine zr_iald (κ := (4, 2 * x2, 0)) hn hM rfl (kokB rfl (by omega)) rfl z3 ?_
  refine zr_fr hM rfl rfl rfl ?_
  refine zr_icf hM rfl rfl h4 ?_
  exact zr_throw2 hM rfl rfl rfl rfl rfl rfl hcap hcl rfl
set_option maxHeartbeats 4000000 in
theorem s56_0_kt {n L : Nat} {σ : Ks} {g : List Nat} {cl : Bool} {p1 : Int32} {p2 : Int32} {p3 : Int32} {x2 : Nat} {x3 : Nat} (hn : 2 ≤ n ∧ n ≤ 5) (c1_ : ZR 51 0 [.val (.ref (kad n (0, 0, 0))), .val (.int p1)] [] (khp n L σ g) true (.inl (none), khp n L σ g, true)) (z2 : zix p1 n = some x2) (z3 : zix p2 4 = some x3) (h4 : zcnd .ge (σ (2 * x2) x3) p3 = true) : ZR 56 0 [.val (.ref (kad n (0, 0, 0))), .val (.int p1), .val (.int p2), .val (.int p3)] [] (khp n L σ g) cl (.inl (none), khp n L σ (g), cl) := by
  have hM : zmi[56]? = some _ := rfl
  have l2 := (zix_some z2).2.2
  have l3 := (zix_some z3).2.2
  refine zr_fr hM rfl rfl rfl ?_
  refine zr_fr hM rfl rfl rfl ?_
  refine zr_virt (κ := (0, 0, 0)) hn hM rfl rfl rfl rfl rfl rfl rfl rfl rfl ?_
  refine zgo_ret rfl rfl c1_ ?_
  rw [Bool.and_true]
  refine zr_fr hM rfl rfl rfl ?_
  refine zr_getf (κ := (0, 0, 0)) hn hM rfl rfl rfl rfl ?_
  refine zr_fr hM rfl rfl rfl ?_
  refine zr_aald (κ := (1, 0, 0)) hn hM rfl rfl rfl rfl z2 ?_
  refine zr_getf (κ := (2, x2, 0)) hn hM rfl (kokT (by omega)) rfl rfl ?_
  refine zr_getf (κ := (3, 2 * x2, 0)) hn hM rfl (kokB rfl (by omega)) rfl rfl ?_
  refine zr_fr hM rfl rfl rfl ?_
  refine zr_iald (κ := (4, 2 * x2, 0)) hn hM rfl (kokB rfl (by omega)) rfl z3 ?_
  refine zr_fr hM rfl rfl rfl ?_
  refine zr_ict hM rfl rfl h4 ?_
  exact zr_vret2 hM rfl rfl rfl
set_option maxHeartbeats 4000000 in
theorem s56_0_e201 {n L : Nat} {σ : Ks} {g : List Nat} {cl : Bool} {p1 : Int32} {p2 : Int32} {p3 : Int32} (hn : 2 ≤ n ∧ n ≤ 5) (e1 : ZR 51 0 [.val (.ref (kad n (0, 0, 0))), .val (.int p1)] [] (khp n L σ g) true (.inr (khp n L σ g).length, khp n L σ g ++ [(201, [])], false)) : ZR 56 0 [.val (.ref (kad n (0, 0, 0))), .val (.int p1), .val (.int p2), .val (.int p3)] [] (khp n L σ g) cl (.inr (khp n L σ g).length, khp n L σ g ++ [(201, [])], false) := by
  have hM : zmi[56]? = some _ := rfl
  refine zr_fr hM rfl rfl rfl ?_
  refine zr_fr hM rfl rfl rfl ?_
  refine zr_virt (κ := (0, 0, 0)) hn hM rfl rfl rfl rfl rfl rfl rfl rfl rfl ?_
  exact zgo_thr2 rfl rfl e1 rfl rfl rfl
set_option maxHeartbeats 4000000 in
theorem s57_0_k {n L : Nat} {σ : Ks} {g : List Nat} {cl : Bool} {p1 : Int32} {p2 : Int32} {p3 : Int32} {σ1 : Ks} {c1 : Bool} {r1 : Int32} {x2 : Nat} (hn : 2 ≤ n ∧ n ≤ 5) (c1_ : ZR 58 0 [.val (.ref (kad n (0, 0, 0))), .val (.int p1), .val (.int p2), .val (.int p3), .unset] [] (khp n L σ g) true (.inl (some (.int r1)), khp n L σ1 g, c1)) (z2 : zix (Int32.ofInt 0) 1 = some x2) : ZR 57 0 [.val (.ref (kad n (0, 0, 0))), .val (.int p1), .val (.int p2), .val (.int p3), .val (.ref (kad n (27, 0, 0))), .unset] [] (khp n L σ g) cl (.inl (some (.int (Int32.ofInt 0))), khp n L (kup σ1 50 x2 r1) (g), false) := by
  have hM : zmi[57]? = some _ := rfl
  have l2 := (zix_some z2).2.2
  refine zr_fr hM rfl rfl rfl ?_
  refine zr_fr hM rfl rfl rfl ?_
  refine zr_fr hM rfl rfl rfl ?_
  refine zr_fr hM rfl rfl rfl ?_
  refine zr_fr hM rfl rfl rfl ?_
  refine zr_fr hM rfl rfl rfl ?_
  refine zr_virt (κ := (0, 0, 0)) hn hM rfl rfl rfl rfl rfl rfl rfl rfl rfl ?_
  refine zgo_ret rfl rfl c1_ ?_
  refine zr_fr hM rfl rfl rfl ?_
  refine zr_last (κ := (27, 0, 0)) hn hM rfl rfl rfl rfl z2 rfl ?_
  refine zr_fr hM rfl rfl rfl ?_
  refine zr_fr hM rfl rfl rfl ?_
  exact zr_iret2 hM rfl rfl rfl
set_option maxHeartbeats 4000000 in
theorem s57_0_e201 {n L : Nat} {σ : Ks} {g : List Nat} {cl : Bool} {p1 : Int32} {p2 : Int32} {p3 : Int32} (hn : 2 ≤ n ∧ n ≤ 5) (e1 : ZR 58 0 [.val (.ref (kad n (0, 0, 0))), .val (.int p1), .val (.int p2), .val (.int p3), .unset] [] (khp n L σ g) true (.inr (khp n L σ g).length, khp n L σ g ++ [(201, [])], false)) : ZR 57 0 [.val (.ref (kad n (0, 0, 0))), .val (.int p1), .val (.int p2), .val (.int p3), .val (.ref (kad n (27, 0, 0))), .unset] [] (khp n L σ g) cl (.inl (some (.int (Int32.ofInt 2))), khp n L σ (g ++ [201]), false) := by
  have hM : zmi[57]? = some _ := rfl
  refine zr_fr hM rfl rfl rfl ?_
  refine zr_fr hM rfl rfl rfl ?_
  refine zr_fr hM rfl rfl rfl ?_
  refine zr_fr hM rfl rfl rfl ?_
  refine zr_fr hM rfl rfl rfl ?_
  refine zr_fr hM rfl rfl rfl ?_
  refine zr_virt (κ := (0, 0, 0)) hn hM rfl rfl rfl rfl rfl rfl rfl rfl rfl ?_
  refine zgo_cat rfl rfl e1 (by decide) rfl ?_
  rw [khp_thr]
  refine zr_fr hM rfl rfl rfl ?_
  refine zr_fr hM rfl rfl rfl ?_
  exact zr_iret2 hM rfl rfl rfl
set_option maxHeartbeats 4000000 in
theorem s57_0_e200 {n L : Nat} {σ : Ks} {g : List Nat} {cl : Bool} {p1 : Int32} {p2 : Int32} {p3 : Int32} (hn : 2 ≤ n ∧ n ≤ 5) (e1 : ZR 58 0 [.val (.ref (kad n (0, 0, 0))), .val (.int p1), .val (.int p2), .val (.int p3), .unset] [] (khp n L σ g) true (.inr (khp n L σ g).length, khp n L σ g ++ [(200, [])], false)) : ZR 57 0 [.val (.ref (kad n (0, 0, 0))), .val (.int p1), .val (.int p2), .val (.int p3), .val (.ref (kad n (27, 0, 0))), .unset] [] (khp n L σ g) cl (.inl (some (.int (Int32.ofInt 1))), khp n L σ (g ++ [200]), false) := by
  have hM : zmi[57]? = some _ := rfl
  refine zr_fr hM rfl rfl rfl ?_
  refine zr_fr hM rfl rfl rfl ?_
  refine zr_fr hM rfl rfl rfl ?_
  refine zr_fr hM rfl rfl rfl ?_
  refine zr_fr hM rfl rfl rfl ?_
  refine zr_fr hM rfl rfl rfl ?_
  refine zr_virt (κ := (0, 0, 0)) hn hM rfl rfl rfl rfl rfl rfl rfl rfl rfl ?_
  refine zgo_cat rfl rfl e1 (by decide) rfl ?_
  rw [khp_thr]
  refine zr_fr hM rfl rfl rfl ?_
  refine zr_fr hM rfl rfl rfl ?_
  exact zr_iret2 hM rfl rfl rfl
set_option maxHeartbeats 4000000 in
theorem s58_0_kkf {n L : Nat} {σ : Ks} {g : List Nat} {cl : Bool} {p1 : Int32} {p2 : Int32} {p3 : Int32} {x3 : Nat} {x4 : Nat} (hn : 2 ≤ n ∧ n ≤ 5) (c1_ : ZR 54 0 [.val (.ref (kad n (0, 0, 0))), .val (.int p1), .val (.int p2), .val (.int p3)] [] (khp n L σ g) true (.inl (none), khp n L σ g, true)) (c2_ : ZR 51 0 [.val (.ref (kad n (0, 0, 0))), .val (.int p1)] [] (khp n L σ g) true (.inl (none), khp n L σ g, true)) (z3 : zix p1 n = some x3) (z4 : zix p2 4 = some x4) (h5 : zcnd .le ((σ (2 * x3) x4) + p3) (Int32.ofNat 100000000) = false) (hcap : (khp n L σ g).length < zcap) (hcl : cl = true) : ZR 58 0 [.val (.ref (kad n (0, 0, 0))), .val (.int p1), .val (.int p2), .val (.int p3), .unset] [] (khp n L σ g) cl (.inr (khp n L σ g).length, khp n L σ g ++ [(201, [])], false) := by
  have hM : zmi[58]? = some _ := rfl
  have l3 := (zix_some z3).2.2
  have l4 := (zix_some z4).2.2
  refine zr_fr hM rfl rfl rfl ?_
  refine zr_fr hM rfl rfl rfl ?_
  refine zr_fr hM rfl rfl rfl ?_
  refine zr_fr hM rfl rfl rfl ?_
  refine zr_virt (κ := (0, 0, 0)) hn hM rfl rfl rfl rfl rfl rfl rfl rfl rfl ?_
  refine zgo_ret rfl rfl c1_ ?_
  rw [Bool.and_true]
  refine zr_fr hM rfl rfl rfl ?_
  refine zr_fr hM rfl rfl rfl ?_
  refine zr_virt (κ := (0, 0, 0)) hn hM rfl rfl rfl rfl rfl rfl rfl rfl rfl ?_
  refine zgo_ret rfl rfl c2_ ?_
  rw [Bool.and_true]
  refine zr_fr hM rfl rfl rfl ?_
  refine zr_getf (κ := (0, 0, 0)) hn hM rfl rfl rfl rfl ?_
  refine zr_fr hM rfl rfl rfl ?_
  refine zr_aald (κ := (1, 0, 0)) hn hM rfl rfl rfl rfl z3 ?_
  refine zr_getf (κ := (2, x3, 0)) hn hM rfl (kokT (by omega)) rfl rfl ?_
  refine zr_fr hM rfl rfl rfl ?_
  refine zr_fr hM rfl rfl rfl ?_
  refine zr_getf (κ := (3, 2 * x3, 0)) hn hM rfl (kokB rfl (by omega)) rfl rfl ?_
  refine zr_fr hM rfl rfl rfl ?_
  refine zr_iald (κ := (4, 2 * x3, 0)) hn hM rfl (kokB rfl (by omega)) rfl z4 ?_
  refine zr_fr hM rfl rfl rfl ?_
  refine zr_fr hM rfl rfl rfl ?_
  refine zr_ldc hM rfl ?_
  refine zr_icf hM rfl rfl h5 ?_
  exact zr_throw2 hM rfl rfl rfl rfl rfl rfl hcap hcl rfl
set_option maxHeartbeats 4000000 in
theorem s58_0_kkt {n L : Nat} {σ : Ks} {g : List Nat} {cl : Bool} {p1 : Int32} {p2 : Int32} {p3 : Int32} {x3 : Nat} {x4 : Nat} (hn : 2 ≤ n ∧ n ≤ 5) (c1_ : ZR 54 0 [.val (.ref (kad n (0, 0, 0))), .val (.int p1), .val (.int p2), .val (.int p3)] [] (khp n L σ g) true (.inl (none), khp n L σ g, true)) (c2_ : ZR 51 0 [.val (.ref (kad n (0, 0, 0))), .val (.int p1)] [] (khp n L σ g) true (.inl (none), khp n L σ g, true)) (z3 : zix p1 n = some x3) (z4 : zix p2 4 = some x4) (h5 : zcnd .le ((σ (2 * x3) x4) + p3) (Int32.ofNat 100000000) = true) : ZR 58 0 [.val (.ref (kad n (0, 0, 0))), .val (.int p1), .val (.int p2), .val (.int p3), .unset] [] (khp n L σ g) cl (.inl (some (.int ((kup (kup σ (2 * x3) x4 ((σ (2 * x3) x4) + p3)) (2 * x3) (4 + x4) (((kup σ (2 * x3) x4 ((σ (2 * x3) x4) + p3)) (2 * x3) (4 + x4)) - p3)) (2 * x3) x4))), khp n L (kup (kup σ (2 * x3) x4 ((σ (2 * x3) x4) + p3)) (2 * x3) (4 + x4) (((kup σ (2 * x3) x4 ((σ (2 * x3) x4) + p3)) (2 * x3) (4 + x4)) - p3)) (g), false) := by
  have hM : zmi[58]? = some _ := rfl
  have l3 := (zix_some z3).2.2
  have l4 := (zix_some z4).2.2
  refine zr_fr hM rfl rfl rfl ?_
  refine zr_fr hM rfl rfl rfl ?_
  refine zr_fr hM rfl rfl rfl ?_
  refine zr_fr hM rfl rfl rfl ?_
  refine zr_virt (κ := (0, 0, 0)) hn hM rfl rfl rfl rfl rfl rfl rfl rfl rfl ?_
  refine zgo_ret rfl rfl c1_ ?_
  rw [Bool.and_true]
  refine zr_fr hM rfl rfl rfl ?_
  refine zr_fr hM rfl rfl rfl ?_
  refine zr_virt (κ := (0, 0, 0)) hn hM rfl rfl rfl rfl rfl rfl rfl rfl rfl ?_
  refine zgo_ret rfl rfl c2_ ?_
  rw [Bool.and_true]
  refine zr_fr hM rfl rfl rfl ?_
  refine zr_getf (κ := (0, 0, 0)) hn hM rfl rfl rfl rfl ?_
  refine zr_fr hM rfl rfl rfl ?_
  refine zr_aald (κ := (1, 0, 0)) hn hM rfl rfl rfl rfl z3 ?_
  refine zr_getf (κ := (2, x3, 0)) hn hM rfl (kokT (by omega)) rfl rfl ?_
  refine zr_fr hM rfl rfl rfl ?_
  refine zr_fr hM rfl rfl rfl ?_
  refine zr_getf (κ := (3, 2 * x3, 0)) hn hM rfl (kokB rfl (by omega)) rfl rfl ?_
  refine zr_fr hM rfl rfl rfl ?_
  refine zr_iald (κ := (4, 2 * x3, 0)) hn hM rfl (kokB rfl (by omega)) rfl z4 ?_
  refine zr_fr hM rfl rfl rfl ?_
  refine zr_fr hM rfl rfl rfl ?_
  refine zr_ldc hM rfl ?_
  refine zr_ict hM rfl rfl h5 ?_
  refine zr_fr hM rfl rfl rfl ?_
  refine zr_getf (κ := (3, 2 * x3, 0)) hn hM rfl (kokB rfl (by omega)) rfl rfl ?_
  refine zr_fr hM rfl rfl rfl ?_
  refine zr_fr hM rfl rfl rfl ?_
  refine zr_iald (κ := (4, 2 * x3, 0)) hn hM rfl (kokB rfl (by omega)) rfl z4 ?_
  refine zr_fr hM rfl rfl rfl ?_
  refine zr_fr hM rfl rfl rfl ?_
  refine zr_iast (κ := (4, 2 * x3, 0)) hn hM rfl (kokB rfl (by omega)) rfl rfl z4 rfl ?_
  refine zr_fr hM rfl rfl rfl ?_
  refine zr_getf (κ := (3, 2 * x3, 0)) hn hM rfl (kokB rfl (by omega)) rfl rfl ?_
  refine zr_fr hM rfl rfl rfl ?_
  refine zr_fr hM rfl rfl rfl ?_
  refine zr_iald (κ := (5, 2 * x3, 0)) hn hM rfl (kokB rfl (by omega)) rfl z4 ?_
  refine zr_fr hM rfl rfl rfl ?_
  refine zr_fr hM rfl rfl rfl ?_
  refine zr_iast (κ := (5, 2 * x3, 0)) hn hM rfl (kokB rfl (by omega)) rfl rfl z4 rfl ?_
  refine zr_fr hM rfl rfl rfl ?_
  refine zr_getf (κ := (3, 2 * x3, 0)) hn hM rfl (kokB rfl (by omega)) rfl rfl ?_
  refine zr_fr hM rfl rfl rfl ?_
  refine zr_iald (κ := (4, 2 * x3, 0)) hn hM rfl (kokB rfl (by omega)) rfl z4 ?_
  exact zr_iret2 hM rfl rfl rfl
set_option maxHeartbeats 4000000 in
theorem s58_0_e200 {n L : Nat} {σ : Ks} {g : List Nat} {cl : Bool} {p1 : Int32} {p2 : Int32} {p3 : Int32} (hn : 2 ≤ n ∧ n ≤ 5) (e1 : ZR 54 0 [.val (.ref (kad n (0, 0, 0))), .val (.int p1), .val (.int p2), .val (.int p3)] [] (khp n L σ g) true (.inr (khp n L σ g).length, khp n L σ g ++ [(200, [])], false)) : ZR 58 0 [.val (.ref (kad n (0, 0, 0))), .val (.int p1), .val (.int p2), .val (.int p3), .unset] [] (khp n L σ g) cl (.inr (khp n L σ g).length, khp n L σ g ++ [(200, [])], false) := by
  have hM : zmi[58]? = some _ := rfl
  refine zr_fr hM rfl rfl rfl ?_
  refine zr_fr hM rfl rfl rfl ?_
  refine zr_fr hM rfl rfl rfl ?_
  refine zr_fr hM rfl rfl rfl ?_
  refine zr_virt (κ := (0, 0, 0)) hn hM rfl rfl rfl rfl rfl rfl rfl rfl rfl ?_
  exact zgo_thr2 rfl rfl e1 rfl rfl rfl
set_option maxHeartbeats 4000000 in
theorem s58_0_ke201 {n L : Nat} {σ : Ks} {g : List Nat} {cl : Bool} {p1 : Int32} {p2 : Int32} {p3 : Int32} (hn : 2 ≤ n ∧ n ≤ 5) (c1_ : ZR 54 0 [.val (.ref (kad n (0, 0, 0))), .val (.int p1), .val (.int p2), .val (.int p3)] [] (khp n L σ g) true (.inl (none), khp n L σ g, true)) (e2 : ZR 51 0 [.val (.ref (kad n (0, 0, 0))), .val (.int p1)] [] (khp n L σ g) true (.inr (khp n L σ g).length, khp n L σ g ++ [(201, [])], false)) : ZR 58 0 [.val (.ref (kad n (0, 0, 0))), .val (.int p1), .val (.int p2), .val (.int p3), .unset] [] (khp n L σ g) cl (.inr (khp n L σ g).length, khp n L σ g ++ [(201, [])], false) := by
  have hM : zmi[58]? = some _ := rfl
  refine zr_fr hM rfl rfl rfl ?_
  refine zr_fr hM rfl rfl rfl ?_
  refine zr_fr hM rfl rfl rfl ?_
  refine zr_fr hM rfl rfl rfl ?_
  refine zr_virt (κ := (0, 0, 0)) hn hM rfl rfl rfl rfl rfl rfl rfl rfl rfl ?_
  refine zgo_ret rfl rfl c1_ ?_
  rw [Bool.and_true]
  refine zr_fr hM rfl rfl rfl ?_
  refine zr_fr hM rfl rfl rfl ?_
  refine zr_virt (κ := (0, 0, 0)) hn hM rfl rfl rfl rfl rfl rfl rfl rfl rfl ?_
  exact zgo_thr2 rfl rfl e2 rfl rfl rfl
set_option maxHeartbeats 4000000 in
theorem s59_0_k {n L : Nat} {σ : Ks} {g : List Nat} {cl : Bool} {p1 : Int32} {p2 : Int32} {p3 : Int32} {σ1 : Ks} {c1 : Bool} {r1 : Int32} {x2 : Nat} (hn : 2 ≤ n ∧ n ≤ 5) (c1_ : ZR 60 0 [.val (.ref (kad n (0, 0, 0))), .val (.int p1), .val (.int p2), .val (.int p3), .unset] [] (khp n L σ g) true (.inl (some (.int r1)), khp n L σ1 g, c1)) (z2 : zix (Int32.ofInt 0) 1 = some x2) : ZR 59 0 [.val (.ref (kad n (0, 0, 0))), .val (.int p1), .val (.int p2), .val (.int p3), .val (.ref (kad n (27, 0, 0))), .unset] [] (khp n L σ g) cl (.inl (some (.int (Int32.ofInt 0))), khp n L (kup σ1 50 x2 r1) (g), false) := by
  have hM : zmi[59]? = some _ := rfl
  have l2 := (zix_some z2).2.2
  refine zr_fr hM rfl rfl rfl ?_
  refine zr_fr hM rfl rfl rfl ?_
  refine zr_fr hM rfl rfl rfl ?_
  refine zr_fr hM rfl rfl rfl ?_
  refine zr_fr hM rfl rfl rfl ?_
  refine zr_fr hM rfl rfl rfl ?_
  refine zr_virt (κ := (0, 0, 0)) hn hM rfl rfl rfl rfl rfl rfl rfl rfl rfl ?_
  refine zgo_ret rfl rfl c1_ ?_
  refine zr_fr hM rfl rfl rfl ?_
  refine zr_last (κ := (27, 0, 0)) hn hM rfl rfl rfl rfl z2 rfl ?_
  refine zr_fr hM rfl rfl rfl ?_
  refine zr_fr hM rfl rfl rfl ?_
  exact zr_iret2 hM rfl rfl rfl
set_option maxHeartbeats 4000000 in
theorem s59_0_e201 {n L : Nat} {σ : Ks} {g : List Nat} {cl : Bool} {p1 : Int32} {p2 : Int32} {p3 : Int32} (hn : 2 ≤ n ∧ n ≤ 5) (e1 : ZR 60 0 [.val (.ref (kad n (0, 0, 0))), .val (.int p1), .val (.int p2), .val (.int p3), .unset] [] (khp n L σ g) true (.inr (khp n L σ g).length, khp n L σ g ++ [(201, [])], false)) : ZR 59 0 [.val (.ref (kad n (0, 0, 0))), .val (.int p1), .val (.int p2), .val (.int p3), .val (.ref (kad n (27, 0, 0))), .unset] [] (khp n L σ g) cl (.inl (some (.int (Int32.ofInt 2))), khp n L σ (g ++ [201]), false) := by
  have hM : zmi[59]? = some _ := rfl
  refine zr_fr hM rfl rfl rfl ?_
  refine zr_fr hM rfl rfl rfl ?_
  refine zr_fr hM rfl rfl rfl ?_
  refine zr_fr hM rfl rfl rfl ?_
  refine zr_fr hM rfl rfl rfl ?_
  refine zr_fr hM rfl rfl rfl ?_
  refine zr_virt (κ := (0, 0, 0)) hn hM rfl rfl rfl rfl rfl rfl rfl rfl rfl ?_
  refine zgo_cat rfl rfl e1 (by decide) rfl ?_
  rw [khp_thr]
  refine zr_fr hM rfl rfl rfl ?_
  refine zr_fr hM rfl rfl rfl ?_
  exact zr_iret2 hM rfl rfl rfl
set_option maxHeartbeats 4000000 in
theorem s59_0_e200 {n L : Nat} {σ : Ks} {g : List Nat} {cl : Bool} {p1 : Int32} {p2 : Int32} {p3 : Int32} (hn : 2 ≤ n ∧ n ≤ 5) (e1 : ZR 60 0 [.val (.ref (kad n (0, 0, 0))), .val (.int p1), .val (.int p2), .val (.int p3), .unset] [] (khp n L σ g) true (.inr (khp n L σ g).length, khp n L σ g ++ [(200, [])], false)) : ZR 59 0 [.val (.ref (kad n (0, 0, 0))), .val (.int p1), .val (.int p2), .val (.int p3), .val (.ref (kad n (27, 0, 0))), .unset] [] (khp n L σ g) cl (.inl (some (.int (Int32.ofInt 1))), khp n L σ (g ++ [200]), false) := by
  have hM : zmi[59]? = some _ := rfl
  refine zr_fr hM rfl rfl rfl ?_
  refine zr_fr hM rfl rfl rfl ?_
  refine zr_fr hM rfl rfl rfl ?_
  refine zr_fr hM rfl rfl rfl ?_
  refine zr_fr hM rfl rfl rfl ?_
  refine zr_fr hM rfl rfl rfl ?_
  refine zr_virt (κ := (0, 0, 0)) hn hM rfl rfl rfl rfl rfl rfl rfl rfl rfl ?_
  refine zgo_cat rfl rfl e1 (by decide) rfl ?_
  rw [khp_thr]
  refine zr_fr hM rfl rfl rfl ?_
  refine zr_fr hM rfl rfl rfl ?_
  exact zr_iret2 hM rfl rfl rfl
set_option maxHeartbeats 4000000 in
theorem s60_0_kk {n L : Nat} {σ : Ks} {g : List Nat} {cl : Bool} {p1 : Int32} {p2 : Int32} {p3 : Int32} {x3 : Nat} {x4 : Nat} (hn : 2 ≤ n ∧ n ≤ 5) (c1_ : ZR 54 0 [.val (.ref (kad n (0, 0, 0))), .val (.int p1), .val (.int p2), .val (.int p3)] [] (khp n L σ g) true (.inl (none), khp n L σ g, true)) (c2_ : ZR 56 0 [.val (.ref (kad n (0, 0, 0))), .val (.int p1), .val (.int p2), .val (.int p3)] [] (khp n L σ g) true (.inl (none), khp n L σ g, true)) (z3 : zix p1 n = some x3) (z4 : zix p2 4 = some x4) : ZR 60 0 [.val (.ref (kad n (0, 0, 0))), .val (.int p1), .val (.int p2), .val (.int p3), .unset] [] (khp n L σ g) cl (.inl (some (.int ((kup (kup σ (2 * x3) x4 ((σ (2 * x3) x4) - p3)) (2 * x3) (8 + x4) (((kup σ (2 * x3) x4 ((σ (2 * x3) x4) - p3)) (2 * x3) (8 + x4)) + p3)) (2 * x3) x4))), khp n L (kup (kup σ (2 * x3) x4 ((σ (2 * x3) x4) - p3)) (2 * x3) (8 + x4) (((kup σ (2 * x3) x4 ((σ (2 * x3) x4) - p3)) (2 * x3) (8 + x4)) + p3)) (g), false) := by
  have hM : zmi[60]? = some _ := rfl
  have l3 := (zix_some z3).2.2
  have l4 := (zix_some z4).2.2
  refine zr_fr hM rfl rfl rfl ?_
  refine zr_fr hM rfl rfl rfl ?_
  refine zr_fr hM rfl rfl rfl ?_
  refine zr_fr hM rfl rfl rfl ?_
  refine zr_virt (κ := (0, 0, 0)) hn hM rfl rfl rfl rfl rfl rfl rfl rfl rfl ?_
  refine zgo_ret rfl rfl c1_ ?_
  rw [Bool.and_true]
  refine zr_fr hM rfl rfl rfl ?_
  refine zr_fr hM rfl rfl rfl ?_
  refine zr_fr hM rfl rfl rfl ?_
  refine zr_fr hM rfl rfl rfl ?_
  refine zr_virt (κ := (0, 0, 0)) hn hM rfl rfl rfl rfl rfl rfl rfl rfl rfl ?_
  refine zgo_ret rfl rfl c2_ ?_
  rw [Bool.and_true]
  refine zr_fr hM rfl rfl rfl ?_
  refine zr_getf (κ := (0, 0, 0)) hn hM rfl rfl rfl rfl ?_
  refine zr_fr hM rfl rfl rfl ?_
  refine zr_aald (κ := (1, 0, 0)) hn hM rfl rfl rfl rfl z3 ?_
  refine zr_getf (κ := (2, x3, 0)) hn hM rfl (kokT (by omega)) rfl rfl ?_
  refine zr_fr hM rfl rfl rfl ?_
  refine zr_fr hM rfl rfl rfl ?_
  refine zr_getf (κ := (3, 2 * x3, 0)) hn hM rfl (kokB rfl (by omega)) rfl rfl ?_
  refine zr_fr hM rfl rfl rfl ?_
  refine zr_fr hM rfl rfl rfl ?_
  refine zr_iald (κ := (4, 2 * x3, 0)) hn hM rfl (kokB rfl (by omega)) rfl z4 ?_
  refine zr_fr hM rfl rfl rfl ?_
  refine zr_fr hM rfl rfl rfl ?_
  refine zr_iast (κ := (4, 2 * x3, 0)) hn hM rfl (kokB rfl (by omega)) rfl rfl z4 rfl ?_
  refine zr_fr hM rfl rfl rfl ?_
  refine zr_getf (κ := (3, 2 * x3, 0)) hn hM rfl (kokB rfl (by omega)) rfl rfl ?_
  refine zr_fr hM rfl rfl rfl ?_
  refine zr_fr hM rfl rfl rfl ?_
  refine zr_iald (κ := (6, 2 * x3, 0)) hn hM rfl (kokB rfl (by omega)) rfl z4 ?_
  refine zr_fr hM rfl rfl rfl ?_
  refine zr_fr hM rfl rfl rfl ?_
  refine zr_iast (κ := (6, 2 * x3, 0)) hn hM rfl (kokB rfl (by omega)) rfl rfl z4 rfl ?_
  refine zr_fr hM rfl rfl rfl ?_
  refine zr_getf (κ := (3, 2 * x3, 0)) hn hM rfl (kokB rfl (by omega)) rfl rfl ?_
  refine zr_fr hM rfl rfl rfl ?_
  refine zr_iald (κ := (4, 2 * x3, 0)) hn hM rfl (kokB rfl (by omega)) rfl z4 ?_
  exact zr_iret2 hM rfl rfl rfl
set_option maxHeartbeats 4000000 in
theorem s60_0_e200 {n L : Nat} {σ : Ks} {g : List Nat} {cl : Bool} {p1 : Int32} {p2 : Int32} {p3 : Int32} (hn : 2 ≤ n ∧ n ≤ 5) (e1 : ZR 54 0 [.val (.ref (kad n (0, 0, 0))), .val (.int p1), .val (.int p2), .val (.int p3)] [] (khp n L σ g) true (.inr (khp n L σ g).length, khp n L σ g ++ [(200, [])], false)) : ZR 60 0 [.val (.ref (kad n (0, 0, 0))), .val (.int p1), .val (.int p2), .val (.int p3), .unset] [] (khp n L σ g) cl (.inr (khp n L σ g).length, khp n L σ g ++ [(200, [])], false) := by
  have hM : zmi[60]? = some _ := rfl
  refine zr_fr hM rfl rfl rfl ?_
  refine zr_fr hM rfl rfl rfl ?_
  refine zr_fr hM rfl rfl rfl ?_
  refine zr_fr hM rfl rfl rfl ?_
  refine zr_virt (κ := (0, 0, 0)) hn hM rfl rfl rfl rfl rfl rfl rfl rfl rfl ?_
  exact zgo_thr2 rfl rfl e1 rfl rfl rfl
set_option maxHeartbeats 4000000 in
theorem s60_0_ke201 {n L : Nat} {σ : Ks} {g : List Nat} {cl : Bool} {p1 : Int32} {p2 : Int32} {p3 : Int32} (hn : 2 ≤ n ∧ n ≤ 5) (c1_ : ZR 54 0 [.val (.ref (kad n (0, 0, 0))), .val (.int p1), .val (.int p2), .val (.int p3)] [] (khp n L σ g) true (.inl (none), khp n L σ g, true)) (e2 : ZR 56 0 [.val (.ref (kad n (0, 0, 0))), .val (.int p1), .val (.int p2), .val (.int p3)] [] (khp n L σ g) true (.inr (khp n L σ g).length, khp n L σ g ++ [(201, [])], false)) : ZR 60 0 [.val (.ref (kad n (0, 0, 0))), .val (.int p1), .val (.int p2), .val (.int p3), .unset] [] (khp n L σ g) cl (.inr (khp n L σ g).length, khp n L σ g ++ [(201, [])], false) := by
  have hM : zmi[60]? = some _ := rfl
  refine zr_fr hM rfl rfl rfl ?_
  refine zr_fr hM rfl rfl rfl ?_
  refine zr_fr hM rfl rfl rfl ?_
  refine zr_fr hM rfl rfl rfl ?_
  refine zr_virt (κ := (0, 0, 0)) hn hM rfl rfl rfl rfl rfl rfl rfl rfl rfl ?_
  refine zgo_ret rfl rfl c1_ ?_
  rw [Bool.and_true]
  refine zr_fr hM rfl rfl rfl ?_
  refine zr_fr hM rfl rfl rfl ?_
  refine zr_fr hM rfl rfl rfl ?_
  refine zr_fr hM rfl rfl rfl ?_
  refine zr_virt (κ := (0, 0, 0)) hn hM rfl rfl rfl rfl rfl rfl rfl rfl rfl ?_
  exact zgo_thr2 rfl rfl e2 rfl rfl rfl
set_option maxHeartbeats 4000000 in
theorem s61_0_k {n L : Nat} {σ : Ks} {g : List Nat} {cl : Bool} {p1 : Int32} {p2 : Int32} {p3 : Int32} {p4 : Int32} {σ1 : Ks} {c1 : Bool} {r1 : Int32} {x2 : Nat} (hn : 2 ≤ n ∧ n ≤ 5) (c1_ : ZR 62 0 [.val (.ref (kad n (0, 0, 0))), .val (.int p1), .val (.int p2), .val (.int p3), .val (.int p4), .unset] [] (khp n L σ g) true (.inl (some (.int r1)), khp n L σ1 g, c1)) (z2 : zix (Int32.ofInt 0) 1 = some x2) : ZR 61 0 [.val (.ref (kad n (0, 0, 0))), .val (.int p1), .val (.int p2), .val (.int p3), .val (.int p4), .val (.ref (kad n (27, 0, 0))), .unset] [] (khp n L σ g) cl (.inl (some (.int (Int32.ofInt 0))), khp n L (kup σ1 50 x2 r1) (g), false) := by
  have hM : zmi[61]? = some _ := rfl
  have l2 := (zix_some z2).2.2
  refine zr_fr hM rfl rfl rfl ?_
  refine zr_fr hM rfl rfl rfl ?_
  refine zr_fr hM rfl rfl rfl ?_
  refine zr_fr hM rfl rfl rfl ?_
  refine zr_fr hM rfl rfl rfl ?_
  refine zr_fr hM rfl rfl rfl ?_
  refine zr_fr hM rfl rfl rfl ?_
  refine zr_virt (κ := (0, 0, 0)) hn hM rfl rfl rfl rfl rfl rfl rfl rfl rfl ?_
  refine zgo_ret rfl rfl c1_ ?_
  refine zr_fr hM rfl rfl rfl ?_
  refine zr_last (κ := (27, 0, 0)) hn hM rfl rfl rfl rfl z2 rfl ?_
  refine zr_fr hM rfl rfl rfl ?_
  refine zr_fr hM rfl rfl rfl ?_
  exact zr_iret2 hM rfl rfl rfl
set_option maxHeartbeats 4000000 in
theorem s61_0_e201 {n L : Nat} {σ : Ks} {g : List Nat} {cl : Bool} {p1 : Int32} {p2 : Int32} {p3 : Int32} {p4 : Int32} (hn : 2 ≤ n ∧ n ≤ 5) (e1 : ZR 62 0 [.val (.ref (kad n (0, 0, 0))), .val (.int p1), .val (.int p2), .val (.int p3), .val (.int p4), .unset] [] (khp n L σ g) true (.inr (khp n L σ g).length, khp n L σ g ++ [(201, [])], false)) : ZR 61 0 [.val (.ref (kad n (0, 0, 0))), .val (.int p1), .val (.int p2), .val (.int p3), .val (.int p4), .val (.ref (kad n (27, 0, 0))), .unset] [] (khp n L σ g) cl (.inl (some (.int (Int32.ofInt 2))), khp n L σ (g ++ [201]), false) := by
  have hM : zmi[61]? = some _ := rfl
  refine zr_fr hM rfl rfl rfl ?_
  refine zr_fr hM rfl rfl rfl ?_
  refine zr_fr hM rfl rfl rfl ?_
  refine zr_fr hM rfl rfl rfl ?_
  refine zr_fr hM rfl rfl rfl ?_
  refine zr_fr hM rfl rfl rfl ?_
  refine zr_fr hM rfl rfl rfl ?_
  refine zr_virt (κ := (0, 0, 0)) hn hM rfl rfl rfl rfl rfl rfl rfl rfl rfl ?_
  refine zgo_cat rfl rfl e1 (by decide) rfl ?_
  rw [khp_thr]
  refine zr_fr hM rfl rfl rfl ?_
  refine zr_fr hM rfl rfl rfl ?_
  exact zr_iret2 hM rfl rfl rfl
set_option maxHeartbeats 4000000 in
theorem s61_0_e200 {n L : Nat} {σ : Ks} {g : List Nat} {cl : Bool} {p1 : Int32} {p2 : Int32} {p3 : Int32} {p4 : Int32} (hn : 2 ≤ n ∧ n ≤ 5) (e1 : ZR 62 0 [.val (.ref (kad n (0, 0, 0))), .val (.int p1), .val (.int p2), .val (.int p3), .val (.int p4), .unset] [] (khp n L σ g) true (.inr (khp n L σ g).length, khp n L σ g ++ [(200, [])], false)) : ZR 61 0 [.val (.ref (kad n (0, 0, 0))), .val (.int p1), .val (.int p2), .val (.int p3), .val (.int p4), .val (.ref (kad n (27, 0, 0))), .unset] [] (khp n L σ g) cl (.inl (some (.int (Int32.ofInt 1))), khp n L σ (g ++ [200]), false) := by
  have hM : zmi[61]? = some _ := rfl
  refine zr_fr hM rfl rfl rfl ?_
  refine zr_fr hM rfl rfl rfl ?_
  refine zr_fr hM rfl rfl rfl ?_
  refine zr_fr hM rfl rfl rfl ?_
  refine zr_fr hM rfl rfl rfl ?_
  refine zr_fr hM rfl rfl rfl ?_
  refine zr_fr hM rfl rfl rfl ?_
  refine zr_virt (κ := (0, 0, 0)) hn hM rfl rfl rfl rfl rfl rfl rfl rfl rfl ?_
  refine zgo_cat rfl rfl e1 (by decide) rfl ?_
  rw [khp_thr]
  refine zr_fr hM rfl rfl rfl ?_
  refine zr_fr hM rfl rfl rfl ?_
  exact zr_iret2 hM rfl rfl rfl
set_option maxHeartbeats 4000000 in
theorem s62_0_kff {n L : Nat} {σ : Ks} {g : List Nat} {cl : Bool} {p1 : Int32} {p2 : Int32} {p3 : Int32} {p4 : Int32} (hn : 2 ≤ n ∧ n ≤ 5) (c1_ : ZR 54 0 [.val (.ref (kad n (0, 0, 0))), .val (.int p1), .val (.int p2), .val (.int p3)] [] (khp n L σ g) true (.inl (none), khp n L σ g, true)) (h2 : zcnd .lt p4 (Int32.ofInt 1) = false) (h3 : zcnd .le p4 ((Int8.ofInt 100).toInt32) = false) (hcap : (khp n L σ g).length < zcap) (hcl : cl = true) : ZR 62 0 [.val (.ref (kad n (0, 0, 0))), .val (.int p1), .val (.int p2), .val (.int p3), .val (.int p4), .unset] [] (khp n L σ g) cl (.inr (khp n L σ g).length, khp n L σ g ++ [(200, [])], false) := by
  have hM : zmi[62]? = some _ := rfl
  refine zr_fr hM rfl rfl rfl ?_
  refine zr_fr hM rfl rfl rfl ?_
  refine zr_fr hM rfl rfl rfl ?_
  refine zr_fr hM rfl rfl rfl ?_
  refine zr_virt (κ := (0, 0, 0)) hn hM rfl rfl rfl rfl rfl rfl rfl rfl rfl ?_
  refine zgo_ret rfl rfl c1_ ?_
  rw [Bool.and_true]
  refine zr_fr hM rfl rfl rfl ?_
  refine zr_fr hM rfl rfl rfl ?_
  refine zr_icf hM rfl rfl h2 ?_
  refine zr_fr hM rfl rfl rfl ?_
  refine zr_fr hM rfl rfl rfl ?_
  refine zr_icf hM rfl rfl h3 ?_
  exact zr_throw2 hM rfl rfl rfl rfl rfl rfl hcap hcl rfl
set_option maxHeartbeats 4000000 in
theorem s62_0_kftkf {n L : Nat} {σ : Ks} {g : List Nat} {cl : Bool} {p1 : Int32} {p2 : Int32} {p3 : Int32} {p4 : Int32} {x5 : Nat} {r6 : Int32} (hn : 2 ≤ n ∧ n ≤ 5) (c1_ : ZR 54 0 [.val (.ref (kad n (0, 0, 0))), .val (.int p1), .val (.int p2), .val (.int p3)] [] (khp n L σ g) true (.inl (none), khp n L σ g, true)) (h2 : zcnd .lt p4 (Int32.ofInt 1) = false) (h3 : zcnd .le p4 ((Int8.ofInt 100).toInt32) = true) (c4_ : ZR 56 0 [.val (.ref (kad n (0, 0, 0))), .val (.int p1), .val (.int p2), .val (.int p3)] [] (khp n L σ g) true (.inl (none), khp n L σ g, true)) (z5 : zix p1 n = some x5) (c6_ : ZR 63 0 [.val (.ref (kad n (8, 2 * x5, 0)))] [] (khp n L σ g) true (.inl (some (.int r6)), khp n L σ g, true)) (h7 : zcnd .eq r6 0 = false) (hcap : (khp n L σ g).length < zcap) (hcl : cl = true) : ZR 62 0 [.val (.ref (kad n (0, 0, 0))), .val (.int p1), .val (.int p2), .val (.int p3), .val (.int p4), .unset] [] (khp n L σ g) cl (.inr (khp n L σ g).length, khp n L σ g ++ [(201, [])], false) := by
  have hM : zmi[62]? = some _ := rfl
  have l5 := (zix_some z5).2.2
  refine zr_fr hM rfl rfl rfl ?_
  refine zr_fr hM rfl rfl rfl ?_
  refine zr_fr hM rfl rfl rfl ?_
  refine zr_fr hM rfl rfl rfl ?_
  refine zr_virt (κ := (0, 0, 0)) hn hM rfl rfl rfl rfl rfl rfl rfl rfl rfl ?_
  refine zgo_ret rfl rfl c1_ ?_
  rw [Bool.and_true]
  refine zr_fr hM rfl rfl rfl ?_
  refine zr_fr hM rfl rfl rfl ?_
  refine zr_icf hM rfl rfl h2 ?_
  refine zr_fr hM rfl rfl rfl ?_
  refine zr_fr hM rfl rfl rfl ?_
  refine zr_ict hM rfl rfl h3 ?_
  refine zr_fr hM rfl rfl rfl ?_
  refine zr_fr hM rfl rfl rfl ?_
  refine zr_fr hM rfl rfl rfl ?_
  refine zr_fr hM rfl rfl rfl ?_
  refine zr_virt (κ := (0, 0, 0)) hn hM rfl rfl rfl rfl rfl rfl rfl rfl rfl ?_
  refine zgo_ret rfl rfl c4_ ?_
  rw [Bool.and_true]
  refine zr_fr hM rfl rfl rfl ?_
  refine zr_getf (κ := (0, 0, 0)) hn hM rfl rfl rfl rfl ?_
  refine zr_fr hM rfl rfl rfl ?_
  refine zr_aald (κ := (1, 0, 0)) hn hM rfl rfl rfl rfl z5 ?_
  refine zr_getf (κ := (2, x5, 0)) hn hM rfl (kokT (by omega)) rfl rfl ?_
  refine zr_fr hM rfl rfl rfl ?_
  refine zr_fr hM rfl rfl rfl ?_
  refine zr_getf (κ := (3, 2 * x5, 0)) hn hM rfl (kokB rfl (by omega)) rfl rfl ?_
  refine zr_virt (κ := (8, 2 * x5, 0)) hn hM rfl rfl rfl rfl rfl rfl (kokB rfl (by omega)) rfl rfl ?_
  refine zgo_ret rfl rfl c6_ ?_
  rw [Bool.and_true]
  refine zr_iff hM rfl rfl h7 ?_
  exact zr_throw2 hM rfl rfl rfl rfl rfl rfl hcap hcl rfl
set_option maxHeartbeats 4000000 in
theorem s62_0_kftkt {n L : Nat} {σ : Ks} {g : List Nat} {cl : Bool} {p1 : Int32} {p2 : Int32} {p3 : Int32} {p4 : Int32} {x5 : Nat} {r6 : Int32} {x8 : Nat} {σ9 : Ks} {c9 : Bool} {r9 : Int32} (hn : 2 ≤ n ∧ n ≤ 5) (c1_ : ZR 54 0 [.val (.ref (kad n (0, 0, 0))), .val (.int p1), .val (.int p2), .val (.int p3)] [] (khp n L σ g) true (.inl (none), khp n L σ g, true)) (h2 : zcnd .lt p4 (Int32.ofInt 1) = false) (h3 : zcnd .le p4 ((Int8.ofInt 100).toInt32) = true) (c4_ : ZR 56 0 [.val (.ref (kad n (0, 0, 0))), .val (.int p1), .val (.int p2), .val (.int p3)] [] (khp n L σ g) true (.inl (none), khp n L σ g, true)) (z5 : zix p1 n = some x5) (c6_ : ZR 63 0 [.val (.ref (kad n (8, 2 * x5, 0)))] [] (khp n L σ g) true (.inl (some (.int r6)), khp n L σ g, true)) (h7 : zcnd .eq r6 0 = true) (z8 : zix p2 4 = some x8) (c9_ : ZR 64 0 [.val (.ref (kad n (8, 2 * x5, 0))), .val (.int p2), .val (.int p3), .val (.int (((kup σ (2 * x5) x8 ((σ (2 * x5) x8) - p3)) (2 * x5) 16) + p4)), .unset] [] (khp n L (kup σ (2 * x5) x8 ((σ (2 * x5) x8) - p3)) g) true (.inl (some (.int r9)), khp n L σ9 g, c9)) : ZR 62 0 [.val (.ref (kad n (0, 0, 0))), .val (.int p1), .val (.int p2), .val (.int p3), .val (.int p4), .unset] [] (khp n L σ g) cl (.inl (some (.int r9)), khp n L σ9 (g), false) := by
  have hM : zmi[62]? = some _ := rfl
  have l5 := (zix_some z5).2.2
  have l8 := (zix_some z8).2.2
  refine zr_fr hM rfl rfl rfl ?_
  refine zr_fr hM rfl rfl rfl ?_
  refine zr_fr hM rfl rfl rfl ?_
  refine zr_fr hM rfl rfl rfl ?_
  refine zr_virt (κ := (0, 0, 0)) hn hM rfl rfl rfl rfl rfl rfl rfl rfl rfl ?_
  refine zgo_ret rfl rfl c1_ ?_
  rw [Bool.and_true]
  refine zr_fr hM rfl rfl rfl ?_
  refine zr_fr hM rfl rfl rfl ?_
  refine zr_icf hM rfl rfl h2 ?_
  refine zr_fr hM rfl rfl rfl ?_
  refine zr_fr hM rfl rfl rfl ?_
  refine zr_ict hM rfl rfl h3 ?_
  refine zr_fr hM rfl rfl rfl ?_
  refine zr_fr hM rfl rfl rfl ?_
  refine zr_fr hM rfl rfl rfl ?_
  refine zr_fr hM rfl rfl rfl ?_
  refine zr_virt (κ := (0, 0, 0)) hn hM rfl rfl rfl rfl rfl rfl rfl rfl rfl ?_
  refine zgo_ret rfl rfl c4_ ?_
  rw [Bool.and_true]
  refine zr_fr hM rfl rfl rfl ?_
  refine zr_getf (κ := (0, 0, 0)) hn hM rfl rfl rfl rfl ?_
  refine zr_fr hM rfl rfl rfl ?_
  refine zr_aald (κ := (1, 0, 0)) hn hM rfl rfl rfl rfl z5 ?_
  refine zr_getf (κ := (2, x5, 0)) hn hM rfl (kokT (by omega)) rfl rfl ?_
  refine zr_fr hM rfl rfl rfl ?_
  refine zr_fr hM rfl rfl rfl ?_
  refine zr_getf (κ := (3, 2 * x5, 0)) hn hM rfl (kokB rfl (by omega)) rfl rfl ?_
  refine zr_virt (κ := (8, 2 * x5, 0)) hn hM rfl rfl rfl rfl rfl rfl (kokB rfl (by omega)) rfl rfl ?_
  refine zgo_ret rfl rfl c6_ ?_
  rw [Bool.and_true]
  refine zr_ift hM rfl rfl h7 ?_
  refine zr_fr hM rfl rfl rfl ?_
  refine zr_getf (κ := (3, 2 * x5, 0)) hn hM rfl (kokB rfl (by omega)) rfl rfl ?_
  refine zr_fr hM rfl rfl rfl ?_
  refine zr_fr hM rfl rfl rfl ?_
  refine zr_iald (κ := (4, 2 * x5, 0)) hn hM rfl (kokB rfl (by omega)) rfl z8 ?_
  refine zr_fr hM rfl rfl rfl ?_
  refine zr_fr hM rfl rfl rfl ?_
  refine zr_iast (κ := (4, 2 * x5, 0)) hn hM rfl (kokB rfl (by omega)) rfl rfl z8 rfl ?_
  refine zr_fr hM rfl rfl rfl ?_
  refine zr_getf (κ := (3, 2 * x5, 0)) hn hM rfl (kokB rfl (by omega)) rfl rfl ?_
  refine zr_fr hM rfl rfl rfl ?_
  refine zr_fr hM rfl rfl rfl ?_
  refine zr_fr hM rfl rfl rfl ?_
  refine zr_getf (κ := (3, 2 * x5, 0)) hn hM rfl (kokB rfl (by omega)) rfl rfl ?_
  refine zr_fr hM rfl rfl rfl ?_
  refine zr_fr hM rfl rfl rfl ?_
  refine zr_virt (κ := (8, 2 * x5, 0)) hn hM rfl rfl rfl rfl rfl rfl (kokB rfl (by omega)) rfl rfl ?_
  refine zgo_ret rfl rfl c9_ ?_
  rw [Bool.false_and]
  exact zr_iret2 hM rfl rfl rfl
set_option maxHeartbeats 4000000 in
theorem s62_0_kt {n L : Nat} {σ : Ks} {g : List Nat} {cl : Bool} {p1 : Int32} {p2 : Int32} {p3 : Int32} {p4 : Int32} (hn : 2 ≤ n ∧ n ≤ 5) (c1_ : ZR 54 0 [.val (.ref (kad n (0, 0, 0))), .val (.int p1), .val (.int p2), .val (.int p3)] [] (khp n L σ g) true (.inl (none), khp n L σ g, true)) (h2 : zcnd .lt p4 (Int32.ofInt 1) = true) (hcap : (khp n L σ g).length < zcap) (hcl : cl = true) : ZR 62 0 [.val (.ref (kad n (0, 0, 0))), .val (.int p1), .val (.int p2), .val (.int p3), .val (.int p4), .unset] [] (khp n L σ g) cl (.inr (khp n L σ g).length, khp n L σ g ++ [(200, [])], false) := by
  have hM : zmi[62]? = some _ := rfl
  refine zr_fr hM rfl rfl rfl ?_
  refine zr_fr hM rfl rfl rfl ?_
  refine zr_fr hM rfl rfl rfl ?_
  refine zr_fr hM rfl rfl rfl ?_
  refine zr_virt (κ := (0, 0, 0)) hn hM rfl rfl rfl rfl rfl rfl rfl rfl rfl ?_
  refine zgo_ret rfl rfl c1_ ?_
  rw [Bool.and_true]
  refine zr_fr hM rfl rfl rfl ?_
  refine zr_fr hM rfl rfl rfl ?_
  refine zr_ict hM rfl rfl h2 ?_
  exact zr_throw2 hM rfl rfl rfl rfl rfl rfl hcap hcl rfl
set_option maxHeartbeats 4000000 in
theorem s62_0_e200 {n L : Nat} {σ : Ks} {g : List Nat} {cl : Bool} {p1 : Int32} {p2 : Int32} {p3 : Int32} {p4 : Int32} (hn : 2 ≤ n ∧ n ≤ 5) (e1 : ZR 54 0 [.val (.ref (kad n (0, 0, 0))), .val (.int p1), .val (.int p2), .val (.int p3)] [] (khp n L σ g) true (.inr (khp n L σ g).length, khp n L σ g ++ [(200, [])], false)) : ZR 62 0 [.val (.ref (kad n (0, 0, 0))), .val (.int p1), .val (.int p2), .val (.int p3), .val (.int p4), .unset] [] (khp n L σ g) cl (.inr (khp n L σ g).length, khp n L σ g ++ [(200, [])], false) := by
  have hM : zmi[62]? = some _ := rfl
  refine zr_fr hM rfl rfl rfl ?_
  refine zr_fr hM rfl rfl rfl ?_
  refine zr_fr hM rfl rfl rfl ?_
  refine zr_fr hM rfl rfl rfl ?_
  refine zr_virt (κ := (0, 0, 0)) hn hM rfl rfl rfl rfl rfl rfl rfl rfl rfl ?_
  exact zgo_thr2 rfl rfl e1 rfl rfl rfl
set_option maxHeartbeats 4000000 in
theorem s62_0_kfte201 {n L : Nat} {σ : Ks} {g : List Nat} {cl : Bool} {p1 : Int32} {p2 : Int32} {p3 : Int32} {p4 : Int32} (hn : 2 ≤ n ∧ n ≤ 5) (c1_ : ZR 54 0 [.val (.ref (kad n (0, 0, 0))), .val (.int p1), .val (.int p2), .val (.int p3)] [] (khp n L σ g) true (.inl (none), khp n L σ g, true)) (h2 : zcnd .lt p4 (Int32.ofInt 1) = false) (h3 : zcnd .le p4 ((Int8.ofInt 100).toInt32) = true) (e4 : ZR 56 0 [.val (.ref (kad n (0, 0, 0))), .val (.int p1), .val (.int p2), .val (.int p3)] [] (khp n L σ g) true (.inr (khp n L σ g).length, khp n L σ g ++ [(201, [])], false)) : ZR 62 0 [.val (.ref (kad n (0, 0, 0))), .val (.int p1), .val (.int p2), .val (.int p3), .val (.int p4), .unset] [] (khp n L σ g) cl (.inr (khp n L σ g).length, khp n L σ g ++ [(201, [])], false) := by
  have hM : zmi[62]? = some _ := rfl
  refine zr_fr hM rfl rfl rfl ?_
  refine zr_fr hM rfl rfl rfl ?_
  refine zr_fr hM rfl rfl rfl ?_
  refine zr_fr hM rfl rfl rfl ?_
  refine zr_virt (κ := (0, 0, 0)) hn hM rfl rfl rfl rfl rfl rfl rfl rfl rfl ?_
  refine zgo_ret rfl rfl c1_ ?_
  rw [Bool.and_true]
  refine zr_fr hM rfl rfl rfl ?_
  refine zr_fr hM rfl rfl rfl ?_
  refine zr_icf hM rfl rfl h2 ?_
  refine zr_fr hM rfl rfl rfl ?_
  refine zr_fr hM rfl rfl rfl ?_
  refine zr_ict hM rfl rfl h3 ?_
  refine zr_fr hM rfl rfl rfl ?_
  refine zr_fr hM rfl rfl rfl ?_
  refine zr_fr hM rfl rfl rfl ?_
  refine zr_fr hM rfl rfl rfl ?_
  refine zr_virt (κ := (0, 0, 0)) hn hM rfl rfl rfl rfl rfl rfl rfl rfl rfl ?_
  exact zgo_thr2 rfl rfl e4 rfl rfl rfl
set_option maxHeartbeats 4000000 in
theorem s63_0_f {n L : Nat} {σ : Ks} {g : List Nat} {cl : Bool} {b : Nat} (hn : 2 ≤ n ∧ n ≤ 5) (hb : b < 2 * n) (h1 : zcnd .lt (σ b 19) ((Int8.ofInt 6).toInt32) = false) : ZR 63 0 [.val (.ref (kad n (8, b, 0)))] [] (khp n L σ g) cl (.inl (some (.int (Int32.ofInt 1))), khp n L σ (g), cl) := by
  have hM : zmi[63]? = some _ := rfl
  refine zr_fr hM rfl rfl rfl ?_
  refine zr_getf (κ := (8, b, 0)) hn hM rfl (kokB rfl (by omega)) rfl rfl ?_
  refine zr_fr hM rfl rfl rfl ?_
  refine zr_icf hM rfl rfl h1 ?_
  refine zr_fr hM rfl rfl rfl ?_
  refine zr_fr hM rfl rfl rfl ?_
  exact zr_zret2 hM rfl rfl (by decide) rfl
set_option maxHeartbeats 4000000 in
theorem s63_0_t {n L : Nat} {σ : Ks} {g : List Nat} {cl : Bool} {b : Nat} (hn : 2 ≤ n ∧ n ≤ 5) (hb : b < 2 * n) (h1 : zcnd .lt (σ b 19) ((Int8.ofInt 6).toInt32) = true) : ZR 63 0 [.val (.ref (kad n (8, b, 0)))] [] (khp n L σ g) cl (.inl (some (.int (Int32.ofInt 0))), khp n L σ (g), cl) := by
  have hM : zmi[63]? = some _ := rfl
  refine zr_fr hM rfl rfl rfl ?_
  refine zr_getf (κ := (8, b, 0)) hn hM rfl (kokB rfl (by omega)) rfl rfl ?_
  refine zr_fr hM rfl rfl rfl ?_
  refine zr_ict hM rfl rfl h1 ?_
  refine zr_fr hM rfl rfl rfl ?_
  exact zr_zret2 hM rfl rfl (by decide) rfl
set_option maxHeartbeats 4000000 in
theorem s64_0_r {n L : Nat} {σ : Ks} {g : List Nat} {cl : Bool} {b : Nat} {p1 : Int32} {p2 : Int32} {p3 : Int32} {x1 : Nat} {x2 : Nat} {x3 : Nat} {x4 : Nat} (hn : 2 ≤ n ∧ n ≤ 5) (hb : b < 2 * n) (z1 : zix (σ b 19) 6 = some x1) (z2 : zix ((kup σ b (20 + 4 * x1) (σ b 17)) b 19) 6 = some x2) (z3 : zix ((kup (kup σ b (20 + 4 * x1) (σ b 17)) b (20 + 4 * x2 + 1) p1) b 19) 6 = some x3) (z4 : zix ((kup (kup (kup σ b (20 + 4 * x1) (σ b 17)) b (20 + 4 * x2 + 1) p1) b (20 + 4 * x3 + 2) p2) b 19) 6 = some x4) : ZR 64 0 [.val (.ref (kad n (8, b, 0))), .val (.int p1), .val (.int p2), .val (.int p3), .unset] [] (khp n L σ g) cl (.inl (some (.int (σ b 17))), khp n L (kup (kup (kup (kup (kup (kup σ b (20 + 4 * x1) (σ b 17)) b (20 + 4 * x2 + 1) p1) b (20 + 4 * x3 + 2) p2) b (20 + 4 * x4 + 3) p3) b 19 (((kup (kup (kup (kup σ b (20 + 4 * x1) (σ b 17)) b (20 + 4 * x2 + 1) p1) b (20 + 4 * x3 + 2) p2) b (20 + 4 * x4 + 3) p3) b 19) + (Int32.ofInt 1))) b 17 (((kup (kup (kup (kup (kup σ b (20 + 4 * x1) (σ b 17)) b (20 + 4 * x2 + 1) p1) b (20 + 4 * x3 + 2) p2) b (20 + 4 * x4 + 3) p3) b 19 (((kup (kup (kup (kup σ b (20 + 4 * x1) (σ b 17)) b (20 + 4 * x2 + 1) p1) b (20 + 4 * x3 + 2) p2) b (20 + 4 * x4 + 3) p3) b 19) + (Int32.ofInt 1))) b 17) + (Int32.ofInt 1))) (g), false) := by
  have hM : zmi[64]? = some _ := rfl
  have l1 := (zix_some z1).2.2
  have l2 := (zix_some z2).2.2
  have l3 := (zix_some z3).2.2
  have l4 := (zix_some z4).2.2
  refine zr_fr hM rfl rfl rfl ?_
  refine zr_getf (κ := (8, b, 0)) hn hM rfl (kokB rfl (by omega)) rfl rfl ?_
  refine zr_fr hM rfl rfl rfl ?_
  refine zr_fr hM rfl rfl rfl ?_
  refine zr_getf (κ := (8, b, 0)) hn hM rfl (kokB rfl (by omega)) rfl rfl ?_
  refine zr_fr hM rfl rfl rfl ?_
  refine zr_getf (κ := (8, b, 0)) hn hM rfl (kokB rfl (by omega)) rfl rfl ?_
  refine zr_fr hM rfl rfl rfl ?_
  refine zr_iast (κ := (9, b, 0)) hn hM rfl (kokB rfl (by omega)) rfl rfl z1 rfl ?_
  refine zr_fr hM rfl rfl rfl ?_
  refine zr_getf (κ := (8, b, 0)) hn hM rfl (kokB rfl (by omega)) rfl rfl ?_
  refine zr_fr hM rfl rfl rfl ?_
  refine zr_getf (κ := (8, b, 0)) hn hM rfl (kokB rfl (by omega)) rfl rfl ?_
  refine zr_fr hM rfl rfl rfl ?_
  refine zr_iast (κ := (10, b, 0)) hn hM rfl (kokB rfl (by omega)) rfl rfl z2 rfl ?_
  refine zr_fr hM rfl rfl rfl ?_
  refine zr_getf (κ := (8, b, 0)) hn hM rfl (kokB rfl (by omega)) rfl rfl ?_
  refine zr_fr hM rfl rfl rfl ?_
  refine zr_getf (κ := (8, b, 0)) hn hM rfl (kokB rfl (by omega)) rfl rfl ?_
  refine zr_fr hM rfl rfl rfl ?_
  refine zr_iast (κ := (11, b, 0)) hn hM rfl (kokB rfl (by omega)) rfl rfl z3 rfl ?_
  refine zr_fr hM rfl rfl rfl ?_
  refine zr_getf (κ := (8, b, 0)) hn hM rfl (kokB rfl (by omega)) rfl rfl ?_
  refine zr_fr hM rfl rfl rfl ?_
  refine zr_getf (κ := (8, b, 0)) hn hM rfl (kokB rfl (by omega)) rfl rfl ?_
  refine zr_fr hM rfl rfl rfl ?_
  refine zr_iast (κ := (12, b, 0)) hn hM rfl (kokB rfl (by omega)) rfl rfl z4 rfl ?_
  refine zr_fr hM rfl rfl rfl ?_
  refine zr_fr hM rfl rfl rfl ?_
  refine zr_getf (κ := (8, b, 0)) hn hM rfl (kokB rfl (by omega)) rfl rfl ?_
  refine zr_fr hM rfl rfl rfl ?_
  refine zr_fr hM rfl rfl rfl ?_
  refine zr_putf (κ := (8, b, 0)) hn hM rfl (kokB rfl (by omega)) rfl rfl rfl rfl rfl rfl ?_
  refine zr_fr hM rfl rfl rfl ?_
  refine zr_fr hM rfl rfl rfl ?_
  refine zr_getf (κ := (8, b, 0)) hn hM rfl (kokB rfl (by omega)) rfl rfl ?_
  refine zr_fr hM rfl rfl rfl ?_
  refine zr_fr hM rfl rfl rfl ?_
  refine zr_putf (κ := (8, b, 0)) hn hM rfl (kokB rfl (by omega)) rfl rfl rfl rfl rfl rfl ?_
  refine zr_fr hM rfl rfl rfl ?_
  exact zr_iret2 hM rfl rfl rfl
set_option maxHeartbeats 4000000 in
theorem s65_0_k {n L : Nat} {σ : Ks} {g : List Nat} {cl : Bool} {p1 : Int32} {p2 : Int32} {σ1 : Ks} {c1 : Bool} {r1 : Int32} {x2 : Nat} (hn : 2 ≤ n ∧ n ≤ 5) (c1_ : ZR 66 0 [.val (.ref (kad n (0, 0, 0))), .val (.int p1), .val (.int p2), .unset, .unset] [] (khp n L σ g) true (.inl (some (.int r1)), khp n L σ1 g, c1)) (z2 : zix (Int32.ofInt 0) 1 = some x2) : ZR 65 0 [.val (.ref (kad n (0, 0, 0))), .val (.int p1), .val (.int p2), .val (.ref (kad n (27, 0, 0))), .unset] [] (khp n L σ g) cl (.inl (some (.int (Int32.ofInt 0))), khp n L (kup σ1 50 x2 r1) (g), false) := by
  have hM : zmi[65]? = some _ := rfl
  have l2 := (zix_some z2).2.2
  refine zr_fr hM rfl rfl rfl ?_
  refine zr_fr hM rfl rfl rfl ?_
  refine zr_fr hM rfl rfl rfl ?_
  refine zr_fr hM rfl rfl rfl ?_
  refine zr_fr hM rfl rfl rfl ?_
  refine zr_virt (κ := (0, 0, 0)) hn hM rfl rfl rfl rfl rfl rfl rfl rfl rfl ?_
  refine zgo_ret rfl rfl c1_ ?_
  refine zr_fr hM rfl rfl rfl ?_
  refine zr_last (κ := (27, 0, 0)) hn hM rfl rfl rfl rfl z2 rfl ?_
  refine zr_fr hM rfl rfl rfl ?_
  refine zr_fr hM rfl rfl rfl ?_
  exact zr_iret2 hM rfl rfl rfl
set_option maxHeartbeats 4000000 in
theorem s65_0_e201 {n L : Nat} {σ : Ks} {g : List Nat} {cl : Bool} {p1 : Int32} {p2 : Int32} (hn : 2 ≤ n ∧ n ≤ 5) (e1 : ZR 66 0 [.val (.ref (kad n (0, 0, 0))), .val (.int p1), .val (.int p2), .unset, .unset] [] (khp n L σ g) true (.inr (khp n L σ g).length, khp n L σ g ++ [(201, [])], false)) : ZR 65 0 [.val (.ref (kad n (0, 0, 0))), .val (.int p1), .val (.int p2), .val (.ref (kad n (27, 0, 0))), .unset] [] (khp n L σ g) cl (.inl (some (.int (Int32.ofInt 2))), khp n L σ (g ++ [201]), false) := by
  have hM : zmi[65]? = some _ := rfl
  refine zr_fr hM rfl rfl rfl ?_
  refine zr_fr hM rfl rfl rfl ?_
  refine zr_fr hM rfl rfl rfl ?_
  refine zr_fr hM rfl rfl rfl ?_
  refine zr_fr hM rfl rfl rfl ?_
  refine zr_virt (κ := (0, 0, 0)) hn hM rfl rfl rfl rfl rfl rfl rfl rfl rfl ?_
  refine zgo_cat rfl rfl e1 (by decide) rfl ?_
  rw [khp_thr]
  refine zr_fr hM rfl rfl rfl ?_
  refine zr_fr hM rfl rfl rfl ?_
  exact zr_iret2 hM rfl rfl rfl
set_option maxHeartbeats 4000000 in
theorem s65_0_e200 {n L : Nat} {σ : Ks} {g : List Nat} {cl : Bool} {p1 : Int32} {p2 : Int32} (hn : 2 ≤ n ∧ n ≤ 5) (e1 : ZR 66 0 [.val (.ref (kad n (0, 0, 0))), .val (.int p1), .val (.int p2), .unset, .unset] [] (khp n L σ g) true (.inr (khp n L σ g).length, khp n L σ g ++ [(200, [])], false)) : ZR 65 0 [.val (.ref (kad n (0, 0, 0))), .val (.int p1), .val (.int p2), .val (.ref (kad n (27, 0, 0))), .unset] [] (khp n L σ g) cl (.inl (some (.int (Int32.ofInt 1))), khp n L σ (g ++ [200]), false) := by
  have hM : zmi[65]? = some _ := rfl
  refine zr_fr hM rfl rfl rfl ?_
  refine zr_fr hM rfl rfl rfl ?_
  refine zr_fr hM rfl rfl rfl ?_
  refine zr_fr hM rfl rfl rfl ?_
  refine zr_fr hM rfl rfl rfl ?_
  refine zr_virt (κ := (0, 0, 0)) hn hM rfl rfl rfl rfl rfl rfl rfl rfl rfl ?_
  refine zgo_cat rfl rfl e1 (by decide) rfl ?_
  rw [khp_thr]
  refine zr_fr hM rfl rfl rfl ?_
  refine zr_fr hM rfl rfl rfl ?_
  exact zr_iret2 hM rfl rfl rfl
set_option maxHeartbeats 4000000 in
theorem s66_0_kff {n L : Nat} {σ : Ks} {g : List Nat} {cl : Bool} {p1 : Int32} {p2 : Int32} (hn : 2 ≤ n ∧ n ≤ 5) (c1_ : ZR 55 0 [.val (.ref (kad n (0, 0, 0))), .val (.int p1)] [] (khp n L σ g) true (.inl (none), khp n L σ g, true)) (h2 : zcnd .lt p2 0 = false) (h3 : zcnd .le p2 ((Int8.ofInt 30).toInt32) = false) (hcap : (khp n L σ g).length < zcap) (hcl : cl = true) : ZR 66 0 [.val (.ref (kad n (0, 0, 0))), .val (.int p1), .val (.int p2), .unset, .unset] [] (khp n L σ g) cl (.inr (khp n L σ g).length, khp n L σ g ++ [(200, [])], false) := by
  have hM : zmi[66]? = some _ := rfl
  refine zr_fr hM rfl rfl rfl ?_
  refine zr_fr hM rfl rfl rfl ?_
  refine zr_virt (κ := (0, 0, 0)) hn hM rfl rfl rfl rfl rfl rfl rfl rfl rfl ?_
  refine zgo_ret rfl rfl c1_ ?_
  rw [Bool.and_true]
  refine zr_fr hM rfl rfl rfl ?_
  refine zr_iff hM rfl rfl h2 ?_
  refine zr_fr hM rfl rfl rfl ?_
  refine zr_fr hM rfl rfl rfl ?_
  refine zr_icf hM rfl rfl h3 ?_
  exact zr_throw2 hM rfl rfl rfl rfl rfl rfl hcap hcl rfl
