set_option maxHeartbeats 4000000 in
theorem s66_0_kftk {n L : Nat} {σ : Ks} {g : List Nat} {cl : Bool} {r : Zr} {p1 : Int32} {p2 : Int32} (hn : 2 ≤ n ∧ n ≤ 5) (c1_ : ZR 55 0 [.val (.ref (kad n (0, 0, 0))), .val (.int p1)] [] (khp n L σ g) true (.inl (none), khp n L σ g, true)) (h2 : zcnd .lt p2 0 = false) (h3 : zcnd .le p2 ((Int8.ofInt 30).toInt32) = true) (c4_ : ZR 51 0 [.val (.ref (kad n (0, 0, 0))), .val (.int p1)] [] (khp n L σ g) true (.inl (none), khp n L σ g, true)) (k : ZR 66 35 [.val (.ref (kad n (0, 0, 0))), .val (.int p1), .val (.int p2), .val (.int (Int32.ofInt 0)), .val (.int (Int32.ofInt 0))] [] (khp n L σ (g)) cl r) : ZR 66 0 [.val (.ref (kad n (0, 0, 0))), .val (.int p1), .val (.int p2), .unset, .unset] [] (khp n L σ g) cl r := by
  have hM : zmi[66]? = some _ := rfl
  refine zr_fr hM rfl rfl rfl ?_
  refine zr_fr hM rfl rfl rfl ?_
  refine zr_virt (κ := (0, 0, 0)) hn hM rfl rfl rfl rfl rfl rfl rfl rfl rfl ?_
  refine zgo_ret rfl rfl c1_ ?_
  rw [Bool.and_true]
  refine zr_fr hM rfl rfl rfl ?_
  refine zr_iff hM rfl rfl h2 ?_
  refine zr_fr hM rfl rfl rfl ?_
  refine zr_fr hM rfl rfl rfl ?_
  refine zr_ict hM rfl rfl h3 ?_
  refine zr_fr hM rfl rfl rfl ?_
  refine zr_fr hM rfl rfl rfl ?_
  refine zr_virt (κ := (0, 0, 0)) hn hM rfl rfl rfl rfl rfl rfl rfl rfl rfl ?_
  refine zgo_ret rfl rfl c4_ ?_
  rw [Bool.and_true]
  refine zr_fr hM rfl rfl rfl ?_
  refine zr_fr hM rfl rfl rfl ?_
  refine zr_fr hM rfl rfl rfl ?_
  refine zr_fr hM rfl rfl rfl ?_
  exact k
set_option maxHeartbeats 4000000 in
theorem s66_0_kt {n L : Nat} {σ : Ks} {g : List Nat} {cl : Bool} {p1 : Int32} {p2 : Int32} (hn : 2 ≤ n ∧ n ≤ 5) (c1_ : ZR 55 0 [.val (.ref (kad n (0, 0, 0))), .val (.int p1)] [] (khp n L σ g) true (.inl (none), khp n L σ g, true)) (h2 : zcnd .lt p2 0 = true) (hcap : (khp n L σ g).length < zcap) (hcl : cl = true) : ZR 66 0 [.val (.ref (kad n (0, 0, 0))), .val (.int p1), .val (.int p2), .unset, .unset] [] (khp n L σ g) cl (.inr (khp n L σ g).length, khp n L σ g ++ [(200, [])], false) := by
  have hM : zmi[66]? = some _ := rfl
  refine zr_fr hM rfl rfl rfl ?_
  refine zr_fr hM rfl rfl rfl ?_
  refine zr_virt (κ := (0, 0, 0)) hn hM rfl rfl rfl rfl rfl rfl rfl rfl rfl ?_
  refine zgo_ret rfl rfl c1_ ?_
  rw [Bool.and_true]
  refine zr_fr hM rfl rfl rfl ?_
  refine zr_ift hM rfl rfl h2 ?_
  exact zr_throw2 hM rfl rfl rfl rfl rfl rfl hcap hcl rfl
set_option maxHeartbeats 4000000 in
theorem s66_0_e200 {n L : Nat} {σ : Ks} {g : List Nat} {cl : Bool} {p1 : Int32} {p2 : Int32} (hn : 2 ≤ n ∧ n ≤ 5) (e1 : ZR 55 0 [.val (.ref (kad n (0, 0, 0))), .val (.int p1)] [] (khp n L σ g) true (.inr (khp n L σ g).length, khp n L σ g ++ [(200, [])], false)) : ZR 66 0 [.val (.ref (kad n (0, 0, 0))), .val (.int p1), .val (.int p2), .unset, .unset] [] (khp n L σ g) cl (.inr (khp n L σ g).length, khp n L σ g ++ [(200, [])], false) := by
  have hM : zmi[66]? = some _ := rfl
  refine zr_fr hM rfl rfl rfl ?_
  refine zr_fr hM rfl rfl rfl ?_
  refine zr_virt (κ := (0, 0, 0)) hn hM rfl rfl rfl rfl rfl rfl rfl rfl rfl ?_
  exact zgo_thr2 rfl rfl e1 rfl rfl rfl
set_option maxHeartbeats 4000000 in
theorem s66_0_kfte201 {n L : Nat} {σ : Ks} {g : List Nat} {cl : Bool} {p1 : Int32} {p2 : Int32} (hn : 2 ≤ n ∧ n ≤ 5) (c1_ : ZR 55 0 [.val (.ref (kad n (0, 0, 0))), .val (.int p1)] [] (khp n L σ g) true (.inl (none), khp n L σ g, true)) (h2 : zcnd .lt p2 0 = false) (h3 : zcnd .le p2 ((Int8.ofInt 30).toInt32) = true) (e4 : ZR 51 0 [.val (.ref (kad n (0, 0, 0))), .val (.int p1)] [] (khp n L σ g) true (.inr (khp n L σ g).length, khp n L σ g ++ [(201, [])], false)) : ZR 66 0 [.val (.ref (kad n (0, 0, 0))), .val (.int p1), .val (.int p2), .unset, .unset] [] (khp n L σ g) cl (.inr (khp n L σ g).length, khp n L σ g ++ [(201, [])], false) := by
  have hM : zmi[66]? = some _ := rfl
  refine zr_fr hM rfl rfl rfl ?_
  refine zr_fr hM rfl rfl rfl ?_
  refine zr_virt (κ := (0, 0, 0)) hn hM rfl rfl rfl rfl rfl rfl rfl rfl rfl ?_
  refine zgo_ret rfl rfl c1_ ?_
  rw [Bool.and_true]
  refine zr_fr hM rfl rfl rfl ?_
  refine zr_iff hM rfl rfl h2 ?_
  refine zr_fr hM rfl rfl rfl ?_
  refine zr_fr hM rfl rfl rfl ?_
  refine zr_ict hM rfl rfl h3 ?_
  refine zr_fr hM rfl rfl rfl ?_
  refine zr_fr hM rfl rfl rfl ?_
  refine zr_virt (κ := (0, 0, 0)) hn hM rfl rfl rfl rfl rfl rfl rfl rfl rfl ?_
  exact zgo_thr2 rfl rfl e4 rfl rfl rfl
set_option maxHeartbeats 4000000 in
theorem s66_35_f {n L : Nat} {σ : Ks} {g : List Nat} {cl : Bool} {r : Zr} {v1 : Int32} {v2 : Int32} {v3 : Int32} {v4 : Int32} {σ2 : Ks} {c2 : Bool} {r2 : Int32} (hn : 2 ≤ n ∧ n ≤ 5) (h1 : zcnd .ge v4 v2 = false) (c2_ : ZR 67 0 [.val (.ref (kad n (0, 0, 0))), .val (.int v1), .unset, .unset] [] (khp n L σ g) true (.inl (some (.int r2)), khp n L σ2 g, c2)) (k : ZR 66 35 [.val (.ref (kad n (0, 0, 0))), .val (.int v1), .val (.int v2), .val (.int (v3 + r2)), .val (.int (v4 + Int32.ofInt 1))] [] (khp n L σ2 (g)) (cl && c2) r) : ZR 66 35 [.val (.ref (kad n (0, 0, 0))), .val (.int v1), .val (.int v2), .val (.int v3), .val (.int v4)] [] (khp n L σ g) cl r := by
  have hM : zmi[66]? = some _ := rfl
  refine zr_fr hM rfl rfl rfl ?_
  refine zr_fr hM rfl rfl rfl ?_
  refine zr_icf hM rfl rfl h1 ?_
  refine zr_fr hM rfl rfl rfl ?_
  refine zr_fr hM rfl rfl rfl ?_
  refine zr_fr hM rfl rfl rfl ?_
  refine zr_virt (κ := (0, 0, 0)) hn hM rfl rfl rfl rfl rfl rfl rfl rfl rfl ?_
  refine zgo_ret rfl rfl c2_ ?_
  refine zr_fr hM rfl rfl rfl ?_
  refine zr_fr hM rfl rfl rfl ?_
  refine zr_fr hM rfl rfl rfl ?_
  refine zr_fr hM rfl rfl rfl ?_
  exact k
set_option maxHeartbeats 4000000 in
theorem s66_35_t {n L : Nat} {σ : Ks} {g : List Nat} {cl : Bool} {v1 : Int32} {v2 : Int32} {v3 : Int32} {v4 : Int32} (hn : 2 ≤ n ∧ n ≤ 5) (h1 : zcnd .ge v4 v2 = true) : ZR 66 35 [.val (.ref (kad n (0, 0, 0))), .val (.int v1), .val (.int v2), .val (.int v3), .val (.int v4)] [] (khp n L σ g) cl (.inl (some (.int v3)), khp n L σ (g), cl) := by
  have hM : zmi[66]? = some _ := rfl
  refine zr_fr hM rfl rfl rfl ?_
  refine zr_fr hM rfl rfl rfl ?_
  refine zr_ict hM rfl rfl h1 ?_
  refine zr_fr hM rfl rfl rfl ?_
  exact zr_iret2 hM rfl rfl rfl
set_option maxHeartbeats 4000000 in
theorem s67_0_r {n L : Nat} {σ : Ks} {g : List Nat} {cl : Bool} {p1 : Int32} {x1 : Nat} {σ2 : Ks} {c2 : Bool} {r2 : Int32} {σ3 : Ks} {c3 : Bool} {σ4 : Ks} {c4 : Bool} (hn : 2 ≤ n ∧ n ≤ 5) (z1 : zix p1 n = some x1) (c2_ : ZR 68 0 [.val (.ref (kad n (3, 2 * x1, 0))), .unset, .unset, .unset] [] (khp n L (kup σ (2 * x1) 16 ((σ (2 * x1) 16) + (Int32.ofInt 1))) g) true (.inl (some (.int r2)), khp n L σ2 g, c2)) (c3_ : ZR 69 0 [.val (.ref (kad n (0, 0, 0))), .val (.int p1), .unset, .unset, .unset] [] (khp n L σ2 g) true (.inl (none), khp n L σ3 g, c3)) (c4_ : ZR 71 0 [.val (.ref (kad n (0, 0, 0))), .val (.int p1), .unset, .unset, .unset, .unset] [] (khp n L σ3 g) true (.inl (none), khp n L σ4 g, c4)) : ZR 67 0 [.val (.ref (kad n (0, 0, 0))), .val (.int p1), .unset, .unset] [] (khp n L σ g) cl (.inl (some (.int r2)), khp n L σ4 (g), false) := by
  have hM : zmi[67]? = some _ := rfl
  have l1 := (zix_some z1).2.2
  refine zr_fr hM rfl rfl rfl ?_
  refine zr_getf (κ := (0, 0, 0)) hn hM rfl rfl rfl rfl ?_
  refine zr_fr hM rfl rfl rfl ?_
  refine zr_aald (κ := (1, 0, 0)) hn hM rfl rfl rfl rfl z1 ?_
  refine zr_getf (κ := (2, x1, 0)) hn hM rfl (kokT (by omega)) rfl rfl ?_
  refine zr_fr hM rfl rfl rfl ?_
  refine zr_fr hM rfl rfl rfl ?_
  refine zr_fr hM rfl rfl rfl ?_
  refine zr_getf (κ := (3, 2 * x1, 0)) hn hM rfl (kokB rfl (by omega)) rfl rfl ?_
  refine zr_fr hM rfl rfl rfl ?_
  refine zr_fr hM rfl rfl rfl ?_
  refine zr_putf (κ := (3, 2 * x1, 0)) hn hM rfl (kokB rfl (by omega)) rfl rfl rfl rfl rfl rfl ?_
  refine zr_fr hM rfl rfl rfl ?_
  refine zr_virt (κ := (3, 2 * x1, 0)) hn hM rfl rfl rfl rfl rfl rfl (kokB rfl (by omega)) rfl rfl ?_
  refine zgo_ret rfl rfl c2_ ?_
  rw [Bool.false_and]
  refine zr_fr hM rfl rfl rfl ?_
  refine zr_fr hM rfl rfl rfl ?_
  refine zr_fr hM rfl rfl rfl ?_
  refine zr_virt (κ := (0, 0, 0)) hn hM rfl rfl rfl rfl rfl rfl rfl rfl rfl ?_
  refine zgo_ret rfl rfl c3_ ?_
  rw [Bool.false_and]
  refine zr_fr hM rfl rfl rfl ?_
  refine zr_fr hM rfl rfl rfl ?_
  refine zr_virt (κ := (0, 0, 0)) hn hM rfl rfl rfl rfl rfl rfl rfl rfl rfl ?_
  refine zgo_ret rfl rfl c4_ ?_
  rw [Bool.false_and]
  refine zr_fr hM rfl rfl rfl ?_
  exact zr_iret2 hM rfl rfl rfl
set_option maxHeartbeats 4000000 in
theorem s68_0_r {n L : Nat} {σ : Ks} {g : List Nat} {cl : Bool} {r : Zr} {b : Nat} (hn : 2 ≤ n ∧ n ≤ 5) (hb : b < 2 * n) (k : ZR 68 12 [.val (.ref (kad n (3, b, 0))), .val (.int (σ b 19)), .val (.int (Int32.ofInt 0)), .val (.int (Int32.ofInt 0))] [] (khp n L σ (g)) cl r) : ZR 68 0 [.val (.ref (kad n (3, b, 0))), .unset, .unset, .unset] [] (khp n L σ g) cl r := by
  have hM : zmi[68]? = some _ := rfl
  refine zr_fr hM rfl rfl rfl ?_
  refine zr_getf (κ := (3, b, 0)) hn hM rfl (kokB rfl (by omega)) rfl rfl ?_
  refine zr_getf (κ := (8, b, 0)) hn hM rfl (kokB rfl (by omega)) rfl rfl ?_
  refine zr_fr hM rfl rfl rfl ?_
  refine zr_fr hM rfl rfl rfl ?_
  refine zr_fr hM rfl rfl rfl ?_
  refine zr_fr hM rfl rfl rfl ?_
  refine zr_fr hM rfl rfl rfl ?_
  exact k
set_option maxHeartbeats 4000000 in
theorem s68_12_ff {n L : Nat} {σ : Ks} {g : List Nat} {cl : Bool} {r : Zr} {b : Nat} {v1 : Int32} {v2 : Int32} {v3 : Int32} {x2 : Nat} (hn : 2 ≤ n ∧ n ≤ 5) (hb : b < 2 * n) (h1 : zcnd .ge v3 v1 = false) (z2 : zix v2 6 = some x2) (h3 : zcnd .le (σ b (20 + 4 * x2 + 3)) (σ b 16) = false) (k : ZR 68 12 [.val (.ref (kad n (3, b, 0))), .val (.int v1), .val (.int (v2 + Int32.ofInt 1)), .val (.int (v3 + Int32.ofInt 1))] [] (khp n L σ (g)) cl r) : ZR 68 12 [.val (.ref (kad n (3, b, 0))), .val (.int v1), .val (.int v2), .val (.int v3)] [] (khp n L σ g) cl r := by
  have hM : zmi[68]? = some _ := rfl
  have l2 := (zix_some z2).2.2
  refine zr_fr hM rfl rfl rfl ?_
  refine zr_fr hM rfl rfl rfl ?_
  refine zr_icf hM rfl rfl h1 ?_
  refine zr_fr hM rfl rfl rfl ?_
  refine zr_getf (κ := (3, b, 0)) hn hM rfl (kokB rfl (by omega)) rfl rfl ?_
  refine zr_getf (κ := (8, b, 0)) hn hM rfl (kokB rfl (by omega)) rfl rfl ?_
  refine zr_fr hM rfl rfl rfl ?_
  refine zr_iald (κ := (12, b, 0)) hn hM rfl (kokB rfl (by omega)) rfl z2 ?_
  refine zr_fr hM rfl rfl rfl ?_
  refine zr_getf (κ := (3, b, 0)) hn hM rfl (kokB rfl (by omega)) rfl rfl ?_
  refine zr_icf hM rfl rfl h3 ?_
  refine zr_fr hM rfl rfl rfl ?_
  refine zr_fr hM rfl rfl rfl ?_
  refine zr_fr hM rfl rfl rfl ?_
  refine zr_fr hM rfl rfl rfl ?_
  exact k
set_option maxHeartbeats 4000000 in
theorem s68_12_ft {n L : Nat} {σ : Ks} {g : List Nat} {cl : Bool} {r : Zr} {b : Nat} {v1 : Int32} {v2 : Int32} {v3 : Int32} {x2 : Nat} {x4 : Nat} {σ5 : Ks} {c5 : Bool} (hn : 2 ≤ n ∧ n ≤ 5) (hb : b < 2 * n) (h1 : zcnd .ge v3 v1 = false) (z2 : zix v2 6 = some x2) (h3 : zcnd .le (σ b (20 + 4 * x2 + 3)) (σ b 16) = true) (z4 : zix (σ b (20 + 4 * x2 + 1)) 4 = some x4) (c5_ : ZR 13 0 [.val (.ref (kad n (8, b, 0))), .val (.int v2), .unset] [] (khp n L (kup σ b x4 ((σ b x4) + (σ b (20 + 4 * x2 + 2)))) g) true (.inl (none), khp n L σ5 g, c5)) (k : ZR 68 12 [.val (.ref (kad n (3, b, 0))), .val (.int v1), .val (.int v2), .val (.int (v3 + Int32.ofInt 1))] [] (khp n L σ5 (g)) false r) : ZR 68 12 [.val (.ref (kad n (3, b, 0))), .val (.int v1), .val (.int v2), .val (.int v3)] [] (khp n L σ g) cl r := by
  have hM : zmi[68]? = some _ := rfl
  have l2 := (zix_some z2).2.2
  have l4 := (zix_some z4).2.2
  refine zr_fr hM rfl rfl rfl ?_
  refine zr_fr hM rfl rfl rfl ?_
  refine zr_icf hM rfl rfl h1 ?_
  refine zr_fr hM rfl rfl rfl ?_
  refine zr_getf (κ := (3, b, 0)) hn hM rfl (kokB rfl (by omega)) rfl rfl ?_
  refine zr_getf (κ := (8, b, 0)) hn hM rfl (kokB rfl (by omega)) rfl rfl ?_
  refine zr_fr hM rfl rfl rfl ?_
  refine zr_iald (κ := (12, b, 0)) hn hM rfl (kokB rfl (by omega)) rfl z2 ?_
  refine zr_fr hM rfl rfl rfl ?_
  refine zr_getf (κ := (3, b, 0)) hn hM rfl (kokB rfl (by omega)) rfl rfl ?_
  refine zr_ict hM rfl rfl h3 ?_
  refine zr_fr hM rfl rfl rfl ?_
  refine zr_getf (κ := (3, b, 0)) hn hM rfl (kokB rfl (by omega)) rfl rfl ?_
  refine zr_fr hM rfl rfl rfl ?_
  refine zr_getf (κ := (3, b, 0)) hn hM rfl (kokB rfl (by omega)) rfl rfl ?_
  refine zr_getf (κ := (8, b, 0)) hn hM rfl (kokB rfl (by omega)) rfl rfl ?_
  refine zr_fr hM rfl rfl rfl ?_
  refine zr_iald (κ := (10, b, 0)) hn hM rfl (kokB rfl (by omega)) rfl z2 ?_
  refine zr_fr hM rfl rfl rfl ?_
  refine zr_iald (κ := (4, b, 0)) hn hM rfl (kokB rfl (by omega)) rfl z4 ?_
  refine zr_fr hM rfl rfl rfl ?_
  refine zr_getf (κ := (3, b, 0)) hn hM rfl (kokB rfl (by omega)) rfl rfl ?_
  refine zr_getf (κ := (8, b, 0)) hn hM rfl (kokB rfl (by omega)) rfl rfl ?_
  refine zr_fr hM rfl rfl rfl ?_
  refine zr_iald (κ := (11, b, 0)) hn hM rfl (kokB rfl (by omega)) rfl z2 ?_
  refine zr_fr hM rfl rfl rfl ?_
  refine zr_iast (κ := (4, b, 0)) hn hM rfl (kokB rfl (by omega)) rfl rfl z4 rfl ?_
  refine zr_fr hM rfl rfl rfl ?_
  refine zr_getf (κ := (3, b, 0)) hn hM rfl (kokB rfl (by omega)) rfl rfl ?_
  refine zr_fr hM rfl rfl rfl ?_
  refine zr_virt (κ := (8, b, 0)) hn hM rfl rfl rfl rfl rfl rfl (kokB rfl (by omega)) rfl rfl ?_
  refine zgo_ret rfl rfl c5_ ?_
  rw [Bool.false_and]
  refine zr_fr hM rfl rfl rfl ?_
  refine zr_fr hM rfl rfl rfl ?_
  exact k
set_option maxHeartbeats 4000000 in
theorem s68_12_t {n L : Nat} {σ : Ks} {g : List Nat} {cl : Bool} {b : Nat} {v1 : Int32} {v2 : Int32} {v3 : Int32} (hn : 2 ≤ n ∧ n ≤ 5) (hb : b < 2 * n) (h1 : zcnd .ge v3 v1 = true) : ZR 68 12 [.val (.ref (kad n (3, b, 0))), .val (.int v1), .val (.int v2), .val (.int v3)] [] (khp n L σ g) cl (.inl (some (.int (v1 - (σ b 19)))), khp n L σ (g), cl) := by
  have hM : zmi[68]? = some _ := rfl
  refine zr_fr hM rfl rfl rfl ?_
  refine zr_fr hM rfl rfl rfl ?_
  refine zr_ict hM rfl rfl h1 ?_
  refine zr_fr hM rfl rfl rfl ?_
  refine zr_fr hM rfl rfl rfl ?_
  refine zr_getf (κ := (3, b, 0)) hn hM rfl (kokB rfl (by omega)) rfl rfl ?_
  refine zr_getf (κ := (8, b, 0)) hn hM rfl (kokB rfl (by omega)) rfl rfl ?_
  refine zr_fr hM rfl rfl rfl ?_
  exact zr_iret2 hM rfl rfl rfl
set_option maxHeartbeats 4000000 in
theorem s69_0_r {n L : Nat} {σ : Ks} {g : List Nat} {cl : Bool} {r : Zr} {p1 : Int32} (hn : 2 ≤ n ∧ n ≤ 5) (k : ZR 69 2 [.val (.ref (kad n (0, 0, 0))), .val (.int p1), .val (.int (Int32.ofInt 0)), .unset, .unset] [] (khp n L σ (g)) cl r) : ZR 69 0 [.val (.ref (kad n (0, 0, 0))), .val (.int p1), .unset, .unset, .unset] [] (khp n L σ g) cl r := by
  have hM : zmi[69]? = some _ := rfl
  refine zr_fr hM rfl rfl rfl ?_
  refine zr_fr hM rfl rfl rfl ?_
  exact k
set_option maxHeartbeats 4000000 in
theorem s69_2_f {n L : Nat} {σ : Ks} {g : List Nat} {cl : Bool} {r : Zr} {v1 : Int32} {v2 : Int32} {w3 : Option Nat} {w4 : Option Int32} {x2 : Nat} {x3 : Nat} (hn : 2 ≤ n ∧ n ≤ 5) (h1 : zcnd .ge v2 (Int32.ofNat n) = false) (z2 : zix v1 n = some x2) (z3 : zix v2 n = some x3) (k : ZR 69 29 [.val (.ref (kad n (0, 0, 0))), .val (.int v1), .val (.int v2), .val (.ref (kad n (14, 2 * x2, x3))), .val (.int (Int32.ofInt 0))] [] (khp n L σ (g)) cl r) : ZR 69 2 [.val (.ref (kad n (0, 0, 0))), .val (.int v1), .val (.int v2), zopr w3, zop w4] [] (khp n L σ g) cl r := by
  have hM : zmi[69]? = some _ := rfl
  have l2 := (zix_some z2).2.2
  have l3 := (zix_some z3).2.2
  refine zr_fr hM rfl rfl rfl ?_
  refine zr_fr hM rfl rfl rfl ?_
  refine zr_getf (κ := (0, 0, 0)) hn hM rfl rfl rfl rfl ?_
  refine zr_alen (κ := (1, 0, 0)) hn hM rfl rfl rfl ?_
  refine zr_icf hM rfl rfl h1 ?_
  refine zr_fr hM rfl rfl rfl ?_
  refine zr_getf (κ := (0, 0, 0)) hn hM rfl rfl rfl rfl ?_
  refine zr_fr hM rfl rfl rfl ?_
  refine zr_aald (κ := (1, 0, 0)) hn hM rfl rfl rfl rfl z2 ?_
  refine zr_getf (κ := (2, x2, 0)) hn hM rfl (kokT (by omega)) rfl rfl ?_
  refine zr_getf (κ := (3, 2 * x2, 0)) hn hM rfl (kokB rfl (by omega)) rfl rfl ?_
  refine zr_fr hM rfl rfl rfl ?_
  refine zr_aald (κ := (13, 2 * x2, 0)) hn hM rfl (kokB rfl (by omega)) rfl rfl z3 ?_
  refine zr_fr (ls' := [.val (.ref (kad n (0, 0, 0))), .val (.int v1), .val (.int v2), .val (.ref (kad n (14, 2 * x2, x3))), zop w4]) hM rfl rfl (by cases w3 <;> rfl) ?_
  refine zr_fr hM rfl rfl rfl ?_
  refine zr_fr (ls' := [.val (.ref (kad n (0, 0, 0))), .val (.int v1), .val (.int v2), .val (.ref (kad n (14, 2 * x2, x3))), .val (.int (Int32.ofInt 0))]) hM rfl rfl (by cases w4 <;> rfl) ?_
  exact k
set_option maxHeartbeats 4000000 in
theorem s69_2_t {n L : Nat} {σ : Ks} {g : List Nat} {cl : Bool} {v1 : Int32} {v2 : Int32} {w3 : Option Nat} {w4 : Option Int32} (hn : 2 ≤ n ∧ n ≤ 5) (h1 : zcnd .ge v2 (Int32.ofNat n) = true) : ZR 69 2 [.val (.ref (kad n (0, 0, 0))), .val (.int v1), .val (.int v2), zopr w3, zop w4] [] (khp n L σ g) cl (.inl (none), khp n L σ (g), cl) := by
  have hM : zmi[69]? = some _ := rfl
  refine zr_fr hM rfl rfl rfl ?_
  refine zr_fr hM rfl rfl rfl ?_
  refine zr_getf (κ := (0, 0, 0)) hn hM rfl rfl rfl rfl ?_
  refine zr_alen (κ := (1, 0, 0)) hn hM rfl rfl rfl ?_
  refine zr_ict hM rfl rfl h1 ?_
  exact zr_vret2 hM rfl rfl rfl
set_option maxHeartbeats 4000000 in
theorem s69_29_f {n L : Nat} {σ : Ks} {g : List Nat} {cl : Bool} {r : Zr} {v1 : Int32} {v2 : Int32} {kb3 : Nat} {ko3 : Nat} {v4 : Int32} {x2 : Nat} {σ3 : Ks} {c3 : Bool} (hn : 2 ≤ n ∧ n ≤ 5) (hkb3 : kb3 < 2 * n) (hko3 : ko3 < n) (h1 : zcnd .ge v4 (σ kb3 (44 + 24 * ko3 + 1)) = false) (z2 : zix v4 4 = some x2) (c3_ : ZR 70 0 [.val (.ref (kad n (20, 0, 0))), .val (.int (Int32.ofInt 0)), .val (.int v1), .val (.int v2), .val (.int (σ kb3 (44 + 24 * ko3 + 2 + 3 * x2))), .val (.int (σ kb3 (44 + 24 * ko3 + 2 + 3 * x2 + 1))), .val (.int (σ kb3 (44 + 24 * ko3 + 2 + 3 * x2 + 2))), .unset] [] (khp n L σ g) true (.inl (none), khp n L σ3 g, c3)) (k : ZR 69 29 [.val (.ref (kad n (0, 0, 0))), .val (.int v1), .val (.int v2), .val (.ref (kad n (14, kb3, ko3))), .val (.int (v4 + Int32.ofInt 1))] [] (khp n L σ3 (g)) (cl && c3) r) : ZR 69 29 [.val (.ref (kad n (0, 0, 0))), .val (.int v1), .val (.int v2), .val (.ref (kad n (14, kb3, ko3))), .val (.int v4)] [] (khp n L σ g) cl r := by
  have hM : zmi[69]? = some _ := rfl
  have l2 := (zix_some z2).2.2
  refine zr_fr hM rfl rfl rfl ?_
  refine zr_fr hM rfl rfl rfl ?_
  refine zr_getf (κ := (14, kb3, ko3)) hn hM rfl (kokP rfl (by omega) (by omega)) rfl rfl ?_
  refine zr_icf hM rfl rfl h1 ?_
  refine zr_fr hM rfl rfl rfl ?_
  refine zr_getf (κ := (0, 0, 0)) hn hM rfl rfl rfl rfl ?_
  refine zr_fr hM rfl rfl rfl ?_
  refine zr_fr hM rfl rfl rfl ?_
  refine zr_fr hM rfl rfl rfl ?_
  refine zr_fr hM rfl rfl rfl ?_
  refine zr_getf (κ := (14, kb3, ko3)) hn hM rfl (kokP rfl (by omega) (by omega)) rfl rfl ?_
  refine zr_fr hM rfl rfl rfl ?_
  refine zr_iald (κ := (15, kb3, ko3)) hn hM rfl (kokP rfl (by omega) (by omega)) rfl z2 ?_
  refine zr_fr hM rfl rfl rfl ?_
  refine zr_getf (κ := (14, kb3, ko3)) hn hM rfl (kokP rfl (by omega) (by omega)) rfl rfl ?_
  refine zr_fr hM rfl rfl rfl ?_
  refine zr_iald (κ := (16, kb3, ko3)) hn hM rfl (kokP rfl (by omega) (by omega)) rfl z2 ?_
  refine zr_fr hM rfl rfl rfl ?_
  refine zr_getf (κ := (14, kb3, ko3)) hn hM rfl (kokP rfl (by omega) (by omega)) rfl rfl ?_
  refine zr_fr hM rfl rfl rfl ?_
  refine zr_iald (κ := (17, kb3, ko3)) hn hM rfl (kokP rfl (by omega) (by omega)) rfl z2 ?_
  refine zr_virt (κ := (20, 0, 0)) hn hM rfl rfl rfl rfl rfl rfl rfl rfl rfl ?_
  refine zgo_ret rfl rfl c3_ ?_
  refine zr_fr hM rfl rfl rfl ?_
  refine zr_fr hM rfl rfl rfl ?_
  exact k
set_option maxHeartbeats 4000000 in
theorem s69_29_t {n L : Nat} {σ : Ks} {g : List Nat} {cl : Bool} {r : Zr} {v1 : Int32} {v2 : Int32} {kb3 : Nat} {ko3 : Nat} {v4 : Int32} (hn : 2 ≤ n ∧ n ≤ 5) (hkb3 : kb3 < 2 * n) (hko3 : ko3 < n) (h1 : zcnd .ge v4 (σ kb3 (44 + 24 * ko3 + 1)) = true) (k : ZR 69 2 [.val (.ref (kad n (0, 0, 0))), .val (.int v1), .val (.int (v2 + Int32.ofInt 1)), .val (.ref (kad n (14, kb3, ko3))), .val (.int v4)] [] (khp n L σ (g)) cl r) : ZR 69 29 [.val (.ref (kad n (0, 0, 0))), .val (.int v1), .val (.int v2), .val (.ref (kad n (14, kb3, ko3))), .val (.int v4)] [] (khp n L σ g) cl r := by
  have hM : zmi[69]? = some _ := rfl
  refine zr_fr hM rfl rfl rfl ?_
  refine zr_fr hM rfl rfl rfl ?_
  refine zr_getf (κ := (14, kb3, ko3)) hn hM rfl (kokP rfl (by omega) (by omega)) rfl rfl ?_
  refine zr_ict hM rfl rfl h1 ?_
  refine zr_fr hM rfl rfl rfl ?_
  refine zr_fr hM rfl rfl rfl ?_
  exact k
set_option maxHeartbeats 4000000 in
theorem s70_0_f {n L : Nat} {σ : Ks} {g : List Nat} {cl : Bool} {p1 : Int32} {p2 : Int32} {p3 : Int32} {p4 : Int32} {p5 : Int32} {p6 : Int32} {r1 : Int32} (hn : 2 ≤ n ∧ n ≤ 5) (c1_ : ZR 26 0 [.val (.ref (kad n (20, 0, 0)))] [] (khp n L σ g) true (.inl (some (.int r1)), khp n L σ g, true)) (h2 : zcnd .eq r1 0 = false) : ZR 70 0 [.val (.ref (kad n (20, 0, 0))), .val (.int p1), .val (.int p2), .val (.int p3), .val (.int p4), .val (.int p5), .val (.int p6), .unset] [] (khp n L σ g) cl (.inl (none), khp n L (kup σ 12 1 ((σ 12 1) + (Int32.ofInt 1))) (g), false) := by
  have hM : zmi[70]? = some _ := rfl
  refine zr_fr hM rfl rfl rfl ?_
  refine zr_virt (κ := (20, 0, 0)) hn hM rfl rfl rfl rfl rfl rfl rfl rfl rfl ?_
  refine zgo_ret rfl rfl c1_ ?_
  rw [Bool.and_true]
  refine zr_iff hM rfl rfl h2 ?_
  refine zr_fr hM rfl rfl rfl ?_
  refine zr_fr hM rfl rfl rfl ?_
  refine zr_getf (κ := (20, 0, 0)) hn hM rfl rfl rfl rfl ?_
  refine zr_fr hM rfl rfl rfl ?_
  refine zr_fr hM rfl rfl rfl ?_
  refine zr_putf (κ := (20, 0, 0)) hn hM rfl rfl rfl rfl rfl rfl rfl rfl ?_
  exact zr_vret2 hM rfl rfl rfl
set_option maxHeartbeats 4000000 in
theorem s70_0_t {n L : Nat} {σ : Ks} {g : List Nat} {cl : Bool} {p1 : Int32} {p2 : Int32} {p3 : Int32} {p4 : Int32} {p5 : Int32} {p6 : Int32} {r1 : Int32} {x3 : Nat} {x4 : Nat} {x5 : Nat} {x6 : Nat} {x7 : Nat} {x8 : Nat} (hn : 2 ≤ n ∧ n ≤ 5) (c1_ : ZR 26 0 [.val (.ref (kad n (20, 0, 0)))] [] (khp n L σ g) true (.inl (some (.int r1)), khp n L σ g, true)) (h2 : zcnd .eq r1 0 = true) (z3 : zix ((σ 12 0) * ((Int8.ofInt 6).toInt32)) 144 = some x3) (z4 : zix (((σ 12 0) * ((Int8.ofInt 6).toInt32)) + (Int32.ofInt 1)) 144 = some x4) (z5 : zix (((σ 12 0) * ((Int8.ofInt 6).toInt32)) + (Int32.ofInt 2)) 144 = some x5) (z6 : zix (((σ 12 0) * ((Int8.ofInt 6).toInt32)) + (Int32.ofInt 3)) 144 = some x6) (z7 : zix (((σ 12 0) * ((Int8.ofInt 6).toInt32)) + (Int32.ofInt 4)) 144 = some x7) (z8 : zix (((σ 12 0) * ((Int8.ofInt 6).toInt32)) + (Int32.ofInt 5)) 144 = some x8) : ZR 70 0 [.val (.ref (kad n (20, 0, 0))), .val (.int p1), .val (.int p2), .val (.int p3), .val (.int p4), .val (.int p5), .val (.int p6), .unset] [] (khp n L σ g) cl (.inl (none), khp n L (kup (kup (kup (kup (kup (kup (kup σ 11 x3 p1) 11 x4 p2) 11 x5 p3) 11 x6 p4) 11 x7 p5) 11 x8 p6) 12 0 (((kup (kup (kup (kup (kup (kup σ 11 x3 p1) 11 x4 p2) 11 x5 p3) 11 x6 p4) 11 x7 p5) 11 x8 p6) 12 0) + (Int32.ofInt 1))) (g), false) := by
  have hM : zmi[70]? = some _ := rfl
  have l3 := (zix_some z3).2.2
  have l4 := (zix_some z4).2.2
  have l5 := (zix_some z5).2.2
  have l6 := (zix_some z6).2.2
  have l7 := (zix_some z7).2.2
  have l8 := (zix_some z8).2.2
  refine zr_fr hM rfl rfl rfl ?_
  refine zr_virt (κ := (20, 0, 0)) hn hM rfl rfl rfl rfl rfl rfl rfl rfl rfl ?_
  refine zgo_ret rfl rfl c1_ ?_
  rw [Bool.and_true]
  refine zr_ift hM rfl rfl h2 ?_
  refine zr_fr hM rfl rfl rfl ?_
  refine zr_getf (κ := (20, 0, 0)) hn hM rfl rfl rfl rfl ?_
  refine zr_fr hM rfl rfl rfl ?_
  refine zr_fr hM rfl rfl rfl ?_
  refine zr_fr hM rfl rfl rfl ?_
  refine zr_fr hM rfl rfl rfl ?_
  refine zr_getf (κ := (20, 0, 0)) hn hM rfl rfl rfl rfl ?_
  refine zr_fr hM rfl rfl rfl ?_
  refine zr_fr hM rfl rfl rfl ?_
  refine zr_iast (κ := (21, 0, 0)) hn hM rfl rfl rfl rfl z3 rfl ?_
  refine zr_fr hM rfl rfl rfl ?_
  refine zr_getf (κ := (20, 0, 0)) hn hM rfl rfl rfl rfl ?_
  refine zr_fr hM rfl rfl rfl ?_
  refine zr_fr hM rfl rfl rfl ?_
  refine zr_fr hM rfl rfl rfl ?_
  refine zr_fr hM rfl rfl rfl ?_
  refine zr_iast (κ := (21, 0, 0)) hn hM rfl rfl rfl rfl z4 rfl ?_
  refine zr_fr hM rfl rfl rfl ?_
  refine zr_getf (κ := (20, 0, 0)) hn hM rfl rfl rfl rfl ?_
  refine zr_fr hM rfl rfl rfl ?_
  refine zr_fr hM rfl rfl rfl ?_
  refine zr_fr hM rfl rfl rfl ?_
  refine zr_fr hM rfl rfl rfl ?_
  refine zr_iast (κ := (21, 0, 0)) hn hM rfl rfl rfl rfl z5 rfl ?_
  refine zr_fr hM rfl rfl rfl ?_
  refine zr_getf (κ := (20, 0, 0)) hn hM rfl rfl rfl rfl ?_
  refine zr_fr hM rfl rfl rfl ?_
  refine zr_fr hM rfl rfl rfl ?_
  refine zr_fr hM rfl rfl rfl ?_
  refine zr_fr hM rfl rfl rfl ?_
  refine zr_iast (κ := (21, 0, 0)) hn hM rfl rfl rfl rfl z6 rfl ?_
  refine zr_fr hM rfl rfl rfl ?_
  refine zr_getf (κ := (20, 0, 0)) hn hM rfl rfl rfl rfl ?_
  refine zr_fr hM rfl rfl rfl ?_
  refine zr_fr hM rfl rfl rfl ?_
  refine zr_fr hM rfl rfl rfl ?_
  refine zr_fr hM rfl rfl rfl ?_
  refine zr_iast (κ := (21, 0, 0)) hn hM rfl rfl rfl rfl z7 rfl ?_
  refine zr_fr hM rfl rfl rfl ?_
  refine zr_getf (κ := (20, 0, 0)) hn hM rfl rfl rfl rfl ?_
  refine zr_fr hM rfl rfl rfl ?_
  refine zr_fr hM rfl rfl rfl ?_
  refine zr_fr hM rfl rfl rfl ?_
  refine zr_fr hM rfl rfl rfl ?_
  refine zr_iast (κ := (21, 0, 0)) hn hM rfl rfl rfl rfl z8 rfl ?_
  refine zr_fr hM rfl rfl rfl ?_
  refine zr_fr hM rfl rfl rfl ?_
  refine zr_getf (κ := (20, 0, 0)) hn hM rfl rfl rfl rfl ?_
  refine zr_fr hM rfl rfl rfl ?_
  refine zr_fr hM rfl rfl rfl ?_
  refine zr_putf (κ := (20, 0, 0)) hn hM rfl rfl rfl rfl rfl rfl rfl rfl ?_
  exact zr_vret2 hM rfl rfl rfl
set_option maxHeartbeats 4000000 in
theorem s71_0_f {n L : Nat} {σ : Ks} {g : List Nat} {cl : Bool} {p1 : Int32} {x1 : Nat} {r2 : Int32} (hn : 2 ≤ n ∧ n ≤ 5) (z1 : zix p1 n = some x1) (c2_ : ZR 72 0 [.val (.int (σ (2 * x1) 16)), .val (.int (Int32.ofNat n)), .unset] [] (khp n L σ g) true (.inl (some (.int r2)), khp n L σ g, true)) (h3 : zcnd .ne r2 p1 = false) : ZR 71 0 [.val (.ref (kad n (0, 0, 0))), .val (.int p1), .unset, .unset, .unset, .unset] [] (khp n L σ g) cl (.inl (none), khp n L σ (g), cl) := by
  have hM : zmi[71]? = some _ := rfl
  have l1 := (zix_some z1).2.2
  refine zr_fr hM rfl rfl rfl ?_
  refine zr_getf (κ := (0, 0, 0)) hn hM rfl rfl rfl rfl ?_
  refine zr_fr hM rfl rfl rfl ?_
  refine zr_aald (κ := (1, 0, 0)) hn hM rfl rfl rfl rfl z1 ?_
  refine zr_getf (κ := (2, x1, 0)) hn hM rfl (kokT (by omega)) rfl rfl ?_
  refine zr_fr hM rfl rfl rfl ?_
  refine zr_fr hM rfl rfl rfl ?_
  refine zr_getf (κ := (0, 0, 0)) hn hM rfl rfl rfl rfl ?_
  refine zr_alen (κ := (1, 0, 0)) hn hM rfl rfl rfl ?_
  refine zr_fr hM rfl rfl rfl ?_
  refine zr_fr hM rfl rfl rfl ?_
  refine zr_getf (κ := (3, 2 * x1, 0)) hn hM rfl (kokB rfl (by omega)) rfl rfl ?_
  refine zr_fr hM rfl rfl rfl ?_
  refine zr_stat hM rfl rfl rfl rfl rfl rfl ?_
  refine zgo_ret rfl rfl c2_ ?_
  rw [Bool.and_true]
  refine zr_fr hM rfl rfl rfl ?_
  refine zr_fr hM rfl rfl rfl ?_
  refine zr_fr hM rfl rfl rfl ?_
  refine zr_icf hM rfl rfl h3 ?_
  exact zr_vret2 hM rfl rfl rfl
set_option maxHeartbeats 4000000 in
theorem s71_0_t {n L : Nat} {σ : Ks} {g : List Nat} {cl : Bool} {p1 : Int32} {x1 : Nat} {r2 : Int32} {r5 : Int32} {x6 : Nat} {σ7 : Ks} {c7 : Bool} (hn : 2 ≤ n ∧ n ≤ 5) (z1 : zix p1 n = some x1) (c2_ : ZR 72 0 [.val (.int (σ (2 * x1) 16)), .val (.int (Int32.ofNat n)), .unset] [] (khp n L σ g) true (.inl (some (.int r2)), khp n L σ g, true)) (h3 : zcnd .ne r2 p1 = true) (d4 : ¬ (Int32.ofNat n) = 0) (c5_ : ZR 72 0 [.val (.int ((σ (2 * x1) 16) / (Int32.ofNat n))), .val (.int (Int32.ofInt 4)), .unset] [] (khp n L σ g) true (.inl (some (.int r5)), khp n L σ g, true)) (z6 : zix r5 4 = some x6) (c7_ : ZR 70 0 [.val (.ref (kad n (20, 0, 0))), .val (.int (Int32.ofInt 2)), .val (.int p1), .val (.int r2), .val (.int r5), .val (.int (σ (2 * x1) x6)), .val (.int (σ (2 * x1) 18)), .unset] [] (khp n L σ g) true (.inl (none), khp n L σ7 g, c7)) : ZR 71 0 [.val (.ref (kad n (0, 0, 0))), .val (.int p1), .unset, .unset, .unset, .unset] [] (khp n L σ g) cl (.inl (none), khp n L (kup σ7 (2 * x1) 18 ((σ7 (2 * x1) 18) + (Int32.ofInt 1))) (g), false) := by
  have hM : zmi[71]? = some _ := rfl
  have l1 := (zix_some z1).2.2
  have l6 := (zix_some z6).2.2
  refine zr_fr hM rfl rfl rfl ?_
  refine zr_getf (κ := (0, 0, 0)) hn hM rfl rfl rfl rfl ?_
  refine zr_fr hM rfl rfl rfl ?_
  refine zr_aald (κ := (1, 0, 0)) hn hM rfl rfl rfl rfl z1 ?_
  refine zr_getf (κ := (2, x1, 0)) hn hM rfl (kokT (by omega)) rfl rfl ?_
  refine zr_fr hM rfl rfl rfl ?_
  refine zr_fr hM rfl rfl rfl ?_
  refine zr_getf (κ := (0, 0, 0)) hn hM rfl rfl rfl rfl ?_
  refine zr_alen (κ := (1, 0, 0)) hn hM rfl rfl rfl ?_
  refine zr_fr hM rfl rfl rfl ?_
  refine zr_fr hM rfl rfl rfl ?_
  refine zr_getf (κ := (3, 2 * x1, 0)) hn hM rfl (kokB rfl (by omega)) rfl rfl ?_
  refine zr_fr hM rfl rfl rfl ?_
  refine zr_stat hM rfl rfl rfl rfl rfl rfl ?_
  refine zgo_ret rfl rfl c2_ ?_
  rw [Bool.and_true]
  refine zr_fr hM rfl rfl rfl ?_
  refine zr_fr hM rfl rfl rfl ?_
  refine zr_fr hM rfl rfl rfl ?_
  refine zr_ict hM rfl rfl h3 ?_
  refine zr_fr hM rfl rfl rfl ?_
  refine zr_getf (κ := (3, 2 * x1, 0)) hn hM rfl (kokB rfl (by omega)) rfl rfl ?_
  refine zr_fr hM rfl rfl rfl ?_
  refine zr_fr hM rfl rfl (if_neg d4) ?_
  refine zr_fr hM rfl rfl rfl ?_
  refine zr_stat hM rfl rfl rfl rfl rfl rfl ?_
  refine zgo_ret rfl rfl c5_ ?_
  rw [Bool.and_true]
  refine zr_fr hM rfl rfl rfl ?_
  refine zr_fr hM rfl rfl rfl ?_
  refine zr_getf (κ := (0, 0, 0)) hn hM rfl rfl rfl rfl ?_
  refine zr_fr hM rfl rfl rfl ?_
  refine zr_fr hM rfl rfl rfl ?_
  refine zr_fr hM rfl rfl rfl ?_
  refine zr_fr hM rfl rfl rfl ?_
  refine zr_fr hM rfl rfl rfl ?_
  refine zr_getf (κ := (3, 2 * x1, 0)) hn hM rfl (kokB rfl (by omega)) rfl rfl ?_
  refine zr_fr hM rfl rfl rfl ?_
  refine zr_iald (κ := (4, 2 * x1, 0)) hn hM rfl (kokB rfl (by omega)) rfl z6 ?_
  refine zr_fr hM rfl rfl rfl ?_
  refine zr_getf (κ := (3, 2 * x1, 0)) hn hM rfl (kokB rfl (by omega)) rfl rfl ?_
  refine zr_virt (κ := (20, 0, 0)) hn hM rfl rfl rfl rfl rfl rfl rfl rfl rfl ?_
  refine zgo_ret rfl rfl c7_ ?_
  refine zr_fr hM rfl rfl rfl ?_
  refine zr_fr hM rfl rfl rfl ?_
  refine zr_getf (κ := (3, 2 * x1, 0)) hn hM rfl (kokB rfl (by omega)) rfl rfl ?_
  refine zr_fr hM rfl rfl rfl ?_
  refine zr_fr hM rfl rfl rfl ?_
  refine zr_putf (κ := (3, 2 * x1, 0)) hn hM rfl (kokB rfl (by omega)) rfl rfl rfl rfl rfl rfl ?_
  exact zr_vret2 hM rfl rfl rfl
set_option maxHeartbeats 4000000 in
theorem s72_0_ff {n L : Nat} {σ : Ks} {g : List Nat} {cl : Bool} {p1 : Int32} {p2 : Int32} (hn : 2 ≤ n ∧ n ≤ 5) (d1 : ¬ p2 = 0) (h2 : zcnd .ge (p1 ^^^ p2) 0 = false) (h3 : zcnd .eq (p1 - p1 / p2 * p2) 0 = false) : ZR 72 0 [.val (.int p1), .val (.int p2), .unset] [] (khp n L σ g) cl (.inl (some (.int ((p1 - p1 / p2 * p2) + p2))), khp n L σ (g), cl) := by
  have hM : zmi[72]? = some _ := rfl
  refine zr_fr hM rfl rfl rfl ?_
  refine zr_fr hM rfl rfl rfl ?_
  refine zr_fr hM rfl rfl (if_neg d1) ?_
  refine zr_fr hM rfl rfl rfl ?_
  refine zr_fr hM rfl rfl rfl ?_
  refine zr_fr hM rfl rfl rfl ?_
  refine zr_fr hM rfl rfl rfl ?_
  refine zr_iff hM rfl rfl h2 ?_
  refine zr_fr hM rfl rfl rfl ?_
  refine zr_iff hM rfl rfl h3 ?_
  refine zr_fr hM rfl rfl rfl ?_
  refine zr_fr hM rfl rfl rfl ?_
  refine zr_fr hM rfl rfl rfl ?_
  exact zr_iret2 hM rfl rfl rfl
set_option maxHeartbeats 4000000 in
theorem s72_0_ft {n L : Nat} {σ : Ks} {g : List Nat} {cl : Bool} {p1 : Int32} {p2 : Int32} (hn : 2 ≤ n ∧ n ≤ 5) (d1 : ¬ p2 = 0) (h2 : zcnd .ge (p1 ^^^ p2) 0 = false) (h3 : zcnd .eq (p1 - p1 / p2 * p2) 0 = true) : ZR 72 0 [.val (.int p1), .val (.int p2), .unset] [] (khp n L σ g) cl (.inl (some (.int (p1 - p1 / p2 * p2))), khp n L σ (g), cl) := by
  have hM : zmi[72]? = some _ := rfl
  refine zr_fr hM rfl rfl rfl ?_
  refine zr_fr hM rfl rfl rfl ?_
  refine zr_fr hM rfl rfl (if_neg d1) ?_
  refine zr_fr hM rfl rfl rfl ?_
  refine zr_fr hM rfl rfl rfl ?_
  refine zr_fr hM rfl rfl rfl ?_
  refine zr_fr hM rfl rfl rfl ?_
  refine zr_iff hM rfl rfl h2 ?_
  refine zr_fr hM rfl rfl rfl ?_
  refine zr_ift hM rfl rfl h3 ?_
  refine zr_fr hM rfl rfl rfl ?_
  exact zr_iret2 hM rfl rfl rfl
set_option maxHeartbeats 4000000 in
theorem s72_0_t {n L : Nat} {σ : Ks} {g : List Nat} {cl : Bool} {p1 : Int32} {p2 : Int32} (hn : 2 ≤ n ∧ n ≤ 5) (d1 : ¬ p2 = 0) (h2 : zcnd .ge (p1 ^^^ p2) 0 = true) : ZR 72 0 [.val (.int p1), .val (.int p2), .unset] [] (khp n L σ g) cl (.inl (some (.int (p1 - p1 / p2 * p2))), khp n L σ (g), cl) := by
  have hM : zmi[72]? = some _ := rfl
  refine zr_fr hM rfl rfl rfl ?_
  refine zr_fr hM rfl rfl rfl ?_
  refine zr_fr hM rfl rfl (if_neg d1) ?_
  refine zr_fr hM rfl rfl rfl ?_
  refine zr_fr hM rfl rfl rfl ?_
  refine zr_fr hM rfl rfl rfl ?_
  refine zr_fr hM rfl rfl rfl ?_
  refine zr_ift hM rfl rfl h2 ?_
  refine zr_fr hM rfl rfl rfl ?_
  exact zr_iret2 hM rfl rfl rfl
set_option maxHeartbeats 4000000 in
theorem s73_0_k {n L : Nat} {σ : Ks} {g : List Nat} {cl : Bool} {p1 : Int32} {p2 : Int32} {p3 : Int32} {p4 : Int32} {σ1 : Ks} {c1 : Bool} {r1 : Int32} {x2 : Nat} (hn : 2 ≤ n ∧ n ≤ 5) (c1_ : ZR 74 0 [.val (.ref (kad n (0, 0, 0))), .val (.int p1), .val (.int p2), .val (.int p3), .val (.int p4)] [] (khp n L σ g) true (.inl (some (.int r1)), khp n L σ1 g, c1)) (z2 : zix (Int32.ofInt 0) 1 = some x2) : ZR 73 0 [.val (.ref (kad n (0, 0, 0))), .val (.int p1), .val (.int p2), .val (.int p3), .val (.int p4), .val (.ref (kad n (27, 0, 0))), .unset] [] (khp n L σ g) cl (.inl (some (.int (Int32.ofInt 0))), khp n L (kup σ1 50 x2 r1) (g), false) := by
  have hM : zmi[73]? = some _ := rfl
  have l2 := (zix_some z2).2.2
  refine zr_fr hM rfl rfl rfl ?_
  refine zr_fr hM rfl rfl rfl ?_
  refine zr_fr hM rfl rfl rfl ?_
  refine zr_fr hM rfl rfl rfl ?_
  refine zr_fr hM rfl rfl rfl ?_
  refine zr_fr hM rfl rfl rfl ?_
  refine zr_fr hM rfl rfl rfl ?_
  refine zr_virt (κ := (0, 0, 0)) hn hM rfl rfl rfl rfl rfl rfl rfl rfl rfl ?_
  refine zgo_ret rfl rfl c1_ ?_
  refine zr_fr hM rfl rfl rfl ?_
  refine zr_last (κ := (27, 0, 0)) hn hM rfl rfl rfl rfl z2 rfl ?_
  refine zr_fr hM rfl rfl rfl ?_
  refine zr_fr hM rfl rfl rfl ?_
  exact zr_iret2 hM rfl rfl rfl
set_option maxHeartbeats 4000000 in
theorem s73_0_e201 {n L : Nat} {σ : Ks} {g : List Nat} {cl : Bool} {p1 : Int32} {p2 : Int32} {p3 : Int32} {p4 : Int32} (hn : 2 ≤ n ∧ n ≤ 5) (e1 : ZR 74 0 [.val (.ref (kad n (0, 0, 0))), .val (.int p1), .val (.int p2), .val (.int p3), .val (.int p4)] [] (khp n L σ g) true (.inr (khp n L σ g).length, khp n L σ g ++ [(201, [])], false)) : ZR 73 0 [.val (.ref (kad n (0, 0, 0))), .val (.int p1), .val (.int p2), .val (.int p3), .val (.int p4), .val (.ref (kad n (27, 0, 0))), .unset] [] (khp n L σ g) cl (.inl (some (.int (Int32.ofInt 2))), khp n L σ (g ++ [201]), false) := by
  have hM : zmi[73]? = some _ := rfl
  refine zr_fr hM rfl rfl rfl ?_
  refine zr_fr hM rfl rfl rfl ?_
  refine zr_fr hM rfl rfl rfl ?_
  refine zr_fr hM rfl rfl rfl ?_
  refine zr_fr hM rfl rfl rfl ?_
  refine zr_fr hM rfl rfl rfl ?_
  refine zr_fr hM rfl rfl rfl ?_
  refine zr_virt (κ := (0, 0, 0)) hn hM rfl rfl rfl rfl rfl rfl rfl rfl rfl ?_
  refine zgo_cat rfl rfl e1 (by decide) rfl ?_
  rw [khp_thr]
  refine zr_fr hM rfl rfl rfl ?_
  refine zr_fr hM rfl rfl rfl ?_
  exact zr_iret2 hM rfl rfl rfl
set_option maxHeartbeats 4000000 in
theorem s73_0_e200 {n L : Nat} {σ : Ks} {g : List Nat} {cl : Bool} {p1 : Int32} {p2 : Int32} {p3 : Int32} {p4 : Int32} (hn : 2 ≤ n ∧ n ≤ 5) (e1 : ZR 74 0 [.val (.ref (kad n (0, 0, 0))), .val (.int p1), .val (.int p2), .val (.int p3), .val (.int p4)] [] (khp n L σ g) true (.inr (khp n L σ g).length, khp n L σ g ++ [(200, [])], false)) : ZR 73 0 [.val (.ref (kad n (0, 0, 0))), .val (.int p1), .val (.int p2), .val (.int p3), .val (.int p4), .val (.ref (kad n (27, 0, 0))), .unset] [] (khp n L σ g) cl (.inl (some (.int (Int32.ofInt 1))), khp n L σ (g ++ [200]), false) := by
  have hM : zmi[73]? = some _ := rfl
  refine zr_fr hM rfl rfl rfl ?_
  refine zr_fr hM rfl rfl rfl ?_
  refine zr_fr hM rfl rfl rfl ?_
  refine zr_fr hM rfl rfl rfl ?_
  refine zr_fr hM rfl rfl rfl ?_
  refine zr_fr hM rfl rfl rfl ?_
  refine zr_fr hM rfl rfl rfl ?_
  refine zr_virt (κ := (0, 0, 0)) hn hM rfl rfl rfl rfl rfl rfl rfl rfl rfl ?_
  refine zgo_cat rfl rfl e1 (by decide) rfl ?_
  rw [khp_thr]
  refine zr_fr hM rfl rfl rfl ?_
  refine zr_fr hM rfl rfl rfl ?_
  exact zr_iret2 hM rfl rfl rfl
set_option maxHeartbeats 4000000 in
theorem s74_0_kkf {n L : Nat} {σ : Ks} {g : List Nat} {cl : Bool} {p1 : Int32} {p2 : Int32} {p3 : Int32} {p4 : Int32} (hn : 2 ≤ n ∧ n ≤ 5) (c1_ : ZR 54 0 [.val (.ref (kad n (0, 0, 0))), .val (.int p1), .val (.int p3), .val (.int p4)] [] (khp n L σ g) true (.inl (none), khp n L σ g, true)) (c2_ : ZR 55 0 [.val (.ref (kad n (0, 0, 0))), .val (.int p2)] [] (khp n L σ g) true (.inl (none), khp n L σ g, true)) (h3 : zcnd .ne p1 p2 = false) (hcap : (khp n L σ g).length < zcap) (hcl : cl = true) : ZR 74 0 [.val (.ref (kad n (0, 0, 0))), .val (.int p1), .val (.int p2), .val (.int p3), .val (.int p4)] [] (khp n L σ g) cl (.inr (khp n L σ g).length, khp n L σ g ++ [(200, [])], false) := by
  have hM : zmi[74]? = some _ := rfl
  refine zr_fr hM rfl rfl rfl ?_
  refine zr_fr hM rfl rfl rfl ?_
  refine zr_fr hM rfl rfl rfl ?_
  refine zr_fr hM rfl rfl rfl ?_
  refine zr_virt (κ := (0, 0, 0)) hn hM rfl rfl rfl rfl rfl rfl rfl rfl rfl ?_
  refine zgo_ret rfl rfl c1_ ?_
  rw [Bool.and_true]
  refine zr_fr hM rfl rfl rfl ?_
  refine zr_fr hM rfl rfl rfl ?_
  refine zr_virt (κ := (0, 0, 0)) hn hM rfl rfl rfl rfl rfl rfl rfl rfl rfl ?_
  refine zgo_ret rfl rfl c2_ ?_
  rw [Bool.and_true]
  refine zr_fr hM rfl rfl rfl ?_
  refine zr_fr hM rfl rfl rfl ?_
  refine zr_icf hM rfl rfl h3 ?_
  exact zr_throw2 hM rfl rfl rfl rfl rfl rfl hcap hcl rfl
set_option maxHeartbeats 4000000 in
theorem s74_0_kktf {n L : Nat} {σ : Ks} {g : List Nat} {cl : Bool} {p1 : Int32} {p2 : Int32} {p3 : Int32} {p4 : Int32} {r4 : Int32} (hn : 2 ≤ n ∧ n ≤ 5) (c1_ : ZR 54 0 [.val (.ref (kad n (0, 0, 0))), .val (.int p1), .val (.int p3), .val (.int p4)] [] (khp n L σ g) true (.inl (none), khp n L σ g, true)) (c2_ : ZR 55 0 [.val (.ref (kad n (0, 0, 0))), .val (.int p2)] [] (khp n L σ g) true (.inl (none), khp n L σ g, true)) (h3 : zcnd .ne p1 p2 = true) (c4_ : ZR 75 0 [.val (.ref (kad n (0, 0, 0))), .val (.int p1), .val (.int p2), .val (.int p3), .val (.int p4), .unset] [] (khp n L σ g) true (.inl (some (.int r4)), khp n L σ g, true)) (h5 : zcnd .ne r4 0 = false) (hcap : (khp n L σ g).length < zcap) (hcl : cl = true) : ZR 74 0 [.val (.ref (kad n (0, 0, 0))), .val (.int p1), .val (.int p2), .val (.int p3), .val (.int p4)] [] (khp n L σ g) cl (.inr (khp n L σ g).length, khp n L σ g ++ [(201, [])], false) := by
  have hM : zmi[74]? = some _ := rfl
  refine zr_fr hM rfl rfl rfl ?_
  refine zr_fr hM rfl rfl rfl ?_
  refine zr_fr hM rfl rfl rfl ?_
  refine zr_fr hM rfl rfl rfl ?_
  refine zr_virt (κ := (0, 0, 0)) hn hM rfl rfl rfl rfl rfl rfl rfl rfl rfl ?_
  refine zgo_ret rfl rfl c1_ ?_
  rw [Bool.and_true]
  refine zr_fr hM rfl rfl rfl ?_
  refine zr_fr hM rfl rfl rfl ?_
  refine zr_virt (κ := (0, 0, 0)) hn hM rfl rfl rfl rfl rfl rfl rfl rfl rfl ?_
  refine zgo_ret rfl rfl c2_ ?_
  rw [Bool.and_true]
  refine zr_fr hM rfl rfl rfl ?_
  refine zr_fr hM rfl rfl rfl ?_
  refine zr_ict hM rfl rfl h3 ?_
  refine zr_fr hM rfl rfl rfl ?_
  refine zr_fr hM rfl rfl rfl ?_
  refine zr_fr hM rfl rfl rfl ?_
  refine zr_fr hM rfl rfl rfl ?_
  refine zr_fr hM rfl rfl rfl ?_
  refine zr_virt (κ := (0, 0, 0)) hn hM rfl rfl rfl rfl rfl rfl rfl rfl rfl ?_
  refine zgo_ret rfl rfl c4_ ?_
  rw [Bool.and_true]
  refine zr_iff hM rfl rfl h5 ?_
  exact zr_throw2 hM rfl rfl rfl rfl rfl rfl hcap hcl rfl
set_option maxHeartbeats 4000000 in
theorem s74_0_kktt {n L : Nat} {σ : Ks} {g : List Nat} {cl : Bool} {p1 : Int32} {p2 : Int32} {p3 : Int32} {p4 : Int32} {r4 : Int32} {σ6 : Ks} {c6 : Bool} {r6 : Int32} (hn : 2 ≤ n ∧ n ≤ 5) (c1_ : ZR 54 0 [.val (.ref (kad n (0, 0, 0))), .val (.int p1), .val (.int p3), .val (.int p4)] [] (khp n L σ g) true (.inl (none), khp n L σ g, true)) (c2_ : ZR 55 0 [.val (.ref (kad n (0, 0, 0))), .val (.int p2)] [] (khp n L σ g) true (.inl (none), khp n L σ g, true)) (h3 : zcnd .ne p1 p2 = true) (c4_ : ZR 75 0 [.val (.ref (kad n (0, 0, 0))), .val (.int p1), .val (.int p2), .val (.int p3), .val (.int p4), .unset] [] (khp n L σ g) true (.inl (some (.int r4)), khp n L σ g, true)) (h5 : zcnd .ne r4 0 = true) (c6_ : ZR 77 0 [.val (.ref (kad n (0, 0, 0))), .val (.int p1), .val (.int p2), .val (.int p3), .val (.int p4), .unset, .unset] [] (khp n L σ g) true (.inl (some (.int r6)), khp n L σ6 g, c6)) : ZR 74 0 [.val (.ref (kad n (0, 0, 0))), .val (.int p1), .val (.int p2), .val (.int p3), .val (.int p4)] [] (khp n L σ g) cl (.inl (some (.int r6)), khp n L σ6 (g), cl && c6) := by
  have hM : zmi[74]? = some _ := rfl
  refine zr_fr hM rfl rfl rfl ?_
  refine zr_fr hM rfl rfl rfl ?_
  refine zr_fr hM rfl rfl rfl ?_
  refine zr_fr hM rfl rfl rfl ?_
  refine zr_virt (κ := (0, 0, 0)) hn hM rfl rfl rfl rfl rfl rfl rfl rfl rfl ?_
  refine zgo_ret rfl rfl c1_ ?_
  rw [Bool.and_true]
  refine zr_fr hM rfl rfl rfl ?_
  refine zr_fr hM rfl rfl rfl ?_
  refine zr_virt (κ := (0, 0, 0)) hn hM rfl rfl rfl rfl rfl rfl rfl rfl rfl ?_
  refine zgo_ret rfl rfl c2_ ?_
  rw [Bool.and_true]
  refine zr_fr hM rfl rfl rfl ?_
  refine zr_fr hM rfl rfl rfl ?_
  refine zr_ict hM rfl rfl h3 ?_
  refine zr_fr hM rfl rfl rfl ?_
  refine zr_fr hM rfl rfl rfl ?_
  refine zr_fr hM rfl rfl rfl ?_
  refine zr_fr hM rfl rfl rfl ?_
  refine zr_fr hM rfl rfl rfl ?_
  refine zr_virt (κ := (0, 0, 0)) hn hM rfl rfl rfl rfl rfl rfl rfl rfl rfl ?_
  refine zgo_ret rfl rfl c4_ ?_
  rw [Bool.and_true]
  refine zr_ift hM rfl rfl h5 ?_
  refine zr_fr hM rfl rfl rfl ?_
  refine zr_fr hM rfl rfl rfl ?_
  refine zr_fr hM rfl rfl rfl ?_
  refine zr_fr hM rfl rfl rfl ?_
  refine zr_fr hM rfl rfl rfl ?_
  refine zr_virt (κ := (0, 0, 0)) hn hM rfl rfl rfl rfl rfl rfl rfl rfl rfl ?_
  refine zgo_ret rfl rfl c6_ ?_
  exact zr_iret2 hM rfl rfl rfl
set_option maxHeartbeats 4000000 in
theorem s74_0_e200 {n L : Nat} {σ : Ks} {g : List Nat} {cl : Bool} {p1 : Int32} {p2 : Int32} {p3 : Int32} {p4 : Int32} (hn : 2 ≤ n ∧ n ≤ 5) (e1 : ZR 54 0 [.val (.ref (kad n (0, 0, 0))), .val (.int p1), .val (.int p3), .val (.int p4)] [] (khp n L σ g) true (.inr (khp n L σ g).length, khp n L σ g ++ [(200, [])], false)) : ZR 74 0 [.val (.ref (kad n (0, 0, 0))), .val (.int p1), .val (.int p2), .val (.int p3), .val (.int p4)] [] (khp n L σ g) cl (.inr (khp n L σ g).length, khp n L σ g ++ [(200, [])], false) := by
  have hM : zmi[74]? = some _ := rfl
  refine zr_fr hM rfl rfl rfl ?_
  refine zr_fr hM rfl rfl rfl ?_
  refine zr_fr hM rfl rfl rfl ?_
  refine zr_fr hM rfl rfl rfl ?_
  refine zr_virt (κ := (0, 0, 0)) hn hM rfl rfl rfl rfl rfl rfl rfl rfl rfl ?_
  exact zgo_thr2 rfl rfl e1 rfl rfl rfl
set_option maxHeartbeats 4000000 in
theorem s74_0_ke200 {n L : Nat} {σ : Ks} {g : List Nat} {cl : Bool} {p1 : Int32} {p2 : Int32} {p3 : Int32} {p4 : Int32} (hn : 2 ≤ n ∧ n ≤ 5) (c1_ : ZR 54 0 [.val (.ref (kad n (0, 0, 0))), .val (.int p1), .val (.int p3), .val (.int p4)] [] (khp n L σ g) true (.inl (none), khp n L σ g, true)) (e2 : ZR 55 0 [.val (.ref (kad n (0, 0, 0))), .val (.int p2)] [] (khp n L σ g) true (.inr (khp n L σ g).length, khp n L σ g ++ [(200, [])], false)) : ZR 74 0 [.val (.ref (kad n (0, 0, 0))), .val (.int p1), .val (.int p2), .val (.int p3), .val (.int p4)] [] (khp n L σ g) cl (.inr (khp n L σ g).length, khp n L σ g ++ [(200, [])], false) := by
  have hM : zmi[74]? = some _ := rfl
  refine zr_fr hM rfl rfl rfl ?_
  refine zr_fr hM rfl rfl rfl ?_
  refine zr_fr hM rfl rfl rfl ?_
  refine zr_fr hM rfl rfl rfl ?_
  refine zr_virt (κ := (0, 0, 0)) hn hM rfl rfl rfl rfl rfl rfl rfl rfl rfl ?_
  refine zgo_ret rfl rfl c1_ ?_
  rw [Bool.and_true]
  refine zr_fr hM rfl rfl rfl ?_
  refine zr_fr hM rfl rfl rfl ?_
  refine zr_virt (κ := (0, 0, 0)) hn hM rfl rfl rfl rfl rfl rfl rfl rfl rfl ?_
  exact zgo_thr2 rfl rfl e2 rfl rfl rfl
set_option maxHeartbeats 4000000 in
theorem s75_0_fff {n L : Nat} {σ : Ks} {g : List Nat} {cl : Bool} {p1 : Int32} {p2 : Int32} {p3 : Int32} {p4 : Int32} {x1 : Nat} {x3 : Nat} {x5 : Nat} {r6 : Int32} (hn : 2 ≤ n ∧ n ≤ 5) (z1 : zix p1 n = some x1) (h2 : zcnd .eq (σ 10 x1) 0 = false) (z3 : zix p3 4 = some x3) (h4 : zcnd .lt (σ (2 * x1) x3) p4 = false) (z5 : zix p2 n = some x5) (c6_ : ZR 76 0 [.val (.ref (kad n (14, 2 * x1, x5)))] [] (khp n L σ g) true (.inl (some (.int r6)), khp n L σ g, true)) (h7 : zcnd .eq r6 0 = false) : ZR 75 0 [.val (.ref (kad n (0, 0, 0))), .val (.int p1), .val (.int p2), .val (.int p3), .val (.int p4), .unset] [] (khp n L σ g) cl (.inl (some (.int (Int32.ofInt 1))), khp n L σ (g), cl) := by
  have hM : zmi[75]? = some _ := rfl
  have l1 := (zix_some z1).2.2
  have l3 := (zix_some z3).2.2
  have l5 := (zix_some z5).2.2
  refine zr_fr hM rfl rfl rfl ?_
  refine zr_getf (κ := (0, 0, 0)) hn hM rfl rfl rfl rfl ?_
  refine zr_fr hM rfl rfl rfl ?_
  refine zr_aald (κ := (1, 0, 0)) hn hM rfl rfl rfl rfl z1 ?_
  refine zr_fr hM rfl rfl rfl ?_
  refine zr_fr hM rfl rfl rfl ?_
  refine zr_getf (κ := (2, x1, 0)) hn hM rfl (kokT (by omega)) rfl rfl ?_
  refine zr_iff hM rfl rfl h2 ?_
  refine zr_fr hM rfl rfl rfl ?_
  refine zr_getf (κ := (2, x1, 0)) hn hM rfl (kokT (by omega)) rfl rfl ?_
  refine zr_getf (κ := (3, 2 * x1, 0)) hn hM rfl (kokB rfl (by omega)) rfl rfl ?_
  refine zr_fr hM rfl rfl rfl ?_
  refine zr_iald (κ := (4, 2 * x1, 0)) hn hM rfl (kokB rfl (by omega)) rfl z3 ?_
  refine zr_fr hM rfl rfl rfl ?_
  refine zr_icf hM rfl rfl h4 ?_
  refine zr_fr hM rfl rfl rfl ?_
  refine zr_getf (κ := (2, x1, 0)) hn hM rfl (kokT (by omega)) rfl rfl ?_
  refine zr_getf (κ := (3, 2 * x1, 0)) hn hM rfl (kokB rfl (by omega)) rfl rfl ?_
  refine zr_fr hM rfl rfl rfl ?_
  refine zr_aald (κ := (13, 2 * x1, 0)) hn hM rfl (kokB rfl (by omega)) rfl rfl z5 ?_
  refine zr_virt (κ := (14, 2 * x1, x5)) hn hM rfl rfl rfl rfl rfl rfl (kokP rfl (by omega) (by omega)) rfl rfl ?_
  refine zgo_ret rfl rfl c6_ ?_
  rw [Bool.and_true]
  refine zr_iff hM rfl rfl h7 ?_
  refine zr_fr hM rfl rfl rfl ?_
  refine zr_fr hM rfl rfl rfl ?_
  exact zr_zret2 hM rfl rfl (by decide) rfl
set_option maxHeartbeats 4000000 in
theorem s75_0_fft {n L : Nat} {σ : Ks} {g : List Nat} {cl : Bool} {p1 : Int32} {p2 : Int32} {p3 : Int32} {p4 : Int32} {x1 : Nat} {x3 : Nat} {x5 : Nat} {r6 : Int32} (hn : 2 ≤ n ∧ n ≤ 5) (z1 : zix p1 n = some x1) (h2 : zcnd .eq (σ 10 x1) 0 = false) (z3 : zix p3 4 = some x3) (h4 : zcnd .lt (σ (2 * x1) x3) p4 = false) (z5 : zix p2 n = some x5) (c6_ : ZR 76 0 [.val (.ref (kad n (14, 2 * x1, x5)))] [] (khp n L σ g) true (.inl (some (.int r6)), khp n L σ g, true)) (h7 : zcnd .eq r6 0 = true) : ZR 75 0 [.val (.ref (kad n (0, 0, 0))), .val (.int p1), .val (.int p2), .val (.int p3), .val (.int p4), .unset] [] (khp n L σ g) cl (.inl (some (.int (Int32.ofInt 0))), khp n L σ (g), cl) := by
  have hM : zmi[75]? = some _ := rfl
  have l1 := (zix_some z1).2.2
  have l3 := (zix_some z3).2.2
  have l5 := (zix_some z5).2.2
  refine zr_fr hM rfl rfl rfl ?_
  refine zr_getf (κ := (0, 0, 0)) hn hM rfl rfl rfl rfl ?_
  refine zr_fr hM rfl rfl rfl ?_
  refine zr_aald (κ := (1, 0, 0)) hn hM rfl rfl rfl rfl z1 ?_
  refine zr_fr hM rfl rfl rfl ?_
  refine zr_fr hM rfl rfl rfl ?_
  refine zr_getf (κ := (2, x1, 0)) hn hM rfl (kokT (by omega)) rfl rfl ?_
  refine zr_iff hM rfl rfl h2 ?_
  refine zr_fr hM rfl rfl rfl ?_
  refine zr_getf (κ := (2, x1, 0)) hn hM rfl (kokT (by omega)) rfl rfl ?_
  refine zr_getf (κ := (3, 2 * x1, 0)) hn hM rfl (kokB rfl (by omega)) rfl rfl ?_
  refine zr_fr hM rfl rfl rfl ?_
  refine zr_iald (κ := (4, 2 * x1, 0)) hn hM rfl (kokB rfl (by omega)) rfl z3 ?_
  refine zr_fr hM rfl rfl rfl ?_
  refine zr_icf hM rfl rfl h4 ?_
  refine zr_fr hM rfl rfl rfl ?_
  refine zr_getf (κ := (2, x1, 0)) hn hM rfl (kokT (by omega)) rfl rfl ?_
  refine zr_getf (κ := (3, 2 * x1, 0)) hn hM rfl (kokB rfl (by omega)) rfl rfl ?_
  refine zr_fr hM rfl rfl rfl ?_
  refine zr_aald (κ := (13, 2 * x1, 0)) hn hM rfl (kokB rfl (by omega)) rfl rfl z5 ?_
  refine zr_virt (κ := (14, 2 * x1, x5)) hn hM rfl rfl rfl rfl rfl rfl (kokP rfl (by omega) (by omega)) rfl rfl ?_
  refine zgo_ret rfl rfl c6_ ?_
  rw [Bool.and_true]
  refine zr_ift hM rfl rfl h7 ?_
  refine zr_fr hM rfl rfl rfl ?_
  exact zr_zret2 hM rfl rfl (by decide) rfl
set_option maxHeartbeats 4000000 in
theorem s75_0_ft {n L : Nat} {σ : Ks} {g : List Nat} {cl : Bool} {p1 : Int32} {p2 : Int32} {p3 : Int32} {p4 : Int32} {x1 : Nat} {x3 : Nat} (hn : 2 ≤ n ∧ n ≤ 5) (z1 : zix p1 n = some x1) (h2 : zcnd .eq (σ 10 x1) 0 = false) (z3 : zix p3 4 = some x3) (h4 : zcnd .lt (σ (2 * x1) x3) p4 = true) : ZR 75 0 [.val (.ref (kad n (0, 0, 0))), .val (.int p1), .val (.int p2), .val (.int p3), .val (.int p4), .unset] [] (khp n L σ g) cl (.inl (some (.int (Int32.ofInt 0))), khp n L σ (g), cl) := by
  have hM : zmi[75]? = some _ := rfl
  have l1 := (zix_some z1).2.2
  have l3 := (zix_some z3).2.2
  refine zr_fr hM rfl rfl rfl ?_
  refine zr_getf (κ := (0, 0, 0)) hn hM rfl rfl rfl rfl ?_
  refine zr_fr hM rfl rfl rfl ?_
  refine zr_aald (κ := (1, 0, 0)) hn hM rfl rfl rfl rfl z1 ?_
  refine zr_fr hM rfl rfl rfl ?_
  refine zr_fr hM rfl rfl rfl ?_
  refine zr_getf (κ := (2, x1, 0)) hn hM rfl (kokT (by omega)) rfl rfl ?_
  refine zr_iff hM rfl rfl h2 ?_
  refine zr_fr hM rfl rfl rfl ?_
  refine zr_getf (κ := (2, x1, 0)) hn hM rfl (kokT (by omega)) rfl rfl ?_
  refine zr_getf (κ := (3, 2 * x1, 0)) hn hM rfl (kokB rfl (by omega)) rfl rfl ?_
  refine zr_fr hM rfl rfl rfl ?_
  refine zr_iald (κ := (4, 2 * x1, 0)) hn hM rfl (kokB rfl (by omega)) rfl z3 ?_
  refine zr_fr hM rfl rfl rfl ?_
  refine zr_ict hM rfl rfl h4 ?_
  refine zr_fr hM rfl rfl rfl ?_
  exact zr_zret2 hM rfl rfl (by decide) rfl
set_option maxHeartbeats 4000000 in
theorem s75_0_t {n L : Nat} {σ : Ks} {g : List Nat} {cl : Bool} {p1 : Int32} {p2 : Int32} {p3 : Int32} {p4 : Int32} {x1 : Nat} (hn : 2 ≤ n ∧ n ≤ 5) (z1 : zix p1 n = some x1) (h2 : zcnd .eq (σ 10 x1) 0 = true) : ZR 75 0 [.val (.ref (kad n (0, 0, 0))), .val (.int p1), .val (.int p2), .val (.int p3), .val (.int p4), .unset] [] (khp n L σ g) cl (.inl (some (.int (Int32.ofInt 0))), khp n L σ (g), cl) := by
  have hM : zmi[75]? = some _ := rfl
  have l1 := (zix_some z1).2.2
  refine zr_fr hM rfl rfl rfl ?_
  refine zr_getf (κ := (0, 0, 0)) hn hM rfl rfl rfl rfl ?_
  refine zr_fr hM rfl rfl rfl ?_
  refine zr_aald (κ := (1, 0, 0)) hn hM rfl rfl rfl rfl z1 ?_
  refine zr_fr hM rfl rfl rfl ?_
  refine zr_fr hM rfl rfl rfl ?_
  refine zr_getf (κ := (2, x1, 0)) hn hM rfl (kokT (by omega)) rfl rfl ?_
  refine zr_ift hM rfl rfl h2 ?_
  refine zr_fr hM rfl rfl rfl ?_
  exact zr_zret2 hM rfl rfl (by decide) rfl
set_option maxHeartbeats 4000000 in
theorem s76_0_fff {n L : Nat} {σ : Ks} {g : List Nat} {cl : Bool} {b : Nat} {o : Nat} {x3 : Nat} (hn : 2 ≤ n ∧ n ≤ 5) (hb : b < 2 * n) (ho : o < n) (h1 : zcnd .eq (σ b (44 + 24 * o + 1)) 0 = false) (h2 : zcnd .ge (σ b (44 + 24 * o + 1)) (Int32.ofInt 4) = false) (z3 : zix (Int32.ofInt 0) 4 = some x3) (h4 : zcnd .ge ((σ b (44 + 24 * o)) - (σ b (44 + 24 * o + 2 + 3 * x3))) ((Int8.ofInt 16).toInt32) = false) : ZR 76 0 [.val (.ref (kad n (14, b, o)))] [] (khp n L σ g) cl (.inl (some (.int (Int32.ofInt 1))), khp n L σ (g), cl) := by
  have hM : zmi[76]? = some _ := rfl
  have l3 := (zix_some z3).2.2
  refine zr_fr hM rfl rfl rfl ?_
  refine zr_getf (κ := (14, b, o)) hn hM rfl (kokP rfl (by omega) (by omega)) rfl rfl ?_
  refine zr_iff hM rfl rfl h1 ?_
  refine zr_fr hM rfl rfl rfl ?_
  refine zr_getf (κ := (14, b, o)) hn hM rfl (kokP rfl (by omega) (by omega)) rfl rfl ?_
  refine zr_fr hM rfl rfl rfl ?_
  refine zr_icf hM rfl rfl h2 ?_
  refine zr_fr hM rfl rfl rfl ?_
  refine zr_getf (κ := (14, b, o)) hn hM rfl (kokP rfl (by omega) (by omega)) rfl rfl ?_
  refine zr_fr hM rfl rfl rfl ?_
  refine zr_getf (κ := (14, b, o)) hn hM rfl (kokP rfl (by omega) (by omega)) rfl rfl ?_
  refine zr_fr hM rfl rfl rfl ?_
  refine zr_iald (κ := (15, b, o)) hn hM rfl (kokP rfl (by omega) (by omega)) rfl z3 ?_
  refine zr_fr hM rfl rfl rfl ?_
  refine zr_fr hM rfl rfl rfl ?_
  refine zr_icf hM rfl rfl h4 ?_
  refine zr_fr hM rfl rfl rfl ?_
  refine zr_fr hM rfl rfl rfl ?_
  exact zr_zret2 hM rfl rfl (by decide) rfl
set_option maxHeartbeats 4000000 in
theorem s76_0_fft {n L : Nat} {σ : Ks} {g : List Nat} {cl : Bool} {b : Nat} {o : Nat} {x3 : Nat} (hn : 2 ≤ n ∧ n ≤ 5) (hb : b < 2 * n) (ho : o < n) (h1 : zcnd .eq (σ b (44 + 24 * o + 1)) 0 = false) (h2 : zcnd .ge (σ b (44 + 24 * o + 1)) (Int32.ofInt 4) = false) (z3 : zix (Int32.ofInt 0) 4 = some x3) (h4 : zcnd .ge ((σ b (44 + 24 * o)) - (σ b (44 + 24 * o + 2 + 3 * x3))) ((Int8.ofInt 16).toInt32) = true) : ZR 76 0 [.val (.ref (kad n (14, b, o)))] [] (khp n L σ g) cl (.inl (some (.int (Int32.ofInt 0))), khp n L σ (g), cl) := by
  have hM : zmi[76]? = some _ := rfl
  have l3 := (zix_some z3).2.2
  refine zr_fr hM rfl rfl rfl ?_
  refine zr_getf (κ := (14, b, o)) hn hM rfl (kokP rfl (by omega) (by omega)) rfl rfl ?_
  refine zr_iff hM rfl rfl h1 ?_
  refine zr_fr hM rfl rfl rfl ?_
  refine zr_getf (κ := (14, b, o)) hn hM rfl (kokP rfl (by omega) (by omega)) rfl rfl ?_
  refine zr_fr hM rfl rfl rfl ?_
  refine zr_icf hM rfl rfl h2 ?_
  refine zr_fr hM rfl rfl rfl ?_
  refine zr_getf (κ := (14, b, o)) hn hM rfl (kokP rfl (by omega) (by omega)) rfl rfl ?_
  refine zr_fr hM rfl rfl rfl ?_
  refine zr_getf (κ := (14, b, o)) hn hM rfl (kokP rfl (by omega) (by omega)) rfl rfl ?_
  refine zr_fr hM rfl rfl rfl ?_
  refine zr_iald (κ := (15, b, o)) hn hM rfl (kokP rfl (by omega) (by omega)) rfl z3 ?_
  refine zr_fr hM rfl rfl rfl ?_
  refine zr_fr hM rfl rfl rfl ?_
  refine zr_ict hM rfl rfl h4 ?_
  refine zr_fr hM rfl rfl rfl ?_
  exact zr_zret2 hM rfl rfl (by decide) rfl
set_option maxHeartbeats 4000000 in
theorem s76_0_ft {n L : Nat} {σ : Ks} {g : List Nat} {cl : Bool} {b : Nat} {o : Nat} (hn : 2 ≤ n ∧ n ≤ 5) (hb : b < 2 * n) (ho : o < n) (h1 : zcnd .eq (σ b (44 + 24 * o + 1)) 0 = false) (h2 : zcnd .ge (σ b (44 + 24 * o + 1)) (Int32.ofInt 4) = true) : ZR 76 0 [.val (.ref (kad n (14, b, o)))] [] (khp n L σ g) cl (.inl (some (.int (Int32.ofInt 0))), khp n L σ (g), cl) := by
  have hM : zmi[76]? = some _ := rfl
  refine zr_fr hM rfl rfl rfl ?_
  refine zr_getf (κ := (14, b, o)) hn hM rfl (kokP rfl (by omega) (by omega)) rfl rfl ?_
  refine zr_iff hM rfl rfl h1 ?_
  refine zr_fr hM rfl rfl rfl ?_
  refine zr_getf (κ := (14, b, o)) hn hM rfl (kokP rfl (by omega) (by omega)) rfl rfl ?_
  refine zr_fr hM rfl rfl rfl ?_
  refine zr_ict hM rfl rfl h2 ?_
  refine zr_fr hM rfl rfl rfl ?_
  exact zr_zret2 hM rfl rfl (by decide) rfl
set_option maxHeartbeats 4000000 in
theorem s76_0_t {n L : Nat} {σ : Ks} {g : List Nat} {cl : Bool} {b : Nat} {o : Nat} (hn : 2 ≤ n ∧ n ≤ 5) (hb : b < 2 * n) (ho : o < n) (h1 : zcnd .eq (σ b (44 + 24 * o + 1)) 0 = true) : ZR 76 0 [.val (.ref (kad n (14, b, o)))] [] (khp n L σ g) cl (.inl (some (.int (Int32.ofInt 1))), khp n L σ (g), cl) := by
  have hM : zmi[76]? = some _ := rfl
  refine zr_fr hM rfl rfl rfl ?_
  refine zr_getf (κ := (14, b, o)) hn hM rfl (kokP rfl (by omega) (by omega)) rfl rfl ?_
  refine zr_ift hM rfl rfl h1 ?_
  refine zr_fr hM rfl rfl rfl ?_
  refine zr_fr hM rfl rfl rfl ?_
  exact zr_zret2 hM rfl rfl (by decide) rfl
set_option maxHeartbeats 4000000 in
theorem s77_0_r {n L : Nat} {σ : Ks} {g : List Nat} {cl : Bool} {p1 : Int32} {p2 : Int32} {p3 : Int32} {p4 : Int32} {x1 : Nat} {x2 : Nat} {x3 : Nat} {σ4 : Ks} {c4 : Bool} {r4 : Int32} {σ5 : Ks} {c5 : Bool} {σ6 : Ks} {c6 : Bool} (hn : 2 ≤ n ∧ n ≤ 5) (z1 : zix p1 n = some x1) (z2 : zix p3 4 = some x2) (z3 : zix p2 n = some x3) (c4_ : ZR 78 0 [.val (.ref (kad n (14, 2 * x1, x3))), .val (.int p3), .val (.int p4), .unset] [] (khp n L (kup σ (2 * x1) x2 ((σ (2 * x1) x2) - p4)) g) true (.inl (some (.int r4)), khp n L σ4 g, c4)) (c5_ : ZR 15 0 [.val (.ref (kad n (2, x1, 0)))] [] (khp n L σ4 g) true (.inl (none), khp n L σ5 g, c5)) (c6_ : ZR 70 0 [.val (.ref (kad n (20, 0, 0))), .val (.int (Int32.ofInt 0)), .val (.int p1), .val (.int p2), .val (.int r4), .val (.int p3), .val (.int p4), .unset] [] (khp n L σ5 g) true (.inl (none), khp n L σ6 g, c6)) : ZR 77 0 [.val (.ref (kad n (0, 0, 0))), .val (.int p1), .val (.int p2), .val (.int p3), .val (.int p4), .unset, .unset] [] (khp n L σ g) cl (.inl (some (.int r4)), khp n L σ6 (g), false) := by
  have hM : zmi[77]? = some _ := rfl
  have l1 := (zix_some z1).2.2
  have l2 := (zix_some z2).2.2
  have l3 := (zix_some z3).2.2
  refine zr_fr hM rfl rfl rfl ?_
  refine zr_getf (κ := (0, 0, 0)) hn hM rfl rfl rfl rfl ?_
  refine zr_fr hM rfl rfl rfl ?_
  refine zr_aald (κ := (1, 0, 0)) hn hM rfl rfl rfl rfl z1 ?_
  refine zr_getf (κ := (2, x1, 0)) hn hM rfl (kokT (by omega)) rfl rfl ?_
  refine zr_fr hM rfl rfl rfl ?_
  refine zr_fr hM rfl rfl rfl ?_
  refine zr_getf (κ := (3, 2 * x1, 0)) hn hM rfl (kokB rfl (by omega)) rfl rfl ?_
  refine zr_fr hM rfl rfl rfl ?_
  refine zr_fr hM rfl rfl rfl ?_
  refine zr_iald (κ := (4, 2 * x1, 0)) hn hM rfl (kokB rfl (by omega)) rfl z2 ?_
  refine zr_fr hM rfl rfl rfl ?_
  refine zr_fr hM rfl rfl rfl ?_
  refine zr_iast (κ := (4, 2 * x1, 0)) hn hM rfl (kokB rfl (by omega)) rfl rfl z2 rfl ?_
  refine zr_fr hM rfl rfl rfl ?_
  refine zr_getf (κ := (3, 2 * x1, 0)) hn hM rfl (kokB rfl (by omega)) rfl rfl ?_
  refine zr_fr hM rfl rfl rfl ?_
  refine zr_aald (κ := (13, 2 * x1, 0)) hn hM rfl (kokB rfl (by omega)) rfl rfl z3 ?_
  refine zr_fr hM rfl rfl rfl ?_
  refine zr_fr hM rfl rfl rfl ?_
  refine zr_virt (κ := (14, 2 * x1, x3)) hn hM rfl rfl rfl rfl rfl rfl (kokP rfl (by omega) (by omega)) rfl rfl ?_
  refine zgo_ret rfl rfl c4_ ?_
  rw [Bool.false_and]
  refine zr_fr hM rfl rfl rfl ?_
  refine zr_fr hM rfl rfl rfl ?_
  refine zr_getf (κ := (0, 0, 0)) hn hM rfl rfl rfl rfl ?_
  refine zr_fr hM rfl rfl rfl ?_
  refine zr_aald (κ := (1, 0, 0)) hn hM rfl rfl rfl rfl z1 ?_
  refine zr_virt (κ := (2, x1, 0)) hn hM rfl rfl rfl rfl rfl rfl (kokT (by omega)) rfl rfl ?_
  refine zgo_ret rfl rfl c5_ ?_
  rw [Bool.false_and]
  refine zr_fr hM rfl rfl rfl ?_
  refine zr_getf (κ := (0, 0, 0)) hn hM rfl rfl rfl rfl ?_
  refine zr_fr hM rfl rfl rfl ?_
  refine zr_fr hM rfl rfl rfl ?_
  refine zr_fr hM rfl rfl rfl ?_
  refine zr_fr hM rfl rfl rfl ?_
  refine zr_fr hM rfl rfl rfl ?_
  refine zr_fr hM rfl rfl rfl ?_
  refine zr_virt (κ := (20, 0, 0)) hn hM rfl rfl rfl rfl rfl rfl rfl rfl rfl ?_
  refine zgo_ret rfl rfl c6_ ?_
  rw [Bool.false_and]
  refine zr_fr hM rfl rfl rfl ?_
  exact zr_iret2 hM rfl rfl rfl
set_option maxHeartbeats 4000000 in
theorem s78_0_r {n L : Nat} {σ : Ks} {g : List Nat} {cl : Bool} {b : Nat} {o : Nat} {p1 : Int32} {p2 : Int32} {x1 : Nat} {x2 : Nat} {x3 : Nat} (hn : 2 ≤ n ∧ n ≤ 5) (hb : b < 2 * n) (ho : o < n) (z1 : zix (σ b (44 + 24 * o + 1)) 4 = some x1) (z2 : zix ((kup σ b (44 + 24 * o + 2 + 3 * x1) (σ b (44 + 24 * o))) b (44 + 24 * o + 1)) 4 = some x2) (z3 : zix ((kup (kup σ b (44 + 24 * o + 2 + 3 * x1) (σ b (44 + 24 * o))) b (44 + 24 * o + 2 + 3 * x2 + 1) p1) b (44 + 24 * o + 1)) 4 = some x3) : ZR 78 0 [.val (.ref (kad n (14, b, o))), .val (.int p1), .val (.int p2), .unset] [] (khp n L σ g) cl (.inl (some (.int (σ b (44 + 24 * o)))), khp n L (kup (kup (kup (kup (kup σ b (44 + 24 * o + 2 + 3 * x1) (σ b (44 + 24 * o))) b (44 + 24 * o + 2 + 3 * x2 + 1) p1) b (44 + 24 * o + 2 + 3 * x3 + 2) p2) b (44 + 24 * o + 1) (((kup (kup (kup σ b (44 + 24 * o + 2 + 3 * x1) (σ b (44 + 24 * o))) b (44 + 24 * o + 2 + 3 * x2 + 1) p1) b (44 + 24 * o + 2 + 3 * x3 + 2) p2) b (44 + 24 * o + 1)) + (Int32.ofInt 1))) b (44 + 24 * o) (((kup (kup (kup (kup σ b (44 + 24 * o + 2 + 3 * x1) (σ b (44 + 24 * o))) b (44 + 24 * o + 2 + 3 * x2 + 1) p1) b (44 + 24 * o + 2 + 3 * x3 + 2) p2) b (44 + 24 * o + 1) (((kup (kup (kup σ b (44 + 24 * o + 2 + 3 * x1) (σ b (44 + 24 * o))) b (44 + 24 * o + 2 + 3 * x2 + 1) p1) b (44 + 24 * o + 2 + 3 * x3 + 2) p2) b (44 + 24 * o + 1)) + (Int32.ofInt 1))) b (44 + 24 * o)) + (Int32.ofInt 1))) (g), false) := by
  have hM : zmi[78]? = some _ := rfl
  have l1 := (zix_some z1).2.2
  have l2 := (zix_some z2).2.2
  have l3 := (zix_some z3).2.2
  refine zr_fr hM rfl rfl rfl ?_
  refine zr_getf (κ := (14, b, o)) hn hM rfl (kokP rfl (by omega) (by omega)) rfl rfl ?_
  refine zr_fr hM rfl rfl rfl ?_
  refine zr_fr hM rfl rfl rfl ?_
  refine zr_getf (κ := (14, b, o)) hn hM rfl (kokP rfl (by omega) (by omega)) rfl rfl ?_
  refine zr_fr hM rfl rfl rfl ?_
  refine zr_getf (κ := (14, b, o)) hn hM rfl (kokP rfl (by omega) (by omega)) rfl rfl ?_
  refine zr_fr hM rfl rfl rfl ?_
  refine zr_iast (κ := (15, b, o)) hn hM rfl (kokP rfl (by omega) (by omega)) rfl rfl z1 rfl ?_
  refine zr_fr hM rfl rfl rfl ?_
  refine zr_getf (κ := (14, b, o)) hn hM rfl (kokP rfl (by omega) (by omega)) rfl rfl ?_
  refine zr_fr hM rfl rfl rfl ?_
  refine zr_getf (κ := (14, b, o)) hn hM rfl (kokP rfl (by omega) (by omega)) rfl rfl ?_
  refine zr_fr hM rfl rfl rfl ?_
  refine zr_iast (κ := (16, b, o)) hn hM rfl (kokP rfl (by omega) (by omega)) rfl rfl z2 rfl ?_
  refine zr_fr hM rfl rfl rfl ?_
  refine zr_getf (κ := (14, b, o)) hn hM rfl (kokP rfl (by omega) (by omega)) rfl rfl ?_
  refine zr_fr hM rfl rfl rfl ?_
  refine zr_getf (κ := (14, b, o)) hn hM rfl (kokP rfl (by omega) (by omega)) rfl rfl ?_
  refine zr_fr hM rfl rfl rfl ?_
  refine zr_iast (κ := (17, b, o)) hn hM rfl (kokP rfl (by omega) (by omega)) rfl rfl z3 rfl ?_
  refine zr_fr hM rfl rfl rfl ?_
  refine zr_fr hM rfl rfl rfl ?_
  refine zr_getf (κ := (14, b, o)) hn hM rfl (kokP rfl (by omega) (by omega)) rfl rfl ?_
  refine zr_fr hM rfl rfl rfl ?_
  refine zr_fr hM rfl rfl rfl ?_
  refine zr_putf (κ := (14, b, o)) hn hM rfl (kokP rfl (by omega) (by omega)) rfl rfl rfl rfl rfl rfl ?_
  refine zr_fr hM rfl rfl rfl ?_
  refine zr_fr hM rfl rfl rfl ?_
  refine zr_getf (κ := (14, b, o)) hn hM rfl (kokP rfl (by omega) (by omega)) rfl rfl ?_
  refine zr_fr hM rfl rfl rfl ?_
  refine zr_fr hM rfl rfl rfl ?_
  refine zr_putf (κ := (14, b, o)) hn hM rfl (kokP rfl (by omega) (by omega)) rfl rfl rfl rfl rfl rfl ?_
  refine zr_fr hM rfl rfl rfl ?_
  exact zr_iret2 hM rfl rfl rfl
set_option maxHeartbeats 4000000 in
theorem s79_0_k {n L : Nat} {σ : Ks} {g : List Nat} {cl : Bool} {p1 : Int32} {p2 : Int32} {p3 : Int32} {σ1 : Ks} {c1 : Bool} {r1 : Int32} {x2 : Nat} (hn : 2 ≤ n ∧ n ≤ 5) (c1_ : ZR 80 0 [.val (.ref (kad n (0, 0, 0))), .val (.int p1), .val (.int p2), .val (.int p3), .unset] [] (khp n L σ g) true (.inl (some (.int r1)), khp n L σ1 g, c1)) (z2 : zix (Int32.ofInt 0) 1 = some x2) : ZR 79 0 [.val (.ref (kad n (0, 0, 0))), .val (.int p1), .val (.int p2), .val (.int p3), .val (.ref (kad n (27, 0, 0))), .unset] [] (khp n L σ g) cl (.inl (some (.int (Int32.ofInt 0))), khp n L (kup σ1 50 x2 r1) (g), false) := by
  have hM : zmi[79]? = some _ := rfl
  have l2 := (zix_some z2).2.2
  refine zr_fr hM rfl rfl rfl ?_
  refine zr_fr hM rfl rfl rfl ?_
  refine zr_fr hM rfl rfl rfl ?_
  refine zr_fr hM rfl rfl rfl ?_
  refine zr_fr hM rfl rfl rfl ?_
  refine zr_fr hM rfl rfl rfl ?_
  refine zr_virt (κ := (0, 0, 0)) hn hM rfl rfl rfl rfl rfl rfl rfl rfl rfl ?_
  refine zgo_ret rfl rfl c1_ ?_
  refine zr_fr hM rfl rfl rfl ?_
  refine zr_last (κ := (27, 0, 0)) hn hM rfl rfl rfl rfl z2 rfl ?_
  refine zr_fr hM rfl rfl rfl ?_
  refine zr_fr hM rfl rfl rfl ?_
  exact zr_iret2 hM rfl rfl rfl
set_option maxHeartbeats 4000000 in
theorem s79_0_e201 {n L : Nat} {σ : Ks} {g : List Nat} {cl : Bool} {p1 : Int32} {p2 : Int32} {p3 : Int32} (hn : 2 ≤ n ∧ n ≤ 5) (e1 : ZR 80 0 [.val (.ref (kad n (0, 0, 0))), .val (.int p1), .val (.int p2), .val (.int p3), .unset] [] (khp n L σ g) true (.inr (khp n L σ g).length, khp n L σ g ++ [(201, [])], false)) : ZR 79 0 [.val (.ref (kad n (0, 0, 0))), .val (.int p1), .val (.int p2), .val (.int p3), .val (.ref (kad n (27, 0, 0))), .unset] [] (khp n L σ g) cl (.inl (some (.int (Int32.ofInt 2))), khp n L σ (g ++ [201]), false) := by
  have hM : zmi[79]? = some _ := rfl
  refine zr_fr hM rfl rfl rfl ?_
  refine zr_fr hM rfl rfl rfl ?_
  refine zr_fr hM rfl rfl rfl ?_
  refine zr_fr hM rfl rfl rfl ?_
  refine zr_fr hM rfl rfl rfl ?_
  refine zr_fr hM rfl rfl rfl ?_
  refine zr_virt (κ := (0, 0, 0)) hn hM rfl rfl rfl rfl rfl rfl rfl rfl rfl ?_
  refine zgo_cat rfl rfl e1 (by decide) rfl ?_
  rw [khp_thr]
  refine zr_fr hM rfl rfl rfl ?_
  refine zr_fr hM rfl rfl rfl ?_
  exact zr_iret2 hM rfl rfl rfl
set_option maxHeartbeats 4000000 in
theorem s79_0_e200 {n L : Nat} {σ : Ks} {g : List Nat} {cl : Bool} {p1 : Int32} {p2 : Int32} {p3 : Int32} (hn : 2 ≤ n ∧ n ≤ 5) (e1 : ZR 80 0 [.val (.ref (kad n (0, 0, 0))), .val (.int p1), .val (.int p2), .val (.int p3), .unset] [] (khp n L σ g) true (.inr (khp n L σ g).length, khp n L σ g ++ [(200, [])], false)) : ZR 79 0 [.val (.ref (kad n (0, 0, 0))), .val (.int p1), .val (.int p2), .val (.int p3), .val (.ref (kad n (27, 0, 0))), .unset] [] (khp n L σ g) cl (.inl (some (.int (Int32.ofInt 1))), khp n L σ (g ++ [200]), false) := by
  have hM : zmi[79]? = some _ := rfl
  refine zr_fr hM rfl rfl rfl ?_
  refine zr_fr hM rfl rfl rfl ?_
  refine zr_fr hM rfl rfl rfl ?_
  refine zr_fr hM rfl rfl rfl ?_
  refine zr_fr hM rfl rfl rfl ?_
  refine zr_fr hM rfl rfl rfl ?_
  refine zr_virt (κ := (0, 0, 0)) hn hM rfl rfl rfl rfl rfl rfl rfl rfl rfl ?_
  refine zgo_cat rfl rfl e1 (by decide) rfl ?_
  rw [khp_thr]
  refine zr_fr hM rfl rfl rfl ?_
  refine zr_fr hM rfl rfl rfl ?_
  exact zr_iret2 hM rfl rfl rfl
set_option maxHeartbeats 4000000 in
theorem s80_0_kkf {n L : Nat} {σ : Ks} {g : List Nat} {cl : Bool} {p1 : Int32} {p2 : Int32} {p3 : Int32} {r3 : Int32} {σ5 : Ks} {c5 : Bool} (hn : 2 ≤ n ∧ n ≤ 5) (c1_ : ZR 54 0 [.val (.ref (kad n (0, 0, 0))), .val (.int p1), .val (.int p2), .val (.int p3)] [] (khp n L σ g) true (.inl (none), khp n L σ g, true)) (c2_ : ZR 51 0 [.val (.ref (kad n (0, 0, 0))), .val (.int p1)] [] (khp n L σ g) true (.inl (none), khp n L σ g, true)) (c3_ : ZR 81 0 [.val (.ref (kad n (0, 0, 0))), .val (.int p1), .val (.int p2), .unset, .unset, .unset, .unset] [] (khp n L σ g) true (.inl (some (.int r3)), khp n L σ g, true)) (h4 : zcnd .eq r3 (Int32.ofInt (-1)) = false) (c5_ : ZR 70 0 [.val (.ref (kad n (20, 0, 0))), .val (.int (Int32.ofInt 3)), .val (.int p1), .val (.int r3), .val (.int p2), .val (.int p3), .val (.int (Int32.ofInt (-1))), .unset] [] (khp n L σ g) true (.inl (none), khp n L σ5 g, c5)) : ZR 80 0 [.val (.ref (kad n (0, 0, 0))), .val (.int p1), .val (.int p2), .val (.int p3), .unset] [] (khp n L σ g) cl (.inl (some (.int r3)), khp n L σ5 (g), cl && c5) := by
  have hM : zmi[80]? = some _ := rfl
  refine zr_fr hM rfl rfl rfl ?_
  refine zr_fr hM rfl rfl rfl ?_
  refine zr_fr hM rfl rfl rfl ?_
  refine zr_fr hM rfl rfl rfl ?_
  refine zr_virt (κ := (0, 0, 0)) hn hM rfl rfl rfl rfl rfl rfl rfl rfl rfl ?_
  refine zgo_ret rfl rfl c1_ ?_
  rw [Bool.and_true]
  refine zr_fr hM rfl rfl rfl ?_
  refine zr_fr hM rfl rfl rfl ?_
  refine zr_virt (κ := (0, 0, 0)) hn hM rfl rfl rfl rfl rfl rfl rfl rfl rfl ?_
  refine zgo_ret rfl rfl c2_ ?_
  rw [Bool.and_true]
  refine zr_fr hM rfl rfl rfl ?_
  refine zr_fr hM rfl rfl rfl ?_
  refine zr_fr hM rfl rfl rfl ?_
  refine zr_virt (κ := (0, 0, 0)) hn hM rfl rfl rfl rfl rfl rfl rfl rfl rfl ?_
  refine zgo_ret rfl rfl c3_ ?_
  rw [Bool.and_true]
  refine zr_fr hM rfl rfl rfl ?_
  refine zr_fr hM rfl rfl rfl ?_
  refine zr_fr hM rfl rfl rfl ?_
  refine zr_icf hM rfl rfl h4 ?_
  refine zr_fr hM rfl rfl rfl ?_
  refine zr_getf (κ := (0, 0, 0)) hn hM rfl rfl rfl rfl ?_
  refine zr_fr hM rfl rfl rfl ?_
  refine zr_fr hM rfl rfl rfl ?_
  refine zr_fr hM rfl rfl rfl ?_
  refine zr_fr hM rfl rfl rfl ?_
  refine zr_fr hM rfl rfl rfl ?_
  refine zr_fr hM rfl rfl rfl ?_
  refine zr_virt (κ := (20, 0, 0)) hn hM rfl rfl rfl rfl rfl rfl rfl rfl rfl ?_
  refine zgo_ret rfl rfl c5_ ?_
  refine zr_fr hM rfl rfl rfl ?_
  exact zr_iret2 hM rfl rfl rfl
set_option maxHeartbeats 4000000 in
theorem s80_0_kkt {n L : Nat} {σ : Ks} {g : List Nat} {cl : Bool} {p1 : Int32} {p2 : Int32} {p3 : Int32} {r3 : Int32} (hn : 2 ≤ n ∧ n ≤ 5) (c1_ : ZR 54 0 [.val (.ref (kad n (0, 0, 0))), .val (.int p1), .val (.int p2), .val (.int p3)] [] (khp n L σ g) true (.inl (none), khp n L σ g, true)) (c2_ : ZR 51 0 [.val (.ref (kad n (0, 0, 0))), .val (.int p1)] [] (khp n L σ g) true (.inl (none), khp n L σ g, true)) (c3_ : ZR 81 0 [.val (.ref (kad n (0, 0, 0))), .val (.int p1), .val (.int p2), .unset, .unset, .unset, .unset] [] (khp n L σ g) true (.inl (some (.int r3)), khp n L σ g, true)) (h4 : zcnd .eq r3 (Int32.ofInt (-1)) = true) : ZR 80 0 [.val (.ref (kad n (0, 0, 0))), .val (.int p1), .val (.int p2), .val (.int p3), .unset] [] (khp n L σ g) cl (.inl (some (.int r3)), khp n L σ (g), cl) := by
  have hM : zmi[80]? = some _ := rfl
  refine zr_fr hM rfl rfl rfl ?_
  refine zr_fr hM rfl rfl rfl ?_
  refine zr_fr hM rfl rfl rfl ?_
  refine zr_fr hM rfl rfl rfl ?_
  refine zr_virt (κ := (0, 0, 0)) hn hM rfl rfl rfl rfl rfl rfl rfl rfl rfl ?_
  refine zgo_ret rfl rfl c1_ ?_
  rw [Bool.and_true]
  refine zr_fr hM rfl rfl rfl ?_
  refine zr_fr hM rfl rfl rfl ?_
  refine zr_virt (κ := (0, 0, 0)) hn hM rfl rfl rfl rfl rfl rfl rfl rfl rfl ?_
  refine zgo_ret rfl rfl c2_ ?_
  rw [Bool.and_true]
  refine zr_fr hM rfl rfl rfl ?_
  refine zr_fr hM rfl rfl rfl ?_
  refine zr_fr hM rfl rfl rfl ?_
  refine zr_virt (κ := (0, 0, 0)) hn hM rfl rfl rfl rfl rfl rfl rfl rfl rfl ?_
  refine zgo_ret rfl rfl c3_ ?_
  rw [Bool.and_true]
  refine zr_fr hM rfl rfl rfl ?_
  refine zr_fr hM rfl rfl rfl ?_
  refine zr_fr hM rfl rfl rfl ?_
  refine zr_ict hM rfl rfl h4 ?_
  refine zr_fr hM rfl rfl rfl ?_
  exact zr_iret2 hM rfl rfl rfl
set_option maxHeartbeats 4000000 in
theorem s80_0_e200 {n L : Nat} {σ : Ks} {g : List Nat} {cl : Bool} {p1 : Int32} {p2 : Int32} {p3 : Int32} (hn : 2 ≤ n ∧ n ≤ 5) (e1 : ZR 54 0 [.val (.ref (kad n (0, 0, 0))), .val (.int p1), .val (.int p2), .val (.int p3)] [] (khp n L σ g) true (.inr (khp n L σ g).length, khp n L σ g ++ [(200, [])], false)) : ZR 80 0 [.val (.ref (kad n (0, 0, 0))), .val (.int p1), .val (.int p2), .val (.int p3), .unset] [] (khp n L σ g) cl (.inr (khp n L σ g).length, khp n L σ g ++ [(200, [])], false) := by
  have hM : zmi[80]? = some _ := rfl
  refine zr_fr hM rfl rfl rfl ?_
  refine zr_fr hM rfl rfl rfl ?_
  refine zr_fr hM rfl rfl rfl ?_
  refine zr_fr hM rfl rfl rfl ?_
  refine zr_virt (κ := (0, 0, 0)) hn hM rfl rfl rfl rfl rfl rfl rfl rfl rfl ?_
  exact zgo_thr2 rfl rfl e1 rfl rfl rfl
set_option maxHeartbeats 4000000 in
theorem s80_0_ke201 {n L : Nat} {σ : Ks} {g : List Nat} {cl : Bool} {p1 : Int32} {p2 : Int32} {p3 : Int32} (hn : 2 ≤ n ∧ n ≤ 5) (c1_ : ZR 54 0 [.val (.ref (kad n (0, 0, 0))), .val (.int p1), .val (.int p2), .val (.int p3)] [] (khp n L σ g) true (.inl (none), khp n L σ g, true)) (e2 : ZR 51 0 [.val (.ref (kad n (0, 0, 0))), .val (.int p1)] [] (khp n L σ g) true (.inr (khp n L σ g).length, khp n L σ g ++ [(201, [])], false)) : ZR 80 0 [.val (.ref (kad n (0, 0, 0))), .val (.int p1), .val (.int p2), .val (.int p3), .unset] [] (khp n L σ g) cl (.inr (khp n L σ g).length, khp n L σ g ++ [(201, [])], false) := by
  have hM : zmi[80]? = some _ := rfl
  refine zr_fr hM rfl rfl rfl ?_
  refine zr_fr hM rfl rfl rfl ?_
  refine zr_fr hM rfl rfl rfl ?_
  refine zr_fr hM rfl rfl rfl ?_
  refine zr_virt (κ := (0, 0, 0)) hn hM rfl rfl rfl rfl rfl rfl rfl rfl rfl ?_
  refine zgo_ret rfl rfl c1_ ?_
  rw [Bool.and_true]
  refine zr_fr hM rfl rfl rfl ?_
  refine zr_fr hM rfl rfl rfl ?_
  refine zr_virt (κ := (0, 0, 0)) hn hM rfl rfl rfl rfl rfl rfl rfl rfl rfl ?_
  exact zgo_thr2 rfl rfl e2 rfl rfl rfl
set_option maxHeartbeats 4000000 in
theorem s81_0_r {n L : Nat} {σ : Ks} {g : List Nat} {cl : Bool} {r : Zr} {p1 : Int32} {p2 : Int32} (hn : 2 ≤ n ∧ n ≤ 5) (k : ZR 81 8 [.val (.ref (kad n (0, 0, 0))), .val (.int p1), .val (.int p2), .val (.int (Int32.ofInt (-1))), .val (.int (Int32.ofInt 0)), .val (.int (Int32.ofInt 0)), .unset] [] (khp n L σ (g)) cl r) : ZR 81 0 [.val (.ref (kad n (0, 0, 0))), .val (.int p1), .val (.int p2), .unset, .unset, .unset, .unset] [] (khp n L σ g) cl r := by
  have hM : zmi[81]? = some _ := rfl
  refine zr_fr hM rfl rfl rfl ?_
  refine zr_fr hM rfl rfl rfl ?_
  refine zr_fr hM rfl rfl rfl ?_
  refine zr_fr hM rfl rfl rfl ?_
  refine zr_fr hM rfl rfl rfl ?_
  refine zr_fr hM rfl rfl rfl ?_
  exact k
set_option maxHeartbeats 4000000 in
theorem s81_8_ff {n L : Nat} {σ : Ks} {g : List Nat} {cl : Bool} {r : Zr} {v1 : Int32} {v2 : Int32} {v3 : Int32} {v4 : Int32} {v5 : Int32} {w6 : Option Int32} {x2 : Nat} {x3 : Nat} {x4 : Nat} (hn : 2 ≤ n ∧ n ≤ 5) (h1 : zcnd .ge v5 (Int32.ofNat n) = false) (z2 : zix v1 n = some x2) (z3 : zix v5 n = some x3) (z4 : zix v2 4 = some x4) (h5 : zcnd .le (σ (2 * x2) (44 + 24 * x3 + 16 + x4)) v4 = false) (k : ZR 81 8 [.val (.ref (kad n (0, 0, 0))), .val (.int v1), .val (.int v2), .val (.int v5), .val (.int (σ (2 * x2) (44 + 24 * x3 + 16 + x4))), .val (.int (v5 + Int32.ofInt 1)), .val (.int (σ (2 * x2) (44 + 24 * x3 + 16 + x4)))] [] (khp n L σ (g)) cl r) : ZR 81 8 [.val (.ref (kad n (0, 0, 0))), .val (.int v1), .val (.int v2), .val (.int v3), .val (.int v4), .val (.int v5), zop w6] [] (khp n L σ g) cl r := by
  have hM : zmi[81]? = some _ := rfl
  have l2 := (zix_some z2).2.2
  have l3 := (zix_some z3).2.2
  have l4 := (zix_some z4).2.2
  refine zr_fr hM rfl rfl rfl ?_
  refine zr_fr hM rfl rfl rfl ?_
  refine zr_getf (κ := (0, 0, 0)) hn hM rfl rfl rfl rfl ?_
  refine zr_alen (κ := (1, 0, 0)) hn hM rfl rfl rfl ?_
  refine zr_icf hM rfl rfl h1 ?_
  refine zr_fr hM rfl rfl rfl ?_
  refine zr_getf (κ := (0, 0, 0)) hn hM rfl rfl rfl rfl ?_
  refine zr_fr hM rfl rfl rfl ?_
  refine zr_aald (κ := (1, 0, 0)) hn hM rfl rfl rfl rfl z2 ?_
  refine zr_getf (κ := (2, x2, 0)) hn hM rfl (kokT (by omega)) rfl rfl ?_
  refine zr_getf (κ := (3, 2 * x2, 0)) hn hM rfl (kokB rfl (by omega)) rfl rfl ?_
  refine zr_fr hM rfl rfl rfl ?_
  refine zr_aald (κ := (13, 2 * x2, 0)) hn hM rfl (kokB rfl (by omega)) rfl rfl z3 ?_
  refine zr_getf (κ := (14, 2 * x2, x3)) hn hM rfl (kokP rfl (by omega) (by omega)) rfl rfl ?_
  refine zr_fr hM rfl rfl rfl ?_
  refine zr_iald (κ := (18, 2 * x2, x3)) hn hM rfl (kokP rfl (by omega) (by omega)) rfl z4 ?_
  refine zr_fr (ls' := [.val (.ref (kad n (0, 0, 0))), .val (.int v1), .val (.int v2), .val (.int v3), .val (.int v4), .val (.int v5), .val (.int (σ (2 * x2) (44 + 24 * x3 + 16 + x4)))]) hM rfl rfl (by cases w6 <;> rfl) ?_
  refine zr_fr hM rfl rfl rfl ?_
  refine zr_fr hM rfl rfl rfl ?_
  refine zr_icf hM rfl rfl h5 ?_
  refine zr_fr hM rfl rfl rfl ?_
  refine zr_fr hM rfl rfl rfl ?_
  refine zr_fr hM rfl rfl rfl ?_
  refine zr_fr hM rfl rfl rfl ?_
  refine zr_fr hM rfl rfl rfl ?_
  refine zr_fr hM rfl rfl rfl ?_
  exact k
set_option maxHeartbeats 4000000 in
theorem s81_8_ft {n L : Nat} {σ : Ks} {g : List Nat} {cl : Bool} {r : Zr} {v1 : Int32} {v2 : Int32} {v3 : Int32} {v4 : Int32} {v5 : Int32} {w6 : Option Int32} {x2 : Nat} {x3 : Nat} {x4 : Nat} (hn : 2 ≤ n ∧ n ≤ 5) (h1 : zcnd .ge v5 (Int32.ofNat n) = false) (z2 : zix v1 n = some x2) (z3 : zix v5 n = some x3) (z4 : zix v2 4 = some x4) (h5 : zcnd .le (σ (2 * x2) (44 + 24 * x3 + 16 + x4)) v4 = true) (k : ZR 81 8 [.val (.ref (kad n (0, 0, 0))), .val (.int v1), .val (.int v2), .val (.int v3), .val (.int v4), .val (.int (v5 + Int32.ofInt 1)), .val (.int (σ (2 * x2) (44 + 24 * x3 + 16 + x4)))] [] (khp n L σ (g)) cl r) : ZR 81 8 [.val (.ref (kad n (0, 0, 0))), .val (.int v1), .val (.int v2), .val (.int v3), .val (.int v4), .val (.int v5), zop w6] [] (khp n L σ g) cl r := by
  have hM : zmi[81]? = some _ := rfl
  have l2 := (zix_some z2).2.2
  have l3 := (zix_some z3).2.2
  have l4 := (zix_some z4).2.2
  refine zr_fr hM rfl rfl rfl ?_
  refine zr_fr hM rfl rfl rfl ?_
  refine zr_getf (κ := (0, 0, 0)) hn hM rfl rfl rfl rfl ?_
  refine zr_alen (κ := (1, 0, 0)) hn hM rfl rfl rfl ?_
  refine zr_icf hM rfl rfl h1 ?_
  refine zr_fr hM rfl rfl rfl ?_
  refine zr_getf (κ := (0, 0, 0)) hn hM rfl rfl rfl rfl ?_
  refine zr_fr hM rfl rfl rfl ?_
  refine zr_aald (κ := (1, 0, 0)) hn hM rfl rfl rfl rfl z2 ?_
  refine zr_getf (κ := (2, x2, 0)) hn hM rfl (kokT (by omega)) rfl rfl ?_
  refine zr_getf (κ := (3, 2 * x2, 0)) hn hM rfl (kokB rfl (by omega)) rfl rfl ?_
  refine zr_fr hM rfl rfl rfl ?_
  refine zr_aald (κ := (13, 2 * x2, 0)) hn hM rfl (kokB rfl (by omega)) rfl rfl z3 ?_
  refine zr_getf (κ := (14, 2 * x2, x3)) hn hM rfl (kokP rfl (by omega) (by omega)) rfl rfl ?_
  refine zr_fr hM rfl rfl rfl ?_
  refine zr_iald (κ := (18, 2 * x2, x3)) hn hM rfl (kokP rfl (by omega) (by omega)) rfl z4 ?_
  refine zr_fr (ls' := [.val (.ref (kad n (0, 0, 0))), .val (.int v1), .val (.int v2), .val (.int v3), .val (.int v4), .val (.int v5), .val (.int (σ (2 * x2) (44 + 24 * x3 + 16 + x4)))]) hM rfl rfl (by cases w6 <;> rfl) ?_
  refine zr_fr hM rfl rfl rfl ?_
  refine zr_fr hM rfl rfl rfl ?_
  refine zr_ict hM rfl rfl h5 ?_
  refine zr_fr hM rfl rfl rfl ?_
  refine zr_fr hM rfl rfl rfl ?_
  exact k
set_option maxHeartbeats 4000000 in
theorem s81_8_t {n L : Nat} {σ : Ks} {g : List Nat} {cl : Bool} {v1 : Int32} {v2 : Int32} {v3 : Int32} {v4 : Int32} {v5 : Int32} {w6 : Option Int32} (hn : 2 ≤ n ∧ n ≤ 5) (h1 : zcnd .ge v5 (Int32.ofNat n) = true) : ZR 81 8 [.val (.ref (kad n (0, 0, 0))), .val (.int v1), .val (.int v2), .val (.int v3), .val (.int v4), .val (.int v5), zop w6] [] (khp n L σ g) cl (.inl (some (.int v3)), khp n L σ (g), cl) := by
  have hM : zmi[81]? = some _ := rfl
  refine zr_fr hM rfl rfl rfl ?_
  refine zr_fr hM rfl rfl rfl ?_
  refine zr_getf (κ := (0, 0, 0)) hn hM rfl rfl rfl rfl ?_
  refine zr_alen (κ := (1, 0, 0)) hn hM rfl rfl rfl ?_
  refine zr_ict hM rfl rfl h1 ?_
  refine zr_fr hM rfl rfl rfl ?_
  exact zr_iret2 hM rfl rfl rfl
set_option maxHeartbeats 4000000 in
theorem s82_0_k {n L : Nat} {σ : Ks} {g : List Nat} {cl : Bool} {p1 : Int32} {p2 : Int32} {σ1 : Ks} {c1 : Bool} {r1 : Int32} {x2 : Nat} (hn : 2 ≤ n ∧ n ≤ 5) (c1_ : ZR 83 0 [.val (.ref (kad n (0, 0, 0))), .val (.int p1), .val (.int p2), .unset, .unset] [] (khp n L σ g) true (.inl (some (.int r1)), khp n L σ1 g, c1)) (z2 : zix (Int32.ofInt 0) 1 = some x2) : ZR 82 0 [.val (.ref (kad n (0, 0, 0))), .val (.int p1), .val (.int p2), .val (.ref (kad n (27, 0, 0))), .unset] [] (khp n L σ g) cl (.inl (some (.int (Int32.ofInt 0))), khp n L (kup σ1 50 x2 r1) (g), false) := by
  have hM : zmi[82]? = some _ := rfl
  have l2 := (zix_some z2).2.2
  refine zr_fr hM rfl rfl rfl ?_
  refine zr_fr hM rfl rfl rfl ?_
  refine zr_fr hM rfl rfl rfl ?_
  refine zr_fr hM rfl rfl rfl ?_
  refine zr_fr hM rfl rfl rfl ?_
  refine zr_virt (κ := (0, 0, 0)) hn hM rfl rfl rfl rfl rfl rfl rfl rfl rfl ?_
  refine zgo_ret rfl rfl c1_ ?_
  refine zr_fr hM rfl rfl rfl ?_
  refine zr_last (κ := (27, 0, 0)) hn hM rfl rfl rfl rfl z2 rfl ?_
  refine zr_fr hM rfl rfl rfl ?_
  refine zr_fr hM rfl rfl rfl ?_
  exact zr_iret2 hM rfl rfl rfl
set_option maxHeartbeats 4000000 in
theorem s82_0_e201 {n L : Nat} {σ : Ks} {g : List Nat} {cl : Bool} {p1 : Int32} {p2 : Int32} (hn : 2 ≤ n ∧ n ≤ 5) (e1 : ZR 83 0 [.val (.ref (kad n (0, 0, 0))), .val (.int p1), .val (.int p2), .unset, .unset] [] (khp n L σ g) true (.inr (khp n L σ g).length, khp n L σ g ++ [(201, [])], false)) : ZR 82 0 [.val (.ref (kad n (0, 0, 0))), .val (.int p1), .val (.int p2), .val (.ref (kad n (27, 0, 0))), .unset] [] (khp n L σ g) cl (.inl (some (.int (Int32.ofInt 2))), khp n L σ (g ++ [201]), false) := by
  have hM : zmi[82]? = some _ := rfl
  refine zr_fr hM rfl rfl rfl ?_
  refine zr_fr hM rfl rfl rfl ?_
  refine zr_fr hM rfl rfl rfl ?_
  refine zr_fr hM rfl rfl rfl ?_
  refine zr_fr hM rfl rfl rfl ?_
  refine zr_virt (κ := (0, 0, 0)) hn hM rfl rfl rfl rfl rfl rfl rfl rfl rfl ?_
  refine zgo_cat rfl rfl e1 (by decide) rfl ?_
  rw [khp_thr]
  refine zr_fr hM rfl rfl rfl ?_
  refine zr_fr hM rfl rfl rfl ?_
  exact zr_iret2 hM rfl rfl rfl
set_option maxHeartbeats 4000000 in
theorem s82_0_e200 {n L : Nat} {σ : Ks} {g : List Nat} {cl : Bool} {p1 : Int32} {p2 : Int32} (hn : 2 ≤ n ∧ n ≤ 5) (e1 : ZR 83 0 [.val (.ref (kad n (0, 0, 0))), .val (.int p1), .val (.int p2), .unset, .unset] [] (khp n L σ g) true (.inr (khp n L σ g).length, khp n L σ g ++ [(200, [])], false)) : ZR 82 0 [.val (.ref (kad n (0, 0, 0))), .val (.int p1), .val (.int p2), .val (.ref (kad n (27, 0, 0))), .unset] [] (khp n L σ g) cl (.inl (some (.int (Int32.ofInt 1))), khp n L σ (g ++ [200]), false) := by
  have hM : zmi[82]? = some _ := rfl
  refine zr_fr hM rfl rfl rfl ?_
  refine zr_fr hM rfl rfl rfl ?_
  refine zr_fr hM rfl rfl rfl ?_
  refine zr_fr hM rfl rfl rfl ?_
  refine zr_fr hM rfl rfl rfl ?_
  refine zr_virt (κ := (0, 0, 0)) hn hM rfl rfl rfl rfl rfl rfl rfl rfl rfl ?_
  refine zgo_cat rfl rfl e1 (by decide) rfl ?_
  rw [khp_thr]
  refine zr_fr hM rfl rfl rfl ?_
  refine zr_fr hM rfl rfl rfl ?_
  exact zr_iret2 hM rfl rfl rfl
set_option maxHeartbeats 4000000 in
theorem s83_0_kfkk {n L : Nat} {σ : Ks} {g : List Nat} {cl : Bool} {p1 : Int32} {p2 : Int32} {x5 : Nat} {x6 : Nat} (hn : 2 ≤ n ∧ n ≤ 5) (c1_ : ZR 49 0 [.val (.int p1)] [] (khp n L σ g) true (.inl (none), khp n L σ g, true)) (h2 : zcnd .eq p2 0 = false) (c3_ : ZR 50 0 [.val (.int p2)] [] (khp n L σ g) true (.inl (none), khp n L σ g, true)) (c4_ : ZR 51 0 [.val (.ref (kad n (0, 0, 0))), .val (.int (Int32.ofInt 0))] [] (khp n L σ g) true (.inl (none), khp n L σ g, true)) (z5 : zix (Int32.ofInt 0) n = some x5) (z6 : zix p1 4 = some x6) : ZR 83 0 [.val (.ref (kad n (0, 0, 0))), .val (.int p1), .val (.int p2), .unset, .unset] [] (khp n L σ g) cl (.inl (some (.int (p2 - (σ (2 * x5) x6)))), khp n L (kup (kup σ (2 * x5) x6 p2) (2 * x5) (12 + x6) (((kup σ (2 * x5) x6 p2) (2 * x5) (12 + x6)) + (p2 - (σ (2 * x5) x6)))) (g), false) := by
  have hM : zmi[83]? = some _ := rfl
  have l5 := (zix_some z5).2.2
  have l6 := (zix_some z6).2.2
  refine zr_fr hM rfl rfl rfl ?_
  refine zr_stat hM rfl rfl rfl rfl rfl rfl ?_
  refine zgo_ret rfl rfl c1_ ?_
  rw [Bool.and_true]
  refine zr_fr hM rfl rfl rfl ?_
  refine zr_iff hM rfl rfl h2 ?_
  refine zr_fr hM rfl rfl rfl ?_
  refine zr_stat hM rfl rfl rfl rfl rfl rfl ?_
  refine zgo_ret rfl rfl c3_ ?_
  rw [Bool.and_true]
  refine zr_fr hM rfl rfl rfl ?_
  refine zr_fr hM rfl rfl rfl ?_
  refine zr_virt (κ := (0, 0, 0)) hn hM rfl rfl rfl rfl rfl rfl rfl rfl rfl ?_
  refine zgo_ret rfl rfl c4_ ?_
  rw [Bool.and_true]
  refine zr_fr hM rfl rfl rfl ?_
  refine zr_getf (κ := (0, 0, 0)) hn hM rfl rfl rfl rfl ?_
  refine zr_fr hM rfl rfl rfl ?_
  refine zr_aald (κ := (1, 0, 0)) hn hM rfl rfl rfl rfl z5 ?_
  refine zr_getf (κ := (2, x5, 0)) hn hM rfl (kokT (by omega)) rfl rfl ?_
  refine zr_fr hM rfl rfl rfl ?_
  refine zr_fr hM rfl rfl rfl ?_
  refine zr_fr hM rfl rfl rfl ?_
  refine zr_getf (κ := (3, 2 * x5, 0)) hn hM rfl (kokB rfl (by omega)) rfl rfl ?_
  refine zr_fr hM rfl rfl rfl ?_
  refine zr_iald (κ := (4, 2 * x5, 0)) hn hM rfl (kokB rfl (by omega)) rfl z6 ?_
  refine zr_fr hM rfl rfl rfl ?_
  refine zr_fr hM rfl rfl rfl ?_
  refine zr_fr hM rfl rfl rfl ?_
  refine zr_getf (κ := (3, 2 * x5, 0)) hn hM rfl (kokB rfl (by omega)) rfl rfl ?_
  refine zr_fr hM rfl rfl rfl ?_
  refine zr_fr hM rfl rfl rfl ?_
  refine zr_iast (κ := (4, 2 * x5, 0)) hn hM rfl (kokB rfl (by omega)) rfl rfl z6 rfl ?_
  refine zr_fr hM rfl rfl rfl ?_
  refine zr_getf (κ := (3, 2 * x5, 0)) hn hM rfl (kokB rfl (by omega)) rfl rfl ?_
  refine zr_fr hM rfl rfl rfl ?_
  refine zr_fr hM rfl rfl rfl ?_
  refine zr_iald (κ := (7, 2 * x5, 0)) hn hM rfl (kokB rfl (by omega)) rfl z6 ?_
  refine zr_fr hM rfl rfl rfl ?_
  refine zr_fr hM rfl rfl rfl ?_
  refine zr_iast (κ := (7, 2 * x5, 0)) hn hM rfl (kokB rfl (by omega)) rfl rfl z6 rfl ?_
  refine zr_fr hM rfl rfl rfl ?_
  exact zr_iret2 hM rfl rfl rfl
set_option maxHeartbeats 4000000 in
theorem s83_0_ktk {n L : Nat} {σ : Ks} {g : List Nat} {cl : Bool} {p1 : Int32} {p2 : Int32} {x4 : Nat} {x5 : Nat} (hn : 2 ≤ n ∧ n ≤ 5) (c1_ : ZR 49 0 [.val (.int p1)] [] (khp n L σ g) true (.inl (none), khp n L σ g, true)) (h2 : zcnd .eq p2 0 = true) (c3_ : ZR 51 0 [.val (.ref (kad n (0, 0, 0))), .val (.int (Int32.ofInt 0))] [] (khp n L σ g) true (.inl (none), khp n L σ g, true)) (z4 : zix (Int32.ofInt 0) n = some x4) (z5 : zix p1 4 = some x5) : ZR 83 0 [.val (.ref (kad n (0, 0, 0))), .val (.int p1), .val (.int p2), .unset, .unset] [] (khp n L σ g) cl (.inl (some (.int (p2 - (σ (2 * x4) x5)))), khp n L (kup (kup σ (2 * x4) x5 p2) (2 * x4) (12 + x5) (((kup σ (2 * x4) x5 p2) (2 * x4) (12 + x5)) + (p2 - (σ (2 * x4) x5)))) (g), false) := by
  have hM : zmi[83]? = some _ := rfl
  have l4 := (zix_some z4).2.2
  have l5 := (zix_some z5).2.2
  refine zr_fr hM rfl rfl rfl ?_
  refine zr_stat hM rfl rfl rfl rfl rfl rfl ?_
  refine zgo_ret rfl rfl c1_ ?_
  rw [Bool.and_true]
  refine zr_fr hM rfl rfl rfl ?_
  refine zr_ift hM rfl rfl h2 ?_
  refine zr_fr hM rfl rfl rfl ?_
  refine zr_fr hM rfl rfl rfl ?_
  refine zr_virt (κ := (0, 0, 0)) hn hM rfl rfl rfl rfl rfl rfl rfl rfl rfl ?_
  refine zgo_ret rfl rfl c3_ ?_
  rw [Bool.and_true]
  refine zr_fr hM rfl rfl rfl ?_
  refine zr_getf (κ := (0, 0, 0)) hn hM rfl rfl rfl rfl ?_
  refine zr_fr hM rfl rfl rfl ?_
  refine zr_aald (κ := (1, 0, 0)) hn hM rfl rfl rfl rfl z4 ?_
  refine zr_getf (κ := (2, x4, 0)) hn hM rfl (kokT (by omega)) rfl rfl ?_
  refine zr_fr hM rfl rfl rfl ?_
  refine zr_fr hM rfl rfl rfl ?_
  refine zr_fr hM rfl rfl rfl ?_
  refine zr_getf (κ := (3, 2 * x4, 0)) hn hM rfl (kokB rfl (by omega)) rfl rfl ?_
  refine zr_fr hM rfl rfl rfl ?_
  refine zr_iald (κ := (4, 2 * x4, 0)) hn hM rfl (kokB rfl (by omega)) rfl z5 ?_
  refine zr_fr hM rfl rfl rfl ?_
  refine zr_fr hM rfl rfl rfl ?_
  refine zr_fr hM rfl rfl rfl ?_
  refine zr_getf (κ := (3, 2 * x4, 0)) hn hM rfl (kokB rfl (by omega)) rfl rfl ?_
  refine zr_fr hM rfl rfl rfl ?_
  refine zr_fr hM rfl rfl rfl ?_
  refine zr_iast (κ := (4, 2 * x4, 0)) hn hM rfl (kokB rfl (by omega)) rfl rfl z5 rfl ?_
  refine zr_fr hM rfl rfl rfl ?_
  refine zr_getf (κ := (3, 2 * x4, 0)) hn hM rfl (kokB rfl (by omega)) rfl rfl ?_
  refine zr_fr hM rfl rfl rfl ?_
  refine zr_fr hM rfl rfl rfl ?_
  refine zr_iald (κ := (7, 2 * x4, 0)) hn hM rfl (kokB rfl (by omega)) rfl z5 ?_
  refine zr_fr hM rfl rfl rfl ?_
  refine zr_fr hM rfl rfl rfl ?_
  refine zr_iast (κ := (7, 2 * x4, 0)) hn hM rfl (kokB rfl (by omega)) rfl rfl z5 rfl ?_
  refine zr_fr hM rfl rfl rfl ?_
  exact zr_iret2 hM rfl rfl rfl
set_option maxHeartbeats 4000000 in
theorem s83_0_e200 {n L : Nat} {σ : Ks} {g : List Nat} {cl : Bool} {p1 : Int32} {p2 : Int32} (hn : 2 ≤ n ∧ n ≤ 5) (e1 : ZR 49 0 [.val (.int p1)] [] (khp n L σ g) true (.inr (khp n L σ g).length, khp n L σ g ++ [(200, [])], false)) : ZR 83 0 [.val (.ref (kad n (0, 0, 0))), .val (.int p1), .val (.int p2), .unset, .unset] [] (khp n L σ g) cl (.inr (khp n L σ g).length, khp n L σ g ++ [(200, [])], false) := by
  have hM : zmi[83]? = some _ := rfl
  refine zr_fr hM rfl rfl rfl ?_
  refine zr_stat hM rfl rfl rfl rfl rfl rfl ?_
  exact zgo_thr2 rfl rfl e1 rfl rfl rfl
set_option maxHeartbeats 4000000 in
theorem s83_0_kfe200 {n L : Nat} {σ : Ks} {g : List Nat} {cl : Bool} {p1 : Int32} {p2 : Int32} (hn : 2 ≤ n ∧ n ≤ 5) (c1_ : ZR 49 0 [.val (.int p1)] [] (khp n L σ g) true (.inl (none), khp n L σ g, true)) (h2 : zcnd .eq p2 0 = false) (e3 : ZR 50 0 [.val (.int p2)] [] (khp n L σ g) true (.inr (khp n L σ g).length, khp n L σ g ++ [(200, [])], false)) : ZR 83 0 [.val (.ref (kad n (0, 0, 0))), .val (.int p1), .val (.int p2), .unset, .unset] [] (khp n L σ g) cl (.inr (khp n L σ g).length, khp n L σ g ++ [(200, [])], false) := by
  have hM : zmi[83]? = some _ := rfl
  refine zr_fr hM rfl rfl rfl ?_
  refine zr_stat hM rfl rfl rfl rfl rfl rfl ?_
  refine zgo_ret rfl rfl c1_ ?_
  rw [Bool.and_true]
  refine zr_fr hM rfl rfl rfl ?_
  refine zr_iff hM rfl rfl h2 ?_
  refine zr_fr hM rfl rfl rfl ?_
  refine zr_stat hM rfl rfl rfl rfl rfl rfl ?_
  exact zgo_thr2 rfl rfl e3 rfl rfl rfl
set_option maxHeartbeats 4000000 in
theorem s83_0_kfke201 {n L : Nat} {σ : Ks} {g : List Nat} {cl : Bool} {p1 : Int32} {p2 : Int32} (hn : 2 ≤ n ∧ n ≤ 5) (c1_ : ZR 49 0 [.val (.int p1)] [] (khp n L σ g) true (.inl (none), khp n L σ g, true)) (h2 : zcnd .eq p2 0 = false) (c3_ : ZR 50 0 [.val (.int p2)] [] (khp n L σ g) true (.inl (none), khp n L σ g, true)) (e4 : ZR 51 0 [.val (.ref (kad n (0, 0, 0))), .val (.int (Int32.ofInt 0))] [] (khp n L σ g) true (.inr (khp n L σ g).length, khp n L σ g ++ [(201, [])], false)) : ZR 83 0 [.val (.ref (kad n (0, 0, 0))), .val (.int p1), .val (.int p2), .unset, .unset] [] (khp n L σ g) cl (.inr (khp n L σ g).length, khp n L σ g ++ [(201, [])], false) := by
  have hM : zmi[83]? = some _ := rfl
  refine zr_fr hM rfl rfl rfl ?_
  refine zr_stat hM rfl rfl rfl rfl rfl rfl ?_
  refine zgo_ret rfl rfl c1_ ?_
  rw [Bool.and_true]
  refine zr_fr hM rfl rfl rfl ?_
  refine zr_iff hM rfl rfl h2 ?_
  refine zr_fr hM rfl rfl rfl ?_
  refine zr_stat hM rfl rfl rfl rfl rfl rfl ?_
  refine zgo_ret rfl rfl c3_ ?_
  rw [Bool.and_true]
  refine zr_fr hM rfl rfl rfl ?_
  refine zr_fr hM rfl rfl rfl ?_
  refine zr_virt (κ := (0, 0, 0)) hn hM rfl rfl rfl rfl rfl rfl rfl rfl rfl ?_
  exact zgo_thr2 rfl rfl e4 rfl rfl rfl
set_option maxHeartbeats 4000000 in
theorem s83_0_kte201 {n L : Nat} {σ : Ks} {g : List Nat} {cl : Bool} {p1 : Int32} {p2 : Int32} (hn : 2 ≤ n ∧ n ≤ 5) (c1_ : ZR 49 0 [.val (.int p1)] [] (khp n L σ g) true (.inl (none), khp n L σ g, true)) (h2 : zcnd .eq p2 0 = true) (e3 : ZR 51 0 [.val (.ref (kad n (0, 0, 0))), .val (.int (Int32.ofInt 0))] [] (khp n L σ g) true (.inr (khp n L σ g).length, khp n L σ g ++ [(201, [])], false)) : ZR 83 0 [.val (.ref (kad n (0, 0, 0))), .val (.int p1), .val (.int p2), .unset, .unset] [] (khp n L σ g) cl (.inr (khp n L σ g).length, khp n L σ g ++ [(201, [])], false) := by
  have hM : zmi[83]? = some _ := rfl
  refine zr_fr hM rfl rfl rfl ?_
  refine zr_stat hM rfl rfl rfl rfl rfl rfl ?_
  refine zgo_ret rfl rfl c1_ ?_
  rw [Bool.and_true]
  refine zr_fr hM rfl rfl rfl ?_
  refine zr_ift hM rfl rfl h2 ?_
  refine zr_fr hM rfl rfl rfl ?_
  refine zr_fr hM rfl rfl rfl ?_
  refine zr_virt (κ := (0, 0, 0)) hn hM rfl rfl rfl rfl rfl rfl rfl rfl rfl ?_
  exact zgo_thr2 rfl rfl e3 rfl rfl rfl
set_option maxHeartbeats 4000000 in
theorem s84_0_k {n L : Nat} {σ : Ks} {g : List Nat} {cl : Bool} {p1 : Int32} {σ1 : Ks} {c1 : Bool} {r1 : Int32} {x2 : Nat} (hn : 2 ≤ n ∧ n ≤ 5) (c1_ : ZR 85 0 [.val (.ref (kad n (0, 0, 0))), .val (.int p1), .unset, .unset, .unset, .unset, .unset, .unset, .unset] [] (khp n L σ g) true (.inl (some (.int r1)), khp n L σ1 g, c1)) (z2 : zix (Int32.ofInt 0) 1 = some x2) : ZR 84 0 [.val (.ref (kad n (0, 0, 0))), .val (.int p1), .val (.ref (kad n (27, 0, 0))), .unset] [] (khp n L σ g) cl (.inl (some (.int (Int32.ofInt 0))), khp n L (kup σ1 50 x2 r1) (g), false) := by
  have hM : zmi[84]? = some _ := rfl
  have l2 := (zix_some z2).2.2
  refine zr_fr hM rfl rfl rfl ?_
  refine zr_fr hM rfl rfl rfl ?_
  refine zr_fr hM rfl rfl rfl ?_
  refine zr_fr hM rfl rfl rfl ?_
  refine zr_virt (κ := (0, 0, 0)) hn hM rfl rfl rfl rfl rfl rfl rfl rfl rfl ?_
  refine zgo_ret rfl rfl c1_ ?_
  refine zr_fr hM rfl rfl rfl ?_
  refine zr_last (κ := (27, 0, 0)) hn hM rfl rfl rfl rfl z2 rfl ?_
  refine zr_fr hM rfl rfl rfl ?_
  refine zr_fr hM rfl rfl rfl ?_
  exact zr_iret2 hM rfl rfl rfl
set_option maxHeartbeats 4000000 in
theorem s84_0_e202 {n L : Nat} {σ : Ks} {g : List Nat} {cl : Bool} {p1 : Int32} (hn : 2 ≤ n ∧ n ≤ 5) (e1 : ZR 85 0 [.val (.ref (kad n (0, 0, 0))), .val (.int p1), .unset, .unset, .unset, .unset, .unset, .unset, .unset] [] (khp n L σ g) true (.inr (khp n L σ g).length, khp n L σ g ++ [(202, [])], false)) : ZR 84 0 [.val (.ref (kad n (0, 0, 0))), .val (.int p1), .val (.ref (kad n (27, 0, 0))), .unset] [] (khp n L σ g) cl (.inl (some (.int (Int32.ofInt 1))), khp n L σ (g ++ [202]), false) := by
  have hM : zmi[84]? = some _ := rfl
  refine zr_fr hM rfl rfl rfl ?_
  refine zr_fr hM rfl rfl rfl ?_
  refine zr_fr hM rfl rfl rfl ?_
  refine zr_fr hM rfl rfl rfl ?_
  refine zr_virt (κ := (0, 0, 0)) hn hM rfl rfl rfl rfl rfl rfl rfl rfl rfl ?_
  refine zgo_cat rfl rfl e1 (by decide) rfl ?_
  rw [khp_thr]
  refine zr_fr hM rfl rfl rfl ?_
  refine zr_fr hM rfl rfl rfl ?_
  exact zr_iret2 hM rfl rfl rfl
set_option maxHeartbeats 4000000 in
theorem s85_0_f {n L : Nat} {σ : Ks} {g : List Nat} {cl : Bool} {p1 : Int32} {r1 : Int32} (hn : 2 ≤ n ∧ n ≤ 5) (c1_ : ZR 23 0 [.val (.ref (kad n (20, 0, 0))), .val (.int p1)] [] (khp n L σ g) true (.inl (some (.int r1)), khp n L σ g, true)) (h2 : zcnd .ne r1 0 = false) (hcap : (khp n L σ g).length < zcap) (hcl : cl = true) : ZR 85 0 [.val (.ref (kad n (0, 0, 0))), .val (.int p1), .unset, .unset, .unset, .unset, .unset, .unset, .unset] [] (khp n L σ g) cl (.inr (khp n L σ g).length, khp n L σ g ++ [(202, [])], false) := by
  have hM : zmi[85]? = some _ := rfl
  refine zr_fr hM rfl rfl rfl ?_
  refine zr_getf (κ := (0, 0, 0)) hn hM rfl rfl rfl rfl ?_
  refine zr_fr hM rfl rfl rfl ?_
  refine zr_virt (κ := (20, 0, 0)) hn hM rfl rfl rfl rfl rfl rfl rfl rfl rfl ?_
  refine zgo_ret rfl rfl c1_ ?_
  rw [Bool.and_true]
  refine zr_iff hM rfl rfl h2 ?_
  exact zr_throw2 hM rfl rfl rfl rfl rfl rfl hcap hcl rfl
set_option maxHeartbeats 4000000 in
theorem s85_0_tf {n L : Nat} {σ : Ks} {g : List Nat} {cl : Bool} {p1 : Int32} {r1 : Int32} {r3 : Int32} {r4 : Int32} {r5 : Int32} {r6 : Int32} {r7 : Int32} {r8 : Int32} {σ9 : Ks} {c9 : Bool} {r10 : Int32} (hn : 2 ≤ n ∧ n ≤ 5) (c1_ : ZR 23 0 [.val (.ref (kad n (20, 0, 0))), .val (.int p1)] [] (khp n L σ g) true (.inl (some (.int r1)), khp n L σ g, true)) (h2 : zcnd .ne r1 0 = true) (c3_ : ZR 29 0 [.val (.ref (kad n (20, 0, 0))), .val (.int p1), .val (.int (Int32.ofInt 0))] [] (khp n L σ g) true (.inl (some (.int r3)), khp n L σ g, true)) (c4_ : ZR 29 0 [.val (.ref (kad n (20, 0, 0))), .val (.int p1), .val (.int (Int32.ofInt 1))] [] (khp n L σ g) true (.inl (some (.int r4)), khp n L σ g, true)) (c5_ : ZR 29 0 [.val (.ref (kad n (20, 0, 0))), .val (.int p1), .val (.int (Int32.ofInt 2))] [] (khp n L σ g) true (.inl (some (.int r5)), khp n L σ g, true)) (c6_ : ZR 29 0 [.val (.ref (kad n (20, 0, 0))), .val (.int p1), .val (.int (Int32.ofInt 3))] [] (khp n L σ g) true (.inl (some (.int r6)), khp n L σ g, true)) (c7_ : ZR 29 0 [.val (.ref (kad n (20, 0, 0))), .val (.int p1), .val (.int (Int32.ofInt 4))] [] (khp n L σ g) true (.inl (some (.int r7)), khp n L σ g, true)) (c8_ : ZR 29 0 [.val (.ref (kad n (20, 0, 0))), .val (.int p1), .val (.int (Int32.ofInt 5))] [] (khp n L σ g) true (.inl (some (.int r8)), khp n L σ g, true)) (c9_ : ZR 24 0 [.val (.ref (kad n (20, 0, 0))), .val (.int p1)] [] (khp n L σ g) true (.inl (none), khp n L σ9 g, c9)) (c10_ : ZR 10 0 [.val (.ref (kad n (0, 0, 0))), .val (.int r5)] [] (khp n L σ9 g) true (.inl (some (.int r10)), khp n L σ9 g, true)) (h11 : zcnd .ne r10 0 = false) : ZR 85 0 [.val (.ref (kad n (0, 0, 0))), .val (.int p1), .unset, .unset, .unset, .unset, .unset, .unset, .unset] [] (khp n L σ g) cl (.inl (some (.int (Int32.ofInt 0))), khp n L σ9 (g), cl && c9) := by
  have hM : zmi[85]? = some _ := rfl
  refine zr_fr hM rfl rfl rfl ?_
  refine zr_getf (κ := (0, 0, 0)) hn hM rfl rfl rfl rfl ?_
  refine zr_fr hM rfl rfl rfl ?_
  refine zr_virt (κ := (20, 0, 0)) hn hM rfl rfl rfl rfl rfl rfl rfl rfl rfl ?_
  refine zgo_ret rfl rfl c1_ ?_
  rw [Bool.and_true]
  refine zr_ift hM rfl rfl h2 ?_
  refine zr_fr hM rfl rfl rfl ?_
  refine zr_getf (κ := (0, 0, 0)) hn hM rfl rfl rfl rfl ?_
  refine zr_fr hM rfl rfl rfl ?_
  refine zr_fr hM rfl rfl rfl ?_
  refine zr_virt (κ := (20, 0, 0)) hn hM rfl rfl rfl rfl rfl rfl rfl rfl rfl ?_
  refine zgo_ret rfl rfl c3_ ?_
  rw [Bool.and_true]
  refine zr_fr hM rfl rfl rfl ?_
  refine zr_fr hM rfl rfl rfl ?_
  refine zr_getf (κ := (0, 0, 0)) hn hM rfl rfl rfl rfl ?_
  refine zr_fr hM rfl rfl rfl ?_
  refine zr_fr hM rfl rfl rfl ?_
  refine zr_virt (κ := (20, 0, 0)) hn hM rfl rfl rfl rfl rfl rfl rfl rfl rfl ?_
  refine zgo_ret rfl rfl c4_ ?_
  rw [Bool.and_true]
  refine zr_fr hM rfl rfl rfl ?_
  refine zr_fr hM rfl rfl rfl ?_
  refine zr_getf (κ := (0, 0, 0)) hn hM rfl rfl rfl rfl ?_
  refine zr_fr hM rfl rfl rfl ?_
  refine zr_fr hM rfl rfl rfl ?_
  refine zr_virt (κ := (20, 0, 0)) hn hM rfl rfl rfl rfl rfl rfl rfl rfl rfl ?_
  refine zgo_ret rfl rfl c5_ ?_
  rw [Bool.and_true]
  refine zr_fr hM rfl rfl rfl ?_
  refine zr_fr hM rfl rfl rfl ?_
  refine zr_getf (κ := (0, 0, 0)) hn hM rfl rfl rfl rfl ?_
  refine zr_fr hM rfl rfl rfl ?_
  refine zr_fr hM rfl rfl rfl ?_
  refine zr_virt (κ := (20, 0, 0)) hn hM rfl rfl rfl rfl rfl rfl rfl rfl rfl ?_
  refine zgo_ret rfl rfl c6_ ?_
  rw [Bool.and_true]
  refine zr_fr hM rfl rfl rfl ?_
  refine zr_fr hM rfl rfl rfl ?_
  refine zr_getf (κ := (0, 0, 0)) hn hM rfl rfl rfl rfl ?_
  refine zr_fr hM rfl rfl rfl ?_
  refine zr_fr hM rfl rfl rfl ?_
  refine zr_virt (κ := (20, 0, 0)) hn hM rfl rfl rfl rfl rfl rfl rfl rfl rfl ?_
  refine zgo_ret rfl rfl c7_ ?_
  rw [Bool.and_true]
  refine zr_fr hM rfl rfl rfl ?_
  refine zr_fr hM rfl rfl rfl ?_
  refine zr_getf (κ := (0, 0, 0)) hn hM rfl rfl rfl rfl ?_
  refine zr_fr hM rfl rfl rfl ?_
  refine zr_fr hM rfl rfl rfl ?_
  refine zr_virt (κ := (20, 0, 0)) hn hM rfl rfl rfl rfl rfl rfl rfl rfl rfl ?_
  refine zgo_ret rfl rfl c8_ ?_
  rw [Bool.and_true]
  refine zr_fr hM rfl rfl rfl ?_
  refine zr_fr hM rfl rfl rfl ?_
  refine zr_getf (κ := (0, 0, 0)) hn hM rfl rfl rfl rfl ?_
  refine zr_fr hM rfl rfl rfl ?_
  refine zr_virt (κ := (20, 0, 0)) hn hM rfl rfl rfl rfl rfl rfl rfl rfl rfl ?_
  refine zgo_ret rfl rfl c9_ ?_
  refine zr_fr hM rfl rfl rfl ?_
  refine zr_fr hM rfl rfl rfl ?_
  refine zr_virt (κ := (0, 0, 0)) hn hM rfl rfl rfl rfl rfl rfl rfl rfl rfl ?_
  refine zgo_ret rfl rfl c10_ ?_
  rw [Bool.and_true]
  refine zr_iff hM rfl rfl h11 ?_
  refine zr_fr hM rfl rfl rfl ?_
  exact zr_iret2 hM rfl rfl rfl
set_option maxHeartbeats 4000000 in
theorem s85_0_tts0_f {n L : Nat} {σ : Ks} {g : List Nat} {cl : Bool} {p1 : Int32} {r1 : Int32} {r3 : Int32} {r4 : Int32} {r5 : Int32} {r6 : Int32} {r7 : Int32} {r8 : Int32} {σ9 : Ks} {c9 : Bool} {r10 : Int32} {σ13 : Ks} {c13 : Bool} {r13 : Int32} (hn : 2 ≤ n ∧ n ≤ 5) (c1_ : ZR 23 0 [.val (.ref (kad n (20, 0, 0))), .val (.int p1)] [] (khp n L σ g) true (.inl (some (.int r1)), khp n L σ g, true)) (h2 : zcnd .ne r1 0 = true) (c3_ : ZR 29 0 [.val (.ref (kad n (20, 0, 0))), .val (.int p1), .val (.int (Int32.ofInt 0))] [] (khp n L σ g) true (.inl (some (.int r3)), khp n L σ g, true)) (c4_ : ZR 29 0 [.val (.ref (kad n (20, 0, 0))), .val (.int p1), .val (.int (Int32.ofInt 1))] [] (khp n L σ g) true (.inl (some (.int r4)), khp n L σ g, true)) (c5_ : ZR 29 0 [.val (.ref (kad n (20, 0, 0))), .val (.int p1), .val (.int (Int32.ofInt 2))] [] (khp n L σ g) true (.inl (some (.int r5)), khp n L σ g, true)) (c6_ : ZR 29 0 [.val (.ref (kad n (20, 0, 0))), .val (.int p1), .val (.int (Int32.ofInt 3))] [] (khp n L σ g) true (.inl (some (.int r6)), khp n L σ g, true)) (c7_ : ZR 29 0 [.val (.ref (kad n (20, 0, 0))), .val (.int p1), .val (.int (Int32.ofInt 4))] [] (khp n L σ g) true (.inl (some (.int r7)), khp n L σ g, true)) (c8_ : ZR 29 0 [.val (.ref (kad n (20, 0, 0))), .val (.int p1), .val (.int (Int32.ofInt 5))] [] (khp n L σ g) true (.inl (some (.int r8)), khp n L σ g, true)) (c9_ : ZR 24 0 [.val (.ref (kad n (20, 0, 0))), .val (.int p1)] [] (khp n L σ g) true (.inl (none), khp n L σ9 g, c9)) (c10_ : ZR 10 0 [.val (.ref (kad n (0, 0, 0))), .val (.int r5)] [] (khp n L σ9 g) true (.inl (some (.int r10)), khp n L σ9 g, true)) (h11 : zcnd .ne r10 0 = true) (h12 : r3.toInt = 0) (c13_ : ZR 86 0 [.val (.ref (kad n (0, 0, 0))), .val (.int r4), .val (.int r5), .val (.int r6), .val (.int r7), .val (.int r8), .unset, .unset, .unset] [] (khp n L σ9 g) true (.inl (some (.int r13)), khp n L σ13 g, c13)) (h14 : zcnd .eq r13 0 = false) : ZR 85 0 [.val (.ref (kad n (0, 0, 0))), .val (.int p1), .unset, .unset, .unset, .unset, .unset, .unset, .unset] [] (khp n L σ g) cl (.inl (some (.int (Int32.ofInt 1))), khp n L σ13 (g), cl && c9 && c13) := by
  have hM : zmi[85]? = some _ := rfl
  refine zr_fr hM rfl rfl rfl ?_
  refine zr_getf (κ := (0, 0, 0)) hn hM rfl rfl rfl rfl ?_
  refine zr_fr hM rfl rfl rfl ?_
  refine zr_virt (κ := (20, 0, 0)) hn hM rfl rfl rfl rfl rfl rfl rfl rfl rfl ?_
  refine zgo_ret rfl rfl c1_ ?_
  rw [Bool.and_true]
  refine zr_ift hM rfl rfl h2 ?_
  refine zr_fr hM rfl rfl rfl ?_
  refine zr_getf (κ := (0, 0, 0)) hn hM rfl rfl rfl rfl ?_
  refine zr_fr hM rfl rfl rfl ?_
  refine zr_fr hM rfl rfl rfl ?_
  refine zr_virt (κ := (20, 0, 0)) hn hM rfl rfl rfl rfl rfl rfl rfl rfl rfl ?_
  refine zgo_ret rfl rfl c3_ ?_
  rw [Bool.and_true]
  refine zr_fr hM rfl rfl rfl ?_
  refine zr_fr hM rfl rfl rfl ?_
  refine zr_getf (κ := (0, 0, 0)) hn hM rfl rfl rfl rfl ?_
  refine zr_fr hM rfl rfl rfl ?_
  refine zr_fr hM rfl rfl rfl ?_
  refine zr_virt (κ := (20, 0, 0)) hn hM rfl rfl rfl rfl rfl rfl rfl rfl rfl ?_
  refine zgo_ret rfl rfl c4_ ?_
  rw [Bool.and_true]
  refine zr_fr hM rfl rfl rfl ?_
  refine zr_fr hM rfl rfl rfl ?_
  refine zr_getf (κ := (0, 0, 0)) hn hM rfl rfl rfl rfl ?_
  refine zr_fr hM rfl rfl rfl ?_
  refine zr_fr hM rfl rfl rfl ?_
  refine zr_virt (κ := (20, 0, 0)) hn hM rfl rfl rfl rfl rfl rfl rfl rfl rfl ?_
  refine zgo_ret rfl rfl c5_ ?_
  rw [Bool.and_true]
  refine zr_fr hM rfl rfl rfl ?_
  refine zr_fr hM rfl rfl rfl ?_
  refine zr_getf (κ := (0, 0, 0)) hn hM rfl rfl rfl rfl ?_
  refine zr_fr hM rfl rfl rfl ?_
  refine zr_fr hM rfl rfl rfl ?_
  refine zr_virt (κ := (20, 0, 0)) hn hM rfl rfl rfl rfl rfl rfl rfl rfl rfl ?_
  refine zgo_ret rfl rfl c6_ ?_
  rw [Bool.and_true]
  refine zr_fr hM rfl rfl rfl ?_
  refine zr_fr hM rfl rfl rfl ?_
  refine zr_getf (κ := (0, 0, 0)) hn hM rfl rfl rfl rfl ?_
  refine zr_fr hM rfl rfl rfl ?_
  refine zr_fr hM rfl rfl rfl ?_
  refine zr_virt (κ := (20, 0, 0)) hn hM rfl rfl rfl rfl rfl rfl rfl rfl rfl ?_
  refine zgo_ret rfl rfl c7_ ?_
  rw [Bool.and_true]
  refine zr_fr hM rfl rfl rfl ?_
  refine zr_fr hM rfl rfl rfl ?_
  refine zr_getf (κ := (0, 0, 0)) hn hM rfl rfl rfl rfl ?_
  refine zr_fr hM rfl rfl rfl ?_
  refine zr_fr hM rfl rfl rfl ?_
  refine zr_virt (κ := (20, 0, 0)) hn hM rfl rfl rfl rfl rfl rfl rfl rfl rfl ?_
  refine zgo_ret rfl rfl c8_ ?_
  rw [Bool.and_true]
  refine zr_fr hM rfl rfl rfl ?_
  refine zr_fr hM rfl rfl rfl ?_
  refine zr_getf (κ := (0, 0, 0)) hn hM rfl rfl rfl rfl ?_
  refine zr_fr hM rfl rfl rfl ?_
  refine zr_virt (κ := (20, 0, 0)) hn hM rfl rfl rfl rfl rfl rfl rfl rfl rfl ?_
  refine zgo_ret rfl rfl c9_ ?_
  refine zr_fr hM rfl rfl rfl ?_
  refine zr_fr hM rfl rfl rfl ?_
  refine zr_virt (κ := (0, 0, 0)) hn hM rfl rfl rfl rfl rfl rfl rfl rfl rfl ?_
  refine zgo_ret rfl rfl c10_ ?_
  rw [Bool.and_true]
  refine zr_ift hM rfl rfl h11 ?_
  refine zr_fr hM rfl rfl rfl ?_
  refine zr_swi hM rfl h12 rfl rfl rfl ?_
  refine zr_fr hM rfl rfl rfl ?_
  refine zr_fr hM rfl rfl rfl ?_
  refine zr_fr hM rfl rfl rfl ?_
  refine zr_fr hM rfl rfl rfl ?_
  refine zr_fr hM rfl rfl rfl ?_
  refine zr_fr hM rfl rfl rfl ?_
  refine zr_virt (κ := (0, 0, 0)) hn hM rfl rfl rfl rfl rfl rfl rfl rfl rfl ?_
  refine zgo_ret rfl rfl c13_ ?_
  refine zr_fr hM rfl rfl rfl ?_
  refine zr_fr hM rfl rfl rfl ?_
  refine zr_fr hM rfl rfl rfl ?_
  refine zr_iff hM rfl rfl h14 ?_
  refine zr_fr hM rfl rfl rfl ?_
  refine zr_fr hM rfl rfl rfl ?_
  exact zr_iret2 hM rfl rfl rfl
set_option maxHeartbeats 4000000 in
theorem s85_0_tts0_t {n L : Nat} {σ : Ks} {g : List Nat} {cl : Bool} {p1 : Int32} {r1 : Int32} {r3 : Int32} {r4 : Int32} {r5 : Int32} {r6 : Int32} {r7 : Int32} {r8 : Int32} {σ9 : Ks} {c9 : Bool} {r10 : Int32} {σ13 : Ks} {c13 : Bool} {r13 : Int32} (hn : 2 ≤ n ∧ n ≤ 5) (c1_ : ZR 23 0 [.val (.ref (kad n (20, 0, 0))), .val (.int p1)] [] (khp n L σ g) true (.inl (some (.int r1)), khp n L σ g, true)) (h2 : zcnd .ne r1 0 = true) (c3_ : ZR 29 0 [.val (.ref (kad n (20, 0, 0))), .val (.int p1), .val (.int (Int32.ofInt 0))] [] (khp n L σ g) true (.inl (some (.int r3)), khp n L σ g, true)) (c4_ : ZR 29 0 [.val (.ref (kad n (20, 0, 0))), .val (.int p1), .val (.int (Int32.ofInt 1))] [] (khp n L σ g) true (.inl (some (.int r4)), khp n L σ g, true)) (c5_ : ZR 29 0 [.val (.ref (kad n (20, 0, 0))), .val (.int p1), .val (.int (Int32.ofInt 2))] [] (khp n L σ g) true (.inl (some (.int r5)), khp n L σ g, true)) (c6_ : ZR 29 0 [.val (.ref (kad n (20, 0, 0))), .val (.int p1), .val (.int (Int32.ofInt 3))] [] (khp n L σ g) true (.inl (some (.int r6)), khp n L σ g, true)) (c7_ : ZR 29 0 [.val (.ref (kad n (20, 0, 0))), .val (.int p1), .val (.int (Int32.ofInt 4))] [] (khp n L σ g) true (.inl (some (.int r7)), khp n L σ g, true)) (c8_ : ZR 29 0 [.val (.ref (kad n (20, 0, 0))), .val (.int p1), .val (.int (Int32.ofInt 5))] [] (khp n L σ g) true (.inl (some (.int r8)), khp n L σ g, true)) (c9_ : ZR 24 0 [.val (.ref (kad n (20, 0, 0))), .val (.int p1)] [] (khp n L σ g) true (.inl (none), khp n L σ9 g, c9)) (c10_ : ZR 10 0 [.val (.ref (kad n (0, 0, 0))), .val (.int r5)] [] (khp n L σ9 g) true (.inl (some (.int r10)), khp n L σ9 g, true)) (h11 : zcnd .ne r10 0 = true) (h12 : r3.toInt = 0) (c13_ : ZR 86 0 [.val (.ref (kad n (0, 0, 0))), .val (.int r4), .val (.int r5), .val (.int r6), .val (.int r7), .val (.int r8), .unset, .unset, .unset] [] (khp n L σ9 g) true (.inl (some (.int r13)), khp n L σ13 g, c13)) (h14 : zcnd .eq r13 0 = true) : ZR 85 0 [.val (.ref (kad n (0, 0, 0))), .val (.int p1), .unset, .unset, .unset, .unset, .unset, .unset, .unset] [] (khp n L σ g) cl (.inl (some (.int (Int32.ofInt 0))), khp n L σ13 (g), cl && c9 && c13) := by
  have hM : zmi[85]? = some _ := rfl
  refine zr_fr hM rfl rfl rfl ?_
  refine zr_getf (κ := (0, 0, 0)) hn hM rfl rfl rfl rfl ?_
  refine zr_fr hM rfl rfl rfl ?_
  refine zr_virt (κ := (20, 0, 0)) hn hM rfl rfl rfl rfl rfl rfl rfl rfl rfl ?_
  refine zgo_ret rfl rfl c1_ ?_
  rw [Bool.and_true]
  refine zr_ift hM rfl rfl h2 ?_
  refine zr_fr hM rfl rfl rfl ?_
  refine zr_getf (κ := (0, 0, 0)) hn hM rfl rfl rfl rfl ?_
  refine zr_fr hM rfl rfl rfl ?_
  refine zr_fr hM rfl rfl rfl ?_
  refine zr_virt (κ := (20, 0, 0)) hn hM rfl rfl rfl rfl rfl rfl rfl rfl rfl ?_
  refine zgo_ret rfl rfl c3_ ?_
  rw [Bool.and_true]
  refine zr_fr hM rfl rfl rfl ?_
  refine zr_fr hM rfl rfl rfl ?_
  refine zr_getf (κ := (0, 0, 0)) hn hM rfl rfl rfl rfl ?_
  refine zr_fr hM rfl rfl rfl ?_
  refine zr_fr hM rfl rfl rfl ?_
  refine zr_virt (κ := (20, 0, 0)) hn hM rfl rfl rfl rfl rfl rfl rfl rfl rfl ?_
  refine zgo_ret rfl rfl c4_ ?_
  rw [Bool.and_true]
  refine zr_fr hM rfl rfl rfl ?_
  refine zr_fr hM rfl rfl rfl ?_
  refine zr_getf (κ := (0, 0, 0)) hn hM rfl rfl rfl rfl ?_
  refine zr_fr hM rfl rfl rfl ?_
  refine zr_fr hM rfl rfl rfl ?_
  refine zr_virt (κ := (20, 0, 0)) hn hM rfl rfl rfl rfl rfl rfl rfl rfl rfl ?_
  refine zgo_ret rfl rfl c5_ ?_
  rw [Bool.and_true]
  refine zr_fr hM rfl rfl rfl ?_
  refine zr_fr hM rfl rfl rfl ?_
  refine zr_getf (κ := (0, 0, 0)) hn hM rfl rfl rfl rfl ?_
  refine zr_fr hM rfl rfl rfl ?_
  refine zr_fr hM rfl rfl rfl ?_
  refine zr_virt (κ := (20, 0, 0)) hn hM rfl rfl rfl rfl rfl rfl rfl rfl rfl ?_
  refine zgo_ret rfl rfl c6_ ?_
  rw [Bool.and_true]
  refine zr_fr hM rfl rfl rfl ?_
  refine zr_fr hM rfl rfl rfl ?_
  refine zr_getf (κ := (0, 0, 0)) hn hM rfl rfl rfl rfl ?_
  refine zr_fr hM rfl rfl rfl ?_
  refine zr_fr hM rfl rfl rfl ?_
  refine zr_virt (κ := (20, 0, 0)) hn hM rfl rfl rfl rfl rfl rfl rfl rfl rfl ?_
  refine zgo_ret rfl rfl c7_ ?_
  rw [Bool.and_true]
  refine zr_fr hM rfl rfl rfl ?_
  refine zr_fr hM rfl rfl rfl ?_
  refine zr_getf (κ := (0, 0, 0)) hn hM rfl rfl rfl rfl ?_
  refine zr_fr hM rfl rfl rfl ?_
  refine zr_fr hM rfl rfl rfl ?_
  refine zr_virt (κ := (20, 0, 0)) hn hM rfl rfl rfl rfl rfl rfl rfl rfl rfl ?_
  refine zgo_ret rfl rfl c8_ ?_
  rw [Bool.and_true]
  refine zr_fr hM rfl rfl rfl ?_
  refine zr_fr hM rfl rfl rfl ?_
  refine zr_getf (κ := (0, 0, 0)) hn hM rfl rfl rfl rfl ?_
  refine zr_fr hM rfl rfl rfl ?_
  refine zr_virt (κ := (20, 0, 0)) hn hM rfl rfl rfl rfl rfl rfl rfl rfl rfl ?_
  refine zgo_ret rfl rfl c9_ ?_
  refine zr_fr hM rfl rfl rfl ?_
  refine zr_fr hM rfl rfl rfl ?_
  refine zr_virt (κ := (0, 0, 0)) hn hM rfl rfl rfl rfl rfl rfl rfl rfl rfl ?_
  refine zgo_ret rfl rfl c10_ ?_
  rw [Bool.and_true]
  refine zr_ift hM rfl rfl h11 ?_
  refine zr_fr hM rfl rfl rfl ?_
  refine zr_swi hM rfl h12 rfl rfl rfl ?_
  refine zr_fr hM rfl rfl rfl ?_
  refine zr_fr hM rfl rfl rfl ?_
  refine zr_fr hM rfl rfl rfl ?_
  refine zr_fr hM rfl rfl rfl ?_
  refine zr_fr hM rfl rfl rfl ?_
  refine zr_fr hM rfl rfl rfl ?_
  refine zr_virt (κ := (0, 0, 0)) hn hM rfl rfl rfl rfl rfl rfl rfl rfl rfl ?_
  refine zgo_ret rfl rfl c13_ ?_
  refine zr_fr hM rfl rfl rfl ?_
  refine zr_fr hM rfl rfl rfl ?_
  refine zr_fr hM rfl rfl rfl ?_
  refine zr_ift hM rfl rfl h14 ?_
  refine zr_fr hM rfl rfl rfl ?_
  exact zr_iret2 hM rfl rfl rfl
set_option maxHeartbeats 4000000 in
theorem s85_0_ttdf {n L : Nat} {σ : Ks} {g : List Nat} {cl : Bool} {p1 : Int32} {r1 : Int32} {r3 : Int32} {r4 : Int32} {r5 : Int32} {r6 : Int32} {r7 : Int32} {r8 : Int32} {σ9 : Ks} {c9 : Bool} {r10 : Int32} {σ13 : Ks} {c13 : Bool} {r13 : Int32} (hn : 2 ≤ n ∧ n ≤ 5) (c1_ : ZR 23 0 [.val (.ref (kad n (20, 0, 0))), .val (.int p1)] [] (khp n L σ g) true (.inl (some (.int r1)), khp n L σ g, true)) (h2 : zcnd .ne r1 0 = true) (c3_ : ZR 29 0 [.val (.ref (kad n (20, 0, 0))), .val (.int p1), .val (.int (Int32.ofInt 0))] [] (khp n L σ g) true (.inl (some (.int r3)), khp n L σ g, true)) (c4_ : ZR 29 0 [.val (.ref (kad n (20, 0, 0))), .val (.int p1), .val (.int (Int32.ofInt 1))] [] (khp n L σ g) true (.inl (some (.int r4)), khp n L σ g, true)) (c5_ : ZR 29 0 [.val (.ref (kad n (20, 0, 0))), .val (.int p1), .val (.int (Int32.ofInt 2))] [] (khp n L σ g) true (.inl (some (.int r5)), khp n L σ g, true)) (c6_ : ZR 29 0 [.val (.ref (kad n (20, 0, 0))), .val (.int p1), .val (.int (Int32.ofInt 3))] [] (khp n L σ g) true (.inl (some (.int r6)), khp n L σ g, true)) (c7_ : ZR 29 0 [.val (.ref (kad n (20, 0, 0))), .val (.int p1), .val (.int (Int32.ofInt 4))] [] (khp n L σ g) true (.inl (some (.int r7)), khp n L σ g, true)) (c8_ : ZR 29 0 [.val (.ref (kad n (20, 0, 0))), .val (.int p1), .val (.int (Int32.ofInt 5))] [] (khp n L σ g) true (.inl (some (.int r8)), khp n L σ g, true)) (c9_ : ZR 24 0 [.val (.ref (kad n (20, 0, 0))), .val (.int p1)] [] (khp n L σ g) true (.inl (none), khp n L σ9 g, c9)) (c10_ : ZR 10 0 [.val (.ref (kad n (0, 0, 0))), .val (.int r5)] [] (khp n L σ9 g) true (.inl (some (.int r10)), khp n L σ9 g, true)) (h11 : zcnd .ne r10 0 = true) (h12 : r3.toInt < 0 ∨ 2 < r3.toInt) (c13_ : ZR 91 0 [.val (.ref (kad n (0, 0, 0))), .val (.int r4), .val (.int r5), .val (.int r6), .val (.int r7)] [] (khp n L σ9 g) true (.inl (some (.int r13)), khp n L σ13 g, c13)) (h14 : zcnd .eq r13 0 = false) : ZR 85 0 [.val (.ref (kad n (0, 0, 0))), .val (.int p1), .unset, .unset, .unset, .unset, .unset, .unset, .unset] [] (khp n L σ g) cl (.inl (some (.int (Int32.ofInt 1))), khp n L σ13 (g), cl && c9 && c13) := by
  have hM : zmi[85]? = some _ := rfl
  refine zr_fr hM rfl rfl rfl ?_
  refine zr_getf (κ := (0, 0, 0)) hn hM rfl rfl rfl rfl ?_
  refine zr_fr hM rfl rfl rfl ?_
  refine zr_virt (κ := (20, 0, 0)) hn hM rfl rfl rfl rfl rfl rfl rfl rfl rfl ?_
  refine zgo_ret rfl rfl c1_ ?_
  rw [Bool.and_true]
  refine zr_ift hM rfl rfl h2 ?_
  refine zr_fr hM rfl rfl rfl ?_
  refine zr_getf (κ := (0, 0, 0)) hn hM rfl rfl rfl rfl ?_
  refine zr_fr hM rfl rfl rfl ?_
  refine zr_fr hM rfl rfl rfl ?_
  refine zr_virt (κ := (20, 0, 0)) hn hM rfl rfl rfl rfl rfl rfl rfl rfl rfl ?_
  refine zgo_ret rfl rfl c3_ ?_
  rw [Bool.and_true]
  refine zr_fr hM rfl rfl rfl ?_
  refine zr_fr hM rfl rfl rfl ?_
  refine zr_getf (κ := (0, 0, 0)) hn hM rfl rfl rfl rfl ?_
  refine zr_fr hM rfl rfl rfl ?_
  refine zr_fr hM rfl rfl rfl ?_
  refine zr_virt (κ := (20, 0, 0)) hn hM rfl rfl rfl rfl rfl rfl rfl rfl rfl ?_
  refine zgo_ret rfl rfl c4_ ?_
  rw [Bool.and_true]
  refine zr_fr hM rfl rfl rfl ?_
  refine zr_fr hM rfl rfl rfl ?_
  refine zr_getf (κ := (0, 0, 0)) hn hM rfl rfl rfl rfl ?_
  refine zr_fr hM rfl rfl rfl ?_
  refine zr_fr hM rfl rfl rfl ?_
  refine zr_virt (κ := (20, 0, 0)) hn hM rfl rfl rfl rfl rfl rfl rfl rfl rfl ?_
  refine zgo_ret rfl rfl c5_ ?_
  rw [Bool.and_true]
  refine zr_fr hM rfl rfl rfl ?_
  refine zr_fr hM rfl rfl rfl ?_
  refine zr_getf (κ := (0, 0, 0)) hn hM rfl rfl rfl rfl ?_
  refine zr_fr hM rfl rfl rfl ?_
  refine zr_fr hM rfl rfl rfl ?_
  refine zr_virt (κ := (20, 0, 0)) hn hM rfl rfl rfl rfl rfl rfl rfl rfl rfl ?_
  refine zgo_ret rfl rfl c6_ ?_
  rw [Bool.and_true]
  refine zr_fr hM rfl rfl rfl ?_
  refine zr_fr hM rfl rfl rfl ?_
  refine zr_getf (κ := (0, 0, 0)) hn hM rfl rfl rfl rfl ?_
  refine zr_fr hM rfl rfl rfl ?_
  refine zr_fr hM rfl rfl rfl ?_
  refine zr_virt (κ := (20, 0, 0)) hn hM rfl rfl rfl rfl rfl rfl rfl rfl rfl ?_
  refine zgo_ret rfl rfl c7_ ?_
  rw [Bool.and_true]
  refine zr_fr hM rfl rfl rfl ?_
  refine zr_fr hM rfl rfl rfl ?_
  refine zr_getf (κ := (0, 0, 0)) hn hM rfl rfl rfl rfl ?_
  refine zr_fr hM rfl rfl rfl ?_
  refine zr_fr hM rfl rfl rfl ?_
  refine zr_virt (κ := (20, 0, 0)) hn hM rfl rfl rfl rfl rfl rfl rfl rfl rfl ?_
  refine zgo_ret rfl rfl c8_ ?_
  rw [Bool.and_true]
  refine zr_fr hM rfl rfl rfl ?_
  refine zr_fr hM rfl rfl rfl ?_
  refine zr_getf (κ := (0, 0, 0)) hn hM rfl rfl rfl rfl ?_
  refine zr_fr hM rfl rfl rfl ?_
  refine zr_virt (κ := (20, 0, 0)) hn hM rfl rfl rfl rfl rfl rfl rfl rfl rfl ?_
  refine zgo_ret rfl rfl c9_ ?_
  refine zr_fr hM rfl rfl rfl ?_
  refine zr_fr hM rfl rfl rfl ?_
  refine zr_virt (κ := (0, 0, 0)) hn hM rfl rfl rfl rfl rfl rfl rfl rfl rfl ?_
  refine zgo_ret rfl rfl c10_ ?_
  rw [Bool.and_true]
  refine zr_ift hM rfl rfl h11 ?_
  refine zr_fr hM rfl rfl rfl ?_
  refine zr_swo hM rfl h12 rfl ?_
  refine zr_fr hM rfl rfl rfl ?_
  refine zr_fr hM rfl rfl rfl ?_
  refine zr_fr hM rfl rfl rfl ?_
  refine zr_fr hM rfl rfl rfl ?_
  refine zr_fr hM rfl rfl rfl ?_
  refine zr_virt (κ := (0, 0, 0)) hn hM rfl rfl rfl rfl rfl rfl rfl rfl rfl ?_
  refine zgo_ret rfl rfl c13_ ?_
  refine zr_fr hM rfl rfl rfl ?_
  refine zr_fr hM rfl rfl rfl ?_
  refine zr_iff hM rfl rfl h14 ?_
  refine zr_fr hM rfl rfl rfl ?_
  refine zr_fr hM rfl rfl rfl ?_
  exact zr_iret2 hM rfl rfl rfl
set_option maxHeartbeats 4000000 in
theorem s85_0_ttdt {n L : Nat} {σ : Ks} {g : List Nat} {cl : Bool} {p1 : Int32} {r1 : Int32} {r3 : Int32} {r4 : Int32} {r5 : Int32} {r6 : Int32} {r7 : Int32} {r8 : Int32} {σ9 : Ks} {c9 : Bool} {r10 : Int32} {σ13 : Ks} {c13 : Bool} {r13 : Int32} (hn : 2 ≤ n ∧ n ≤ 5) (c1_ : ZR 23 0 [.val (.ref (kad n (20, 0, 0))), .val (.int p1)] [] (khp n L σ g) true (.inl (some (.int r1)), khp n L σ g, true)) (h2 : zcnd .ne r1 0 = true) (c3_ : ZR 29 0 [.val (.ref (kad n (20, 0, 0))), .val (.int p1), .val (.int (Int32.ofInt 0))] [] (khp n L σ g) true (.inl (some (.int r3)), khp n L σ g, true)) (c4_ : ZR 29 0 [.val (.ref (kad n (20, 0, 0))), .val (.int p1), .val (.int (Int32.ofInt 1))] [] (khp n L σ g) true (.inl (some (.int r4)), khp n L σ g, true)) (c5_ : ZR 29 0 [.val (.ref (kad n (20, 0, 0))), .val (.int p1), .val (.int (Int32.ofInt 2))] [] (khp n L σ g) true (.inl (some (.int r5)), khp n L σ g, true)) (c6_ : ZR 29 0 [.val (.ref (kad n (20, 0, 0))), .val (.int p1), .val (.int (Int32.ofInt 3))] [] (khp n L σ g) true (.inl (some (.int r6)), khp n L σ g, true)) (c7_ : ZR 29 0 [.val (.ref (kad n (20, 0, 0))), .val (.int p1), .val (.int (Int32.ofInt 4))] [] (khp n L σ g) true (.inl (some (.int r7)), khp n L σ g, true)) (c8_ : ZR 29 0 [.val (.ref (kad n (20, 0, 0))), .val (.int p1), .val (.int (Int32.ofInt 5))] [] (khp n L σ g) true (.inl (some (.int r8)), khp n L σ g, true)) (c9_ : ZR 24 0 [.val (.ref (kad n (20, 0, 0))), .val (.int p1)] [] (khp n L σ g) true (.inl (none), khp n L σ9 g, c9)) (c10_ : ZR 10 0 [.val (.ref (kad n (0, 0, 0))), .val (.int r5)] [] (khp n L σ9 g) true (.inl (some (.int r10)), khp n L σ9 g, true)) (h11 : zcnd .ne r10 0 = true) (h12 : r3.toInt < 0 ∨ 2 < r3.toInt) (c13_ : ZR 91 0 [.val (.ref (kad n (0, 0, 0))), .val (.int r4), .val (.int r5), .val (.int r6), .val (.int r7)] [] (khp n L σ9 g) true (.inl (some (.int r13)), khp n L σ13 g, c13)) (h14 : zcnd .eq r13 0 = true) : ZR 85 0 [.val (.ref (kad n (0, 0, 0))), .val (.int p1), .unset, .unset, .unset, .unset, .unset, .unset, .unset] [] (khp n L σ g) cl (.inl (some (.int (Int32.ofInt 0))), khp n L σ13 (g), cl && c9 && c13) := by
  have hM : zmi[85]? = some _ := rfl
  refine zr_fr hM rfl rfl rfl ?_
  refine zr_getf (κ := (0, 0, 0)) hn hM rfl rfl rfl rfl ?_
  refine zr_fr hM rfl rfl rfl ?_
  refine zr_virt (κ := (20, 0, 0)) hn hM rfl rfl rfl rfl rfl rfl rfl rfl rfl ?_
  refine zgo_ret rfl rfl c1_ ?_
  rw [Bool.and_true]
  refine zr_ift hM rfl rfl h2 ?_
  refine zr_fr hM rfl rfl rfl ?_
  refine zr_getf (κ := (0, 0, 0)) hn hM rfl rfl rfl rfl ?_
  refine zr_fr hM rfl rfl rfl ?_
  refine zr_fr hM rfl rfl rfl ?_
  refine zr_virt (κ := (20, 0, 0)) hn hM rfl rfl rfl rfl rfl rfl rfl rfl rfl ?_
  refine zgo_ret rfl rfl c3_ ?_
  rw [Bool.and_true]
  refine zr_fr hM rfl rfl rfl ?_
  refine zr_fr hM rfl rfl rfl ?_
  refine zr_getf (κ := (0, 0, 0)) hn hM rfl rfl rfl rfl ?_
  refine zr_fr hM rfl rfl rfl ?_
  refine zr_fr hM rfl rfl rfl ?_
  refine zr_virt (κ := (20, 0, 0)) hn hM rfl rfl rfl rfl rfl rfl rfl rfl rfl ?_
  refine zgo_ret rfl rfl c4_ ?_
  rw [Bool.and_true]
  refine zr_fr hM rfl rfl rfl ?_
  refine zr_fr hM rfl rfl rfl ?_
  refine zr_getf (κ := (0, 0, 0)) hn hM rfl rfl rfl rfl ?_
  refine zr_fr hM rfl rfl rfl ?_
  refine zr_fr hM rfl rfl rfl ?_
  refine zr_virt (κ := (20, 0, 0)) hn hM rfl rfl rfl rfl rfl rfl rfl rfl rfl ?_
  refine zgo_ret rfl rfl c5_ ?_
  rw [Bool.and_true]
  refine zr_fr hM rfl rfl rfl ?_
  refine zr_fr hM rfl rfl rfl ?_
  refine zr_getf (κ := (0, 0, 0)) hn hM rfl rfl rfl rfl ?_
  refine zr_fr hM rfl rfl rfl ?_
  refine zr_fr hM rfl rfl rfl ?_
  refine zr_virt (κ := (20, 0, 0)) hn hM rfl rfl rfl rfl rfl rfl rfl rfl rfl ?_
  refine zgo_ret rfl rfl c6_ ?_
  rw [Bool.and_true]
  refine zr_fr hM rfl rfl rfl ?_
  refine zr_fr hM rfl rfl rfl ?_
  refine zr_getf (κ := (0, 0, 0)) hn hM rfl rfl rfl rfl ?_
  refine zr_fr hM rfl rfl rfl ?_
  refine zr_fr hM rfl rfl rfl ?_
  refine zr_virt (κ := (20, 0, 0)) hn hM rfl rfl rfl rfl rfl rfl rfl rfl rfl ?_
  refine zgo_ret rfl rfl c7_ ?_
  rw [Bool.and_true]
  refine zr_fr hM rfl rfl rfl ?_
  refine zr_fr hM rfl rfl rfl ?_
  refine zr_getf (κ := (0, 0, 0)) hn hM rfl rfl rfl rfl ?_
  refine zr_fr hM rfl rfl rfl ?_
  refine zr_fr hM rfl rfl rfl ?_
  refine zr_virt (κ := (20, 0, 0)) hn hM rfl rfl rfl rfl rfl rfl rfl rfl rfl ?_
  refine zgo_ret rfl rfl c8_ ?_
  rw [Bool.and_true]
  refine zr_fr hM rfl rfl rfl ?_
  refine zr_fr hM rfl rfl rfl ?_
  refine zr_getf (κ := (0, 0, 0)) hn hM rfl rfl rfl rfl ?_
  refine zr_fr hM rfl rfl rfl ?_
  refine zr_virt (κ := (20, 0, 0)) hn hM rfl rfl rfl rfl rfl rfl rfl rfl rfl ?_
  refine zgo_ret rfl rfl c9_ ?_
  refine zr_fr hM rfl rfl rfl ?_
  refine zr_fr hM rfl rfl rfl ?_
  refine zr_virt (κ := (0, 0, 0)) hn hM rfl rfl rfl rfl rfl rfl rfl rfl rfl ?_
  refine zgo_ret rfl rfl c10_ ?_
  rw [Bool.and_true]
  refine zr_ift hM rfl rfl h11 ?_
  refine zr_fr hM rfl rfl rfl ?_
  refine zr_swo hM rfl h12 rfl ?_
  refine zr_fr hM rfl rfl rfl ?_
  refine zr_fr hM rfl rfl rfl ?_
  refine zr_fr hM rfl rfl rfl ?_
  refine zr_fr hM rfl rfl rfl ?_
  refine zr_fr hM rfl rfl rfl ?_
  refine zr_virt (κ := (0, 0, 0)) hn hM rfl rfl rfl rfl rfl rfl rfl rfl rfl ?_
  refine zgo_ret rfl rfl c13_ ?_
  refine zr_fr hM rfl rfl rfl ?_
  refine zr_fr hM rfl rfl rfl ?_
  refine zr_ift hM rfl rfl h14 ?_
  refine zr_fr hM rfl rfl rfl ?_
  exact zr_iret2 hM rfl rfl rfl
set_option maxHeartbeats 4000000 in
theorem s85_0_tts2_f {n L : Nat} {σ : Ks} {g : List Nat} {cl : Bool} {p1 : Int32} {r1 : Int32} {r3 : Int32} {r4 : Int32} {r5 : Int32} {r6 : Int32} {r7 : Int32} {r8 : Int32} {σ9 : Ks} {c9 : Bool} {r10 : Int32} {x13 : Nat} {x14 : Nat} {σ15 : Ks} {c15 : Bool} {r15 : Int32} (hn : 2 ≤ n ∧ n ≤ 5) (c1_ : ZR 23 0 [.val (.ref (kad n (20, 0, 0))), .val (.int p1)] [] (khp n L σ g) true (.inl (some (.int r1)), khp n L σ g, true)) (h2 : zcnd .ne r1 0 = true) (c3_ : ZR 29 0 [.val (.ref (kad n (20, 0, 0))), .val (.int p1), .val (.int (Int32.ofInt 0))] [] (khp n L σ g) true (.inl (some (.int r3)), khp n L σ g, true)) (c4_ : ZR 29 0 [.val (.ref (kad n (20, 0, 0))), .val (.int p1), .val (.int (Int32.ofInt 1))] [] (khp n L σ g) true (.inl (some (.int r4)), khp n L σ g, true)) (c5_ : ZR 29 0 [.val (.ref (kad n (20, 0, 0))), .val (.int p1), .val (.int (Int32.ofInt 2))] [] (khp n L σ g) true (.inl (some (.int r5)), khp n L σ g, true)) (c6_ : ZR 29 0 [.val (.ref (kad n (20, 0, 0))), .val (.int p1), .val (.int (Int32.ofInt 3))] [] (khp n L σ g) true (.inl (some (.int r6)), khp n L σ g, true)) (c7_ : ZR 29 0 [.val (.ref (kad n (20, 0, 0))), .val (.int p1), .val (.int (Int32.ofInt 4))] [] (khp n L σ g) true (.inl (some (.int r7)), khp n L σ g, true)) (c8_ : ZR 29 0 [.val (.ref (kad n (20, 0, 0))), .val (.int p1), .val (.int (Int32.ofInt 5))] [] (khp n L σ g) true (.inl (some (.int r8)), khp n L σ g, true)) (c9_ : ZR 24 0 [.val (.ref (kad n (20, 0, 0))), .val (.int p1)] [] (khp n L σ g) true (.inl (none), khp n L σ9 g, c9)) (c10_ : ZR 10 0 [.val (.ref (kad n (0, 0, 0))), .val (.int r5)] [] (khp n L σ9 g) true (.inl (some (.int r10)), khp n L σ9 g, true)) (h11 : zcnd .ne r10 0 = true) (h12 : r3.toInt = 2) (z13 : zix r5 n = some x13) (z14 : zix r4 n = some x14) (c15_ : ZR 90 0 [.val (.ref (kad n (14, 2 * x13, x14))), .val (.int r6), .val (.int r7), .val (.int r8)] [] (khp n L σ9 g) true (.inl (some (.int r15)), khp n L σ15 g, c15)) (h16 : zcnd .eq r15 0 = false) : ZR 85 0 [.val (.ref (kad n (0, 0, 0))), .val (.int p1), .unset, .unset, .unset, .unset, .unset, .unset, .unset] [] (khp n L σ g) cl (.inl (some (.int (Int32.ofInt 1))), khp n L σ15 (g), cl && c9 && c15) := by
  have hM : zmi[85]? = some _ := rfl
  have l13 := (zix_some z13).2.2
  have l14 := (zix_some z14).2.2
  refine zr_fr hM rfl rfl rfl ?_
  refine zr_getf (κ := (0, 0, 0)) hn hM rfl rfl rfl rfl ?_
  refine zr_fr hM rfl rfl rfl ?_
  refine zr_virt (κ := (20, 0, 0)) hn hM rfl rfl rfl rfl rfl rfl rfl rfl rfl ?_
  refine zgo_ret rfl rfl c1_ ?_
  rw [Bool.and_true]
  refine zr_ift hM rfl rfl h2 ?_
  refine zr_fr hM rfl rfl rfl ?_
  refine zr_getf (κ := (0, 0, 0)) hn hM rfl rfl rfl rfl ?_
  refine zr_fr hM rfl rfl rfl ?_
  refine zr_fr hM rfl rfl rfl ?_
  refine zr_virt (κ := (20, 0, 0)) hn hM rfl rfl rfl rfl rfl rfl rfl rfl rfl ?_
  refine zgo_ret rfl rfl c3_ ?_
  rw [Bool.and_true]
  refine zr_fr hM rfl rfl rfl ?_
  refine zr_fr hM rfl rfl rfl ?_
  refine zr_getf (κ := (0, 0, 0)) hn hM rfl rfl rfl rfl ?_
  refine zr_fr hM rfl rfl rfl ?_
  refine zr_fr hM rfl rfl rfl ?_
  refine zr_virt (κ := (20, 0, 0)) hn hM rfl rfl rfl rfl rfl rfl rfl rfl rfl ?_
  refine zgo_ret rfl rfl c4_ ?_
  rw [Bool.and_true]
  refine zr_fr hM rfl rfl rfl ?_
  refine zr_fr hM rfl rfl rfl ?_
  refine zr_getf (κ := (0, 0, 0)) hn hM rfl rfl rfl rfl ?_
  refine zr_fr hM rfl rfl rfl ?_
  refine zr_fr hM rfl rfl rfl ?_
  refine zr_virt (κ := (20, 0, 0)) hn hM rfl rfl rfl rfl rfl rfl rfl rfl rfl ?_
  refine zgo_ret rfl rfl c5_ ?_
  rw [Bool.and_true]
  refine zr_fr hM rfl rfl rfl ?_
  refine zr_fr hM rfl rfl rfl ?_
  refine zr_getf (κ := (0, 0, 0)) hn hM rfl rfl rfl rfl ?_
  refine zr_fr hM rfl rfl rfl ?_
  refine zr_fr hM rfl rfl rfl ?_
  refine zr_virt (κ := (20, 0, 0)) hn hM rfl rfl rfl rfl rfl rfl rfl rfl rfl ?_
  refine zgo_ret rfl rfl c6_ ?_
  rw [Bool.and_true]
  refine zr_fr hM rfl rfl rfl ?_
  refine zr_fr hM rfl rfl rfl ?_
  refine zr_getf (κ := (0, 0, 0)) hn hM rfl rfl rfl rfl ?_
  refine zr_fr hM rfl rfl rfl ?_
  refine zr_fr hM rfl rfl rfl ?_
  refine zr_virt (κ := (20, 0, 0)) hn hM rfl rfl rfl rfl rfl rfl rfl rfl rfl ?_
  refine zgo_ret rfl rfl c7_ ?_
  rw [Bool.and_true]
  refine zr_fr hM rfl rfl rfl ?_
  refine zr_fr hM rfl rfl rfl ?_
  refine zr_getf (κ := (0, 0, 0)) hn hM rfl rfl rfl rfl ?_
  refine zr_fr hM rfl rfl rfl ?_
  refine zr_fr hM rfl rfl rfl ?_
  refine zr_virt (κ := (20, 0, 0)) hn hM rfl rfl rfl rfl rfl rfl rfl rfl rfl ?_
  refine zgo_ret rfl rfl c8_ ?_
  rw [Bool.and_true]
  refine zr_fr hM rfl rfl rfl ?_
  refine zr_fr hM rfl rfl rfl ?_
  refine zr_getf (κ := (0, 0, 0)) hn hM rfl rfl rfl rfl ?_
  refine zr_fr hM rfl rfl rfl ?_
  refine zr_virt (κ := (20, 0, 0)) hn hM rfl rfl rfl rfl rfl rfl rfl rfl rfl ?_
  refine zgo_ret rfl rfl c9_ ?_
  refine zr_fr hM rfl rfl rfl ?_
  refine zr_fr hM rfl rfl rfl ?_
  refine zr_virt (κ := (0, 0, 0)) hn hM rfl rfl rfl rfl rfl rfl rfl rfl rfl ?_
  refine zgo_ret rfl rfl c10_ ?_
  rw [Bool.and_true]
  refine zr_ift hM rfl rfl h11 ?_
  refine zr_fr hM rfl rfl rfl ?_
  refine zr_swi hM rfl h12 rfl rfl rfl ?_
  refine zr_fr hM rfl rfl rfl ?_
  refine zr_getf (κ := (0, 0, 0)) hn hM rfl rfl rfl rfl ?_
  refine zr_fr hM rfl rfl rfl ?_
  refine zr_aald (κ := (1, 0, 0)) hn hM rfl rfl rfl rfl z13 ?_
  refine zr_getf (κ := (2, x13, 0)) hn hM rfl (kokT (by omega)) rfl rfl ?_
  refine zr_getf (κ := (3, 2 * x13, 0)) hn hM rfl (kokB rfl (by omega)) rfl rfl ?_
  refine zr_fr hM rfl rfl rfl ?_
  refine zr_aald (κ := (13, 2 * x13, 0)) hn hM rfl (kokB rfl (by omega)) rfl rfl z14 ?_
  refine zr_fr hM rfl rfl rfl ?_
  refine zr_fr hM rfl rfl rfl ?_
  refine zr_fr hM rfl rfl rfl ?_
  refine zr_virt (κ := (14, 2 * x13, x14)) hn hM rfl rfl rfl rfl rfl rfl (kokP rfl (by omega) (by omega)) rfl rfl ?_
  refine zgo_ret rfl rfl c15_ ?_
  refine zr_fr hM rfl rfl rfl ?_
  refine zr_fr hM rfl rfl rfl ?_
  refine zr_fr hM rfl rfl rfl ?_
  refine zr_iff hM rfl rfl h16 ?_
  refine zr_fr hM rfl rfl rfl ?_
  refine zr_fr hM rfl rfl rfl ?_
  exact zr_iret2 hM rfl rfl rfl
set_option maxHeartbeats 4000000 in
theorem s85_0_tts2_t {n L : Nat} {σ : Ks} {g : List Nat} {cl : Bool} {p1 : Int32} {r1 : Int32} {r3 : Int32} {r4 : Int32} {r5 : Int32} {r6 : Int32} {r7 : Int32} {r8 : Int32} {σ9 : Ks} {c9 : Bool} {r10 : Int32} {x13 : Nat} {x14 : Nat} {σ15 : Ks} {c15 : Bool} {r15 : Int32} (hn : 2 ≤ n ∧ n ≤ 5) (c1_ : ZR 23 0 [.val (.ref (kad n (20, 0, 0))), .val (.int p1)] [] (khp n L σ g) true (.inl (some (.int r1)), khp n L σ g, true)) (h2 : zcnd .ne r1 0 = true) (c3_ : ZR 29 0 [.val (.ref (kad n (20, 0, 0))), .val (.int p1), .val (.int (Int32.ofInt 0))] [] (khp n L σ g) true (.inl (some (.int r3)), khp n L σ g, true)) (c4_ : ZR 29 0 [.val (.ref (kad n (20, 0, 0))), .val (.int p1), .val (.int (Int32.ofInt 1))] [] (khp n L σ g) true (.inl (some (.int r4)), khp n L σ g, true)) (c5_ : ZR 29 0 [.val (.ref (kad n (20, 0, 0))), .val (.int p1), .val (.int (Int32.ofInt 2))] [] (khp n L σ g) true (.inl (some (.int r5)), khp n L σ g, true)) (c6_ : ZR 29 0 [.val (.ref (kad n (20, 0, 0))), .val (.int p1), .val (.int (Int32.ofInt 3))] [] (khp n L σ g) true (.inl (some (.int r6)), khp n L σ g, true)) (c7_ : ZR 29 0 [.val (.ref (kad n (20, 0, 0))), .val (.int p1), .val (.int (Int32.ofInt 4))] [] (khp n L σ g) true (.inl (some (.int r7)), khp n L σ g, true)) (c8_ : ZR 29 0 [.val (.ref (kad n (20, 0, 0))), .val (.int p1), .val (.int (Int32.ofInt 5))] [] (khp n L σ g) true (.inl (some (.int r8)), khp n L σ g, true)) (c9_ : ZR 24 0 [.val (.ref (kad n (20, 0, 0))), .val (.int p1)] [] (khp n L σ g) true (.inl (none), khp n L σ9 g, c9)) (c10_ : ZR 10 0 [.val (.ref (kad n (0, 0, 0))), .val (.int r5)] [] (khp n L σ9 g) true (.inl (some (.int r10)), khp n L σ9 g, true)) (h11 : zcnd .ne r10 0 = true) (h12 : r3.toInt = 2) (z13 : zix r5 n = some x13) (z14 : zix r4 n = some x14) (c15_ : ZR 90 0 [.val (.ref (kad n (14, 2 * x13, x14))), .val (.int r6), .val (.int r7), .val (.int r8)] [] (khp n L σ9 g) true (.inl (some (.int r15)), khp n L σ15 g, c15)) (h16 : zcnd .eq r15 0 = true) : ZR 85 0 [.val (.ref (kad n (0, 0, 0))), .val (.int p1), .unset, .unset, .unset, .unset, .unset, .unset, .unset] [] (khp n L σ g) cl (.inl (some (.int (Int32.ofInt 0))), khp n L σ15 (g), cl && c9 && c15) := by
  have hM : zmi[85]? = some _ := rfl
  have l13 := (zix_some z13).2.2
  have l14 := (zix_some z14).2.2
  refine zr_fr hM rfl rfl rfl ?_
  refine zr_getf (κ := (0, 0, 0)) hn hM rfl rfl rfl rfl ?_
  refine zr_fr hM rfl rfl rfl ?_
  refine zr_virt (κ := (20, 0, 0)) hn hM rfl rfl rfl rfl rfl rfl rfl rfl rfl ?_
  refine zgo_ret rfl rfl c1_ ?_
  rw [Bool.and_true]
  refine zr_ift hM rfl rfl h2 ?_
  refine zr_fr hM rfl rfl rfl ?_
  refine zr_getf (κ := (0, 0, 0)) hn hM rfl rfl rfl rfl ?_
  refine zr_fr hM rfl rfl rfl ?_
  refine zr_fr hM rfl rfl rfl ?_
  refine zr_virt (κ := (20, 0, 0)) hn hM rfl rfl rfl rfl rfl rfl rfl rfl rfl ?_
  refine zgo_ret rfl rfl c3_ ?_
  rw [Bool.and_true]
  refine zr_fr hM rfl rfl rfl ?_
  refine zr_fr hM rfl rfl rfl ?_
  refine zr_getf (κ := (0, 0, 0)) hn hM rfl rfl rfl rfl ?_
  refine zr_fr hM rfl rfl rfl ?_
  refine zr_fr hM rfl rfl rfl ?_
  refine zr_virt (κ := (20, 0, 0)) hn hM rfl rfl rfl rfl rfl rfl rfl rfl rfl ?_
  refine zgo_ret rfl rfl c4_ ?_
  rw [Bool.and_true]
  refine zr_fr hM rfl rfl rfl ?_
  refine zr_fr hM rfl rfl rfl ?_
  refine zr_getf (κ := (0, 0, 0)) hn hM rfl rfl rfl rfl ?_
  refine zr_fr hM rfl rfl rfl ?_
  refine zr_fr hM rfl rfl rfl ?_
  refine zr_virt (κ := (20, 0, 0)) hn hM rfl rfl rfl rfl rfl rfl rfl rfl rfl ?_
  refine zgo_ret rfl rfl c5_ ?_
  rw [Bool.and_true]
  refine zr_fr hM rfl rfl rfl ?_
  refine zr_fr hM rfl rfl rfl ?_
  refine zr_getf (κ := (0, 0, 0)) hn hM rfl rfl rfl rfl ?_
  refine zr_fr hM rfl rfl rfl ?_
  refine zr_fr hM rfl rfl rfl ?_
  refine zr_virt (κ := (20, 0, 0)) hn hM rfl rfl rfl rfl rfl rfl rfl rfl rfl ?_
  refine zgo_ret rfl rfl c6_ ?_
  rw [Bool.and_true]
  refine zr_fr hM rfl rfl rfl ?_
  refine zr_fr hM rfl rfl rfl ?_
  refine zr_getf (κ := (0, 0, 0)) hn hM rfl rfl rfl rfl ?_
  refine zr_fr hM rfl rfl rfl ?_
  refine zr_fr hM rfl rfl rfl ?_
  refine zr_virt (κ := (20, 0, 0)) hn hM rfl rfl rfl rfl rfl rfl rfl rfl rfl ?_
  refine zgo_ret rfl rfl c7_ ?_
  rw [Bool.and_true]
  refine zr_fr hM rfl rfl rfl ?_
  refine zr_fr hM rfl rfl rfl ?_
  refine zr_getf (κ := (0, 0, 0)) hn hM rfl rfl rfl rfl ?_
  refine zr_fr hM rfl rfl rfl ?_
  refine zr_fr hM rfl rfl rfl ?_
  refine zr_virt (κ := (20, 0, 0)) hn hM rfl rfl rfl rfl rfl rfl rfl rfl rfl ?_
  refine zgo_ret rfl rfl c8_ ?_
  rw [Bool.and_true]
  refine zr_fr hM rfl rfl rfl ?_
  refine zr_fr hM rfl rfl rfl ?_
  refine zr_getf (κ := (0, 0, 0)) hn hM rfl rfl rfl rfl ?_
  refine zr_fr hM rfl rfl rfl ?_
  refine zr_virt (κ := (20, 0, 0)) hn hM rfl rfl rfl rfl rfl rfl rfl rfl rfl ?_
  refine zgo_ret rfl rfl c9_ ?_
  refine zr_fr hM rfl rfl rfl ?_
  refine zr_fr hM rfl rfl rfl ?_
  refine zr_virt (κ := (0, 0, 0)) hn hM rfl rfl rfl rfl rfl rfl rfl rfl rfl ?_
  refine zgo_ret rfl rfl c10_ ?_
  rw [Bool.and_true]
  refine zr_ift hM rfl rfl h11 ?_
  refine zr_fr hM rfl rfl rfl ?_
  refine zr_swi hM rfl h12 rfl rfl rfl ?_
  refine zr_fr hM rfl rfl rfl ?_
  refine zr_getf (κ := (0, 0, 0)) hn hM rfl rfl rfl rfl ?_
  refine zr_fr hM rfl rfl rfl ?_
  refine zr_aald (κ := (1, 0, 0)) hn hM rfl rfl rfl rfl z13 ?_
  refine zr_getf (κ := (2, x13, 0)) hn hM rfl (kokT (by omega)) rfl rfl ?_
  refine zr_getf (κ := (3, 2 * x13, 0)) hn hM rfl (kokB rfl (by omega)) rfl rfl ?_
  refine zr_fr hM rfl rfl rfl ?_
  refine zr_aald (κ := (13, 2 * x13, 0)) hn hM rfl (kokB rfl (by omega)) rfl rfl z14 ?_
  refine zr_fr hM rfl rfl rfl ?_
  refine zr_fr hM rfl rfl rfl ?_
  refine zr_fr hM rfl rfl rfl ?_
  refine zr_virt (κ := (14, 2 * x13, x14)) hn hM rfl rfl rfl rfl rfl rfl (kokP rfl (by omega) (by omega)) rfl rfl ?_
  refine zgo_ret rfl rfl c15_ ?_
  refine zr_fr hM rfl rfl rfl ?_
  refine zr_fr hM rfl rfl rfl ?_
  refine zr_fr hM rfl rfl rfl ?_
  refine zr_ift hM rfl rfl h16 ?_
  refine zr_fr hM rfl rfl rfl ?_
  exact zr_iret2 hM rfl rfl rfl
set_option maxHeartbeats 4000000 in
theorem s85_0_tts1_f {n L : Nat} {σ : Ks} {g : List Nat} {cl : Bool} {p1 : Int32} {r1 : Int32} {r3 : Int32} {r4 : Int32} {r5 : Int32} {r6 : Int32} {r7 : Int32} {r8 : Int32} {σ9 : Ks} {c9 : Bool} {r10 : Int32} {x13 : Nat} {x14 : Nat} {σ15 : Ks} {c15 : Bool} {r15 : Int32} (hn : 2 ≤ n ∧ n ≤ 5) (c1_ : ZR 23 0 [.val (.ref (kad n (20, 0, 0))), .val (.int p1)] [] (khp n L σ g) true (.inl (some (.int r1)), khp n L σ g, true)) (h2 : zcnd .ne r1 0 = true) (c3_ : ZR 29 0 [.val (.ref (kad n (20, 0, 0))), .val (.int p1), .val (.int (Int32.ofInt 0))] [] (khp n L σ g) true (.inl (some (.int r3)), khp n L σ g, true)) (c4_ : ZR 29 0 [.val (.ref (kad n (20, 0, 0))), .val (.int p1), .val (.int (Int32.ofInt 1))] [] (khp n L σ g) true (.inl (some (.int r4)), khp n L σ g, true)) (c5_ : ZR 29 0 [.val (.ref (kad n (20, 0, 0))), .val (.int p1), .val (.int (Int32.ofInt 2))] [] (khp n L σ g) true (.inl (some (.int r5)), khp n L σ g, true)) (c6_ : ZR 29 0 [.val (.ref (kad n (20, 0, 0))), .val (.int p1), .val (.int (Int32.ofInt 3))] [] (khp n L σ g) true (.inl (some (.int r6)), khp n L σ g, true)) (c7_ : ZR 29 0 [.val (.ref (kad n (20, 0, 0))), .val (.int p1), .val (.int (Int32.ofInt 4))] [] (khp n L σ g) true (.inl (some (.int r7)), khp n L σ g, true)) (c8_ : ZR 29 0 [.val (.ref (kad n (20, 0, 0))), .val (.int p1), .val (.int (Int32.ofInt 5))] [] (khp n L σ g) true (.inl (some (.int r8)), khp n L σ g, true)) (c9_ : ZR 24 0 [.val (.ref (kad n (20, 0, 0))), .val (.int p1)] [] (khp n L σ g) true (.inl (none), khp n L σ9 g, c9)) (c10_ : ZR 10 0 [.val (.ref (kad n (0, 0, 0))), .val (.int r5)] [] (khp n L σ9 g) true (.inl (some (.int r10)), khp n L σ9 g, true)) (h11 : zcnd .ne r10 0 = true) (h12 : r3.toInt = 1) (z13 : zix r5 n = some x13) (z14 : zix r4 n = some x14) (c15_ : ZR 88 0 [.val (.ref (kad n (14, 2 * x13, x14))), .val (.int r6), .unset] [] (khp n L σ9 g) true (.inl (some (.int r15)), khp n L σ15 g, c15)) (h16 : zcnd .eq r15 0 = false) : ZR 85 0 [.val (.ref (kad n (0, 0, 0))), .val (.int p1), .unset, .unset, .unset, .unset, .unset, .unset, .unset] [] (khp n L σ g) cl (.inl (some (.int (Int32.ofInt 1))), khp n L σ15 (g), cl && c9 && c15) := by
  have hM : zmi[85]? = some _ := rfl
  have l13 := (zix_some z13).2.2
  have l14 := (zix_some z14).2.2
  refine zr_fr hM rfl rfl rfl ?_
  refine zr_getf (κ := (0, 0, 0)) hn hM rfl rfl rfl rfl ?_
  refine zr_fr hM rfl rfl rfl ?_
  refine zr_virt (κ := (20, 0, 0)) hn hM rfl rfl rfl rfl rfl rfl rfl rfl rfl ?_
  refine zgo_ret rfl rfl c1_ ?_
  rw [Bool.and_true]
  refine zr_ift hM rfl rfl h2 ?_
  refine zr_fr hM rfl rfl rfl ?_
  refine zr_getf (κ := (0, 0, 0)) hn hM rfl rfl rfl rfl ?_
  refine zr_fr hM rfl rfl rfl ?_
  refine zr_fr hM rfl rfl rfl ?_
  refine zr_virt (κ := (20, 0, 0)) hn hM rfl rfl rfl rfl rfl rfl rfl rfl rfl ?_
  refine zgo_ret rfl rfl c3_ ?_
  rw [Bool.and_true]
  refine zr_fr hM rfl rfl rfl ?_
  refine zr_fr hM rfl rfl rfl ?_
  refine zr_getf (κ := (0, 0, 0)) hn hM rfl rfl rfl rfl ?_
  refine zr_fr hM rfl rfl rfl ?_
  refine zr_fr hM rfl rfl rfl ?_
  refine zr_virt (κ := (20, 0, 0)) hn hM rfl rfl rfl rfl rfl rfl rfl rfl rfl ?_
  refine zgo_ret rfl rfl c4_ ?_
  rw [Bool.and_true]
  refine zr_fr hM rfl rfl rfl ?_
  refine zr_fr hM rfl rfl rfl ?_
  refine zr_getf (κ := (0, 0, 0)) hn hM rfl rfl rfl rfl ?_
  refine zr_fr hM rfl rfl rfl ?_
  refine zr_fr hM rfl rfl rfl ?_
  refine zr_virt (κ := (20, 0, 0)) hn hM rfl rfl rfl rfl rfl rfl rfl rfl rfl ?_
  refine zgo_ret rfl rfl c5_ ?_
  rw [Bool.and_true]
  refine zr_fr hM rfl rfl rfl ?_
  refine zr_fr hM rfl rfl rfl ?_
  refine zr_getf (κ := (0, 0, 0)) hn hM rfl rfl rfl rfl ?_
  refine zr_fr hM rfl rfl rfl ?_
  refine zr_fr hM rfl rfl rfl ?_
  refine zr_virt (κ := (20, 0, 0)) hn hM rfl rfl rfl rfl rfl rfl rfl rfl rfl ?_
  refine zgo_ret rfl rfl c6_ ?_
  rw [Bool.and_true]
  refine zr_fr hM rfl rfl rfl ?_
  refine zr_fr hM rfl rfl rfl ?_
  refine zr_getf (κ := (0, 0, 0)) hn hM rfl rfl rfl rfl ?_
  refine zr_fr hM rfl rfl rfl ?_
  refine zr_fr hM rfl rfl rfl ?_
  refine zr_virt (κ := (20, 0, 0)) hn hM rfl rfl rfl rfl rfl rfl rfl rfl rfl ?_
  refine zgo_ret rfl rfl c7_ ?_
  rw [Bool.and_true]
  refine zr_fr hM rfl rfl rfl ?_
  refine zr_fr hM rfl rfl rfl ?_
  refine zr_getf (κ := (0, 0, 0)) hn hM rfl rfl rfl rfl ?_
  refine zr_fr hM rfl rfl rfl ?_
  refine zr_fr hM rfl rfl rfl ?_
  refine zr_virt (κ := (20, 0, 0)) hn hM rfl rfl rfl rfl rfl rfl rfl rfl rfl ?_
  refine zgo_ret rfl rfl c8_ ?_
  rw [Bool.and_true]
  refine zr_fr hM rfl rfl rfl ?_
  refine zr_fr hM rfl rfl rfl ?_
  refine zr_getf (κ := (0, 0, 0)) hn hM rfl rfl rfl rfl ?_
  refine zr_fr hM rfl rfl rfl ?_
  refine zr_virt (κ := (20, 0, 0)) hn hM rfl rfl rfl rfl rfl rfl rfl rfl rfl ?_
  refine zgo_ret rfl rfl c9_ ?_
  refine zr_fr hM rfl rfl rfl ?_
  refine zr_fr hM rfl rfl rfl ?_
  refine zr_virt (κ := (0, 0, 0)) hn hM rfl rfl rfl rfl rfl rfl rfl rfl rfl ?_
  refine zgo_ret rfl rfl c10_ ?_
  rw [Bool.and_true]
  refine zr_ift hM rfl rfl h11 ?_
  refine zr_fr hM rfl rfl rfl ?_
  refine zr_swi hM rfl h12 rfl rfl rfl ?_
  refine zr_fr hM rfl rfl rfl ?_
  refine zr_getf (κ := (0, 0, 0)) hn hM rfl rfl rfl rfl ?_
  refine zr_fr hM rfl rfl rfl ?_
  refine zr_aald (κ := (1, 0, 0)) hn hM rfl rfl rfl rfl z13 ?_
  refine zr_getf (κ := (2, x13, 0)) hn hM rfl (kokT (by omega)) rfl rfl ?_
  refine zr_getf (κ := (3, 2 * x13, 0)) hn hM rfl (kokB rfl (by omega)) rfl rfl ?_
  refine zr_fr hM rfl rfl rfl ?_
  refine zr_aald (κ := (13, 2 * x13, 0)) hn hM rfl (kokB rfl (by omega)) rfl rfl z14 ?_
  refine zr_fr hM rfl rfl rfl ?_
  refine zr_virt (κ := (14, 2 * x13, x14)) hn hM rfl rfl rfl rfl rfl rfl (kokP rfl (by omega) (by omega)) rfl rfl ?_
  refine zgo_ret rfl rfl c15_ ?_
  refine zr_fr hM rfl rfl rfl ?_
  refine zr_fr hM rfl rfl rfl ?_
  refine zr_fr hM rfl rfl rfl ?_
  refine zr_iff hM rfl rfl h16 ?_
  refine zr_fr hM rfl rfl rfl ?_
  refine zr_fr hM rfl rfl rfl ?_
  exact zr_iret2 hM rfl rfl rfl
set_option maxHeartbeats 4000000 in
theorem s85_0_tts1_t {n L : Nat} {σ : Ks} {g : List Nat} {cl : Bool} {p1 : Int32} {r1 : Int32} {r3 : Int32} {r4 : Int32} {r5 : Int32} {r6 : Int32} {r7 : Int32} {r8 : Int32} {σ9 : Ks} {c9 : Bool} {r10 : Int32} {x13 : Nat} {x14 : Nat} {σ15 : Ks} {c15 : Bool} {r15 : Int32} (hn : 2 ≤ n ∧ n ≤ 5) (c1_ : ZR 23 0 [.val (.ref (kad n (20, 0, 0))), .val (.int p1)] [] (khp n L σ g) true (.inl (some (.int r1)), khp n L σ g, true)) (h2 : zcnd .ne r1 0 = true) (c3_ : ZR 29 0 [.val (.ref (kad n (20, 0, 0))), .val (.int p1), .val (.int (Int32.ofInt 0))] [] (khp n L σ g) true (.inl (some (.int r3)), khp n L σ g, true)) (c4_ : ZR 29 0 [.val (.ref (kad n (20, 0, 0))), .val (.int p1), .val (.int (Int32.ofInt 1))] [] (khp n L σ g) true (.inl (some (.int r4)), khp n L σ g, true)) (c5_ : ZR 29 0 [.val (.ref (kad n (20, 0, 0))), .val (.int p1), .val (.int (Int32.ofInt 2))] [] (khp n L σ g) true (.inl (some (.int r5)), khp n L σ g, true)) (c6_ : ZR 29 0 [.val (.ref (kad n (20, 0, 0))), .val (.int p1), .val (.int (Int32.ofInt 3))] [] (khp n L σ g) true (.inl (some (.int r6)), khp n L σ g, true)) (c7_ : ZR 29 0 [.val (.ref (kad n (20, 0, 0))), .val (.int p1), .val (.int (Int32.ofInt 4))] [] (khp n L σ g) true (.inl (some (.int r7)), khp n L σ g, true)) (c8_ : ZR 29 0 [.val (.ref (kad n (20, 0, 0))), .val (.int p1), .val (.int (Int32.ofInt 5))] [] (khp n L σ g) true (.inl (some (.int r8)), khp n L σ g, true)) (c9_ : ZR 24 0 [.val (.ref (kad n (20, 0, 0))), .val (.int p1)] [] (khp n L σ g) true (.inl (none), khp n L σ9 g, c9)) (c10_ : ZR 10 0 [.val (.ref (kad n (0, 0, 0))), .val (.int r5)] [] (khp n L σ9 g) true (.inl (some (.int r10)), khp n L σ9 g, true)) (h11 : zcnd .ne r10 0 = true) (h12 : r3.toInt = 1) (z13 : zix r5 n = some x13) (z14 : zix r4 n = some x14) (c15_ : ZR 88 0 [.val (.ref (kad n (14, 2 * x13, x14))), .val (.int r6), .unset] [] (khp n L σ9 g) true (.inl (some (.int r15)), khp n L σ15 g, c15)) (h16 : zcnd .eq r15 0 = true) : ZR 85 0 [.val (.ref (kad n (0, 0, 0))), .val (.int p1), .unset, .unset, .unset, .unset, .unset, .unset, .unset] [] (khp n L σ g) cl (.inl (some (.int (Int32.ofInt 0))), khp n L σ15 (g), cl && c9 && c15) := by
  have hM : zmi[85]? = some _ := rfl
  have l13 := (zix_some z13).2.2
  have l14 := (zix_some z14).2.2
  refine zr_fr hM rfl rfl rfl ?_
  refine zr_getf (κ := (0, 0, 0)) hn hM rfl rfl rfl rfl ?_
  refine zr_fr hM rfl rfl rfl ?_
  refine zr_virt (κ := (20, 0, 0)) hn hM rfl rfl rfl rfl rfl rfl rfl rfl rfl ?_
  refine zgo_ret rfl rfl c1_ ?_
  rw [Bool.and_true]
  refine zr_ift hM rfl rfl h2 ?_
  refine zr_fr hM rfl rfl rfl ?_
  refine zr_getf (κ := (0, 0, 0)) hn hM rfl rfl rfl rfl ?_
  refine zr_fr hM rfl rfl rfl ?_
  refine zr_fr hM rfl rfl rfl ?_
  refine zr_virt (κ := (20, 0, 0)) hn hM rfl rfl rfl rfl rfl rfl rfl rfl rfl ?_
  refine zgo_ret rfl rfl c3_ ?_
  rw [Bool.and_true]
  refine zr_fr hM rfl rfl rfl ?_
  refine zr_fr hM rfl rfl rfl ?_
  refine zr_getf (κ := (0, 0, 0)) hn hM rfl rfl rfl rfl ?_
  refine zr_fr hM rfl rfl rfl ?_
  refine zr_fr hM rfl rfl rfl ?_
  refine zr_virt (κ := (20, 0, 0)) hn hM rfl rfl rfl rfl rfl rfl rfl rfl rfl ?_
  refine zgo_ret rfl rfl c4_ ?_
  rw [Bool.and_true]
  refine zr_fr hM rfl rfl rfl ?_
  refine zr_fr hM rfl rfl rfl ?_
  refine zr_getf (κ := (0, 0, 0)) hn hM rfl rfl rfl rfl ?_
  refine zr_fr hM rfl rfl rfl ?_
  refine zr_fr hM rfl rfl rfl ?_
  refine zr_virt (κ := (20, 0, 0)) hn hM rfl rfl rfl rfl rfl rfl rfl rfl rfl ?_
  refine zgo_ret rfl rfl c5_ ?_
  rw [Bool.and_true]
  refine zr_fr hM rfl rfl rfl ?_
  refine zr_fr hM rfl rfl rfl ?_
  refine zr_getf (κ := (0, 0, 0)) hn hM rfl rfl rfl rfl ?_
  refine zr_fr hM rfl rfl rfl ?_
  refine zr_fr hM rfl rfl rfl ?_
  refine zr_virt (κ := (20, 0, 0)) hn hM rfl rfl rfl rfl rfl rfl rfl rfl rfl ?_
  refine zgo_ret rfl rfl c6_ ?_
  rw [Bool.and_true]
  refine zr_fr hM rfl rfl rfl ?_
  refine zr_fr hM rfl rfl rfl ?_
  refine zr_getf (κ := (0, 0, 0)) hn hM rfl rfl rfl rfl ?_
  refine zr_fr hM rfl rfl rfl ?_
  refine zr_fr hM rfl rfl rfl ?_
  refine zr_virt (κ := (20, 0, 0)) hn hM rfl rfl rfl rfl rfl rfl rfl rfl rfl ?_
  refine zgo_ret rfl rfl c7_ ?_
  rw [Bool.and_true]
  refine zr_fr hM rfl rfl rfl ?_
  refine zr_fr hM rfl rfl rfl ?_
  refine zr_getf (κ := (0, 0, 0)) hn hM rfl rfl rfl rfl ?_
  refine zr_fr hM rfl rfl rfl ?_
  refine zr_fr hM rfl rfl rfl ?_
  refine zr_virt (κ := (20, 0, 0)) hn hM rfl rfl rfl rfl rfl rfl rfl rfl rfl ?_
  refine zgo_ret rfl rfl c8_ ?_
  rw [Bool.and_true]
  refine zr_fr hM rfl rfl rfl ?_
  refine zr_fr hM rfl rfl rfl ?_
  refine zr_getf (κ := (0, 0, 0)) hn hM rfl rfl rfl rfl ?_
  refine zr_fr hM rfl rfl rfl ?_
  refine zr_virt (κ := (20, 0, 0)) hn hM rfl rfl rfl rfl rfl rfl rfl rfl rfl ?_
  refine zgo_ret rfl rfl c9_ ?_
  refine zr_fr hM rfl rfl rfl ?_
  refine zr_fr hM rfl rfl rfl ?_
  refine zr_virt (κ := (0, 0, 0)) hn hM rfl rfl rfl rfl rfl rfl rfl rfl rfl ?_
  refine zgo_ret rfl rfl c10_ ?_
  rw [Bool.and_true]
  refine zr_ift hM rfl rfl h11 ?_
  refine zr_fr hM rfl rfl rfl ?_
  refine zr_swi hM rfl h12 rfl rfl rfl ?_
  refine zr_fr hM rfl rfl rfl ?_
  refine zr_getf (κ := (0, 0, 0)) hn hM rfl rfl rfl rfl ?_
  refine zr_fr hM rfl rfl rfl ?_
  refine zr_aald (κ := (1, 0, 0)) hn hM rfl rfl rfl rfl z13 ?_
  refine zr_getf (κ := (2, x13, 0)) hn hM rfl (kokT (by omega)) rfl rfl ?_
  refine zr_getf (κ := (3, 2 * x13, 0)) hn hM rfl (kokB rfl (by omega)) rfl rfl ?_
  refine zr_fr hM rfl rfl rfl ?_
  refine zr_aald (κ := (13, 2 * x13, 0)) hn hM rfl (kokB rfl (by omega)) rfl rfl z14 ?_
  refine zr_fr hM rfl rfl rfl ?_
  refine zr_virt (κ := (14, 2 * x13, x14)) hn hM rfl rfl rfl rfl rfl rfl (kokP rfl (by omega) (by omega)) rfl rfl ?_
  refine zgo_ret rfl rfl c15_ ?_
  refine zr_fr hM rfl rfl rfl ?_
  refine zr_fr hM rfl rfl rfl ?_
  refine zr_fr hM rfl rfl rfl ?_
  refine zr_ift hM rfl rfl h16 ?_
  refine zr_fr hM rfl rfl rfl ?_
  exact zr_iret2 hM rfl rfl rfl
set_option maxHeartbeats 4000000 in
theorem s86_0_ff {n L : Nat} {σ : Ks} {g : List Nat} {cl : Bool} {p1 : Int32} {p2 : Int32} {p3 : Int32} {p4 : Int32} {p5 : Int32} {x1 : Nat} {x2 : Nat} {r3 : Int32} {σ6 : Ks} {c6 : Bool} {x7 : Nat} {σ8 : Ks} {c8 : Bool} {σ9 : Ks} {c9 : Bool} (hn : 2 ≤ n ∧ n ≤ 5) (z1 : zix p2 n = some x1) (z2 : zix p1 n = some x2) (c3_ : ZR 38 0 [.val (.ref (kad n (14, 2 * x1, x2))), .val (.int p3), .unset] [] (khp n L σ g) true (.inl (some (.int r3)), khp n L σ g, true)) (h4 : zcnd .ne r3 0 = false) (h5 : zcnd .eq (Int32.ofInt 1) 0 = false) (c6_ : ZR 87 0 [.val (.ref (kad n (14, 2 * x1, x2))), .val (.int p3), .unset] [] (khp n L σ g) true (.inl (none), khp n L σ6 g, c6)) (z7 : zix p4 4 = some x7) (c8_ : ZR 15 0 [.val (.ref (kad n (2, x1, 0)))] [] (khp n L (kup σ6 (2 * x1) x7 ((σ6 (2 * x1) x7) + p5)) g) true (.inl (none), khp n L σ8 g, c8)) (c9_ : ZR 70 0 [.val (.ref (kad n (20, 0, 0))), .val (.int (Int32.ofInt 1)), .val (.int p2), .val (.int p1), .val (.int p3), .val (.int (Int32.ofInt (-1))), .val (.int (Int32.ofInt (-1))), .unset] [] (khp n L σ8 g) true (.inl (none), khp n L σ9 g, c9)) : ZR 86 0 [.val (.ref (kad n (0, 0, 0))), .val (.int p1), .val (.int p2), .val (.int p3), .val (.int p4), .val (.int p5), .unset, .unset, .unset] [] (khp n L σ g) cl (.inl (some (.int (Int32.ofInt 1))), khp n L σ9 (g), false) := by
  have hM : zmi[86]? = some _ := rfl
  have l1 := (zix_some z1).2.2
  have l2 := (zix_some z2).2.2
  have l7 := (zix_some z7).2.2
  refine zr_fr hM rfl rfl rfl ?_
  refine zr_getf (κ := (0, 0, 0)) hn hM rfl rfl rfl rfl ?_
  refine zr_fr hM rfl rfl rfl ?_
  refine zr_aald (κ := (1, 0, 0)) hn hM rfl rfl rfl rfl z1 ?_
  refine zr_getf (κ := (2, x1, 0)) hn hM rfl (kokT (by omega)) rfl rfl ?_
  refine zr_fr hM rfl rfl rfl ?_
  refine zr_fr hM rfl rfl rfl ?_
  refine zr_getf (κ := (3, 2 * x1, 0)) hn hM rfl (kokB rfl (by omega)) rfl rfl ?_
  refine zr_fr hM rfl rfl rfl ?_
  refine zr_aald (κ := (13, 2 * x1, 0)) hn hM rfl (kokB rfl (by omega)) rfl rfl z2 ?_
  refine zr_fr hM rfl rfl rfl ?_
  refine zr_fr hM rfl rfl rfl ?_
  refine zr_fr hM rfl rfl rfl ?_
  refine zr_virt (κ := (14, 2 * x1, x2)) hn hM rfl rfl rfl rfl rfl rfl (kokP rfl (by omega) (by omega)) rfl rfl ?_
  refine zgo_ret rfl rfl c3_ ?_
  rw [Bool.and_true]
  refine zr_iff hM rfl rfl h4 ?_
  refine zr_fr hM rfl rfl rfl ?_
  refine zr_fr hM rfl rfl rfl ?_
  refine zr_fr hM rfl rfl rfl ?_
  refine zr_fr hM rfl rfl rfl ?_
  refine zr_iff hM rfl rfl h5 ?_
  refine zr_fr hM rfl rfl rfl ?_
  refine zr_fr hM rfl rfl rfl ?_
  refine zr_virt (κ := (14, 2 * x1, x2)) hn hM rfl rfl rfl rfl rfl rfl (kokP rfl (by omega) (by omega)) rfl rfl ?_
  refine zgo_ret rfl rfl c6_ ?_
  refine zr_fr hM rfl rfl rfl ?_
  refine zr_getf (κ := (3, 2 * x1, 0)) hn hM rfl (kokB rfl (by omega)) rfl rfl ?_
  refine zr_fr hM rfl rfl rfl ?_
  refine zr_fr hM rfl rfl rfl ?_
  refine zr_iald (κ := (4, 2 * x1, 0)) hn hM rfl (kokB rfl (by omega)) rfl z7 ?_
  refine zr_fr hM rfl rfl rfl ?_
  refine zr_fr hM rfl rfl rfl ?_
  refine zr_iast (κ := (4, 2 * x1, 0)) hn hM rfl (kokB rfl (by omega)) rfl rfl z7 rfl ?_
  refine zr_fr hM rfl rfl rfl ?_
  refine zr_getf (κ := (0, 0, 0)) hn hM rfl rfl rfl rfl ?_
  refine zr_fr hM rfl rfl rfl ?_
  refine zr_aald (κ := (1, 0, 0)) hn hM rfl rfl rfl rfl z1 ?_
  refine zr_virt (κ := (2, x1, 0)) hn hM rfl rfl rfl rfl rfl rfl (kokT (by omega)) rfl rfl ?_
  refine zgo_ret rfl rfl c8_ ?_
  rw [Bool.false_and]
  refine zr_fr hM rfl rfl rfl ?_
  refine zr_getf (κ := (0, 0, 0)) hn hM rfl rfl rfl rfl ?_
  refine zr_fr hM rfl rfl rfl ?_
  refine zr_fr hM rfl rfl rfl ?_
  refine zr_fr hM rfl rfl rfl ?_
  refine zr_fr hM rfl rfl rfl ?_
  refine zr_fr hM rfl rfl rfl ?_
  refine zr_fr hM rfl rfl rfl ?_
  refine zr_virt (κ := (20, 0, 0)) hn hM rfl rfl rfl rfl rfl rfl rfl rfl rfl ?_
  refine zgo_ret rfl rfl c9_ ?_
  rw [Bool.false_and]
  refine zr_fr hM rfl rfl rfl ?_
  exact zr_zret2 hM rfl rfl (by decide) rfl
set_option maxHeartbeats 4000000 in
theorem s86_0_ft {n L : Nat} {σ : Ks} {g : List Nat} {cl : Bool} {p1 : Int32} {p2 : Int32} {p3 : Int32} {p4 : Int32} {p5 : Int32} {x1 : Nat} {x2 : Nat} {r3 : Int32} {σ6 : Ks} {c6 : Bool} (hn : 2 ≤ n ∧ n ≤ 5) (z1 : zix p2 n = some x1) (z2 : zix p1 n = some x2) (c3_ : ZR 38 0 [.val (.ref (kad n (14, 2 * x1, x2))), .val (.int p3), .unset] [] (khp n L σ g) true (.inl (some (.int r3)), khp n L σ g, true)) (h4 : zcnd .ne r3 0 = false) (h5 : zcnd .eq (Int32.ofInt 1) 0 = true) (c6_ : ZR 70 0 [.val (.ref (kad n (20, 0, 0))), .val (.int (Int32.ofInt 1)), .val (.int p2), .val (.int p1), .val (.int p3), .val (.int (Int32.ofInt (-1))), .val (.int (Int32.ofInt (-1))), .unset] [] (khp n L σ g) true (.inl (none), khp n L σ6 g, c6)) : ZR 86 0 [.val (.ref (kad n (0, 0, 0))), .val (.int p1), .val (.int p2), .val (.int p3), .val (.int p4), .val (.int p5), .unset, .unset, .unset] [] (khp n L σ g) cl (.inl (some (.int (Int32.ofInt 1))), khp n L σ6 (g), cl && c6) := by
  have hM : zmi[86]? = some _ := rfl
  have l1 := (zix_some z1).2.2
  have l2 := (zix_some z2).2.2
  refine zr_fr hM rfl rfl rfl ?_
  refine zr_getf (κ := (0, 0, 0)) hn hM rfl rfl rfl rfl ?_
  refine zr_fr hM rfl rfl rfl ?_
  refine zr_aald (κ := (1, 0, 0)) hn hM rfl rfl rfl rfl z1 ?_
  refine zr_getf (κ := (2, x1, 0)) hn hM rfl (kokT (by omega)) rfl rfl ?_
  refine zr_fr hM rfl rfl rfl ?_
  refine zr_fr hM rfl rfl rfl ?_
  refine zr_getf (κ := (3, 2 * x1, 0)) hn hM rfl (kokB rfl (by omega)) rfl rfl ?_
  refine zr_fr hM rfl rfl rfl ?_
  refine zr_aald (κ := (13, 2 * x1, 0)) hn hM rfl (kokB rfl (by omega)) rfl rfl z2 ?_
  refine zr_fr hM rfl rfl rfl ?_
  refine zr_fr hM rfl rfl rfl ?_
  refine zr_fr hM rfl rfl rfl ?_
  refine zr_virt (κ := (14, 2 * x1, x2)) hn hM rfl rfl rfl rfl rfl rfl (kokP rfl (by omega) (by omega)) rfl rfl ?_
  refine zgo_ret rfl rfl c3_ ?_
  rw [Bool.and_true]
  refine zr_iff hM rfl rfl h4 ?_
  refine zr_fr hM rfl rfl rfl ?_
  refine zr_fr hM rfl rfl rfl ?_
  refine zr_fr hM rfl rfl rfl ?_
  refine zr_fr hM rfl rfl rfl ?_
  refine zr_ift hM rfl rfl h5 ?_
  refine zr_fr hM rfl rfl rfl ?_
  refine zr_getf (κ := (0, 0, 0)) hn hM rfl rfl rfl rfl ?_
  refine zr_fr hM rfl rfl rfl ?_
  refine zr_fr hM rfl rfl rfl ?_
  refine zr_fr hM rfl rfl rfl ?_
  refine zr_fr hM rfl rfl rfl ?_
  refine zr_fr hM rfl rfl rfl ?_
  refine zr_fr hM rfl rfl rfl ?_
  refine zr_virt (κ := (20, 0, 0)) hn hM rfl rfl rfl rfl rfl rfl rfl rfl rfl ?_
  refine zgo_ret rfl rfl c6_ ?_
  refine zr_fr hM rfl rfl rfl ?_
  exact zr_zret2 hM rfl rfl (by decide) rfl
set_option maxHeartbeats 4000000 in
theorem s86_0_tf {n L : Nat} {σ : Ks} {g : List Nat} {cl : Bool} {p1 : Int32} {p2 : Int32} {p3 : Int32} {p4 : Int32} {p5 : Int32} {x1 : Nat} {x2 : Nat} {r3 : Int32} {σ6 : Ks} {c6 : Bool} {x7 : Nat} {σ8 : Ks} {c8 : Bool} {σ9 : Ks} {c9 : Bool} (hn : 2 ≤ n ∧ n ≤ 5) (z1 : zix p2 n = some x1) (z2 : zix p1 n = some x2) (c3_ : ZR 38 0 [.val (.ref (kad n (14, 2 * x1, x2))), .val (.int p3), .unset] [] (khp n L σ g) true (.inl (some (.int r3)), khp n L σ g, true)) (h4 : zcnd .ne r3 0 = true) (h5 : zcnd .eq (Int32.ofInt 0) 0 = false) (c6_ : ZR 87 0 [.val (.ref (kad n (14, 2 * x1, x2))), .val (.int p3), .unset] [] (khp n L σ g) true (.inl (none), khp n L σ6 g, c6)) (z7 : zix p4 4 = some x7) (c8_ : ZR 15 0 [.val (.ref (kad n (2, x1, 0)))] [] (khp n L (kup σ6 (2 * x1) x7 ((σ6 (2 * x1) x7) + p5)) g) true (.inl (none), khp n L σ8 g, c8)) (c9_ : ZR 70 0 [.val (.ref (kad n (20, 0, 0))), .val (.int (Int32.ofInt 1)), .val (.int p2), .val (.int p1), .val (.int p3), .val (.int (Int32.ofInt (-1))), .val (.int (Int32.ofInt (-1))), .unset] [] (khp n L σ8 g) true (.inl (none), khp n L σ9 g, c9)) : ZR 86 0 [.val (.ref (kad n (0, 0, 0))), .val (.int p1), .val (.int p2), .val (.int p3), .val (.int p4), .val (.int p5), .unset, .unset, .unset] [] (khp n L σ g) cl (.inl (some (.int (Int32.ofInt 0))), khp n L σ9 (g), false) := by
  have hM : zmi[86]? = some _ := rfl
  have l1 := (zix_some z1).2.2
  have l2 := (zix_some z2).2.2
  have l7 := (zix_some z7).2.2
  refine zr_fr hM rfl rfl rfl ?_
  refine zr_getf (κ := (0, 0, 0)) hn hM rfl rfl rfl rfl ?_
  refine zr_fr hM rfl rfl rfl ?_
  refine zr_aald (κ := (1, 0, 0)) hn hM rfl rfl rfl rfl z1 ?_
  refine zr_getf (κ := (2, x1, 0)) hn hM rfl (kokT (by omega)) rfl rfl ?_
  refine zr_fr hM rfl rfl rfl ?_
  refine zr_fr hM rfl rfl rfl ?_
  refine zr_getf (κ := (3, 2 * x1, 0)) hn hM rfl (kokB rfl (by omega)) rfl rfl ?_
  refine zr_fr hM rfl rfl rfl ?_
  refine zr_aald (κ := (13, 2 * x1, 0)) hn hM rfl (kokB rfl (by omega)) rfl rfl z2 ?_
  refine zr_fr hM rfl rfl rfl ?_
  refine zr_fr hM rfl rfl rfl ?_
  refine zr_fr hM rfl rfl rfl ?_
  refine zr_virt (κ := (14, 2 * x1, x2)) hn hM rfl rfl rfl rfl rfl rfl (kokP rfl (by omega) (by omega)) rfl rfl ?_
  refine zgo_ret rfl rfl c3_ ?_
  rw [Bool.and_true]
  refine zr_ift hM rfl rfl h4 ?_
  refine zr_fr hM rfl rfl rfl ?_
  refine zr_fr hM rfl rfl rfl ?_
  refine zr_fr hM rfl rfl rfl ?_
  refine zr_iff hM rfl rfl h5 ?_
  refine zr_fr hM rfl rfl rfl ?_
  refine zr_fr hM rfl rfl rfl ?_
  refine zr_virt (κ := (14, 2 * x1, x2)) hn hM rfl rfl rfl rfl rfl rfl (kokP rfl (by omega) (by omega)) rfl rfl ?_
  refine zgo_ret rfl rfl c6_ ?_
  refine zr_fr hM rfl rfl rfl ?_
  refine zr_getf (κ := (3, 2 * x1, 0)) hn hM rfl (kokB rfl (by omega)) rfl rfl ?_
  refine zr_fr hM rfl rfl rfl ?_
  refine zr_fr hM rfl rfl rfl ?_
  refine zr_iald (κ := (4, 2 * x1, 0)) hn hM rfl (kokB rfl (by omega)) rfl z7 ?_
  refine zr_fr hM rfl rfl rfl ?_
  refine zr_fr hM rfl rfl rfl ?_
  refine zr_iast (κ := (4, 2 * x1, 0)) hn hM rfl (kokB rfl (by omega)) rfl rfl z7 rfl ?_
  refine zr_fr hM rfl rfl rfl ?_
  refine zr_getf (κ := (0, 0, 0)) hn hM rfl rfl rfl rfl ?_
  refine zr_fr hM rfl rfl rfl ?_
  refine zr_aald (κ := (1, 0, 0)) hn hM rfl rfl rfl rfl z1 ?_
  refine zr_virt (κ := (2, x1, 0)) hn hM rfl rfl rfl rfl rfl rfl (kokT (by omega)) rfl rfl ?_
  refine zgo_ret rfl rfl c8_ ?_
  rw [Bool.false_and]
  refine zr_fr hM rfl rfl rfl ?_
  refine zr_getf (κ := (0, 0, 0)) hn hM rfl rfl rfl rfl ?_
  refine zr_fr hM rfl rfl rfl ?_
  refine zr_fr hM rfl rfl rfl ?_
  refine zr_fr hM rfl rfl rfl ?_
  refine zr_fr hM rfl rfl rfl ?_
  refine zr_fr hM rfl rfl rfl ?_
  refine zr_fr hM rfl rfl rfl ?_
  refine zr_virt (κ := (20, 0, 0)) hn hM rfl rfl rfl rfl rfl rfl rfl rfl rfl ?_
  refine zgo_ret rfl rfl c9_ ?_
  rw [Bool.false_and]
  refine zr_fr hM rfl rfl rfl ?_
  exact zr_zret2 hM rfl rfl (by decide) rfl
set_option maxHeartbeats 4000000 in
theorem s86_0_tt {n L : Nat} {σ : Ks} {g : List Nat} {cl : Bool} {p1 : Int32} {p2 : Int32} {p3 : Int32} {p4 : Int32} {p5 : Int32} {x1 : Nat} {x2 : Nat} {r3 : Int32} {σ6 : Ks} {c6 : Bool} (hn : 2 ≤ n ∧ n ≤ 5) (z1 : zix p2 n = some x1) (z2 : zix p1 n = some x2) (c3_ : ZR 38 0 [.val (.ref (kad n (14, 2 * x1, x2))), .val (.int p3), .unset] [] (khp n L σ g) true (.inl (some (.int r3)), khp n L σ g, true)) (h4 : zcnd .ne r3 0 = true) (h5 : zcnd .eq (Int32.ofInt 0) 0 = true) (c6_ : ZR 70 0 [.val (.ref (kad n (20, 0, 0))), .val (.int (Int32.ofInt 1)), .val (.int p2), .val (.int p1), .val (.int p3), .val (.int (Int32.ofInt (-1))), .val (.int (Int32.ofInt (-1))), .unset] [] (khp n L σ g) true (.inl (none), khp n L σ6 g, c6)) : ZR 86 0 [.val (.ref (kad n (0, 0, 0))), .val (.int p1), .val (.int p2), .val (.int p3), .val (.int p4), .val (.int p5), .unset, .unset, .unset] [] (khp n L σ g) cl (.inl (some (.int (Int32.ofInt 0))), khp n L σ6 (g), cl && c6) := by
  have hM : zmi[86]? = some _ := rfl
  have l1 := (zix_some z1).2.2
  have l2 := (zix_some z2).2.2
  refine zr_fr hM rfl rfl rfl ?_
  refine zr_getf (κ := (0, 0, 0)) hn hM rfl rfl rfl rfl ?_
  refine zr_fr hM rfl rfl rfl ?_
  refine zr_aald (κ := (1, 0, 0)) hn hM rfl rfl rfl rfl z1 ?_
  refine zr_getf (κ := (2, x1, 0)) hn hM rfl (kokT (by omega)) rfl rfl ?_
  refine zr_fr hM rfl rfl rfl ?_
  refine zr_fr hM rfl rfl rfl ?_
  refine zr_getf (κ := (3, 2 * x1, 0)) hn hM rfl (kokB rfl (by omega)) rfl rfl ?_
  refine zr_fr hM rfl rfl rfl ?_
  refine zr_aald (κ := (13, 2 * x1, 0)) hn hM rfl (kokB rfl (by omega)) rfl rfl z2 ?_
  refine zr_fr hM rfl rfl rfl ?_
  refine zr_fr hM rfl rfl rfl ?_
  refine zr_fr hM rfl rfl rfl ?_
  refine zr_virt (κ := (14, 2 * x1, x2)) hn hM rfl rfl rfl rfl rfl rfl (kokP rfl (by omega) (by omega)) rfl rfl ?_
  refine zgo_ret rfl rfl c3_ ?_
  rw [Bool.and_true]
  refine zr_ift hM rfl rfl h4 ?_
  refine zr_fr hM rfl rfl rfl ?_
  refine zr_fr hM rfl rfl rfl ?_
  refine zr_fr hM rfl rfl rfl ?_
  refine zr_ift hM rfl rfl h5 ?_
  refine zr_fr hM rfl rfl rfl ?_
  refine zr_getf (κ := (0, 0, 0)) hn hM rfl rfl rfl rfl ?_
  refine zr_fr hM rfl rfl rfl ?_
  refine zr_fr hM rfl rfl rfl ?_
  refine zr_fr hM rfl rfl rfl ?_
  refine zr_fr hM rfl rfl rfl ?_
  refine zr_fr hM rfl rfl rfl ?_
  refine zr_fr hM rfl rfl rfl ?_
  refine zr_virt (κ := (20, 0, 0)) hn hM rfl rfl rfl rfl rfl rfl rfl rfl rfl ?_
  refine zgo_ret rfl rfl c6_ ?_
  refine zr_fr hM rfl rfl rfl ?_
  exact zr_zret2 hM rfl rfl (by decide) rfl
set_option maxHeartbeats 4000000 in
theorem s87_0_r {n L : Nat} {σ : Ks} {g : List Nat} {cl : Bool} {r : Zr} {b : Nat} {o : Nat} {p1 : Int32} (hn : 2 ≤ n ∧ n ≤ 5) (hb : b < 2 * n) (ho : o < n) (k : ZR 87 19 [.val (.ref (kad n (14, b, o))), .val (.int p1), .val (.int (Int32.ofInt 0))] [] (khp n L (kup σ b (44 + 24 * o + 15) ((σ b (44 + 24 * o + 15)) ||| ((Int32.ofInt 1) <<< ((p1 - (σ b (44 + 24 * o + 14))) &&& 31)))) (g)) false r) : ZR 87 0 [.val (.ref (kad n (14, b, o))), .val (.int p1), .unset] [] (khp n L σ g) cl r := by
  have hM : zmi[87]? = some _ := rfl
  refine zr_fr hM rfl rfl rfl ?_
  refine zr_fr hM rfl rfl rfl ?_
  refine zr_getf (κ := (14, b, o)) hn hM rfl (kokP rfl (by omega) (by omega)) rfl rfl ?_
  refine zr_fr hM rfl rfl rfl ?_
  refine zr_fr hM rfl rfl rfl ?_
  refine zr_fr hM rfl rfl rfl ?_
  refine zr_getf (κ := (14, b, o)) hn hM rfl (kokP rfl (by omega) (by omega)) rfl rfl ?_
  refine zr_fr hM rfl rfl rfl ?_
  refine zr_fr hM rfl rfl rfl ?_
  refine zr_fr hM rfl rfl rfl ?_
  refine zr_putf (κ := (14, b, o)) hn hM rfl (kokP rfl (by omega) (by omega)) rfl rfl rfl rfl rfl rfl ?_
  refine zr_fr hM rfl rfl rfl ?_
  refine zr_fr hM rfl rfl rfl ?_
  exact k
set_option maxHeartbeats 4000000 in
theorem s87_19_ff {n L : Nat} {σ : Ks} {g : List Nat} {cl : Bool} {r : Zr} {b : Nat} {o : Nat} {v1 : Int32} {v2 : Int32} (hn : 2 ≤ n ∧ n ≤ 5) (hb : b < 2 * n) (ho : o < n) (h1 : zcnd .ge v2 ((Int8.ofInt 16).toInt32) = false) (h2 : zcnd .eq ((σ b (44 + 24 * o + 15)) &&& (Int32.ofInt 1)) 0 = false) (k : ZR 87 19 [.val (.ref (kad n (14, b, o))), .val (.int v1), .val (.int (v2 + Int32.ofInt 1))] [] (khp n L (kup (kup σ b (44 + 24 * o + 15) (((σ b (44 + 24 * o + 15)).toUInt32 >>> ((Int32.ofInt 1).toUInt32 &&& Int32.toUInt32 31)).toInt32)) b (44 + 24 * o + 14) (((kup σ b (44 + 24 * o + 15) (((σ b (44 + 24 * o + 15)).toUInt32 >>> ((Int32.ofInt 1).toUInt32 &&& Int32.toUInt32 31)).toInt32)) b (44 + 24 * o + 14)) + (Int32.ofInt 1))) (g)) false r) : ZR 87 19 [.val (.ref (kad n (14, b, o))), .val (.int v1), .val (.int v2)] [] (khp n L σ g) cl r := by
  have hM : zmi[87]? = some _ := rfl
  refine zr_fr hM rfl rfl rfl ?_
  refine zr_fr hM rfl rfl rfl ?_
  refine zr_icf hM rfl rfl h1 ?_
  refine zr_fr hM rfl rfl rfl ?_
  refine zr_getf (κ := (14, b, o)) hn hM rfl (kokP rfl (by omega) (by omega)) rfl rfl ?_
  refine zr_fr hM rfl rfl rfl ?_
  refine zr_fr hM rfl rfl rfl ?_
  refine zr_iff hM rfl rfl h2 ?_
  refine zr_fr hM rfl rfl rfl ?_
  refine zr_fr hM rfl rfl rfl ?_
  refine zr_getf (κ := (14, b, o)) hn hM rfl (kokP rfl (by omega) (by omega)) rfl rfl ?_
  refine zr_fr hM rfl rfl rfl ?_
  refine zr_fr hM rfl rfl rfl ?_
  refine zr_putf (κ := (14, b, o)) hn hM rfl (kokP rfl (by omega) (by omega)) rfl rfl rfl rfl rfl rfl ?_
  refine zr_fr hM rfl rfl rfl ?_
  refine zr_fr hM rfl rfl rfl ?_
  refine zr_getf (κ := (14, b, o)) hn hM rfl (kokP rfl (by omega) (by omega)) rfl rfl ?_
  refine zr_fr hM rfl rfl rfl ?_
  refine zr_fr hM rfl rfl rfl ?_
  refine zr_putf (κ := (14, b, o)) hn hM rfl (kokP rfl (by omega) (by omega)) rfl rfl rfl rfl rfl rfl ?_
  refine zr_fr hM rfl rfl rfl ?_
  refine zr_fr hM rfl rfl rfl ?_
  exact k
set_option maxHeartbeats 4000000 in
theorem s87_19_ft {n L : Nat} {σ : Ks} {g : List Nat} {cl : Bool} {b : Nat} {o : Nat} {v1 : Int32} {v2 : Int32} (hn : 2 ≤ n ∧ n ≤ 5) (hb : b < 2 * n) (ho : o < n) (h1 : zcnd .ge v2 ((Int8.ofInt 16).toInt32) = false) (h2 : zcnd .eq ((σ b (44 + 24 * o + 15)) &&& (Int32.ofInt 1)) 0 = true) : ZR 87 19 [.val (.ref (kad n (14, b, o))), .val (.int v1), .val (.int v2)] [] (khp n L σ g) cl (.inl (none), khp n L σ (g), cl) := by
  have hM : zmi[87]? = some _ := rfl
  refine zr_fr hM rfl rfl rfl ?_
  refine zr_fr hM rfl rfl rfl ?_
  refine zr_icf hM rfl rfl h1 ?_
  refine zr_fr hM rfl rfl rfl ?_
  refine zr_getf (κ := (14, b, o)) hn hM rfl (kokP rfl (by omega) (by omega)) rfl rfl ?_
  refine zr_fr hM rfl rfl rfl ?_
  refine zr_fr hM rfl rfl rfl ?_
  refine zr_ift hM rfl rfl h2 ?_
  exact zr_vret2 hM rfl rfl rfl
set_option maxHeartbeats 4000000 in
theorem s87_19_t {n L : Nat} {σ : Ks} {g : List Nat} {cl : Bool} {b : Nat} {o : Nat} {v1 : Int32} {v2 : Int32} (hn : 2 ≤ n ∧ n ≤ 5) (hb : b < 2 * n) (ho : o < n) (h1 : zcnd .ge v2 ((Int8.ofInt 16).toInt32) = true) : ZR 87 19 [.val (.ref (kad n (14, b, o))), .val (.int v1), .val (.int v2)] [] (khp n L σ g) cl (.inl (none), khp n L σ (g), cl) := by
  have hM : zmi[87]? = some _ := rfl
  refine zr_fr hM rfl rfl rfl ?_
  refine zr_fr hM rfl rfl rfl ?_
  refine zr_ict hM rfl rfl h1 ?_
  exact zr_vret2 hM rfl rfl rfl
set_option maxHeartbeats 4000000 in
theorem s88_0_r {n L : Nat} {σ : Ks} {g : List Nat} {cl : Bool} {r : Zr} {b : Nat} {o : Nat} {p1 : Int32} (hn : 2 ≤ n ∧ n ≤ 5) (hb : b < 2 * n) (ho : o < n) (k : ZR 88 2 [.val (.ref (kad n (14, b, o))), .val (.int p1), .val (.int (Int32.ofInt 0))] [] (khp n L σ (g)) cl r) : ZR 88 0 [.val (.ref (kad n (14, b, o))), .val (.int p1), .unset] [] (khp n L σ g) cl r := by
  have hM : zmi[88]? = some _ := rfl
  refine zr_fr hM rfl rfl rfl ?_
  refine zr_fr hM rfl rfl rfl ?_
  exact k
set_option maxHeartbeats 4000000 in
theorem s88_2_ff {n L : Nat} {σ : Ks} {g : List Nat} {cl : Bool} {b : Nat} {o : Nat} {v1 : Int32} {v2 : Int32} {x2 : Nat} {σ4 : Ks} {c4 : Bool} (hn : 2 ≤ n ∧ n ≤ 5) (hb : b < 2 * n) (ho : o < n) (h1 : zcnd .ge v2 (σ b (44 + 24 * o + 1)) = false) (z2 : zix v2 4 = some x2) (h3 : zcnd .ne (σ b (44 + 24 * o + 2 + 3 * x2)) v1 = false) (c4_ : ZR 89 0 [.val (.ref (kad n (14, b, o))), .val (.int v2), .unset] [] (khp n L σ g) true (.inl (none), khp n L σ4 g, c4)) : ZR 88 2 [.val (.ref (kad n (14, b, o))), .val (.int v1), .val (.int v2)] [] (khp n L σ g) cl (.inl (some (.int (Int32.ofInt 1))), khp n L σ4 (g), cl && c4) := by
  have hM : zmi[88]? = some _ := rfl
  have l2 := (zix_some z2).2.2
  refine zr_fr hM rfl rfl rfl ?_
  refine zr_fr hM rfl rfl rfl ?_
  refine zr_getf (κ := (14, b, o)) hn hM rfl (kokP rfl (by omega) (by omega)) rfl rfl ?_
  refine zr_icf hM rfl rfl h1 ?_
  refine zr_fr hM rfl rfl rfl ?_
  refine zr_getf (κ := (14, b, o)) hn hM rfl (kokP rfl (by omega) (by omega)) rfl rfl ?_
  refine zr_fr hM rfl rfl rfl ?_
  refine zr_iald (κ := (15, b, o)) hn hM rfl (kokP rfl (by omega) (by omega)) rfl z2 ?_
  refine zr_fr hM rfl rfl rfl ?_
  refine zr_icf hM rfl rfl h3 ?_
  refine zr_fr hM rfl rfl rfl ?_
  refine zr_fr hM rfl rfl rfl ?_
  refine zr_virt (κ := (14, b, o)) hn hM rfl rfl rfl rfl rfl rfl (kokP rfl (by omega) (by omega)) rfl rfl ?_
  refine zgo_ret rfl rfl c4_ ?_
  refine zr_fr hM rfl rfl rfl ?_
  exact zr_zret2 hM rfl rfl (by decide) rfl
set_option maxHeartbeats 4000000 in
theorem s88_2_ft {n L : Nat} {σ : Ks} {g : List Nat} {cl : Bool} {r : Zr} {b : Nat} {o : Nat} {v1 : Int32} {v2 : Int32} {x2 : Nat} (hn : 2 ≤ n ∧ n ≤ 5) (hb : b < 2 * n) (ho : o < n) (h1 : zcnd .ge v2 (σ b (44 + 24 * o + 1)) = false) (z2 : zix v2 4 = some x2) (h3 : zcnd .ne (σ b (44 + 24 * o + 2 + 3 * x2)) v1 = true) (k : ZR 88 2 [.val (.ref (kad n (14, b, o))), .val (.int v1), .val (.int (v2 + Int32.ofInt 1))] [] (khp n L σ (g)) cl r) : ZR 88 2 [.val (.ref (kad n (14, b, o))), .val (.int v1), .val (.int v2)] [] (khp n L σ g) cl r := by
  have hM : zmi[88]? = some _ := rfl
  have l2 := (zix_some z2).2.2
  refine zr_fr hM rfl rfl rfl ?_
  refine zr_fr hM rfl rfl rfl ?_
  refine zr_getf (κ := (14, b, o)) hn hM rfl (kokP rfl (by omega) (by omega)) rfl rfl ?_
  refine zr_icf hM rfl rfl h1 ?_
  refine zr_fr hM rfl rfl rfl ?_
  refine zr_getf (κ := (14, b, o)) hn hM rfl (kokP rfl (by omega) (by omega)) rfl rfl ?_
  refine zr_fr hM rfl rfl rfl ?_
  refine zr_iald (κ := (15, b, o)) hn hM rfl (kokP rfl (by omega) (by omega)) rfl z2 ?_
  refine zr_fr hM rfl rfl rfl ?_
  refine zr_ict hM rfl rfl h3 ?_
  refine zr_fr hM rfl rfl rfl ?_
  refine zr_fr hM rfl rfl rfl ?_
  exact k
set_option maxHeartbeats 4000000 in
theorem s88_2_t {n L : Nat} {σ : Ks} {g : List Nat} {cl : Bool} {b : Nat} {o : Nat} {v1 : Int32} {v2 : Int32} (hn : 2 ≤ n ∧ n ≤ 5) (hb : b < 2 * n) (ho : o < n) (h1 : zcnd .ge v2 (σ b (44 + 24 * o + 1)) = true) : ZR 88 2 [.val (.ref (kad n (14, b, o))), .val (.int v1), .val (.int v2)] [] (khp n L σ g) cl (.inl (some (.int (Int32.ofInt 0))), khp n L σ (g), cl) := by
  have hM : zmi[88]? = some _ := rfl
  refine zr_fr hM rfl rfl rfl ?_
  refine zr_fr hM rfl rfl rfl ?_
  refine zr_getf (κ := (14, b, o)) hn hM rfl (kokP rfl (by omega) (by omega)) rfl rfl ?_
  refine zr_ict hM rfl rfl h1 ?_
  refine zr_fr hM rfl rfl rfl ?_
  exact zr_zret2 hM rfl rfl (by decide) rfl
set_option maxHeartbeats 4000000 in
theorem s89_0_r {n L : Nat} {σ : Ks} {g : List Nat} {cl : Bool} {r : Zr} {b : Nat} {o : Nat} {p1 : Int32} (hn : 2 ≤ n ∧ n ≤ 5) (hb : b < 2 * n) (ho : o < n) (k : ZR 89 12 [.val (.ref (kad n (14, b, o))), .val (.int p1), .val (.int p1)] [] (khp n L (kup σ b (44 + 24 * o + 1) ((σ b (44 + 24 * o + 1)) - (Int32.ofInt 1))) (g)) false r) : ZR 89 0 [.val (.ref (kad n (14, b, o))), .val (.int p1), .unset] [] (khp n L σ g) cl r := by
  have hM : zmi[89]? = some _ := rfl
  refine zr_fr hM rfl rfl rfl ?_
  refine zr_fr hM rfl rfl rfl ?_
  refine zr_getf (κ := (14, b, o)) hn hM rfl (kokP rfl (by omega) (by omega)) rfl rfl ?_
  refine zr_fr hM rfl rfl rfl ?_
  refine zr_fr hM rfl rfl rfl ?_
  refine zr_putf (κ := (14, b, o)) hn hM rfl (kokP rfl (by omega) (by omega)) rfl rfl rfl rfl rfl rfl ?_
  refine zr_fr hM rfl rfl rfl ?_
  refine zr_fr hM rfl rfl rfl ?_
  exact k
set_option maxHeartbeats 4000000 in
theorem s89_12_f {n L : Nat} {σ : Ks} {g : List Nat} {cl : Bool} {r : Zr} {b : Nat} {o : Nat} {v1 : Int32} {v2 : Int32} {x2 : Nat} {x3 : Nat} (hn : 2 ≤ n ∧ n ≤ 5) (hb : b < 2 * n) (ho : o < n) (h1 : zcnd .ge v2 (σ b (44 + 24 * o + 1)) = false) (z2 : zix (v2 + (Int32.ofInt 1)) 4 = some x2) (z3 : zix v2 4 = some x3) (k : ZR 89 12 [.val (.ref (kad n (14, b, o))), .val (.int v1), .val (.int (v2 + Int32.ofInt 1))] [] (khp n L (kup (kup (kup σ b (44 + 24 * o + 2 + 3 * x3) (σ b (44 + 24 * o + 2 + 3 * x2))) b (44 + 24 * o + 2 + 3 * x3 + 1) ((kup σ b (44 + 24 * o + 2 + 3 * x3) (σ b (44 + 24 * o + 2 + 3 * x2))) b (44 + 24 * o + 2 + 3 * x2 + 1))) b (44 + 24 * o + 2 + 3 * x3 + 2) ((kup (kup σ b (44 + 24 * o + 2 + 3 * x3) (σ b (44 + 24 * o + 2 + 3 * x2))) b (44 + 24 * o + 2 + 3 * x3 + 1) ((kup σ b (44 + 24 * o + 2 + 3 * x3) (σ b (44 + 24 * o + 2 + 3 * x2))) b (44 + 24 * o + 2 + 3 * x2 + 1))) b (44 + 24 * o + 2 + 3 * x2 + 2))) (g)) false r) : ZR 89 12 [.val (.ref (kad n (14, b, o))), .val (.int v1), .val (.int v2)] [] (khp n L σ g) cl r := by
  have hM : zmi[89]? = some _ := rfl
  have l2 := (zix_some z2).2.2
  have l3 := (zix_some z3).2.2
  refine zr_fr hM rfl rfl rfl ?_
  refine zr_fr hM rfl rfl rfl ?_
  refine zr_getf (κ := (14, b, o)) hn hM rfl (kokP rfl (by omega) (by omega)) rfl rfl ?_
  refine zr_icf hM rfl rfl h1 ?_
  refine zr_fr hM rfl rfl rfl ?_
  refine zr_getf (κ := (14, b, o)) hn hM rfl (kokP rfl (by omega) (by omega)) rfl rfl ?_
  refine zr_fr hM rfl rfl rfl ?_
  refine zr_fr hM rfl rfl rfl ?_
  refine zr_getf (κ := (14, b, o)) hn hM rfl (kokP rfl (by omega) (by omega)) rfl rfl ?_
  refine zr_fr hM rfl rfl rfl ?_
  refine zr_fr hM rfl rfl rfl ?_
  refine zr_fr hM rfl rfl rfl ?_
  refine zr_iald (κ := (15, b, o)) hn hM rfl (kokP rfl (by omega) (by omega)) rfl z2 ?_
  refine zr_iast (κ := (15, b, o)) hn hM rfl (kokP rfl (by omega) (by omega)) rfl rfl z3 rfl ?_
  refine zr_fr hM rfl rfl rfl ?_
  refine zr_getf (κ := (14, b, o)) hn hM rfl (kokP rfl (by omega) (by omega)) rfl rfl ?_
  refine zr_fr hM rfl rfl rfl ?_
  refine zr_fr hM rfl rfl rfl ?_
  refine zr_getf (κ := (14, b, o)) hn hM rfl (kokP rfl (by omega) (by omega)) rfl rfl ?_
  refine zr_fr hM rfl rfl rfl ?_
  refine zr_fr hM rfl rfl rfl ?_
  refine zr_fr hM rfl rfl rfl ?_
  refine zr_iald (κ := (16, b, o)) hn hM rfl (kokP rfl (by omega) (by omega)) rfl z2 ?_
  refine zr_iast (κ := (16, b, o)) hn hM rfl (kokP rfl (by omega) (by omega)) rfl rfl z3 rfl ?_
  refine zr_fr hM rfl rfl rfl ?_
  refine zr_getf (κ := (14, b, o)) hn hM rfl (kokP rfl (by omega) (by omega)) rfl rfl ?_
  refine zr_fr hM rfl rfl rfl ?_
  refine zr_fr hM rfl rfl rfl ?_
  refine zr_getf (κ := (14, b, o)) hn hM rfl (kokP rfl (by omega) (by omega)) rfl rfl ?_
  refine zr_fr hM rfl rfl rfl ?_
  refine zr_fr hM rfl rfl rfl ?_
  refine zr_fr hM rfl rfl rfl ?_
  refine zr_iald (κ := (17, b, o)) hn hM rfl (kokP rfl (by omega) (by omega)) rfl z2 ?_
  refine zr_iast (κ := (17, b, o)) hn hM rfl (kokP rfl (by omega) (by omega)) rfl rfl z3 rfl ?_
  refine zr_fr hM rfl rfl rfl ?_
  refine zr_fr hM rfl rfl rfl ?_
  exact k
set_option maxHeartbeats 4000000 in
theorem s89_12_t {n L : Nat} {σ : Ks} {g : List Nat} {cl : Bool} {b : Nat} {o : Nat} {v1 : Int32} {v2 : Int32} (hn : 2 ≤ n ∧ n ≤ 5) (hb : b < 2 * n) (ho : o < n) (h1 : zcnd .ge v2 (σ b (44 + 24 * o + 1)) = true) : ZR 89 12 [.val (.ref (kad n (14, b, o))), .val (.int v1), .val (.int v2)] [] (khp n L σ g) cl (.inl (none), khp n L σ (g), cl) := by
  have hM : zmi[89]? = some _ := rfl
  refine zr_fr hM rfl rfl rfl ?_
  refine zr_fr hM rfl rfl rfl ?_
  refine zr_getf (κ := (14, b, o)) hn hM rfl (kokP rfl (by omega) (by omega)) rfl rfl ?_
  refine zr_ict hM rfl rfl h1 ?_
  exact zr_vret2 hM rfl rfl rfl
set_option maxHeartbeats 4000000 in
theorem s90_0_f {n L : Nat} {σ : Ks} {g : List Nat} {cl : Bool} {b : Nat} {o : Nat} {p1 : Int32} {p2 : Int32} {p3 : Int32} {x1 : Nat} (hn : 2 ≤ n ∧ n ≤ 5) (hb : b < 2 * n) (ho : o < n) (z1 : zix p1 4 = some x1) (h2 : zcnd .gt p3 (σ b (44 + 24 * o + 20 + x1)) = false) : ZR 90 0 [.val (.ref (kad n (14, b, o))), .val (.int p1), .val (.int p2), .val (.int p3)] [] (khp n L σ g) cl (.inl (some (.int (Int32.ofInt 0))), khp n L σ (g), cl) := by
  have hM : zmi[90]? = some _ := rfl
  have l1 := (zix_some z1).2.2
  refine zr_fr hM rfl rfl rfl ?_
  refine zr_fr hM rfl rfl rfl ?_
  refine zr_getf (κ := (14, b, o)) hn hM rfl (kokP rfl (by omega) (by omega)) rfl rfl ?_
  refine zr_fr hM rfl rfl rfl ?_
  refine zr_iald (κ := (19, b, o)) hn hM rfl (kokP rfl (by omega) (by omega)) rfl z1 ?_
  refine zr_icf hM rfl rfl h2 ?_
  refine zr_fr hM rfl rfl rfl ?_
  exact zr_zret2 hM rfl rfl (by decide) rfl
set_option maxHeartbeats 4000000 in
theorem s90_0_t {n L : Nat} {σ : Ks} {g : List Nat} {cl : Bool} {b : Nat} {o : Nat} {p1 : Int32} {p2 : Int32} {p3 : Int32} {x1 : Nat} (hn : 2 ≤ n ∧ n ≤ 5) (hb : b < 2 * n) (ho : o < n) (z1 : zix p1 4 = some x1) (h2 : zcnd .gt p3 (σ b (44 + 24 * o + 20 + x1)) = true) : ZR 90 0 [.val (.ref (kad n (14, b, o))), .val (.int p1), .val (.int p2), .val (.int p3)] [] (khp n L σ g) cl (.inl (some (.int (Int32.ofInt 1))), khp n L (kup (kup σ b (44 + 24 * o + 16 + x1) p2) b (44 + 24 * o + 20 + x1) p3) (g), false) := by
  have hM : zmi[90]? = some _ := rfl
  have l1 := (zix_some z1).2.2
  refine zr_fr hM rfl rfl rfl ?_
  refine zr_fr hM rfl rfl rfl ?_
  refine zr_getf (κ := (14, b, o)) hn hM rfl (kokP rfl (by omega) (by omega)) rfl rfl ?_
  refine zr_fr hM rfl rfl rfl ?_
  refine zr_iald (κ := (19, b, o)) hn hM rfl (kokP rfl (by omega) (by omega)) rfl z1 ?_
  refine zr_ict hM rfl rfl h2 ?_
  refine zr_fr hM rfl rfl rfl ?_
  refine zr_getf (κ := (14, b, o)) hn hM rfl (kokP rfl (by omega) (by omega)) rfl rfl ?_
  refine zr_fr hM rfl rfl rfl ?_
  refine zr_fr hM rfl rfl rfl ?_
  refine zr_iast (κ := (18, b, o)) hn hM rfl (kokP rfl (by omega) (by omega)) rfl rfl z1 rfl ?_
  refine zr_fr hM rfl rfl rfl ?_
  refine zr_getf (κ := (14, b, o)) hn hM rfl (kokP rfl (by omega) (by omega)) rfl rfl ?_
  refine zr_fr hM rfl rfl rfl ?_
  refine zr_fr hM rfl rfl rfl ?_
  refine zr_iast (κ := (19, b, o)) hn hM rfl (kokP rfl (by omega) (by omega)) rfl rfl z1 rfl ?_
  refine zr_fr hM rfl rfl rfl ?_
  exact zr_zret2 hM rfl rfl (by decide) rfl
set_option maxHeartbeats 4000000 in
theorem s91_0_f {n L : Nat} {σ : Ks} {g : List Nat} {cl : Bool} {p1 : Int32} {p2 : Int32} {p3 : Int32} {p4 : Int32} {r1 : Int32} (hn : 2 ≤ n ∧ n ≤ 5) (c1_ : ZR 75 0 [.val (.ref (kad n (0, 0, 0))), .val (.int p2), .val (.int p1), .val (.int p3), .val (.int p4), .unset] [] (khp n L σ g) true (.inl (some (.int r1)), khp n L σ g, true)) (h2 : zcnd .ne r1 0 = false) : ZR 91 0 [.val (.ref (kad n (0, 0, 0))), .val (.int p1), .val (.int p2), .val (.int p3), .val (.int p4)] [] (khp n L σ g) cl (.inl (some (.int (Int32.ofInt 0))), khp n L σ (g), cl) := by
  have hM : zmi[91]? = some _ := rfl
  refine zr_fr hM rfl rfl rfl ?_
  refine zr_fr hM rfl rfl rfl ?_
  refine zr_fr hM rfl rfl rfl ?_
  refine zr_fr hM rfl rfl rfl ?_
  refine zr_fr hM rfl rfl rfl ?_
  refine zr_virt (κ := (0, 0, 0)) hn hM rfl rfl rfl rfl rfl rfl rfl rfl rfl ?_
  refine zgo_ret rfl rfl c1_ ?_
  rw [Bool.and_true]
  refine zr_iff hM rfl rfl h2 ?_
  refine zr_fr hM rfl rfl rfl ?_
  exact zr_zret2 hM rfl rfl (by decide) rfl
set_option maxHeartbeats 4000000 in
theorem s91_0_t {n L : Nat} {σ : Ks} {g : List Nat} {cl : Bool} {p1 : Int32} {p2 : Int32} {p3 : Int32} {p4 : Int32} {r1 : Int32} {σ3 : Ks} {c3 : Bool} {r3 : Int32} (hn : 2 ≤ n ∧ n ≤ 5) (c1_ : ZR 75 0 [.val (.ref (kad n (0, 0, 0))), .val (.int p2), .val (.int p1), .val (.int p3), .val (.int p4), .unset] [] (khp n L σ g) true (.inl (some (.int r1)), khp n L σ g, true)) (h2 : zcnd .ne r1 0 = true) (c3_ : ZR 77 0 [.val (.ref (kad n (0, 0, 0))), .val (.int p2), .val (.int p1), .val (.int p3), .val (.int p4), .unset, .unset] [] (khp n L σ g) true (.inl (some (.int r3)), khp n L σ3 g, c3)) : ZR 91 0 [.val (.ref (kad n (0, 0, 0))), .val (.int p1), .val (.int p2), .val (.int p3), .val (.int p4)] [] (khp n L σ g) cl (.inl (some (.int (Int32.ofInt 1))), khp n L σ3 (g), cl && c3) := by
  have hM : zmi[91]? = some _ := rfl
  refine zr_fr hM rfl rfl rfl ?_
  refine zr_fr hM rfl rfl rfl ?_
  refine zr_fr hM rfl rfl rfl ?_
  refine zr_fr hM rfl rfl rfl ?_
  refine zr_fr hM rfl rfl rfl ?_
  refine zr_virt (κ := (0, 0, 0)) hn hM rfl rfl rfl rfl rfl rfl rfl rfl rfl ?_
  refine zgo_ret rfl rfl c1_ ?_
  rw [Bool.and_true]
  refine zr_ift hM rfl rfl h2 ?_
  refine zr_fr hM rfl rfl rfl ?_
  refine zr_fr hM rfl rfl rfl ?_
  refine zr_fr hM rfl rfl rfl ?_
  refine zr_fr hM rfl rfl rfl ?_
  refine zr_fr hM rfl rfl rfl ?_
  refine zr_virt (κ := (0, 0, 0)) hn hM rfl rfl rfl rfl rfl rfl rfl rfl rfl ?_
  refine zgo_ret rfl rfl c3_ ?_
  refine zr_fr hM rfl rfl rfl ?_
  refine zr_fr hM rfl rfl rfl ?_
  exact zr_zret2 hM rfl rfl (by decide) rfl
set_option maxHeartbeats 4000000 in
theorem s92_0_k {n L : Nat} {σ : Ks} {g : List Nat} {cl : Bool} {p1 : Int32} {p2 : Int32} {p3 : Int32} {r1 : Int32} {x2 : Nat} (hn : 2 ≤ n ∧ n ≤ 5) (c1_ : ZR 93 0 [.val (.ref (kad n (0, 0, 0))), .val (.int p1), .val (.int p2), .val (.int p3), .unset] [] (khp n L σ g) true (.inl (some (.int r1)), khp n L σ g, true)) (z2 : zix (Int32.ofInt 0) 1 = some x2) : ZR 92 0 [.val (.ref (kad n (0, 0, 0))), .val (.int p1), .val (.int p2), .val (.int p3), .val (.ref (kad n (27, 0, 0))), .unset] [] (khp n L σ g) cl (.inl (some (.int (Int32.ofInt 0))), khp n L (kup σ 50 x2 r1) (g), false) := by
  have hM : zmi[92]? = some _ := rfl
  have l2 := (zix_some z2).2.2
  refine zr_fr hM rfl rfl rfl ?_
  refine zr_fr hM rfl rfl rfl ?_
  refine zr_fr hM rfl rfl rfl ?_
  refine zr_fr hM rfl rfl rfl ?_
  refine zr_fr hM rfl rfl rfl ?_
  refine zr_fr hM rfl rfl rfl ?_
  refine zr_virt (κ := (0, 0, 0)) hn hM rfl rfl rfl rfl rfl rfl rfl rfl rfl ?_
  refine zgo_ret rfl rfl c1_ ?_
  rw [Bool.and_true]
  refine zr_fr hM rfl rfl rfl ?_
  refine zr_last (κ := (27, 0, 0)) hn hM rfl rfl rfl rfl z2 rfl ?_
  refine zr_fr hM rfl rfl rfl ?_
  refine zr_fr hM rfl rfl rfl ?_
  exact zr_iret2 hM rfl rfl rfl
set_option maxHeartbeats 4000000 in
theorem s92_0_e202 {n L : Nat} {σ : Ks} {g : List Nat} {cl : Bool} {p1 : Int32} {p2 : Int32} {p3 : Int32} (hn : 2 ≤ n ∧ n ≤ 5) (e1 : ZR 93 0 [.val (.ref (kad n (0, 0, 0))), .val (.int p1), .val (.int p2), .val (.int p3), .unset] [] (khp n L σ g) true (.inr (khp n L σ g).length, khp n L σ g ++ [(202, [])], false)) : ZR 92 0 [.val (.ref (kad n (0, 0, 0))), .val (.int p1), .val (.int p2), .val (.int p3), .val (.ref (kad n (27, 0, 0))), .unset] [] (khp n L σ g) cl (.inl (some (.int (Int32.ofInt 1))), khp n L σ (g ++ [202]), false) := by
  have hM : zmi[92]? = some _ := rfl
  refine zr_fr hM rfl rfl rfl ?_
  refine zr_fr hM rfl rfl rfl ?_
  refine zr_fr hM rfl rfl rfl ?_
  refine zr_fr hM rfl rfl rfl ?_
  refine zr_fr hM rfl rfl rfl ?_
  refine zr_fr hM rfl rfl rfl ?_
  refine zr_virt (κ := (0, 0, 0)) hn hM rfl rfl rfl rfl rfl rfl rfl rfl rfl ?_
  refine zgo_cat rfl rfl e1 (by decide) rfl ?_
  rw [khp_thr]
  refine zr_fr hM rfl rfl rfl ?_
  refine zr_fr hM rfl rfl rfl ?_
  exact zr_iret2 hM rfl rfl rfl
set_option maxHeartbeats 4000000 in
theorem s93_0_ff {n L : Nat} {σ : Ks} {g : List Nat} {cl : Bool} {p1 : Int32} {p2 : Int32} {p3 : Int32} {r1 : Int32} {r3 : Int32} (hn : 2 ≤ n ∧ n ≤ 5) (c1_ : ZR 11 0 [.val (.ref (kad n (0, 0, 0))), .val (.int p1)] [] (khp n L σ g) true (.inl (some (.int r1)), khp n L σ g, true)) (h2 : zcnd .eq r1 0 = false) (c3_ : ZR 31 0 [.val (.int p2)] [] (khp n L σ g) true (.inl (some (.int r3)), khp n L σ g, true)) (h4 : zcnd .ne r3 0 = false) (hcap : (khp n L σ g).length < zcap) (hcl : cl = true) : ZR 93 0 [.val (.ref (kad n (0, 0, 0))), .val (.int p1), .val (.int p2), .val (.int p3), .unset] [] (khp n L σ g) cl (.inr (khp n L σ g).length, khp n L σ g ++ [(202, [])], false) := by
  have hM : zmi[93]? = some _ := rfl
  refine zr_fr hM rfl rfl rfl ?_
  refine zr_fr hM rfl rfl rfl ?_
  refine zr_virt (κ := (0, 0, 0)) hn hM rfl rfl rfl rfl rfl rfl rfl rfl rfl ?_
  refine zgo_ret rfl rfl c1_ ?_
  rw [Bool.and_true]
  refine zr_iff hM rfl rfl h2 ?_
  refine zr_fr hM rfl rfl rfl ?_
  refine zr_stat hM rfl rfl rfl rfl rfl rfl ?_
  refine zgo_ret rfl rfl c3_ ?_
  rw [Bool.and_true]
  refine zr_iff hM rfl rfl h4 ?_
  exact zr_throw2 hM rfl rfl rfl rfl rfl rfl hcap hcl rfl
set_option maxHeartbeats 4000000 in
theorem s93_0_fts0_ {n L : Nat} {σ : Ks} {g : List Nat} {cl : Bool} {p1 : Int32} {p2 : Int32} {p3 : Int32} {r1 : Int32} {r3 : Int32} {x5 : Nat} {x7 : Nat} (hn : 2 ≤ n ∧ n ≤ 5) (c1_ : ZR 11 0 [.val (.ref (kad n (0, 0, 0))), .val (.int p1)] [] (khp n L σ g) true (.inl (some (.int r1)), khp n L σ g, true)) (h2 : zcnd .eq r1 0 = false) (c3_ : ZR 31 0 [.val (.int p2)] [] (khp n L σ g) true (.inl (some (.int r3)), khp n L σ g, true)) (h4 : zcnd .ne r3 0 = true) (z5 : zix p1 n = some x5) (h6 : p3.toInt = 0) (z7 : zix p2 4 = some x7) : ZR 93 0 [.val (.ref (kad n (0, 0, 0))), .val (.int p1), .val (.int p2), .val (.int p3), .unset] [] (khp n L σ g) cl (.inl (some (.int (σ (2 * x5) x7))), khp n L σ (g), cl) := by
  have hM : zmi[93]? = some _ := rfl
  have l5 := (zix_some z5).2.2
  have l7 := (zix_some z7).2.2
  refine zr_fr hM rfl rfl rfl ?_
  refine zr_fr hM rfl rfl rfl ?_
  refine zr_virt (κ := (0, 0, 0)) hn hM rfl rfl rfl rfl rfl rfl rfl rfl rfl ?_
  refine zgo_ret rfl rfl c1_ ?_
  rw [Bool.and_true]
  refine zr_iff hM rfl rfl h2 ?_
  refine zr_fr hM rfl rfl rfl ?_
  refine zr_stat hM rfl rfl rfl rfl rfl rfl ?_
  refine zgo_ret rfl rfl c3_ ?_
  rw [Bool.and_true]
  refine zr_ift hM rfl rfl h4 ?_
  refine zr_fr hM rfl rfl rfl ?_
  refine zr_getf (κ := (0, 0, 0)) hn hM rfl rfl rfl rfl ?_
  refine zr_fr hM rfl rfl rfl ?_
  refine zr_aald (κ := (1, 0, 0)) hn hM rfl rfl rfl rfl z5 ?_
  refine zr_getf (κ := (2, x5, 0)) hn hM rfl (kokT (by omega)) rfl rfl ?_
  refine zr_fr hM rfl rfl rfl ?_
  refine zr_fr hM rfl rfl rfl ?_
  refine zr_swi hM rfl h6 rfl rfl rfl ?_
  refine zr_fr hM rfl rfl rfl ?_
  refine zr_getf (κ := (3, 2 * x5, 0)) hn hM rfl (kokB rfl (by omega)) rfl rfl ?_
  refine zr_fr hM rfl rfl rfl ?_
  refine zr_iald (κ := (4, 2 * x5, 0)) hn hM rfl (kokB rfl (by omega)) rfl z7 ?_
  exact zr_iret2 hM rfl rfl rfl
set_option maxHeartbeats 4000000 in
theorem s93_0_ftd {n L : Nat} {σ : Ks} {g : List Nat} {cl : Bool} {p1 : Int32} {p2 : Int32} {p3 : Int32} {r1 : Int32} {r3 : Int32} {x5 : Nat} (hn : 2 ≤ n ∧ n ≤ 5) (c1_ : ZR 11 0 [.val (.ref (kad n (0, 0, 0))), .val (.int p1)] [] (khp n L σ g) true (.inl (some (.int r1)), khp n L σ g, true)) (h2 : zcnd .eq r1 0 = false) (c3_ : ZR 31 0 [.val (.int p2)] [] (khp n L σ g) true (.inl (some (.int r3)), khp n L σ g, true)) (h4 : zcnd .ne r3 0 = true) (z5 : zix p1 n = some x5) (h6 : p3.toInt < 0 ∨ 3 < p3.toInt) (hcap : (khp n L σ g).length < zcap) (hcl : cl = true) : ZR 93 0 [.val (.ref (kad n (0, 0, 0))), .val (.int p1), .val (.int p2), .val (.int p3), .unset] [] (khp n L σ g) cl (.inr (khp n L σ g).length, khp n L σ g ++ [(202, [])], false) := by
  have hM : zmi[93]? = some _ := rfl
  have l5 := (zix_some z5).2.2
  refine zr_fr hM rfl rfl rfl ?_
  refine zr_fr hM rfl rfl rfl ?_
  refine zr_virt (κ := (0, 0, 0)) hn hM rfl rfl rfl rfl rfl rfl rfl rfl rfl ?_
  refine zgo_ret rfl rfl c1_ ?_
  rw [Bool.and_true]
  refine zr_iff hM rfl rfl h2 ?_
  refine zr_fr hM rfl rfl rfl ?_
  refine zr_stat hM rfl rfl rfl rfl rfl rfl ?_
  refine zgo_ret rfl rfl c3_ ?_
  rw [Bool.and_true]
  refine zr_ift hM rfl rfl h4 ?_
  refine zr_fr hM rfl rfl rfl ?_
  refine zr_getf (κ := (0, 0, 0)) hn hM rfl rfl rfl rfl ?_
  refine zr_fr hM rfl rfl rfl ?_
  refine zr_aald (κ := (1, 0, 0)) hn hM rfl rfl rfl rfl z5 ?_
  refine zr_getf (κ := (2, x5, 0)) hn hM rfl (kokT (by omega)) rfl rfl ?_
  refine zr_fr hM rfl rfl rfl ?_
  refine zr_fr hM rfl rfl rfl ?_
  refine zr_swo hM rfl h6 rfl ?_
  exact zr_throw2 hM rfl rfl rfl rfl rfl rfl hcap hcl rfl
set_option maxHeartbeats 4000000 in
theorem s93_0_fts3_ {n L : Nat} {σ : Ks} {g : List Nat} {cl : Bool} {p1 : Int32} {p2 : Int32} {p3 : Int32} {r1 : Int32} {r3 : Int32} {x5 : Nat} {r7 : Int32} (hn : 2 ≤ n ∧ n ≤ 5) (c1_ : ZR 11 0 [.val (.ref (kad n (0, 0, 0))), .val (.int p1)] [] (khp n L σ g) true (.inl (some (.int r1)), khp n L σ g, true)) (h2 : zcnd .eq r1 0 = false) (c3_ : ZR 31 0 [.val (.int p2)] [] (khp n L σ g) true (.inl (some (.int r3)), khp n L σ g, true)) (h4 : zcnd .ne r3 0 = true) (z5 : zix p1 n = some x5) (h6 : p3.toInt = 3) (c7_ : ZR 41 0 [.val (.ref (kad n (8, 2 * x5, 0))), .val (.int p2), .unset, .unset] [] (khp n L σ g) true (.inl (some (.int r7)), khp n L σ g, true)) : ZR 93 0 [.val (.ref (kad n (0, 0, 0))), .val (.int p1), .val (.int p2), .val (.int p3), .unset] [] (khp n L σ g) cl (.inl (some (.int r7)), khp n L σ (g), cl) := by
  have hM : zmi[93]? = some _ := rfl
  have l5 := (zix_some z5).2.2
  refine zr_fr hM rfl rfl rfl ?_
  refine zr_fr hM rfl rfl rfl ?_
  refine zr_virt (κ := (0, 0, 0)) hn hM rfl rfl rfl rfl rfl rfl rfl rfl rfl ?_
  refine zgo_ret rfl rfl c1_ ?_
  rw [Bool.and_true]
  refine zr_iff hM rfl rfl h2 ?_
  refine zr_fr hM rfl rfl rfl ?_
  refine zr_stat hM rfl rfl rfl rfl rfl rfl ?_
  refine zgo_ret rfl rfl c3_ ?_
  rw [Bool.and_true]
  refine zr_ift hM rfl rfl h4 ?_
  refine zr_fr hM rfl rfl rfl ?_
  refine zr_getf (κ := (0, 0, 0)) hn hM rfl rfl rfl rfl ?_
  refine zr_fr hM rfl rfl rfl ?_
  refine zr_aald (κ := (1, 0, 0)) hn hM rfl rfl rfl rfl z5 ?_
  refine zr_getf (κ := (2, x5, 0)) hn hM rfl (kokT (by omega)) rfl rfl ?_
  refine zr_fr hM rfl rfl rfl ?_
  refine zr_fr hM rfl rfl rfl ?_
  refine zr_swi hM rfl h6 rfl rfl rfl ?_
  refine zr_fr hM rfl rfl rfl ?_
  refine zr_getf (κ := (3, 2 * x5, 0)) hn hM rfl (kokB rfl (by omega)) rfl rfl ?_
  refine zr_fr hM rfl rfl rfl ?_
  refine zr_virt (κ := (8, 2 * x5, 0)) hn hM rfl rfl rfl rfl rfl rfl (kokB rfl (by omega)) rfl rfl ?_
  refine zgo_ret rfl rfl c7_ ?_
  rw [Bool.and_true]
  exact zr_iret2 hM rfl rfl rfl
set_option maxHeartbeats 4000000 in
theorem s93_0_fts2_ {n L : Nat} {σ : Ks} {g : List Nat} {cl : Bool} {p1 : Int32} {p2 : Int32} {p3 : Int32} {r1 : Int32} {r3 : Int32} {x5 : Nat} {x7 : Nat} (hn : 2 ≤ n ∧ n ≤ 5) (c1_ : ZR 11 0 [.val (.ref (kad n (0, 0, 0))), .val (.int p1)] [] (khp n L σ g) true (.inl (some (.int r1)), khp n L σ g, true)) (h2 : zcnd .eq r1 0 = false) (c3_ : ZR 31 0 [.val (.int p2)] [] (khp n L σ g) true (.inl (some (.int r3)), khp n L σ g, true)) (h4 : zcnd .ne r3 0 = true) (z5 : zix p1 n = some x5) (h6 : p3.toInt = 2) (z7 : zix p2 4 = some x7) : ZR 93 0 [.val (.ref (kad n (0, 0, 0))), .val (.int p1), .val (.int p2), .val (.int p3), .unset] [] (khp n L σ g) cl (.inl (some (.int (σ (2 * x5) (8 + x7)))), khp n L σ (g), cl) := by
  have hM : zmi[93]? = some _ := rfl
  have l5 := (zix_some z5).2.2
  have l7 := (zix_some z7).2.2
  refine zr_fr hM rfl rfl rfl ?_
  refine zr_fr hM rfl rfl rfl ?_
  refine zr_virt (κ := (0, 0, 0)) hn hM rfl rfl rfl rfl rfl rfl rfl rfl rfl ?_
  refine zgo_ret rfl rfl c1_ ?_
  rw [Bool.and_true]
  refine zr_iff hM rfl rfl h2 ?_
  refine zr_fr hM rfl rfl rfl ?_
  refine zr_stat hM rfl rfl rfl rfl rfl rfl ?_
  refine zgo_ret rfl rfl c3_ ?_
  rw [Bool.and_true]
  refine zr_ift hM rfl rfl h4 ?_
  refine zr_fr hM rfl rfl rfl ?_
  refine zr_getf (κ := (0, 0, 0)) hn hM rfl rfl rfl rfl ?_
  refine zr_fr hM rfl rfl rfl ?_
  refine zr_aald (κ := (1, 0, 0)) hn hM rfl rfl rfl rfl z5 ?_
  refine zr_getf (κ := (2, x5, 0)) hn hM rfl (kokT (by omega)) rfl rfl ?_
  refine zr_fr hM rfl rfl rfl ?_
  refine zr_fr hM rfl rfl rfl ?_
  refine zr_swi hM rfl h6 rfl rfl rfl ?_
  refine zr_fr hM rfl rfl rfl ?_
  refine zr_getf (κ := (3, 2 * x5, 0)) hn hM rfl (kokB rfl (by omega)) rfl rfl ?_
  refine zr_fr hM rfl rfl rfl ?_
  refine zr_iald (κ := (6, 2 * x5, 0)) hn hM rfl (kokB rfl (by omega)) rfl z7 ?_
  exact zr_iret2 hM rfl rfl rfl
set_option maxHeartbeats 4000000 in
theorem s93_0_fts1_ {n L : Nat} {σ : Ks} {g : List Nat} {cl : Bool} {p1 : Int32} {p2 : Int32} {p3 : Int32} {r1 : Int32} {r3 : Int32} {x5 : Nat} {x7 : Nat} (hn : 2 ≤ n ∧ n ≤ 5) (c1_ : ZR 11 0 [.val (.ref (kad n (0, 0, 0))), .val (.int p1)] [] (khp n L σ g) true (.inl (some (.int r1)), khp n L σ g, true)) (h2 : zcnd .eq r1 0 = false) (c3_ : ZR 31 0 [.val (.int p2)] [] (khp n L σ g) true (.inl (some (.int r3)), khp n L σ g, true)) (h4 : zcnd .ne r3 0 = true) (z5 : zix p1 n = some x5) (h6 : p3.toInt = 1) (z7 : zix p2 4 = some x7) : ZR 93 0 [.val (.ref (kad n (0, 0, 0))), .val (.int p1), .val (.int p2), .val (.int p3), .unset] [] (khp n L σ g) cl (.inl (some (.int (σ (2 * x5) (4 + x7)))), khp n L σ (g), cl) := by
  have hM : zmi[93]? = some _ := rfl
  have l5 := (zix_some z5).2.2
  have l7 := (zix_some z7).2.2
  refine zr_fr hM rfl rfl rfl ?_
  refine zr_fr hM rfl rfl rfl ?_
  refine zr_virt (κ := (0, 0, 0)) hn hM rfl rfl rfl rfl rfl rfl rfl rfl rfl ?_
  refine zgo_ret rfl rfl c1_ ?_
  rw [Bool.and_true]
  refine zr_iff hM rfl rfl h2 ?_
  refine zr_fr hM rfl rfl rfl ?_
  refine zr_stat hM rfl rfl rfl rfl rfl rfl ?_
  refine zgo_ret rfl rfl c3_ ?_
  rw [Bool.and_true]
  refine zr_ift hM rfl rfl h4 ?_
  refine zr_fr hM rfl rfl rfl ?_
  refine zr_getf (κ := (0, 0, 0)) hn hM rfl rfl rfl rfl ?_
  refine zr_fr hM rfl rfl rfl ?_
  refine zr_aald (κ := (1, 0, 0)) hn hM rfl rfl rfl rfl z5 ?_
  refine zr_getf (κ := (2, x5, 0)) hn hM rfl (kokT (by omega)) rfl rfl ?_
  refine zr_fr hM rfl rfl rfl ?_
  refine zr_fr hM rfl rfl rfl ?_
  refine zr_swi hM rfl h6 rfl rfl rfl ?_
  refine zr_fr hM rfl rfl rfl ?_
  refine zr_getf (κ := (3, 2 * x5, 0)) hn hM rfl (kokB rfl (by omega)) rfl rfl ?_
  refine zr_fr hM rfl rfl rfl ?_
  refine zr_iald (κ := (5, 2 * x5, 0)) hn hM rfl (kokB rfl (by omega)) rfl z7 ?_
  exact zr_iret2 hM rfl rfl rfl
set_option maxHeartbeats 4000000 in
theorem s93_0_t {n L : Nat} {σ : Ks} {g : List Nat} {cl : Bool} {p1 : Int32} {p2 : Int32} {p3 : Int32} {r1 : Int32} (hn : 2 ≤ n ∧ n ≤ 5) (c1_ : ZR 11 0 [.val (.ref (kad n (0, 0, 0))), .val (.int p1)] [] (khp n L σ g) true (.inl (some (.int r1)), khp n L σ g, true)) (h2 : zcnd .eq r1 0 = true) (hcap : (khp n L σ g).length < zcap) (hcl : cl = true) : ZR 93 0 [.val (.ref (kad n (0, 0, 0))), .val (.int p1), .val (.int p2), .val (.int p3), .unset] [] (khp n L σ g) cl (.inr (khp n L σ g).length, khp n L σ g ++ [(202, [])], false) := by
  have hM : zmi[93]? = some _ := rfl
  refine zr_fr hM rfl rfl rfl ?_
  refine zr_fr hM rfl rfl rfl ?_
  refine zr_virt (κ := (0, 0, 0)) hn hM rfl rfl rfl rfl rfl rfl rfl rfl rfl ?_
  refine zgo_ret rfl rfl c1_ ?_
  rw [Bool.and_true]
  refine zr_ift hM rfl rfl h2 ?_
  exact zr_throw2 hM rfl rfl rfl rfl rfl rfl hcap hcl rfl
set_option maxHeartbeats 4000000 in
theorem s95_0_r {n L : Nat} {σ : Ks} {g : List Nat} {cl : Bool} {p1 : Int32} {p2 : Int32} (hn : 2 ≤ n ∧ n ≤ 5) : ZR 95 0 [.val (.int p1), .val (.int p2)] [] (khp n L σ g) cl (.inl (some (.int (((((Int16.ofInt 164).toInt32) * p1) + ((Int8.ofInt 44).toInt32)) + (((Int8.ofInt 24).toInt32) * p2)))), khp n L σ (g), cl) := by
  have hM : zmi[95]? = some _ := rfl
  refine zr_fr hM rfl rfl rfl ?_
  refine zr_fr hM rfl rfl rfl ?_
  refine zr_fr hM rfl rfl rfl ?_
  refine zr_fr hM rfl rfl rfl ?_
  refine zr_fr hM rfl rfl rfl ?_
  refine zr_fr hM rfl rfl rfl ?_
  refine zr_fr hM rfl rfl rfl ?_
  refine zr_fr hM rfl rfl rfl ?_
  refine zr_fr hM rfl rfl rfl ?_
  exact zr_iret2 hM rfl rfl rfl
set_option maxHeartbeats 4000000 in
theorem s96_0_r {n L : Nat} {σ : Ks} {g : List Nat} {cl : Bool} {r : Zr} {p1 : Int32} (hn : 2 ≤ n ∧ n ≤ 5) (k : ZR 96 2 [.val (.ref (kad n (22, 0, 0))), .val (.int p1), .val (.int (Int32.ofInt 0))] [] (khp n L σ (g)) cl r) : ZR 96 0 [.val (.ref (kad n (22, 0, 0))), .val (.int p1), .unset] [] (khp n L σ g) cl r := by
  have hM : zmi[96]? = some _ := rfl
  refine zr_fr hM rfl rfl rfl ?_
  refine zr_fr hM rfl rfl rfl ?_
  exact k
set_option maxHeartbeats 4000000 in
theorem s96_2_f {n L : Nat} {σ : Ks} {g : List Nat} {cl : Bool} {r : Zr} {v1 : Int32} {v2 : Int32} {r2 : Int32} {r3 : Int32} {x4 : Nat} {x5 : Nat} (hn : 2 ≤ n ∧ n ≤ 5) (h1 : zcnd .ge v2 ((Int16.ofInt 164).toInt32) = false) (c2_ : ZR 97 0 [.val (.int v1)] [] (khp n L σ g) true (.inl (some (.int r2)), khp n L σ g, true)) (c3_ : ZR 97 0 [.val (.int v1)] [] (khp n L σ g) true (.inl (some (.int r3)), khp n L σ g, true)) (z4 : zix (r3 + v2) 820 = some x4) (z5 : zix (r2 + v2) 820 = some x5) (k : ZR 96 2 [.val (.ref (kad n (22, 0, 0))), .val (.int v1), .val (.int (v2 + Int32.ofInt 1))] [] (khp n L (kup σ (30 + x5 / 164) (x5 % 164) (σ (20 + x4 / 164) (x4 % 164))) (g)) false r) : ZR 96 2 [.val (.ref (kad n (22, 0, 0))), .val (.int v1), .val (.int v2)] [] (khp n L σ g) cl r := by
  have hM : zmi[96]? = some _ := rfl
  have l4 := (zix_some z4).2.2
  have l5 := (zix_some z5).2.2
  refine zr_fr hM rfl rfl rfl ?_
  refine zr_fr hM rfl rfl rfl ?_
  refine zr_icf hM rfl rfl h1 ?_
  refine zr_fr hM rfl rfl rfl ?_
  refine zr_getf (κ := (22, 0, 0)) hn hM rfl rfl rfl rfl ?_
  refine zr_fr hM rfl rfl rfl ?_
  refine zr_stat hM rfl rfl rfl rfl rfl rfl ?_
  refine zgo_ret rfl rfl c2_ ?_
  rw [Bool.and_true]
  refine zr_fr hM rfl rfl rfl ?_
  refine zr_fr hM rfl rfl rfl ?_
  refine zr_fr hM rfl rfl rfl ?_
  refine zr_getf (κ := (22, 0, 0)) hn hM rfl rfl rfl rfl ?_
  refine zr_fr hM rfl rfl rfl ?_
  refine zr_stat hM rfl rfl rfl rfl rfl rfl ?_
  refine zgo_ret rfl rfl c3_ ?_
  rw [Bool.and_true]
  refine zr_fr hM rfl rfl rfl ?_
  refine zr_fr hM rfl rfl rfl ?_
  refine zr_iald (κ := (23, 0, 0)) hn hM rfl rfl rfl z4 ?_
  refine zr_iast (κ := (24, 0, 0)) hn hM rfl rfl rfl rfl z5 rfl ?_
  refine zr_fr hM rfl rfl rfl ?_
  refine zr_fr hM rfl rfl rfl ?_
  exact k
set_option maxHeartbeats 4000000 in
theorem s96_2_t {n L : Nat} {σ : Ks} {g : List Nat} {cl : Bool} {v1 : Int32} {v2 : Int32} (hn : 2 ≤ n ∧ n ≤ 5) (h1 : zcnd .ge v2 ((Int16.ofInt 164).toInt32) = true) : ZR 96 2 [.val (.ref (kad n (22, 0, 0))), .val (.int v1), .val (.int v2)] [] (khp n L σ g) cl (.inl (none), khp n L σ (g), cl) := by
  have hM : zmi[96]? = some _ := rfl
  refine zr_fr hM rfl rfl rfl ?_
  refine zr_fr hM rfl rfl rfl ?_
  refine zr_ict hM rfl rfl h1 ?_
  exact zr_vret2 hM rfl rfl rfl
set_option maxHeartbeats 4000000 in
theorem s97_0_r {n L : Nat} {σ : Ks} {g : List Nat} {cl : Bool} {p1 : Int32} (hn : 2 ≤ n ∧ n ≤ 5) : ZR 97 0 [.val (.int p1)] [] (khp n L σ g) cl (.inl (some (.int (((Int16.ofInt 164).toInt32) * p1))), khp n L σ (g), cl) := by
  have hM : zmi[97]? = some _ := rfl
  refine zr_fr hM rfl rfl rfl ?_
  refine zr_fr hM rfl rfl rfl ?_
  refine zr_fr hM rfl rfl rfl ?_
  exact zr_iret2 hM rfl rfl rfl
set_option maxHeartbeats 4000000 in
theorem s98_0_r {n L : Nat} {σ : Ks} {g : List Nat} {cl : Bool} (hn : 2 ≤ n ∧ n ≤ 5) : ZR 98 0 [.val (.ref (kad n (22, 0, 0)))] [] (khp n L σ g) cl (.inl (some (.int (σ 42 0))), khp n L σ (g), cl) := by
  have hM : zmi[98]? = some _ := rfl
  refine zr_fr hM rfl rfl rfl ?_
  refine zr_getf (κ := (22, 0, 0)) hn hM rfl rfl rfl rfl ?_
  exact zr_iret2 hM rfl rfl rfl
set_option maxHeartbeats 4000000 in
theorem s99_0_fff {n L : Nat} {σ : Ks} {g : List Nat} {cl : Bool} {p1 : Int32} (hn : 2 ≤ n ∧ n ≤ 5) (h1 : zcnd .lt p1 0 = false) (h2 : zcnd .lt p1 (σ 42 2) = false) (h3 : zcnd .le ((kup σ 42 0 (Int32.ofInt 1)) 42 0) 0 = false) : ZR 99 0 [.val (.ref (kad n (22, 0, 0))), .val (.int p1), .unset, .unset, .unset, .unset, .unset, .unset, .unset, .unset] [] (khp n L σ g) cl (.inl (some (.int (Int32.ofInt 0))), khp n L (kup σ 42 0 (Int32.ofInt 1)) (g), false) := by
  have hM : zmi[99]? = some _ := rfl
  refine zr_fr hM rfl rfl rfl ?_
  refine zr_fr hM rfl rfl rfl ?_
  refine zr_iff hM rfl rfl h1 ?_
  refine zr_fr hM rfl rfl rfl ?_
  refine zr_fr hM rfl rfl rfl ?_
  refine zr_getf (κ := (22, 0, 0)) hn hM rfl rfl rfl rfl ?_
  refine zr_icf hM rfl rfl h2 ?_
  refine zr_fr hM rfl rfl rfl ?_
  refine zr_fr hM rfl rfl rfl ?_
  refine zr_putf (κ := (22, 0, 0)) hn hM rfl rfl rfl rfl rfl rfl rfl rfl ?_
  refine zr_fr hM rfl rfl rfl ?_
  refine zr_getf (κ := (22, 0, 0)) hn hM rfl rfl rfl rfl ?_
  refine zr_iff hM rfl rfl h3 ?_
  refine zr_fr hM rfl rfl rfl ?_
  exact zr_iret2 hM rfl rfl rfl
set_option maxHeartbeats 4000000 in
theorem s99_0_fftf {n L : Nat} {σ : Ks} {g : List Nat} {cl : Bool} {p1 : Int32} {x4 : Nat} {x5 : Nat} {x6 : Nat} {x7 : Nat} {x8 : Nat} {x9 : Nat} {σ10 : Ks} {c10 : Bool} {x11 : Nat} (hn : 2 ≤ n ∧ n ≤ 5) (h1 : zcnd .lt p1 0 = false) (h2 : zcnd .lt p1 (σ 42 2) = false) (h3 : zcnd .le ((kup σ 42 0 (Int32.ofInt 1)) 42 0) 0 = true) (z4 : zix (((Int8.ofInt 6).toInt32) * p1) 150 = some x4) (z5 : zix ((((Int8.ofInt 6).toInt32) * p1) + (Int32.ofInt 1)) 150 = some x5) (z6 : zix ((((Int8.ofInt 6).toInt32) * p1) + (Int32.ofInt 2)) 150 = some x6) (z7 : zix ((((Int8.ofInt 6).toInt32) * p1) + (Int32.ofInt 3)) 150 = some x7) (z8 : zix ((((Int8.ofInt 6).toInt32) * p1) + (Int32.ofInt 4)) 150 = some x8) (z9 : zix ((((Int8.ofInt 6).toInt32) * p1) + (Int32.ofInt 5)) 150 = some x9) (c10_ : ZR 100 0 [.val (.ref (kad n (22, 0, 0))), .val (.int p1), .unset] [] (khp n L (kup σ 42 0 (Int32.ofInt 1)) g) true (.inl (none), khp n L σ10 g, c10)) (z11 : zix ((kup σ 42 0 (Int32.ofInt 1)) 41 x6) 5 = some x11) (h12 : zcnd .eq (σ10 40 x11) 0 = false) : ZR 99 0 [.val (.ref (kad n (22, 0, 0))), .val (.int p1), .unset, .unset, .unset, .unset, .unset, .unset, .unset, .unset] [] (khp n L σ g) cl (.inl (some (.int (Int32.ofInt 0))), khp n L σ10 (g), false) := by
  have hM : zmi[99]? = some _ := rfl
  have l4 := (zix_some z4).2.2
  have l5 := (zix_some z5).2.2
  have l6 := (zix_some z6).2.2
  have l7 := (zix_some z7).2.2
  have l8 := (zix_some z8).2.2
  have l9 := (zix_some z9).2.2
  have l11 := (zix_some z11).2.2
  refine zr_fr hM rfl rfl rfl ?_
  refine zr_fr hM rfl rfl rfl ?_
  refine zr_iff hM rfl rfl h1 ?_
  refine zr_fr hM rfl rfl rfl ?_
  refine zr_fr hM rfl rfl rfl ?_
  refine zr_getf (κ := (22, 0, 0)) hn hM rfl rfl rfl rfl ?_
  refine zr_icf hM rfl rfl h2 ?_
  refine zr_fr hM rfl rfl rfl ?_
  refine zr_fr hM rfl rfl rfl ?_
  refine zr_putf (κ := (22, 0, 0)) hn hM rfl rfl rfl rfl rfl rfl rfl rfl ?_
  refine zr_fr hM rfl rfl rfl ?_
  refine zr_getf (κ := (22, 0, 0)) hn hM rfl rfl rfl rfl ?_
  refine zr_ift hM rfl rfl h3 ?_
  refine zr_fr hM rfl rfl rfl ?_
  refine zr_fr hM rfl rfl rfl ?_
  refine zr_fr hM rfl rfl rfl ?_
  refine zr_fr hM rfl rfl rfl ?_
  refine zr_fr hM rfl rfl rfl ?_
  refine zr_getf (κ := (22, 0, 0)) hn hM rfl rfl rfl rfl ?_
  refine zr_fr hM rfl rfl rfl ?_
  refine zr_iald (κ := (26, 0, 0)) hn hM rfl rfl rfl z4 ?_
  refine zr_fr hM rfl rfl rfl ?_
  refine zr_fr hM rfl rfl rfl ?_
  refine zr_getf (κ := (22, 0, 0)) hn hM rfl rfl rfl rfl ?_
  refine zr_fr hM rfl rfl rfl ?_
  refine zr_fr hM rfl rfl rfl ?_
  refine zr_fr hM rfl rfl rfl ?_
  refine zr_iald (κ := (26, 0, 0)) hn hM rfl rfl rfl z5 ?_
  refine zr_fr hM rfl rfl rfl ?_
  refine zr_fr hM rfl rfl rfl ?_
  refine zr_getf (κ := (22, 0, 0)) hn hM rfl rfl rfl rfl ?_
  refine zr_fr hM rfl rfl rfl ?_
  refine zr_fr hM rfl rfl rfl ?_
  refine zr_fr hM rfl rfl rfl ?_
  refine zr_iald (κ := (26, 0, 0)) hn hM rfl rfl rfl z6 ?_
  refine zr_fr hM rfl rfl rfl ?_
  refine zr_fr hM rfl rfl rfl ?_
  refine zr_getf (κ := (22, 0, 0)) hn hM rfl rfl rfl rfl ?_
  refine zr_fr hM rfl rfl rfl ?_
  refine zr_fr hM rfl rfl rfl ?_
  refine zr_fr hM rfl rfl rfl ?_
  refine zr_iald (κ := (26, 0, 0)) hn hM rfl rfl rfl z7 ?_
  refine zr_fr hM rfl rfl rfl ?_
  refine zr_fr hM rfl rfl rfl ?_
  refine zr_getf (κ := (22, 0, 0)) hn hM rfl rfl rfl rfl ?_
  refine zr_fr hM rfl rfl rfl ?_
  refine zr_fr hM rfl rfl rfl ?_
  refine zr_fr hM rfl rfl rfl ?_
  refine zr_iald (κ := (26, 0, 0)) hn hM rfl rfl rfl z8 ?_
  refine zr_fr hM rfl rfl rfl ?_
  refine zr_fr hM rfl rfl rfl ?_
  refine zr_getf (κ := (22, 0, 0)) hn hM rfl rfl rfl rfl ?_
  refine zr_fr hM rfl rfl rfl ?_
  refine zr_fr hM rfl rfl rfl ?_
  refine zr_fr hM rfl rfl rfl ?_
  refine zr_iald (κ := (26, 0, 0)) hn hM rfl rfl rfl z9 ?_
  refine zr_fr hM rfl rfl rfl ?_
  refine zr_fr hM rfl rfl rfl ?_
  refine zr_fr hM rfl rfl rfl ?_
  refine zr_virt (κ := (22, 0, 0)) hn hM rfl rfl rfl rfl rfl rfl rfl rfl rfl ?_
  refine zgo_ret rfl rfl c10_ ?_
  rw [Bool.false_and]
  refine zr_fr hM rfl rfl rfl ?_
  refine zr_getf (κ := (22, 0, 0)) hn hM rfl rfl rfl rfl ?_
  refine zr_fr hM rfl rfl rfl ?_
  refine zr_bald (κ := (25, 0, 0)) hn hM rfl rfl rfl z11 ?_
  refine zr_iff hM rfl rfl h12 ?_
  refine zr_fr hM rfl rfl rfl ?_
  exact zr_iret2 hM rfl rfl rfl
set_option maxHeartbeats 4000000 in
theorem s99_0_ffttff {n L : Nat} {σ : Ks} {g : List Nat} {cl : Bool} {p1 : Int32} {x4 : Nat} {x5 : Nat} {x6 : Nat} {x7 : Nat} {x8 : Nat} {x9 : Nat} {σ10 : Ks} {c10 : Bool} {x11 : Nat} {σ14 : Ks} {c14 : Bool} {r14 : Int32} (hn : 2 ≤ n ∧ n ≤ 5) (h1 : zcnd .lt p1 0 = false) (h2 : zcnd .lt p1 (σ 42 2) = false) (h3 : zcnd .le ((kup σ 42 0 (Int32.ofInt 1)) 42 0) 0 = true) (z4 : zix (((Int8.ofInt 6).toInt32) * p1) 150 = some x4) (z5 : zix ((((Int8.ofInt 6).toInt32) * p1) + (Int32.ofInt 1)) 150 = some x5) (z6 : zix ((((Int8.ofInt 6).toInt32) * p1) + (Int32.ofInt 2)) 150 = some x6) (z7 : zix ((((Int8.ofInt 6).toInt32) * p1) + (Int32.ofInt 3)) 150 = some x7) (z8 : zix ((((Int8.ofInt 6).toInt32) * p1) + (Int32.ofInt 4)) 150 = some x8) (z9 : zix ((((Int8.ofInt 6).toInt32) * p1) + (Int32.ofInt 5)) 150 = some x9) (c10_ : ZR 100 0 [.val (.ref (kad n (22, 0, 0))), .val (.int p1), .unset] [] (khp n L (kup σ 42 0 (Int32.ofInt 1)) g) true (.inl (none), khp n L σ10 g, c10)) (z11 : zix ((kup σ 42 0 (Int32.ofInt 1)) 41 x6) 5 = some x11) (h12 : zcnd .eq (σ10 40 x11) 0 = true) (h13 : zcnd .ne ((kup σ 42 0 (Int32.ofInt 1)) 41 x4) 0 = false) (c14_ : ZR 101 0 [.val (.ref (kad n (22, 0, 0))), .val (.int ((kup σ 42 0 (Int32.ofInt 1)) 41 x5)), .val (.int ((kup σ 42 0 (Int32.ofInt 1)) 41 x6)), .val (.int ((kup σ 42 0 (Int32.ofInt 1)) 41 x7)), .val (.int ((kup σ 42 0 (Int32.ofInt 1)) 41 x8)), .val (.int ((kup σ 42 0 (Int32.ofInt 1)) 41 x9)), .unset] [] (khp n L σ10 g) true (.inl (some (.int r14)), khp n L σ14 g, c14)) (h15 : zcnd .eq r14 0 = false) : ZR 99 0 [.val (.ref (kad n (22, 0, 0))), .val (.int p1), .unset, .unset, .unset, .unset, .unset, .unset, .unset, .unset] [] (khp n L σ g) cl (.inl (some (.int (Int32.ofInt 1))), khp n L σ14 (g), false) := by
  have hM : zmi[99]? = some _ := rfl
  have l4 := (zix_some z4).2.2
  have l5 := (zix_some z5).2.2
  have l6 := (zix_some z6).2.2
  have l7 := (zix_some z7).2.2
  have l8 := (zix_some z8).2.2
  have l9 := (zix_some z9).2.2
  have l11 := (zix_some z11).2.2
  refine zr_fr hM rfl rfl rfl ?_
  refine zr_fr hM rfl rfl rfl ?_
  refine zr_iff hM rfl rfl h1 ?_
  refine zr_fr hM rfl rfl rfl ?_
  refine zr_fr hM rfl rfl rfl ?_
  refine zr_getf (κ := (22, 0, 0)) hn hM rfl rfl rfl rfl ?_
  refine zr_icf hM rfl rfl h2 ?_
  refine zr_fr hM rfl rfl rfl ?_
  refine zr_fr hM rfl rfl rfl ?_
  refine zr_putf (κ := (22, 0, 0)) hn hM rfl rfl rfl rfl rfl rfl rfl rfl ?_
  refine zr_fr hM rfl rfl rfl ?_
  refine zr_getf (κ := (22, 0, 0)) hn hM rfl rfl rfl rfl ?_
  refine zr_ift hM rfl rfl h3 ?_
  refine zr_fr hM rfl rfl rfl ?_
  refine zr_fr hM rfl rfl rfl ?_
  refine zr_fr hM rfl rfl rfl ?_
  refine zr_fr hM rfl rfl rfl ?_
  refine zr_fr hM rfl rfl rfl ?_
  refine zr_getf (κ := (22, 0, 0)) hn hM rfl rfl rfl rfl ?_
  refine zr_fr hM rfl rfl rfl ?_
  refine zr_iald (κ := (26, 0, 0)) hn hM rfl rfl rfl z4 ?_
  refine zr_fr hM rfl rfl rfl ?_
  refine zr_fr hM rfl rfl rfl ?_
  refine zr_getf (κ := (22, 0, 0)) hn hM rfl rfl rfl rfl ?_
  refine zr_fr hM rfl rfl rfl ?_
  refine zr_fr hM rfl rfl rfl ?_
  refine zr_fr hM rfl rfl rfl ?_
  refine zr_iald (κ := (26, 0, 0)) hn hM rfl rfl rfl z5 ?_
  refine zr_fr hM rfl rfl rfl ?_
  refine zr_fr hM rfl rfl rfl ?_
  refine zr_getf (κ := (22, 0, 0)) hn hM rfl rfl rfl rfl ?_
  refine zr_fr hM rfl rfl rfl ?_
  refine zr_fr hM rfl rfl rfl ?_
  refine zr_fr hM rfl rfl rfl ?_
  refine zr_iald (κ := (26, 0, 0)) hn hM rfl rfl rfl z6 ?_
  refine zr_fr hM rfl rfl rfl ?_
  refine zr_fr hM rfl rfl rfl ?_
  refine zr_getf (κ := (22, 0, 0)) hn hM rfl rfl rfl rfl ?_
  refine zr_fr hM rfl rfl rfl ?_
  refine zr_fr hM rfl rfl rfl ?_
  refine zr_fr hM rfl rfl rfl ?_
  refine zr_iald (κ := (26, 0, 0)) hn hM rfl rfl rfl z7 ?_
  refine zr_fr hM rfl rfl rfl ?_
  refine zr_fr hM rfl rfl rfl ?_
  refine zr_getf (κ := (22, 0, 0)) hn hM rfl rfl rfl rfl ?_
  refine zr_fr hM rfl rfl rfl ?_
  refine zr_fr hM rfl rfl rfl ?_
  refine zr_fr hM rfl rfl rfl ?_
  refine zr_iald (κ := (26, 0, 0)) hn hM rfl rfl rfl z8 ?_
  refine zr_fr hM rfl rfl rfl ?_
  refine zr_fr hM rfl rfl rfl ?_
  refine zr_getf (κ := (22, 0, 0)) hn hM rfl rfl rfl rfl ?_
  refine zr_fr hM rfl rfl rfl ?_
  refine zr_fr hM rfl rfl rfl ?_
  refine zr_fr hM rfl rfl rfl ?_
  refine zr_iald (κ := (26, 0, 0)) hn hM rfl rfl rfl z9 ?_
  refine zr_fr hM rfl rfl rfl ?_
  refine zr_fr hM rfl rfl rfl ?_
  refine zr_fr hM rfl rfl rfl ?_
  refine zr_virt (κ := (22, 0, 0)) hn hM rfl rfl rfl rfl rfl rfl rfl rfl rfl ?_
  refine zgo_ret rfl rfl c10_ ?_
  rw [Bool.false_and]
  refine zr_fr hM rfl rfl rfl ?_
  refine zr_getf (κ := (22, 0, 0)) hn hM rfl rfl rfl rfl ?_
  refine zr_fr hM rfl rfl rfl ?_
  refine zr_bald (κ := (25, 0, 0)) hn hM rfl rfl rfl z11 ?_
  refine zr_ift hM rfl rfl h12 ?_
  refine zr_fr hM rfl rfl rfl ?_
  refine zr_iff hM rfl rfl h13 ?_
  refine zr_fr hM rfl rfl rfl ?_
  refine zr_fr hM rfl rfl rfl ?_
  refine zr_fr hM rfl rfl rfl ?_
  refine zr_fr hM rfl rfl rfl ?_
  refine zr_fr hM rfl rfl rfl ?_
  refine zr_fr hM rfl rfl rfl ?_
  refine zr_virt (κ := (22, 0, 0)) hn hM rfl rfl rfl rfl rfl rfl rfl rfl rfl ?_
  refine zgo_ret rfl rfl c14_ ?_
  rw [Bool.false_and]
  refine zr_fr hM rfl rfl rfl ?_
  refine zr_fr hM rfl rfl rfl ?_
  refine zr_fr hM rfl rfl rfl ?_
  refine zr_iff hM rfl rfl h15 ?_
  refine zr_fr hM rfl rfl rfl ?_
  refine zr_fr hM rfl rfl rfl ?_
  exact zr_iret2 hM rfl rfl rfl
set_option maxHeartbeats 4000000 in
theorem s99_0_ffttft {n L : Nat} {σ : Ks} {g : List Nat} {cl : Bool} {p1 : Int32} {x4 : Nat} {x5 : Nat} {x6 : Nat} {x7 : Nat} {x8 : Nat} {x9 : Nat} {σ10 : Ks} {c10 : Bool} {x11 : Nat} {σ14 : Ks} {c14 : Bool} {r14 : Int32} (hn : 2 ≤ n ∧ n ≤ 5) (h1 : zcnd .lt p1 0 = false) (h2 : zcnd .lt p1 (σ 42 2) = false) (h3 : zcnd .le ((kup σ 42 0 (Int32.ofInt 1)) 42 0) 0 = true) (z4 : zix (((Int8.ofInt 6).toInt32) * p1) 150 = some x4) (z5 : zix ((((Int8.ofInt 6).toInt32) * p1) + (Int32.ofInt 1)) 150 = some x5) (z6 : zix ((((Int8.ofInt 6).toInt32) * p1) + (Int32.ofInt 2)) 150 = some x6) (z7 : zix ((((Int8.ofInt 6).toInt32) * p1) + (Int32.ofInt 3)) 150 = some x7) (z8 : zix ((((Int8.ofInt 6).toInt32) * p1) + (Int32.ofInt 4)) 150 = some x8) (z9 : zix ((((Int8.ofInt 6).toInt32) * p1) + (Int32.ofInt 5)) 150 = some x9) (c10_ : ZR 100 0 [.val (.ref (kad n (22, 0, 0))), .val (.int p1), .unset] [] (khp n L (kup σ 42 0 (Int32.ofInt 1)) g) true (.inl (none), khp n L σ10 g, c10)) (z11 : zix ((kup σ 42 0 (Int32.ofInt 1)) 41 x6) 5 = some x11) (h12 : zcnd .eq (σ10 40 x11) 0 = true) (h13 : zcnd .ne ((kup σ 42 0 (Int32.ofInt 1)) 41 x4) 0 = false) (c14_ : ZR 101 0 [.val (.ref (kad n (22, 0, 0))), .val (.int ((kup σ 42 0 (Int32.ofInt 1)) 41 x5)), .val (.int ((kup σ 42 0 (Int32.ofInt 1)) 41 x6)), .val (.int ((kup σ 42 0 (Int32.ofInt 1)) 41 x7)), .val (.int ((kup σ 42 0 (Int32.ofInt 1)) 41 x8)), .val (.int ((kup σ 42 0 (Int32.ofInt 1)) 41 x9)), .unset] [] (khp n L σ10 g) true (.inl (some (.int r14)), khp n L σ14 g, c14)) (h15 : zcnd .eq r14 0 = true) : ZR 99 0 [.val (.ref (kad n (22, 0, 0))), .val (.int p1), .unset, .unset, .unset, .unset, .unset, .unset, .unset, .unset] [] (khp n L σ g) cl (.inl (some (.int (Int32.ofInt 0))), khp n L σ14 (g), false) := by
  have hM : zmi[99]? = some _ := rfl
  have l4 := (zix_some z4).2.2
  have l5 := (zix_some z5).2.2
  have l6 := (zix_some z6).2.2
  have l7 := (zix_some z7).2.2
  have l8 := (zix_some z8).2.2
  have l9 := (zix_some z9).2.2
  have l11 := (zix_some z11).2.2
  refine zr_fr hM rfl rfl rfl ?_
  refine zr_fr hM rfl rfl rfl ?_
  refine zr_iff hM rfl rfl h1 ?_
  refine zr_fr hM rfl rfl rfl ?_
  refine zr_fr hM rfl rfl rfl ?_
  refine zr_getf (κ := (22, 0, 0)) hn hM rfl rfl rfl rfl ?_
  refine zr_icf hM rfl rfl h2 ?_
  refine zr_fr hM rfl rfl rfl ?_
  refine zr_fr hM rfl rfl rfl ?_
  refine zr_putf (κ := (22, 0, 0)) hn hM rfl rfl rfl rfl rfl rfl rfl rfl ?_
  refine zr_fr hM rfl rfl rfl ?_
  refine zr_getf (κ := (22, 0, 0)) hn hM rfl rfl rfl rfl ?_
  refine zr_ift hM rfl rfl h3 ?_
  refine zr_fr hM rfl rfl rfl ?_
  refine zr_fr hM rfl rfl rfl ?_
  refine zr_fr hM rfl rfl rfl ?_
  refine zr_fr hM rfl rfl rfl ?_
  refine zr_fr hM rfl rfl rfl ?_
  refine zr_getf (κ := (22, 0, 0)) hn hM rfl rfl rfl rfl ?_
  refine zr_fr hM rfl rfl rfl ?_
  refine zr_iald (κ := (26, 0, 0)) hn hM rfl rfl rfl z4 ?_
  refine zr_fr hM rfl rfl rfl ?_
  refine zr_fr hM rfl rfl rfl ?_
  refine zr_getf (κ := (22, 0, 0)) hn hM rfl rfl rfl rfl ?_
  refine zr_fr hM rfl rfl rfl ?_
  refine zr_fr hM rfl rfl rfl ?_
  refine zr_fr hM rfl rfl rfl ?_
  refine zr_iald (κ := (26, 0, 0)) hn hM rfl rfl rfl z5 ?_
  refine zr_fr hM rfl rfl rfl ?_
  refine zr_fr hM rfl rfl rfl ?_
  refine zr_getf (κ := (22, 0, 0)) hn hM rfl rfl rfl rfl ?_
  refine zr_fr hM rfl rfl rfl ?_
  refine zr_fr hM rfl rfl rfl ?_
  refine zr_fr hM rfl rfl rfl ?_
  refine zr_iald (κ := (26, 0, 0)) hn hM rfl rfl rfl z6 ?_
  refine zr_fr hM rfl rfl rfl ?_
  refine zr_fr hM rfl rfl rfl ?_
  refine zr_getf (κ := (22, 0, 0)) hn hM rfl rfl rfl rfl ?_
  refine zr_fr hM rfl rfl rfl ?_
  refine zr_fr hM rfl rfl rfl ?_
  refine zr_fr hM rfl rfl rfl ?_
  refine zr_iald (κ := (26, 0, 0)) hn hM rfl rfl rfl z7 ?_
  refine zr_fr hM rfl rfl rfl ?_
  refine zr_fr hM rfl rfl rfl ?_
  refine zr_getf (κ := (22, 0, 0)) hn hM rfl rfl rfl rfl ?_
  refine zr_fr hM rfl rfl rfl ?_
  refine zr_fr hM rfl rfl rfl ?_
  refine zr_fr hM rfl rfl rfl ?_
  refine zr_iald (κ := (26, 0, 0)) hn hM rfl rfl rfl z8 ?_
  refine zr_fr hM rfl rfl rfl ?_
  refine zr_fr hM rfl rfl rfl ?_
  refine zr_getf (κ := (22, 0, 0)) hn hM rfl rfl rfl rfl ?_
  refine zr_fr hM rfl rfl rfl ?_
  refine zr_fr hM rfl rfl rfl ?_
  refine zr_fr hM rfl rfl rfl ?_
  refine zr_iald (κ := (26, 0, 0)) hn hM rfl rfl rfl z9 ?_
  refine zr_fr hM rfl rfl rfl ?_
  refine zr_fr hM rfl rfl rfl ?_
  refine zr_fr hM rfl rfl rfl ?_
  refine zr_virt (κ := (22, 0, 0)) hn hM rfl rfl rfl rfl rfl rfl rfl rfl rfl ?_
  refine zgo_ret rfl rfl c10_ ?_
  rw [Bool.false_and]
  refine zr_fr hM rfl rfl rfl ?_
  refine zr_getf (κ := (22, 0, 0)) hn hM rfl rfl rfl rfl ?_
  refine zr_fr hM rfl rfl rfl ?_
  refine zr_bald (κ := (25, 0, 0)) hn hM rfl rfl rfl z11 ?_
  refine zr_ift hM rfl rfl h12 ?_
  refine zr_fr hM rfl rfl rfl ?_
  refine zr_iff hM rfl rfl h13 ?_
  refine zr_fr hM rfl rfl rfl ?_
  refine zr_fr hM rfl rfl rfl ?_
  refine zr_fr hM rfl rfl rfl ?_
  refine zr_fr hM rfl rfl rfl ?_
  refine zr_fr hM rfl rfl rfl ?_
  refine zr_fr hM rfl rfl rfl ?_
  refine zr_virt (κ := (22, 0, 0)) hn hM rfl rfl rfl rfl rfl rfl rfl rfl rfl ?_
  refine zgo_ret rfl rfl c14_ ?_
  rw [Bool.false_and]
  refine zr_fr hM rfl rfl rfl ?_
  refine zr_fr hM rfl rfl rfl ?_
  refine zr_fr hM rfl rfl rfl ?_
  refine zr_ift hM rfl rfl h15 ?_
  refine zr_fr hM rfl rfl rfl ?_
  exact zr_iret2 hM rfl rfl rfl
set_option maxHeartbeats 4000000 in
theorem s99_0_fftttff {n L : Nat} {σ : Ks} {g : List Nat} {cl : Bool} {p1 : Int32} {x4 : Nat} {x5 : Nat} {x6 : Nat} {x7 : Nat} {x8 : Nat} {x9 : Nat} {σ10 : Ks} {c10 : Bool} {x11 : Nat} {σ15 : Ks} {c15 : Bool} {r15 : Int32} (hn : 2 ≤ n ∧ n ≤ 5) (h1 : zcnd .lt p1 0 = false) (h2 : zcnd .lt p1 (σ 42 2) = false) (h3 : zcnd .le ((kup σ 42 0 (Int32.ofInt 1)) 42 0) 0 = true) (z4 : zix (((Int8.ofInt 6).toInt32) * p1) 150 = some x4) (z5 : zix ((((Int8.ofInt 6).toInt32) * p1) + (Int32.ofInt 1)) 150 = some x5) (z6 : zix ((((Int8.ofInt 6).toInt32) * p1) + (Int32.ofInt 2)) 150 = some x6) (z7 : zix ((((Int8.ofInt 6).toInt32) * p1) + (Int32.ofInt 3)) 150 = some x7) (z8 : zix ((((Int8.ofInt 6).toInt32) * p1) + (Int32.ofInt 4)) 150 = some x8) (z9 : zix ((((Int8.ofInt 6).toInt32) * p1) + (Int32.ofInt 5)) 150 = some x9) (c10_ : ZR 100 0 [.val (.ref (kad n (22, 0, 0))), .val (.int p1), .unset] [] (khp n L (kup σ 42 0 (Int32.ofInt 1)) g) true (.inl (none), khp n L σ10 g, c10)) (z11 : zix ((kup σ 42 0 (Int32.ofInt 1)) 41 x6) 5 = some x11) (h12 : zcnd .eq (σ10 40 x11) 0 = true) (h13 : zcnd .ne ((kup σ 42 0 (Int32.ofInt 1)) 41 x4) 0 = true) (h14 : zcnd .ne ((kup σ 42 0 (Int32.ofInt 1)) 41 x4) (Int32.ofInt 1) = false) (c15_ : ZR 105 0 [.val (.ref (kad n (22, 0, 0))), .val (.int ((kup σ 42 0 (Int32.ofInt 1)) 41 x6)), .val (.int ((kup σ 42 0 (Int32.ofInt 1)) 41 x5)), .val (.int ((kup σ 42 0 (Int32.ofInt 1)) 41 x7)), .unset, .unset, .unset] [] (khp n L σ10 g) true (.inl (some (.int r15)), khp n L σ15 g, c15)) (h16 : zcnd .eq r15 0 = false) : ZR 99 0 [.val (.ref (kad n (22, 0, 0))), .val (.int p1), .unset, .unset, .unset, .unset, .unset, .unset, .unset, .unset] [] (khp n L σ g) cl (.inl (some (.int (Int32.ofInt 1))), khp n L σ15 (g), false) := by
  have hM : zmi[99]? = some _ := rfl
  have l4 := (zix_some z4).2.2
  have l5 := (zix_some z5).2.2
  have l6 := (zix_some z6).2.2
  have l7 := (zix_some z7).2.2
  have l8 := (zix_some z8).2.2
  have l9 := (zix_some z9).2.2
  have l11 := (zix_some z11).2.2
  refine zr_fr hM rfl rfl rfl ?_
  refine zr_fr hM rfl rfl rfl ?_
  refine zr_iff hM rfl rfl h1 ?_
  refine zr_fr hM rfl rfl rfl ?_
  refine zr_fr hM rfl rfl rfl ?_
  refine zr_getf (κ := (22, 0, 0)) hn hM rfl rfl rfl rfl ?_
  refine zr_icf hM rfl rfl h2 ?_
  refine zr_fr hM rfl rfl rfl ?_
  refine zr_fr hM rfl rfl rfl ?_
  refine zr_putf (κ := (22, 0, 0)) hn hM rfl rfl rfl rfl rfl rfl rfl rfl ?_
  refine zr_fr hM rfl rfl rfl ?_
  refine zr_getf (κ := (22, 0, 0)) hn hM rfl rfl rfl rfl ?_
  refine zr_ift hM rfl rfl h3 ?_
  refine zr_fr hM rfl rfl rfl ?_
  refine zr_fr hM rfl rfl rfl ?_
  refine zr_fr hM rfl rfl rfl ?_
  refine zr_fr hM rfl rfl rfl ?_
  refine zr_fr hM rfl rfl rfl ?_
  refine zr_getf (κ := (22, 0, 0)) hn hM rfl rfl rfl rfl ?_
  refine zr_fr hM rfl rfl rfl ?_
  refine zr_iald (κ := (26, 0, 0)) hn hM rfl rfl rfl z4 ?_
  refine zr_fr hM rfl rfl rfl ?_
  refine zr_fr hM rfl rfl rfl ?_
  refine zr_getf (κ := (22, 0, 0)) hn hM rfl rfl rfl rfl ?_
  refine zr_fr hM rfl rfl rfl ?_
  refine zr_fr hM rfl rfl rfl ?_
  refine zr_fr hM rfl rfl rfl ?_
  refine zr_iald (κ := (26, 0, 0)) hn hM rfl rfl rfl z5 ?_
  refine zr_fr hM rfl rfl rfl ?_
  refine zr_fr hM rfl rfl rfl ?_
  refine zr_getf (κ := (22, 0, 0)) hn hM rfl rfl rfl rfl ?_
  refine zr_fr hM rfl rfl rfl ?_
  refine zr_fr hM rfl rfl rfl ?_
  refine zr_fr hM rfl rfl rfl ?_
  refine zr_iald (κ := (26, 0, 0)) hn hM rfl rfl rfl z6 ?_
  refine zr_fr hM rfl rfl rfl ?_
  refine zr_fr hM rfl rfl rfl ?_
  refine zr_getf (κ := (22, 0, 0)) hn hM rfl rfl rfl rfl ?_
  refine zr_fr hM rfl rfl rfl ?_
  refine zr_fr hM rfl rfl rfl ?_
  refine zr_fr hM rfl rfl rfl ?_
  refine zr_iald (κ := (26, 0, 0)) hn hM rfl rfl rfl z7 ?_
  refine zr_fr hM rfl rfl rfl ?_
  refine zr_fr hM rfl rfl rfl ?_
  refine zr_getf (κ := (22, 0, 0)) hn hM rfl rfl rfl rfl ?_
  refine zr_fr hM rfl rfl rfl ?_
  refine zr_fr hM rfl rfl rfl ?_
  refine zr_fr hM rfl rfl rfl ?_
  refine zr_iald (κ := (26, 0, 0)) hn hM rfl rfl rfl z8 ?_
  refine zr_fr hM rfl rfl rfl ?_
  refine zr_fr hM rfl rfl rfl ?_
  refine zr_getf (κ := (22, 0, 0)) hn hM rfl rfl rfl rfl ?_
  refine zr_fr hM rfl rfl rfl ?_
  refine zr_fr hM rfl rfl rfl ?_
  refine zr_fr hM rfl rfl rfl ?_
  refine zr_iald (κ := (26, 0, 0)) hn hM rfl rfl rfl z9 ?_
  refine zr_fr hM rfl rfl rfl ?_
  refine zr_fr hM rfl rfl rfl ?_
  refine zr_fr hM rfl rfl rfl ?_
  refine zr_virt (κ := (22, 0, 0)) hn hM rfl rfl rfl rfl rfl rfl rfl rfl rfl ?_
  refine zgo_ret rfl rfl c10_ ?_
  rw [Bool.false_and]
  refine zr_fr hM rfl rfl rfl ?_
  refine zr_getf (κ := (22, 0, 0)) hn hM rfl rfl rfl rfl ?_
  refine zr_fr hM rfl rfl rfl ?_
  refine zr_bald (κ := (25, 0, 0)) hn hM rfl rfl rfl z11 ?_
  refine zr_ift hM rfl rfl h12 ?_
  refine zr_fr hM rfl rfl rfl ?_
  refine zr_ift hM rfl rfl h13 ?_
  refine zr_fr hM rfl rfl rfl ?_
  refine zr_fr hM rfl rfl rfl ?_
  refine zr_icf hM rfl rfl h14 ?_
  refine zr_fr hM rfl rfl rfl ?_
  refine zr_fr hM rfl rfl rfl ?_
  refine zr_fr hM rfl rfl rfl ?_
  refine zr_fr hM rfl rfl rfl ?_
  refine zr_virt (κ := (22, 0, 0)) hn hM rfl rfl rfl rfl rfl rfl rfl rfl rfl ?_
  refine zgo_ret rfl rfl c15_ ?_
  rw [Bool.false_and]
  refine zr_fr hM rfl rfl rfl ?_
  refine zr_fr hM rfl rfl rfl ?_
  refine zr_fr hM rfl rfl rfl ?_
  refine zr_iff hM rfl rfl h16 ?_
  refine zr_fr hM rfl rfl rfl ?_
  refine zr_fr hM rfl rfl rfl ?_
  exact zr_iret2 hM rfl rfl rfl
set_option maxHeartbeats 4000000 in
theorem s99_0_fftttft {n L : Nat} {σ : Ks} {g : List Nat} {cl : Bool} {p1 : Int32} {x4 : Nat} {x5 : Nat} {x6 : Nat} {x7 : Nat} {x8 : Nat} {x9 : Nat} {σ10 : Ks} {c10 : Bool} {x11 : Nat} {σ15 : Ks} {c15 : Bool} {r15 : Int32} (hn : 2 ≤ n ∧ n ≤ 5) (h1 : zcnd .lt p1 0 = false) (h2 : zcnd .lt p1 (σ 42 2) = false) (h3 : zcnd .le ((kup σ 42 0 (Int32.ofInt 1)) 42 0) 0 = true) (z4 : zix (((Int8.ofInt 6).toInt32) * p1) 150 = some x4) (z5 : zix ((((Int8.ofInt 6).toInt32) * p1) + (Int32.ofInt 1)) 150 = some x5) (z6 : zix ((((Int8.ofInt 6).toInt32) * p1) + (Int32.ofInt 2)) 150 = some x6) (z7 : zix ((((Int8.ofInt 6).toInt32) * p1) + (Int32.ofInt 3)) 150 = some x7) (z8 : zix ((((Int8.ofInt 6).toInt32) * p1) + (Int32.ofInt 4)) 150 = some x8) (z9 : zix ((((Int8.ofInt 6).toInt32) * p1) + (Int32.ofInt 5)) 150 = some x9) (c10_ : ZR 100 0 [.val (.ref (kad n (22, 0, 0))), .val (.int p1), .unset] [] (khp n L (kup σ 42 0 (Int32.ofInt 1)) g) true (.inl (none), khp n L σ10 g, c10)) (z11 : zix ((kup σ 42 0 (Int32.ofInt 1)) 41 x6) 5 = some x11) (h12 : zcnd .eq (σ10 40 x11) 0 = true) (h13 : zcnd .ne ((kup σ 42 0 (Int32.ofInt 1)) 41 x4) 0 = true) (h14 : zcnd .ne ((kup σ 42 0 (Int32.ofInt 1)) 41 x4) (Int32.ofInt 1) = false) (c15_ : ZR 105 0 [.val (.ref (kad n (22, 0, 0))), .val (.int ((kup σ 42 0 (Int32.ofInt 1)) 41 x6)), .val (.int ((kup σ 42 0 (Int32.ofInt 1)) 41 x5)), .val (.int ((kup σ 42 0 (Int32.ofInt 1)) 41 x7)), .unset, .unset, .unset] [] (khp n L σ10 g) true (.inl (some (.int r15)), khp n L σ15 g, c15)) (h16 : zcnd .eq r15 0 = true) : ZR 99 0 [.val (.ref (kad n (22, 0, 0))), .val (.int p1), .unset, .unset, .unset, .unset, .unset, .unset, .unset, .unset] [] (khp n L σ g) cl (.inl (some (.int (Int32.ofInt 0))), khp n L σ15 (g), false) := by
  have hM : zmi[99]? = some _ := rfl
  have l4 := (zix_some z4).2.2
  have l5 := (zix_some z5).2.2
  have l6 := (zix_some z6).2.2
  have l7 := (zix_some z7).2.2
  have l8 := (zix_some z8).2.2
  have l9 := (zix_some z9).2.2
  have l11 := (zix_some z11).2.2
  refine zr_fr hM rfl rfl rfl ?_
  refine zr_fr hM rfl rfl rfl ?_
  refine zr_iff hM rfl rfl h1 ?_
  refine zr_fr hM rfl rfl rfl ?_
  refine zr_fr hM rfl rfl rfl ?_
  refine zr_getf (κ := (22, 0, 0)) hn hM rfl rfl rfl rfl ?_
  refine zr_icf hM rfl rfl h2 ?_
  refine zr_fr hM rfl rfl rfl ?_
  refine zr_fr hM rfl rfl rfl ?_
  refine zr_putf (κ := (22, 0, 0)) hn hM rfl rfl rfl rfl rfl rfl rfl rfl ?_
  refine zr_fr hM rfl rfl rfl ?_
  refine zr_getf (κ := (22, 0, 0)) hn hM rfl rfl rfl rfl ?_
  refine zr_ift hM rfl rfl h3 ?_
  refine zr_fr hM rfl rfl rfl ?_
  refine zr_fr hM rfl rfl rfl ?_
  refine zr_fr hM rfl rfl rfl ?_
  refine zr_fr hM rfl rfl rfl ?_
  refine zr_fr hM rfl rfl rfl ?_
  refine zr_getf (κ := (22, 0, 0)) hn hM rfl rfl rfl rfl ?_
  refine zr_fr hM rfl rfl rfl ?_
  refine zr_iald (κ := (26, 0, 0)) hn hM rfl rfl rfl z4 ?_
  refine zr_fr hM rfl rfl rfl ?_
  refine zr_fr hM rfl rfl rfl ?_
  refine zr_getf (κ := (22, 0, 0)) hn hM rfl rfl rfl rfl ?_
  refine zr_fr hM rfl rfl rfl ?_
  refine zr_fr hM rfl rfl rfl ?_
  refine zr_fr hM rfl rfl rfl ?_
  refine zr_iald (κ := (26, 0, 0)) hn hM rfl rfl rfl z5 ?_
  refine zr_fr hM rfl rfl rfl ?_
  refine zr_fr hM rfl rfl rfl ?_
  refine zr_getf (κ := (22, 0, 0)) hn hM rfl rfl rfl rfl ?_
  refine zr_fr hM rfl rfl rfl ?_
  refine zr_fr hM rfl rfl rfl ?_
  refine zr_fr hM rfl rfl rfl ?_
  refine zr_iald (κ := (26, 0, 0)) hn hM rfl rfl rfl z6 ?_
  refine zr_fr hM rfl rfl rfl ?_
  refine zr_fr hM rfl rfl rfl ?_
  refine zr_getf (κ := (22, 0, 0)) hn hM rfl rfl rfl rfl ?_
  refine zr_fr hM rfl rfl rfl ?_
  refine zr_fr hM rfl rfl rfl ?_
  refine zr_fr hM rfl rfl rfl ?_
  refine zr_iald (κ := (26, 0, 0)) hn hM rfl rfl rfl z7 ?_
  refine zr_fr hM rfl rfl rfl ?_
  refine zr_fr hM rfl rfl rfl ?_
  refine zr_getf (κ := (22, 0, 0)) hn hM rfl rfl rfl rfl ?_
  refine zr_fr hM rfl rfl rfl ?_
  refine zr_fr hM rfl rfl rfl ?_
  refine zr_fr hM rfl rfl rfl ?_
  refine zr_iald (κ := (26, 0, 0)) hn hM rfl rfl rfl z8 ?_
  refine zr_fr hM rfl rfl rfl ?_
  refine zr_fr hM rfl rfl rfl ?_
  refine zr_getf (κ := (22, 0, 0)) hn hM rfl rfl rfl rfl ?_
  refine zr_fr hM rfl rfl rfl ?_
  refine zr_fr hM rfl rfl rfl ?_
  refine zr_fr hM rfl rfl rfl ?_
  refine zr_iald (κ := (26, 0, 0)) hn hM rfl rfl rfl z9 ?_
  refine zr_fr hM rfl rfl rfl ?_
  refine zr_fr hM rfl rfl rfl ?_
  refine zr_fr hM rfl rfl rfl ?_
  refine zr_virt (κ := (22, 0, 0)) hn hM rfl rfl rfl rfl rfl rfl rfl rfl rfl ?_
  refine zgo_ret rfl rfl c10_ ?_
  rw [Bool.false_and]
  refine zr_fr hM rfl rfl rfl ?_
  refine zr_getf (κ := (22, 0, 0)) hn hM rfl rfl rfl rfl ?_
  refine zr_fr hM rfl rfl rfl ?_
  refine zr_bald (κ := (25, 0, 0)) hn hM rfl rfl rfl z11 ?_
  refine zr_ift hM rfl rfl h12 ?_
  refine zr_fr hM rfl rfl rfl ?_
  refine zr_ift hM rfl rfl h13 ?_
  refine zr_fr hM rfl rfl rfl ?_
  refine zr_fr hM rfl rfl rfl ?_
  refine zr_icf hM rfl rfl h14 ?_
  refine zr_fr hM rfl rfl rfl ?_
  refine zr_fr hM rfl rfl rfl ?_
  refine zr_fr hM rfl rfl rfl ?_
  refine zr_fr hM rfl rfl rfl ?_
  refine zr_virt (κ := (22, 0, 0)) hn hM rfl rfl rfl rfl rfl rfl rfl rfl rfl ?_
  refine zgo_ret rfl rfl c15_ ?_
  rw [Bool.false_and]
  refine zr_fr hM rfl rfl rfl ?_
  refine zr_fr hM rfl rfl rfl ?_
  refine zr_fr hM rfl rfl rfl ?_
  refine zr_ift hM rfl rfl h16 ?_
  refine zr_fr hM rfl rfl rfl ?_
  exact zr_iret2 hM rfl rfl rfl
set_option maxHeartbeats 4000000 in
theorem s99_0_ffttttff {n L : Nat} {σ : Ks} {g : List Nat} {cl : Bool} {p1 : Int32} {x4 : Nat} {x5 : Nat} {x6 : Nat} {x7 : Nat} {x8 : Nat} {x9 : Nat} {σ10 : Ks} {c10 : Bool} {x11 : Nat} {σ16 : Ks} {c16 : Bool} {r16 : Int32} (hn : 2 ≤ n ∧ n ≤ 5) (h1 : zcnd .lt p1 0 = false) (h2 : zcnd .lt p1 (σ 42 2) = false) (h3 : zcnd .le ((kup σ 42 0 (Int32.ofInt 1)) 42 0) 0 = true) (z4 : zix (((Int8.ofInt 6).toInt32) * p1) 150 = some x4) (z5 : zix ((((Int8.ofInt 6).toInt32) * p1) + (Int32.ofInt 1)) 150 = some x5) (z6 : zix ((((Int8.ofInt 6).toInt32) * p1) + (Int32.ofInt 2)) 150 = some x6) (z7 : zix ((((Int8.ofInt 6).toInt32) * p1) + (Int32.ofInt 3)) 150 = some x7) (z8 : zix ((((Int8.ofInt 6).toInt32) * p1) + (Int32.ofInt 4)) 150 = some x8) (z9 : zix ((((Int8.ofInt 6).toInt32) * p1) + (Int32.ofInt 5)) 150 = some x9) (c10_ : ZR 100 0 [.val (.ref (kad n (22, 0, 0))), .val (.int p1), .unset] [] (khp n L (kup σ 42 0 (Int32.ofInt 1)) g) true (.inl (none), khp n L σ10 g, c10)) (z11 : zix ((kup σ 42 0 (Int32.ofInt 1)) 41 x6) 5 = some x11) (h12 : zcnd .eq (σ10 40 x11) 0 = true) (h13 : zcnd .ne ((kup σ 42 0 (Int32.ofInt 1)) 41 x4) 0 = true) (h14 : zcnd .ne ((kup σ 42 0 (Int32.ofInt 1)) 41 x4) (Int32.ofInt 1) = true) (h15 : zcnd .ne ((kup σ 42 0 (Int32.ofInt 1)) 41 x4) (Int32.ofInt 2) = false) (c16_ : ZR 106 0 [.val (.ref (kad n (22, 0, 0))), .val (.int ((kup σ 42 0 (Int32.ofInt 1)) 41 x5)), .val (.int ((kup σ 42 0 (Int32.ofInt 1)) 41 x6)), .val (.int ((kup σ 42 0 (Int32.ofInt 1)) 41 x7)), .val (.int ((kup σ 42 0 (Int32.ofInt 1)) 41 x8)), .val (.int ((kup σ 42 0 (Int32.ofInt 1)) 41 x9)), .unset] [] (khp n L σ10 g) true (.inl (some (.int r16)), khp n L σ16 g, c16)) (h17 : zcnd .eq r16 0 = false) : ZR 99 0 [.val (.ref (kad n (22, 0, 0))), .val (.int p1), .unset, .unset, .unset, .unset, .unset, .unset, .unset, .unset] [] (khp n L σ g) cl (.inl (some (.int (Int32.ofInt 1))), khp n L σ16 (g), false) := by
  have hM : zmi[99]? = some _ := rfl
  have l4 := (zix_some z4).2.2
  have l5 := (zix_some z5).2.2
  have l6 := (zix_some z6).2.2
  have l7 := (zix_some z7).2.2
  have l8 := (zix_some z8).2.2
  have l9 := (zix_some z9).2.2
  have l11 := (zix_some z11).2.2
  refine zr_fr hM rfl rfl rfl ?_
  refine zr_fr hM rfl rfl rfl ?_
  refine zr_iff hM rfl rfl h1 ?_
  refine zr_fr hM rfl rfl rfl ?_
  refine zr_fr hM rfl rfl rfl ?_
  refine zr_getf (κ := (22, 0, 0)) hn hM rfl rfl rfl rfl ?_
  refine zr_icf hM rfl rfl h2 ?_
  refine zr_fr hM rfl rfl rfl ?_
  refine zr_fr hM rfl rfl rfl ?_
  refine zr_putf (κ := (22, 0, 0)) hn hM rfl rfl rfl rfl rfl rfl rfl rfl ?_
  refine zr_fr hM rfl rfl rfl ?_
  refine zr_getf (κ := (22, 0, 0)) hn hM rfl rfl rfl rfl ?_
  refine zr_ift hM rfl rfl h3 ?_
  refine zr_fr hM rfl rfl rfl ?_
  refine zr_fr hM rfl rfl rfl ?_
  refine zr_fr hM rfl rfl rfl ?_
  refine zr_fr hM rfl rfl rfl ?_
  refine zr_fr hM rfl rfl rfl ?_
  refine zr_getf (κ := (22, 0, 0)) hn hM rfl rfl rfl rfl ?_
  refine zr_fr hM rfl rfl rfl ?_
  refine zr_iald (κ := (26, 0, 0)) hn hM rfl rfl rfl z4 ?_
  refine zr_fr hM rfl rfl rfl ?_
  refine zr_fr hM rfl rfl rfl ?_
  refine zr_getf (κ := (22, 0, 0)) hn hM rfl rfl rfl rfl ?_
  refine zr_fr hM rfl rfl rfl ?_
  refine zr_fr hM rfl rfl rfl ?_
  refine zr_fr hM rfl rfl rfl ?_
  refine zr_iald (κ := (26, 0, 0)) hn hM rfl rfl rfl z5 ?_
  refine zr_fr hM rfl rfl rfl ?_
  refine zr_fr hM rfl rfl rfl ?_
  refine zr_getf (κ := (22, 0, 0)) hn hM rfl rfl rfl rfl ?_
  refine zr_fr hM rfl rfl rfl ?_
  refine zr_fr hM rfl rfl rfl ?_
  refine zr_fr hM rfl rfl rfl ?_
  refine zr_iald (κ := (26, 0, 0)) hn hM rfl rfl rfl z6 ?_
  refine zr_fr hM rfl rfl rfl ?_
  refine zr_fr hM rfl rfl rfl ?_
  refine zr_getf (κ := (22, 0, 0)) hn hM rfl rfl rfl rfl ?_
  refine zr_fr hM rfl rfl rfl ?_
  refine zr_fr hM rfl rfl rfl ?_
  refine zr_fr hM rfl rfl rfl ?_
  refine zr_iald (κ := (26, 0, 0)) hn hM rfl rfl rfl z7 ?_
  refine zr_fr hM rfl rfl rfl ?_
  refine zr_fr hM rfl rfl rfl ?_
  refine zr_getf (κ := (22, 0, 0)) hn hM rfl rfl rfl rfl ?_
  refine zr_fr hM rfl rfl rfl ?_
  refine zr_fr hM rfl rfl rfl ?_
  refine zr_fr hM rfl rfl rfl ?_
  refine zr_iald (κ := (26, 0, 0)) hn hM rfl rfl rfl z8 ?_
  refine zr_fr hM rfl rfl rfl ?_
  refine zr_fr hM rfl rfl rfl ?_
  refine zr_getf (κ := (22, 0, 0)) hn hM rfl rfl rfl rfl ?_
  refine zr_fr hM rfl rfl rfl ?_
  refine zr_fr hM rfl rfl rfl ?_
  refine zr_fr hM rfl rfl rfl ?_
  refine zr_iald (κ := (26, 0, 0)) hn hM rfl rfl rfl z9 ?_
  refine zr_fr hM rfl rfl rfl ?_
  refine zr_fr hM rfl rfl rfl ?_
  refine zr_fr hM rfl rfl rfl ?_
  refine zr_virt (κ := (22, 0, 0)) hn hM rfl rfl rfl rfl rfl rfl rfl rfl rfl ?_
  refine zgo_ret rfl rfl c10_ ?_
  rw [Bool.false_and]
  refine zr_fr hM rfl rfl rfl ?_
  refine zr_getf (κ := (22, 0, 0)) hn hM rfl rfl rfl rfl ?_
  refine zr_fr hM rfl rfl rfl ?_
  refine zr_bald (κ := (25, 0, 0)) hn hM rfl rfl rfl z11 ?_
  refine zr_ift hM rfl rfl h12 ?_
  refine zr_fr hM rfl rfl rfl ?_
  refine zr_ift hM rfl rfl h13 ?_
  refine zr_fr hM rfl rfl rfl ?_
  refine zr_fr hM rfl rfl rfl ?_
  refine zr_ict hM rfl rfl h14 ?_
  refine zr_fr hM rfl rfl rfl ?_
  refine zr_fr hM rfl rfl rfl ?_
  refine zr_icf hM rfl rfl h15 ?_
  refine zr_fr hM rfl rfl rfl ?_
  refine zr_fr hM rfl rfl rfl ?_
  refine zr_fr hM rfl rfl rfl ?_
  refine zr_fr hM rfl rfl rfl ?_
  refine zr_fr hM rfl rfl rfl ?_
  refine zr_fr hM rfl rfl rfl ?_
  refine zr_virt (κ := (22, 0, 0)) hn hM rfl rfl rfl rfl rfl rfl rfl rfl rfl ?_
  refine zgo_ret rfl rfl c16_ ?_
  rw [Bool.false_and]
  refine zr_fr hM rfl rfl rfl ?_
  refine zr_fr hM rfl rfl rfl ?_
  refine zr_fr hM rfl rfl rfl ?_
  refine zr_iff hM rfl rfl h17 ?_
  refine zr_fr hM rfl rfl rfl ?_
  refine zr_fr hM rfl rfl rfl ?_
  exact zr_iret2 hM rfl rfl rfl
set_option maxHeartbeats 4000000 in
theorem s99_0_ffttttft {n L : Nat} {σ : Ks} {g : List Nat} {cl : Bool} {p1 : Int32} {x4 : Nat} {x5 : Nat} {x6 : Nat} {x7 : Nat} {x8 : Nat} {x9 : Nat} {σ10 : Ks} {c10 : Bool} {x11 : Nat} {σ16 : Ks} {c16 : Bool} {r16 : Int32} (hn : 2 ≤ n ∧ n ≤ 5) (h1 : zcnd .lt p1 0 = false) (h2 : zcnd .lt p1 (σ 42 2) = false) (h3 : zcnd .le ((kup σ 42 0 (Int32.ofInt 1)) 42 0) 0 = true) (z4 : zix (((Int8.ofInt 6).toInt32) * p1) 150 = some x4) (z5 : zix ((((Int8.ofInt 6).toInt32) * p1) + (Int32.ofInt 1)) 150 = some x5) (z6 : zix ((((Int8.ofInt 6).toInt32) * p1) + (Int32.ofInt 2)) 150 = some x6) (z7 : zix ((((Int8.ofInt 6).toInt32) * p1) + (Int32.ofInt 3)) 150 = some x7) (z8 : zix ((((Int8.ofInt 6).toInt32) * p1) + (Int32.ofInt 4)) 150 = some x8) (z9 : zix ((((Int8.ofInt 6).toInt32) * p1) + (Int32.ofInt 5)) 150 = some x9) (c10_ : ZR 100 0 [.val (.ref (kad n (22, 0, 0))), .val (.int p1), .unset] [] (khp n L (kup σ 42 0 (Int32.ofInt 1)) g) true (.inl (none), khp n L σ10 g, c10)) (z11 : zix ((kup σ 42 0 (Int32.ofInt 1)) 41 x6) 5 = some x11) (h12 : zcnd .eq (σ10 40 x11) 0 = true) (h13 : zcnd .ne ((kup σ 42 0 (Int32.ofInt 1)) 41 x4) 0 = true) (h14 : zcnd .ne ((kup σ 42 0 (Int32.ofInt 1)) 41 x4) (Int32.ofInt 1) = true) (h15 : zcnd .ne ((kup σ 42 0 (Int32.ofInt 1)) 41 x4) (Int32.ofInt 2) = false) (c16_ : ZR 106 0 [.val (.ref (kad n (22, 0, 0))), .val (.int ((kup σ 42 0 (Int32.ofInt 1)) 41 x5)), .val (.int ((kup σ 42 0 (Int32.ofInt 1)) 41 x6)), .val (.int ((kup σ 42 0 (Int32.ofInt 1)) 41 x7)), .val (.int ((kup σ 42 0 (Int32.ofInt 1)) 41 x8)), .val (.int ((kup σ 42 0 (Int32.ofInt 1)) 41 x9)), .unset] [] (khp n L σ10 g) true (.inl (some (.int r16)), khp n L σ16 g, c16)) (h17 : zcnd .eq r16 0 = true) : ZR 99 0 [.val (.ref (kad n (22, 0, 0))), .val (.int p1), .unset, .unset, .unset, .unset, .unset, .unset, .unset, .unset] [] (khp n L σ g) cl (.inl (some (.int (Int32.ofInt 0))), khp n L σ16 (g), false) := by
  have hM : zmi[99]? = some _ := rfl
  have l4 := (zix_some z4).2.2
  have l5 := (zix_some z5).2.2
  have l6 := (zix_some z6).2.2
  have l7 := (zix_some z7).2.2
  have l8 := (zix_some z8).2.2
  have l9 := (zix_some z9).2.2
  have l11 := (zix_some z11).2.2
  refine zr_fr hM rfl rfl rfl ?_
  refine zr_fr hM rfl rfl rfl ?_
  refine zr_iff hM rfl rfl h1 ?_
  refine zr_fr hM rfl rfl rfl ?_
  refine zr_fr hM rfl rfl rfl ?_
  refine zr_getf (κ := (22, 0, 0)) hn hM rfl rfl rfl rfl ?_
  refine zr_icf hM rfl rfl h2 ?_
  refine zr_fr hM rfl rfl rfl ?_
  refine zr_fr hM rfl rfl rfl ?_
  refine zr_putf (κ := (22, 0, 0)) hn hM rfl rfl rfl rfl rfl rfl rfl rfl ?_
  refine zr_fr hM rfl rfl rfl ?_
  refine zr_getf (κ := (22, 0, 0)) hn hM rfl rfl rfl rfl ?_
  refine zr_ift hM rfl rfl h3 ?_
  refine zr_fr hM rfl rfl rfl ?_
  refine zr_fr hM rfl rfl rfl ?_
  refine zr_fr hM rfl rfl rfl ?_
  refine zr_fr hM rfl rfl rfl ?_
  refine zr_fr hM rfl rfl rfl ?_
  refine zr_getf (κ := (22, 0, 0)) hn hM rfl rfl rfl rfl ?_
  refine zr_fr hM rfl rfl rfl ?_
  refine zr_iald (κ := (26, 0, 0)) hn hM rfl rfl rfl z4 ?_
  refine zr_fr hM rfl rfl rfl ?_
  refine zr_fr hM rfl rfl rfl ?_
  refine zr_getf (κ := (22, 0, 0)) hn hM rfl rfl rfl rfl ?_
  refine zr_fr hM rfl rfl rfl ?_
  refine zr_fr hM rfl rfl rfl ?_
  refine zr_fr hM rfl rfl rfl ?_
  refine zr_iald (κ := (26, 0, 0)) hn hM rfl rfl rfl z5 ?_
  refine zr_fr hM rfl rfl rfl ?_
  refine zr_fr hM rfl rfl rfl ?_
  refine zr_getf (κ := (22, 0, 0)) hn hM rfl rfl rfl rfl ?_
  refine zr_fr hM rfl rfl rfl ?_
  refine zr_fr hM rfl rfl rfl ?_
  refine zr_fr hM rfl rfl rfl ?_
  refine zr_iald (κ := (26, 0, 0)) hn hM rfl rfl rfl z6 ?_
  refine zr_fr hM rfl rfl rfl ?_
  refine zr_fr hM rfl rfl rfl ?_
  refine zr_getf (κ := (22, 0, 0)) hn hM rfl rfl rfl rfl ?_
  refine zr_fr hM rfl rfl rfl ?_
  refine zr_fr hM rfl rfl rfl ?_
  refine zr_fr hM rfl rfl rfl ?_
  refine zr_iald (κ := (26, 0, 0)) hn hM rfl rfl rfl z7 ?_
  refine zr_fr hM rfl rfl rfl ?_
  refine zr_fr hM rfl rfl rfl ?_
  refine zr_getf (κ := (22, 0, 0)) hn hM rfl rfl rfl rfl ?_
  refine zr_fr hM rfl rfl rfl ?_
  refine zr_fr hM rfl rfl rfl ?_
  refine zr_fr hM rfl rfl rfl ?_
  refine zr_iald (κ := (26, 0, 0)) hn hM rfl rfl rfl z8 ?_
  refine zr_fr hM rfl rfl rfl ?_
  refine zr_fr hM rfl rfl rfl ?_
  refine zr_getf (κ := (22, 0, 0)) hn hM rfl rfl rfl rfl ?_
  refine zr_fr hM rfl rfl rfl ?_
  refine zr_fr hM rfl rfl rfl ?_
  refine zr_fr hM rfl rfl rfl ?_
  refine zr_iald (κ := (26, 0, 0)) hn hM rfl rfl rfl z9 ?_
  refine zr_fr hM rfl rfl rfl ?_
  refine zr_fr hM rfl rfl rfl ?_
  refine zr_fr hM rfl rfl rfl ?_
  refine zr_virt (κ := (22, 0, 0)) hn hM rfl rfl rfl rfl rfl rfl rfl rfl rfl ?_
  refine zgo_ret rfl rfl c10_ ?_
  rw [Bool.false_and]
  refine zr_fr hM rfl rfl rfl ?_
  refine zr_getf (κ := (22, 0, 0)) hn hM rfl rfl rfl rfl ?_
  refine zr_fr hM rfl rfl rfl ?_
  refine zr_bald (κ := (25, 0, 0)) hn hM rfl rfl rfl z11 ?_
  refine zr_ift hM rfl rfl h12 ?_
  refine zr_fr hM rfl rfl rfl ?_
  refine zr_ift hM rfl rfl h13 ?_
  refine zr_fr hM rfl rfl rfl ?_
  refine zr_fr hM rfl rfl rfl ?_
  refine zr_ict hM rfl rfl h14 ?_
  refine zr_fr hM rfl rfl rfl ?_
  refine zr_fr hM rfl rfl rfl ?_
  refine zr_icf hM rfl rfl h15 ?_
  refine zr_fr hM rfl rfl rfl ?_
  refine zr_fr hM rfl rfl rfl ?_
  refine zr_fr hM rfl rfl rfl ?_
  refine zr_fr hM rfl rfl rfl ?_
  refine zr_fr hM rfl rfl rfl ?_
  refine zr_fr hM rfl rfl rfl ?_
  refine zr_virt (κ := (22, 0, 0)) hn hM rfl rfl rfl rfl rfl rfl rfl rfl rfl ?_
  refine zgo_ret rfl rfl c16_ ?_
  rw [Bool.false_and]
  refine zr_fr hM rfl rfl rfl ?_
  refine zr_fr hM rfl rfl rfl ?_
  refine zr_fr hM rfl rfl rfl ?_
  refine zr_ift hM rfl rfl h17 ?_
  refine zr_fr hM rfl rfl rfl ?_
  exact zr_iret2 hM rfl rfl rfl
set_option maxHeartbeats 4000000 in
theorem s99_0_fftttttf {n L : Nat} {σ : Ks} {g : List Nat} {cl : Bool} {p1 : Int32} {x4 : Nat} {x5 : Nat} {x6 : Nat} {x7 : Nat} {x8 : Nat} {x9 : Nat} {σ10 : Ks} {c10 : Bool} {x11 : Nat} {σ16 : Ks} {c16 : Bool} {r16 : Int32} (hn : 2 ≤ n ∧ n ≤ 5) (h1 : zcnd .lt p1 0 = false) (h2 : zcnd .lt p1 (σ 42 2) = false) (h3 : zcnd .le ((kup σ 42 0 (Int32.ofInt 1)) 42 0) 0 = true) (z4 : zix (((Int8.ofInt 6).toInt32) * p1) 150 = some x4) (z5 : zix ((((Int8.ofInt 6).toInt32) * p1) + (Int32.ofInt 1)) 150 = some x5) (z6 : zix ((((Int8.ofInt 6).toInt32) * p1) + (Int32.ofInt 2)) 150 = some x6) (z7 : zix ((((Int8.ofInt 6).toInt32) * p1) + (Int32.ofInt 3)) 150 = some x7) (z8 : zix ((((Int8.ofInt 6).toInt32) * p1) + (Int32.ofInt 4)) 150 = some x8) (z9 : zix ((((Int8.ofInt 6).toInt32) * p1) + (Int32.ofInt 5)) 150 = some x9) (c10_ : ZR 100 0 [.val (.ref (kad n (22, 0, 0))), .val (.int p1), .unset] [] (khp n L (kup σ 42 0 (Int32.ofInt 1)) g) true (.inl (none), khp n L σ10 g, c10)) (z11 : zix ((kup σ 42 0 (Int32.ofInt 1)) 41 x6) 5 = some x11) (h12 : zcnd .eq (σ10 40 x11) 0 = true) (h13 : zcnd .ne ((kup σ 42 0 (Int32.ofInt 1)) 41 x4) 0 = true) (h14 : zcnd .ne ((kup σ 42 0 (Int32.ofInt 1)) 41 x4) (Int32.ofInt 1) = true) (h15 : zcnd .ne ((kup σ 42 0 (Int32.ofInt 1)) 41 x4) (Int32.ofInt 2) = true) (c16_ : ZR 107 0 [.val (.ref (kad n (22, 0, 0))), .val (.int ((kup σ 42 0 (Int32.ofInt 1)) 41 x5)), .val (.int ((kup σ 42 0 (Int32.ofInt 1)) 41 x6)), .val (.int ((kup σ 42 0 (Int32.ofInt 1)) 41 x7)), .val (.int ((kup σ 42 0 (Int32.ofInt 1)) 41 x8)), .unset] [] (khp n L σ10 g) true (.inl (some (.int r16)), khp n L σ16 g, c16)) (h17 : zcnd .eq r16 0 = false) : ZR 99 0 [.val (.ref (kad n (22, 0, 0))), .val (.int p1), .unset, .unset, .unset, .unset, .unset, .unset, .unset, .unset] [] (khp n L σ g) cl (.inl (some (.int (Int32.ofInt 1))), khp n L σ16 (g), false) := by
  have hM : zmi[99]? = some _ := rfl
  have l4 := (zix_some z4).2.2
  have l5 := (zix_some z5).2.2
  have l6 := (zix_some z6).2.2
  have l7 := (zix_some z7).2.2
  have l8 := (zix_some z8).2.2
  have l9 := (zix_some z9).2.2
  have l11 := (zix_some z11).2.2
  refine zr_fr hM rfl rfl rfl ?_
  refine zr_fr hM rfl rfl rfl ?_
  refine zr_iff hM rfl rfl h1 ?_
  refine zr_fr hM rfl rfl rfl ?_
  refine zr_fr hM rfl rfl rfl ?_
  refine zr_getf (κ := (22, 0, 0)) hn hM rfl rfl rfl rfl ?_
  refine zr_icf hM rfl rfl h2 ?_
  refine zr_fr hM rfl rfl rfl ?_
  refine zr_fr hM rfl rfl rfl ?_
  refine zr_putf (κ := (22, 0, 0)) hn hM rfl rfl rfl rfl rfl rfl rfl rfl ?_
  refine zr_fr hM rfl rfl rfl ?_
  refine zr_getf (κ := (22, 0, 0)) hn hM rfl rfl rfl rfl ?_
  refine zr_ift hM rfl rfl h3 ?_
  refine zr_fr hM rfl rfl rfl ?_
  refine zr_fr hM rfl rfl rfl ?_
  refine zr_fr hM rfl rfl rfl ?_
  refine zr_fr hM rfl rfl rfl ?_
  refine zr_fr hM rfl rfl rfl ?_
  refine zr_getf (κ := (22, 0, 0)) hn hM rfl rfl rfl rfl ?_
  refine zr_fr hM rfl rfl rfl ?_
  refine zr_iald (κ := (26, 0, 0)) hn hM rfl rfl rfl z4 ?_
  refine zr_fr hM rfl rfl rfl ?_
  refine zr_fr hM rfl rfl rfl ?_
  refine zr_getf (κ := (22, 0, 0)) hn hM rfl rfl rfl rfl ?_
  refine zr_fr hM rfl rfl rfl ?_
  refine zr_fr hM rfl rfl rfl ?_
  refine zr_fr hM rfl rfl rfl ?_
  refine zr_iald (κ := (26, 0, 0)) hn hM rfl rfl rfl z5 ?_
  refine zr_fr hM rfl rfl rfl ?_
  refine zr_fr hM rfl rfl rfl ?_
  refine zr_getf (κ := (22, 0, 0)) hn hM rfl rfl rfl rfl ?_
  refine zr_fr hM rfl rfl rfl ?_
  refine zr_fr hM rfl rfl rfl ?_
  refine zr_fr hM rfl rfl rfl ?_
  refine zr_iald (κ := (26, 0, 0)) hn hM rfl rfl rfl z6 ?_
  refine zr_fr hM rfl rfl rfl ?_
  refine zr_fr hM rfl rfl rfl ?_
  refine zr_getf (κ := (22, 0, 0)) hn hM rfl rfl rfl rfl ?_
  refine zr_fr hM rfl rfl rfl ?_
  refine zr_fr hM rfl rfl rfl ?_
  refine zr_fr hM rfl rfl rfl ?_
  refine zr_iald (κ := (26, 0, 0)) hn hM rfl rfl rfl z7 ?_
  refine zr_fr hM rfl rfl rfl ?_
  refine zr_fr hM rfl rfl rfl ?_
  refine zr_getf (κ := (22, 0, 0)) hn hM rfl rfl rfl rfl ?_
  refine zr_fr hM rfl rfl rfl ?_
  refine zr_fr hM rfl rfl rfl ?_
  refine zr_fr hM rfl rfl rfl ?_
  refine zr_iald (κ := (26, 0, 0)) hn hM rfl rfl rfl z8 ?_
  refine zr_fr hM rfl rfl rfl ?_
  refine zr_fr hM rfl rfl rfl ?_
  refine zr_getf (κ := (22, 0, 0)) hn hM rfl rfl rfl rfl ?_
  refine zr_fr hM rfl rfl rfl ?_
  refine zr_fr hM rfl rfl rfl ?_
  refine zr_fr hM rfl rfl rfl ?_
  refine zr_iald (κ := (26, 0, 0)) hn hM rfl rfl rfl z9 ?_
  refine zr_fr hM rfl rfl rfl ?_
  refine zr_fr hM rfl rfl rfl ?_
  refine zr_fr hM rfl rfl rfl ?_
  refine zr_virt (κ := (22, 0, 0)) hn hM rfl rfl rfl rfl rfl rfl rfl rfl rfl ?_
  refine zgo_ret rfl rfl c10_ ?_
  rw [Bool.false_and]
  refine zr_fr hM rfl rfl rfl ?_
  refine zr_getf (κ := (22, 0, 0)) hn hM rfl rfl rfl rfl ?_
  refine zr_fr hM rfl rfl rfl ?_
  refine zr_bald (κ := (25, 0, 0)) hn hM rfl rfl rfl z11 ?_
  refine zr_ift hM rfl rfl h12 ?_
  refine zr_fr hM rfl rfl rfl ?_
  refine zr_ift hM rfl rfl h13 ?_
  refine zr_fr hM rfl rfl rfl ?_
  refine zr_fr hM rfl rfl rfl ?_
  refine zr_ict hM rfl rfl h14 ?_
  refine zr_fr hM rfl rfl rfl ?_
  refine zr_fr hM rfl rfl rfl ?_
  refine zr_ict hM rfl rfl h15 ?_
  refine zr_fr hM rfl rfl rfl ?_
  refine zr_fr hM rfl rfl rfl ?_
  refine zr_fr hM rfl rfl rfl ?_
  refine zr_fr hM rfl rfl rfl ?_
  refine zr_fr hM rfl rfl rfl ?_
  refine zr_virt (κ := (22, 0, 0)) hn hM rfl rfl rfl rfl rfl rfl rfl rfl rfl ?_
  refine zgo_ret rfl rfl c16_ ?_
  rw [Bool.false_and]
  refine zr_fr hM rfl rfl rfl ?_
  refine zr_fr hM rfl rfl rfl ?_
  refine zr_iff hM rfl rfl h17 ?_
  refine zr_fr hM rfl rfl rfl ?_
  refine zr_fr hM rfl rfl rfl ?_
  exact zr_iret2 hM rfl rfl rfl
set_option maxHeartbeats 4000000 in
theorem s99_0_fftttttt {n L : Nat} {σ : Ks} {g : List Nat} {cl : Bool} {p1 : Int32} {x4 : Nat} {x5 : Nat} {x6 : Nat} {x7 : Nat} {x8 : Nat} {x9 : Nat} {σ10 : Ks} {c10 : Bool} {x11 : Nat} {σ16 : Ks} {c16 : Bool} {r16 : Int32} (hn : 2 ≤ n ∧ n ≤ 5) (h1 : zcnd .lt p1 0 = false) (h2 : zcnd .lt p1 (σ 42 2) = false) (h3 : zcnd .le ((kup σ 42 0 (Int32.ofInt 1)) 42 0) 0 = true) (z4 : zix (((Int8.ofInt 6).toInt32) * p1) 150 = some x4) (z5 : zix ((((Int8.ofInt 6).toInt32) * p1) + (Int32.ofInt 1)) 150 = some x5) (z6 : zix ((((Int8.ofInt 6).toInt32) * p1) + (Int32.ofInt 2)) 150 = some x6) (z7 : zix ((((Int8.ofInt 6).toInt32) * p1) + (Int32.ofInt 3)) 150 = some x7) (z8 : zix ((((Int8.ofInt 6).toInt32) * p1) + (Int32.ofInt 4)) 150 = some x8) (z9 : zix ((((Int8.ofInt 6).toInt32) * p1) + (Int32.ofInt 5)) 150 = some x9) (c10_ : ZR 100 0 [.val (.ref (kad n (22, 0, 0))), .val (.int p1), .unset] [] (khp n L (kup σ 42 0 (Int32.ofInt 1)) g) true (.inl (none), khp n L σ10 g, c10)) (z11 : zix ((kup σ 42 0 (Int32.ofInt 1)) 41 x6) 5 = some x11) (h12 : zcnd .eq (σ10 40 x11) 0 = true) (h13 : zcnd .ne ((kup σ 42 0 (Int32.ofInt 1)) 41 x4) 0 = true) (h14 : zcnd .ne ((kup σ 42 0 (Int32.ofInt 1)) 41 x4) (Int32.ofInt 1) = true) (h15 : zcnd .ne ((kup σ 42 0 (Int32.ofInt 1)) 41 x4) (Int32.ofInt 2) = true) (c16_ : ZR 107 0 [.val (.ref (kad n (22, 0, 0))), .val (.int ((kup σ 42 0 (Int32.ofInt 1)) 41 x5)), .val (.int ((kup σ 42 0 (Int32.ofInt 1)) 41 x6)), .val (.int ((kup σ 42 0 (Int32.ofInt 1)) 41 x7)), .val (.int ((kup σ 42 0 (Int32.ofInt 1)) 41 x8)), .unset] [] (khp n L σ10 g) true (.inl (some (.int r16)), khp n L σ16 g, c16)) (h17 : zcnd .eq r16 0 = true) : ZR 99 0 [.val (.ref (kad n (22, 0, 0))), .val (.int p1), .unset, .unset, .unset, .unset, .unset, .unset, .unset, .unset] [] (khp n L σ g) cl (.inl (some (.int (Int32.ofInt 0))), khp n L σ16 (g), false) := by
  have hM : zmi[99]? = some _ := rfl
  have l4 := (zix_some z4).2.2
  have l5 := (zix_some z5).2.2
  have l6 := (zix_some z6).2.2
  have l7 := (zix_some z7).2.2
  have l8 := (zix_some z8).2.2
  have l9 := (zix_some z9).2.2
  have l11 := (zix_some z11).2.2
  refine zr_fr hM rfl rfl rfl ?_
  refine zr_fr hM rfl rfl rfl ?_
  refine zr_iff hM rfl rfl h1 ?_
  refine zr_fr hM rfl rfl rfl ?_
  refine zr_fr hM rfl rfl rfl ?_
  refine zr_getf (κ := (22, 0, 0)) hn hM rfl rfl rfl rfl ?_
  refine zr_icf hM rfl rfl h2 ?_
  refine zr_fr hM rfl rfl rfl ?_
  refine zr_fr hM rfl rfl rfl ?_
  refine zr_putf (κ := (22, 0, 0)) hn hM rfl rfl rfl rfl rfl rfl rfl rfl ?_
  refine zr_fr hM rfl rfl rfl ?_
  refine zr_getf (κ := (22, 0, 0)) hn hM rfl rfl rfl rfl ?_
  refine zr_ift hM rfl rfl h3 ?_
  refine zr_fr hM rfl rfl rfl ?_
  refine zr_fr hM rfl rfl rfl ?_
  refine zr_fr hM rfl rfl rfl ?_
  refine zr_fr hM rfl rfl rfl ?_
  refine zr_fr hM rfl rfl rfl ?_
  refine zr_getf (κ := (22, 0, 0)) hn hM rfl rfl rfl rfl ?_
  refine zr_fr hM rfl rfl rfl ?_
  refine zr_iald (κ := (26, 0, 0)) hn hM rfl rfl rfl z4 ?_
  refine zr_fr hM rfl rfl rfl ?_
  refine zr_fr hM rfl rfl rfl ?_
  refine zr_getf (κ := (22, 0, 0)) hn hM rfl rfl rfl rfl ?_
  refine zr_fr hM rfl rfl rfl ?_
  refine zr_fr hM rfl rfl rfl ?_
  refine zr_fr hM rfl rfl rfl ?_
  refine zr_iald (κ := (26, 0, 0)) hn hM rfl rfl rfl z5 ?_
  refine zr_fr hM rfl rfl rfl ?_
  refine zr_fr hM rfl rfl rfl ?_
  refine zr_getf (κ := (22, 0, 0)) hn hM rfl rfl rfl rfl ?_
  refine zr_fr hM rfl rfl rfl ?_
  refine zr_fr hM rfl rfl rfl ?_
  refine zr_fr hM rfl rfl rfl ?_
  refine zr_iald (κ := (26, 0, 0)) hn hM rfl rfl rfl z6 ?_
  refine zr_fr hM rfl rfl rfl ?_
  refine zr_fr hM rfl rfl rfl ?_
  refine zr_getf (κ := (22, 0, 0)) hn hM rfl rfl rfl rfl ?_
  refine zr_fr hM rfl rfl rfl ?_
  refine zr_fr hM rfl rfl rfl ?_
  refine zr_fr hM rfl rfl rfl ?_
  refine zr_iald (κ := (26, 0, 0)) hn hM rfl rfl rfl z7 ?_
  refine zr_fr hM rfl rfl rfl ?_
  refine zr_fr hM rfl rfl rfl ?_
  refine zr_getf (κ := (22, 0, 0)) hn hM rfl rfl rfl rfl ?_
  refine zr_fr hM rfl rfl rfl ?_
  refine zr_fr hM rfl rfl rfl ?_
  refine zr_fr hM rfl rfl rfl ?_
  refine zr_iald (κ := (26, 0, 0)) hn hM rfl rfl rfl z8 ?_
  refine zr_fr hM rfl rfl rfl ?_
  refine zr_fr hM rfl rfl rfl ?_
  refine zr_getf (κ := (22, 0, 0)) hn hM rfl rfl rfl rfl ?_
  refine zr_fr hM rfl rfl rfl ?_
  refine zr_fr hM rfl rfl rfl ?_
  refine zr_fr hM rfl rfl rfl ?_
  refine zr_iald (κ := (26, 0, 0)) hn hM rfl rfl rfl z9 ?_
  refine zr_fr hM rfl rfl rfl ?_
  refine zr_fr hM rfl rfl rfl ?_
  refine zr_fr hM rfl rfl rfl ?_
  refine zr_virt (κ := (22, 0, 0)) hn hM rfl rfl rfl rfl rfl rfl rfl rfl rfl ?_
  refine zgo_ret rfl rfl c10_ ?_
  rw [Bool.false_and]
  refine zr_fr hM rfl rfl rfl ?_
  refine zr_getf (κ := (22, 0, 0)) hn hM rfl rfl rfl rfl ?_
  refine zr_fr hM rfl rfl rfl ?_
  refine zr_bald (κ := (25, 0, 0)) hn hM rfl rfl rfl z11 ?_
  refine zr_ift hM rfl rfl h12 ?_
  refine zr_fr hM rfl rfl rfl ?_
  refine zr_ift hM rfl rfl h13 ?_
  refine zr_fr hM rfl rfl rfl ?_
  refine zr_fr hM rfl rfl rfl ?_
  refine zr_ict hM rfl rfl h14 ?_
  refine zr_fr hM rfl rfl rfl ?_
  refine zr_fr hM rfl rfl rfl ?_
  refine zr_ict hM rfl rfl h15 ?_
  refine zr_fr hM rfl rfl rfl ?_
  refine zr_fr hM rfl rfl rfl ?_
  refine zr_fr hM rfl rfl rfl ?_
  refine zr_fr hM rfl rfl rfl ?_
  refine zr_fr hM rfl rfl rfl ?_
  refine zr_virt (κ := (22, 0, 0)) hn hM rfl rfl rfl rfl rfl rfl rfl rfl rfl ?_
  refine zgo_ret rfl rfl c16_ ?_
  rw [Bool.false_and]
  refine zr_fr hM rfl rfl rfl ?_
  refine zr_fr hM rfl rfl rfl ?_
  refine zr_ift hM rfl rfl h17 ?_
  refine zr_fr hM rfl rfl rfl ?_
  exact zr_iret2 hM rfl rfl rfl
set_option maxHeartbeats 4000000 in
theorem s99_0_ftf {n L : Nat} {σ : Ks} {g : List Nat} {cl : Bool} {p1 : Int32} (hn : 2 ≤ n ∧ n ≤ 5) (h1 : zcnd .lt p1 0 = false) (h2 : zcnd .lt p1 (σ 42 2) = true) (h3 : zcnd .le ((kup σ 42 0 (Int32.ofInt 0)) 42 0) 0 = false) : ZR 99 0 [.val (.ref (kad n (22, 0, 0))), .val (.int p1), .unset, .unset, .unset, .unset, .unset, .unset, .unset, .unset] [] (khp n L σ g) cl (.inl (some (.int (Int32.ofInt 0))), khp n L (kup σ 42 0 (Int32.ofInt 0)) (g), false) := by
  have hM : zmi[99]? = some _ := rfl
  refine zr_fr hM rfl rfl rfl ?_
  refine zr_fr hM rfl rfl rfl ?_
  refine zr_iff hM rfl rfl h1 ?_
  refine zr_fr hM rfl rfl rfl ?_
  refine zr_fr hM rfl rfl rfl ?_
  refine zr_getf (κ := (22, 0, 0)) hn hM rfl rfl rfl rfl ?_
  refine zr_ict hM rfl rfl h2 ?_
  refine zr_fr hM rfl rfl rfl ?_
  refine zr_putf (κ := (22, 0, 0)) hn hM rfl rfl rfl rfl rfl rfl rfl rfl ?_
  refine zr_fr hM rfl rfl rfl ?_
  refine zr_getf (κ := (22, 0, 0)) hn hM rfl rfl rfl rfl ?_
  refine zr_iff hM rfl rfl h3 ?_
  refine zr_fr hM rfl rfl rfl ?_
  exact zr_iret2 hM rfl rfl rfl
set_option maxHeartbeats 4000000 in
theorem s99_0_fttf {n L : Nat} {σ : Ks} {g : List Nat} {cl : Bool} {p1 : Int32} {x4 : Nat} {x5 : Nat} {x6 : Nat} {x7 : Nat} {x8 : Nat} {x9 : Nat} {σ10 : Ks} {c10 : Bool} {x11 : Nat} (hn : 2 ≤ n ∧ n ≤ 5) (h1 : zcnd .lt p1 0 = false) (h2 : zcnd .lt p1 (σ 42 2) = true) (h3 : zcnd .le ((kup σ 42 0 (Int32.ofInt 0)) 42 0) 0 = true) (z4 : zix (((Int8.ofInt 6).toInt32) * p1) 150 = some x4) (z5 : zix ((((Int8.ofInt 6).toInt32) * p1) + (Int32.ofInt 1)) 150 = some x5) (z6 : zix ((((Int8.ofInt 6).toInt32) * p1) + (Int32.ofInt 2)) 150 = some x6) (z7 : zix ((((Int8.ofInt 6).toInt32) * p1) + (Int32.ofInt 3)) 150 = some x7) (z8 : zix ((((Int8.ofInt 6).toInt32) * p1) + (Int32.ofInt 4)) 150 = some x8) (z9 : zix ((((Int8.ofInt 6).toInt32) * p1) + (Int32.ofInt 5)) 150 = some x9) (c10_ : ZR 100 0 [.val (.ref (kad n (22, 0, 0))), .val (.int p1), .unset] [] (khp n L (kup σ 42 0 (Int32.ofInt 0)) g) true (.inl (none), khp n L σ10 g, c10)) (z11 : zix ((kup σ 42 0 (Int32.ofInt 0)) 41 x6) 5 = some x11) (h12 : zcnd .eq (σ10 40 x11) 0 = false) : ZR 99 0 [.val (.ref (kad n (22, 0, 0))), .val (.int p1), .unset, .unset, .unset, .unset, .unset, .unset, .unset, .unset] [] (khp n L σ g) cl (.inl (some (.int (Int32.ofInt 0))), khp n L σ10 (g), false) := by
  have hM : zmi[99]? = some _ := rfl
  have l4 := (zix_some z4).2.2
  have l5 := (zix_some z5).2.2
  have l6 := (zix_some z6).2.2
  have l7 := (zix_some z7).2.2
  have l8 := (zix_some z8).2.2
  have l9 := (zix_some z9).2.2
  have l11 := (zix_some z11).2.2
  refine zr_fr hM rfl rfl rfl ?_
  refine zr_fr hM rfl rfl rfl ?_
  refine zr_iff hM rfl rfl h1 ?_
  refine zr_fr hM rfl rfl rfl ?_
  refine zr_fr hM rfl rfl rfl ?_
  refine zr_getf (κ := (22, 0, 0)) hn hM rfl rfl rfl rfl ?_
  refine zr_ict hM rfl rfl h2 ?_
  refine zr_fr hM rfl rfl rfl ?_
  refine zr_putf (κ := (22, 0, 0)) hn hM rfl rfl rfl rfl rfl rfl rfl rfl ?_
  refine zr_fr hM rfl rfl rfl ?_
  refine zr_getf (κ := (22, 0, 0)) hn hM rfl rfl rfl rfl ?_
  refine zr_ift hM rfl rfl h3 ?_
  refine zr_fr hM rfl rfl rfl ?_
  refine zr_fr hM rfl rfl rfl ?_
  refine zr_fr hM rfl rfl rfl ?_
  refine zr_fr hM rfl rfl rfl ?_
  refine zr_fr hM rfl rfl rfl ?_
  refine zr_getf (κ := (22, 0, 0)) hn hM rfl rfl rfl rfl ?_
  refine zr_fr hM rfl rfl rfl ?_
  refine zr_iald (κ := (26, 0, 0)) hn hM rfl rfl rfl z4 ?_
  refine zr_fr hM rfl rfl rfl ?_
  refine zr_fr hM rfl rfl rfl ?_
  refine zr_getf (κ := (22, 0, 0)) hn hM rfl rfl rfl rfl ?_
  refine zr_fr hM rfl rfl rfl ?_
  refine zr_fr hM rfl rfl rfl ?_
  refine zr_fr hM rfl rfl rfl ?_
  refine zr_iald (κ := (26, 0, 0)) hn hM rfl rfl rfl z5 ?_
  refine zr_fr hM rfl rfl rfl ?_
  refine zr_fr hM rfl rfl rfl ?_
  refine zr_getf (κ := (22, 0, 0)) hn hM rfl rfl rfl rfl ?_
  refine zr_fr hM rfl rfl rfl ?_
  refine zr_fr hM rfl rfl rfl ?_
  refine zr_fr hM rfl rfl rfl ?_
  refine zr_iald (κ := (26, 0, 0)) hn hM rfl rfl rfl z6 ?_
  refine zr_fr hM rfl rfl rfl ?_
  refine zr_fr hM rfl rfl rfl ?_
  refine zr_getf (κ := (22, 0, 0)) hn hM rfl rfl rfl rfl ?_
  refine zr_fr hM rfl rfl rfl ?_
  refine zr_fr hM rfl rfl rfl ?_
  refine zr_fr hM rfl rfl rfl ?_
  refine zr_iald (κ := (26, 0, 0)) hn hM rfl rfl rfl z7 ?_
  refine zr_fr hM rfl rfl rfl ?_
  refine zr_fr hM rfl rfl rfl ?_
  refine zr_getf (κ := (22, 0, 0)) hn hM rfl rfl rfl rfl ?_
  refine zr_fr hM rfl rfl rfl ?_
  refine zr_fr hM rfl rfl rfl ?_
  refine zr_fr hM rfl rfl rfl ?_
  refine zr_iald (κ := (26, 0, 0)) hn hM rfl rfl rfl z8 ?_
  refine zr_fr hM rfl rfl rfl ?_
  refine zr_fr hM rfl rfl rfl ?_
  refine zr_getf (κ := (22, 0, 0)) hn hM rfl rfl rfl rfl ?_
  refine zr_fr hM rfl rfl rfl ?_
  refine zr_fr hM rfl rfl rfl ?_
  refine zr_fr hM rfl rfl rfl ?_
  refine zr_iald (κ := (26, 0, 0)) hn hM rfl rfl rfl z9 ?_
  refine zr_fr hM rfl rfl rfl ?_
  refine zr_fr hM rfl rfl rfl ?_
  refine zr_fr hM rfl rfl rfl ?_
  refine zr_virt (κ := (22, 0, 0)) hn hM rfl rfl rfl rfl rfl rfl rfl rfl rfl ?_
  refine zgo_ret rfl rfl c10_ ?_
  rw [Bool.false_and]
  refine zr_fr hM rfl rfl rfl ?_
  refine zr_getf (κ := (22, 0, 0)) hn hM rfl rfl rfl rfl ?_
  refine zr_fr hM rfl rfl rfl ?_
  refine zr_bald (κ := (25, 0, 0)) hn hM rfl rfl rfl z11 ?_
  refine zr_iff hM rfl rfl h12 ?_
  refine zr_fr hM rfl rfl rfl ?_
  exact zr_iret2 hM rfl rfl rfl
set_option maxHeartbeats 4000000 in
theorem s99_0_ftttff {n L : Nat} {σ : Ks} {g : List Nat} {cl : Bool} {p1 : Int32} {x4 : Nat} {x5 : Nat} {x6 : Nat} {x7 : Nat} {x8 : Nat} {x9 : Nat} {σ10 : Ks} {c10 : Bool} {x11 : Nat} {σ14 : Ks} {c14 : Bool} {r14 : Int32} (hn : 2 ≤ n ∧ n ≤ 5) (h1 : zcnd .lt p1 0 = false) (h2 : zcnd .lt p1 (σ 42 2) = true) (h3 : zcnd .le ((kup σ 42 0 (Int32.ofInt 0)) 42 0) 0 = true) (z4 : zix (((Int8.ofInt 6).toInt32) * p1) 150 = some x4) (z5 : zix ((((Int8.ofInt 6).toInt32) * p1) + (Int32.ofInt 1)) 150 = some x5) (z6 : zix ((((Int8.ofInt 6).toInt32) * p1) + (Int32.ofInt 2)) 150 = some x6) (z7 : zix ((((Int8.ofInt 6).toInt32) * p1) + (Int32.ofInt 3)) 150 = some x7) (z8 : zix ((((Int8.ofInt 6).toInt32) * p1) + (Int32.ofInt 4)) 150 = some x8) (z9 : zix ((((Int8.ofInt 6).toInt32) * p1) + (Int32.ofInt 5)) 150 = some x9) (c10_ : ZR 100 0 [.val (.ref (kad n (22, 0, 0))), .val (.int p1), .unset] [] (khp n L (kup σ 42 0 (Int32.ofInt 0)) g) true (.inl (none), khp n L σ10 g, c10)) (z11 : zix ((kup σ 42 0 (Int32.ofInt 0)) 41 x6) 5 = some x11) (h12 : zcnd .eq (σ10 40 x11) 0 = true) (h13 : zcnd .ne ((kup σ 42 0 (Int32.ofInt 0)) 41 x4) 0 = false) (c14_ : ZR 101 0 [.val (.ref (kad n (22, 0, 0))), .val (.int ((kup σ 42 0 (Int32.ofInt 0)) 41 x5)), .val (.int ((kup σ 42 0 (Int32.ofInt 0)) 41 x6)), .val (.int ((kup σ 42 0 (Int32.ofInt 0)) 41 x7)), .val (.int ((kup σ 42 0 (Int32.ofInt 0)) 41 x8)), .val (.int ((kup σ 42 0 (Int32.ofInt 0)) 41 x9)), .unset] [] (khp n L σ10 g) true (.inl (some (.int r14)), khp n L σ14 g, c14)) (h15 : zcnd .eq r14 0 = false) : ZR 99 0 [.val (.ref (kad n (22, 0, 0))), .val (.int p1), .unset, .unset, .unset, .unset, .unset, .unset, .unset, .unset] [] (khp n L σ g) cl (.inl (some (.int (Int32.ofInt 1))), khp n L σ14 (g), false) := by
  have hM : zmi[99]? = some _ := rfl
  have l4 := (zix_some z4).2.2
  have l5 := (zix_some z5).2.2
  have l6 := (zix_some z6).2.2
  have l7 := (zix_some z7).2.2
  have l8 := (zix_some z8).2.2
  have l9 := (zix_some z9).2.2
  have l11 := (zix_some z11).2.2
  refine zr_fr hM rfl rfl rfl ?_
  refine zr_fr hM rfl rfl rfl ?_
  refine zr_iff hM rfl rfl h1 ?_
  refine zr_fr hM rfl rfl rfl ?_
  refine zr_fr hM rfl rfl rfl ?_
  refine zr_getf (κ := (22, 0, 0)) hn hM rfl rfl rfl rfl ?_
  refine zr_ict hM rfl rfl h2 ?_
  refine zr_fr hM rfl rfl rfl ?_
  refine zr_putf (κ := (22, 0, 0)) hn hM rfl rfl rfl rfl rfl rfl rfl rfl ?_
  refine zr_fr hM rfl rfl rfl ?_
  refine zr_getf (κ := (22, 0, 0)) hn hM rfl rfl rfl rfl ?_
  refine zr_ift hM rfl rfl h3 ?_
  refine zr_fr hM rfl rfl rfl ?_
  refine zr_fr hM rfl rfl rfl ?_
  refine zr_fr hM rfl rfl rfl ?_
  refine zr_fr hM rfl rfl rfl ?_
  refine zr_fr hM rfl rfl rfl ?_
  refine zr_getf (κ := (22, 0, 0)) hn hM rfl rfl rfl rfl ?_
  refine zr_fr hM rfl rfl rfl ?_
  refine zr_iald (κ := (26, 0, 0)) hn hM rfl rfl rfl z4 ?_
  refine zr_fr hM rfl rfl rfl ?_
  refine zr_fr hM rfl rfl rfl ?_
  refine zr_getf (κ := (22, 0, 0)) hn hM rfl rfl rfl rfl ?_
  refine zr_fr hM rfl rfl rfl ?_
  refine zr_fr hM rfl rfl rfl ?_
  refine zr_fr hM rfl rfl rfl ?_
  refine zr_iald (κ := (26, 0, 0)) hn hM rfl rfl rfl z5 ?_
  refine zr_fr hM rfl rfl rfl ?_
  refine zr_fr hM rfl rfl rfl ?_
  refine zr_getf (κ := (22, 0, 0)) hn hM rfl rfl rfl rfl ?_
  refine zr_fr hM rfl rfl rfl ?_
  refine zr_fr hM rfl rfl rfl ?_
  refine zr_fr hM rfl rfl rfl ?_
  refine zr_iald (κ := (26, 0, 0)) hn hM rfl rfl rfl z6 ?_
  refine zr_fr hM rfl rfl rfl ?_
  refine zr_fr hM rfl rfl rfl ?_
  refine zr_getf (κ := (22, 0, 0)) hn hM rfl rfl rfl rfl ?_
  refine zr_fr hM rfl rfl rfl ?_
  refine zr_fr hM rfl rfl rfl ?_
  refine zr_fr hM rfl rfl rfl ?_
  refine zr_iald (κ := (26, 0, 0)) hn hM rfl rfl rfl z7 ?_
  refine zr_fr hM rfl rfl rfl ?_
  refine zr_fr hM rfl rfl rfl ?_
  refine zr_getf (κ := (22, 0, 0)) hn hM rfl rfl rfl rfl ?_
  refine zr_fr hM rfl rfl rfl ?_
  refine zr_fr hM rfl rfl rfl ?_
  refine zr_fr hM rfl rfl rfl ?_
  refine zr_iald (κ := (26, 0, 0)) hn hM rfl rfl rfl z8 ?_
  refine zr_fr hM rfl rfl rfl ?_
  refine zr_fr hM rfl rfl rfl ?_
  refine zr_getf (κ := (22, 0, 0)) hn hM rfl rfl rfl rfl ?_
  refine zr_fr hM rfl rfl rfl ?_
  refine zr_fr hM rfl rfl rfl ?_
  refine zr_fr hM rfl rfl rfl ?_
  refine zr_iald (κ := (26, 0, 0)) hn hM rfl rfl rfl z9 ?_
  refine zr_fr hM rfl rfl rfl ?_
  refine zr_fr hM rfl rfl rfl ?_
  refine zr_fr hM rfl rfl rfl ?_
  refine zr_virt (κ := (22, 0, 0)) hn hM rfl rfl rfl rfl rfl rfl rfl rfl rfl ?_
  refine zgo_ret rfl rfl c10_ ?_
  rw [Bool.false_and]
  refine zr_fr hM rfl rfl rfl ?_
  refine zr_getf (κ := (22, 0, 0)) hn hM rfl rfl rfl rfl ?_
  refine zr_fr hM rfl rfl rfl ?_
  refine zr_bald (κ := (25, 0, 0)) hn hM rfl rfl rfl z11 ?_
  refine zr_ift hM rfl rfl h12 ?_
  refine zr_fr hM rfl rfl rfl ?_
  refine zr_iff hM rfl rfl h13 ?_
  refine zr_fr hM rfl rfl rfl ?_
  refine zr_fr hM rfl rfl rfl ?_
  refine zr_fr hM rfl rfl rfl ?_
  refine zr_fr hM rfl rfl rfl ?_
  refine zr_fr hM rfl rfl rfl ?_
  refine zr_fr hM rfl rfl rfl ?_
  refine zr_virt (κ := (22, 0, 0)) hn hM rfl rfl rfl rfl rfl rfl rfl rfl rfl ?_
  refine zgo_ret rfl rfl c14_ ?_
  rw [Bool.false_and]
  refine zr_fr hM rfl rfl rfl ?_
  refine zr_fr hM rfl rfl rfl ?_
  refine zr_fr hM rfl rfl rfl ?_
  refine zr_iff hM rfl rfl h15 ?_
  refine zr_fr hM rfl rfl rfl ?_
  refine zr_fr hM rfl rfl rfl ?_
  exact zr_iret2 hM rfl rfl rfl
set_option maxHeartbeats 4000000 in
theorem s99_0_ftttft {n L : Nat} {σ : Ks} {g : List Nat} {cl : Bool} {p1 : Int32} {x4 : Nat} {x5 : Nat} {x6 : Nat} {x7 : Nat} {x8 : Nat} {x9 : Nat} {σ10 : Ks} {c10 : Bool} {x11 : Nat} {σ14 : Ks} {c14 : Bool} {r14 : Int32} (hn : 2 ≤ n ∧ n ≤ 5) (h1 : zcnd .lt p1 0 = false) (h2 : zcnd .lt p1 (σ 42 2) = true) (h3 : zcnd .le ((kup σ 42 0 (Int32.ofInt 0)) 42 0) 0 = true) (z4 : zix (((Int8.ofInt 6).toInt32) * p1) 150 = some x4) (z5 : zix ((((Int8.ofInt 6).toInt32) * p1) + (Int32.ofInt 1)) 150 = some x5) (z6 : zix ((((Int8.ofInt 6).toInt32) * p1) + (Int32.ofInt 2)) 150 = some x6) (z7 : zix ((((Int8.ofInt 6).toInt32) * p1) + (Int32.ofInt 3)) 150 = some x7) (z8 : zix ((((Int8.ofInt 6).toInt32) * p1) + (Int32.ofInt 4)) 150 = some x8) (z9 : zix ((((Int8.ofInt 6).toInt32) * p1) + (Int32.ofInt 5)) 150 = some x9) (c10_ : ZR 100 0 [.val (.ref (kad n (22, 0, 0))), .val (.int p1), .unset] [] (khp n L (kup σ 42 0 (Int32.ofInt 0)) g) true (.inl (none), khp n L σ10 g, c10)) (z11 : zix ((kup σ 42 0 (Int32.ofInt 0)) 41 x6) 5 = some x11) (h12 : zcnd .eq (σ10 40 x11) 0 = true) (h13 : zcnd .ne ((kup σ 42 0 (Int32.ofInt 0)) 41 x4) 0 = false) (c14_ : ZR 101 0 [.val (.ref (kad n (22, 0, 0))), .val (.int ((kup σ 42 0 (Int32.ofInt 0)) 41 x5)), .val (.int ((kup σ 42 0 (Int32.ofInt 0)) 41 x6)), .val (.int ((kup σ 42 0 (Int32.ofInt 0)) 41 x7)), .val (.int ((kup σ 42 0 (Int32.ofInt 0)) 41 x8)), .val (.int ((kup σ 42 0 (Int32.ofInt 0)) 41 x9)), .unset] [] (khp n L σ10 g) true (.inl (some (.int r14)), khp n L σ14 g, c14)) (h15 : zcnd .eq r14 0 = true) : ZR 99 0 [.val (.ref (kad n (22, 0, 0))), .val (.int p1), .unset, .unset, .unset, .unset, .unset, .unset, .unset, .unset] [] (khp n L σ g) cl (.inl (some (.int (Int32.ofInt 0))), khp n L σ14 (g), false) := by
  have hM : zmi[99]? = some _ := rfl
  have l4 := (zix_some z4).2.2
  have l5 := (zix_some z5).2.2
  have l6 := (zix_some z6).2.2
  have l7 := (zix_some z7).2.2
  have l8 := (zix_some z8).2.2
  have l9 := (zix_some z9).2.2
  have l11 := (zix_some z11).2.2
  refine zr_fr hM rfl rfl rfl ?_
  refine zr_fr hM rfl rfl rfl ?_
  refine zr_iff hM rfl rfl h1 ?_
  refine zr_fr hM rfl rfl rfl ?_
  refine zr_fr hM rfl rfl rfl ?_
  refine zr_getf (κ := (22, 0, 0)) hn hM rfl rfl rfl rfl ?_
  refine zr_ict hM rfl rfl h2 ?_
  refine zr_fr hM rfl rfl rfl ?_
  refine zr_putf (κ := (22, 0, 0)) hn hM rfl rfl rfl rfl rfl rfl rfl rfl ?_
  refine zr_fr hM rfl rfl rfl ?_
  refine zr_getf (κ := (22, 0, 0)) hn hM rfl rfl rfl rfl ?_
  refine zr_ift hM rfl rfl h3 ?_
  refine zr_fr hM rfl rfl rfl ?_
  refine zr_fr hM rfl rfl rfl ?_
  refine zr_fr hM rfl rfl rfl ?_
  refine zr_fr hM rfl rfl rfl ?_
  refine zr_fr hM rfl rfl rfl ?_
  refine zr_getf (κ := (22, 0, 0)) hn hM rfl rfl rfl rfl ?_
  refine zr_fr hM rfl rfl rfl ?_
  refine zr_iald (κ := (26, 0, 0)) hn hM rfl rfl rfl z4 ?_
  refine zr_fr hM rfl rfl rfl ?_
  refine zr_fr hM rfl rfl rfl ?_
  refine zr_getf (κ := (22, 0, 0)) hn hM rfl rfl rfl rfl ?_
  refine zr_fr hM rfl rfl rfl ?_
  refine zr_fr hM rfl rfl rfl ?_
  refine zr_fr hM rfl rfl rfl ?_
  refine zr_iald (κ := (26, 0, 0)) hn hM rfl rfl rfl z5 ?_
  refine zr_fr hM rfl rfl rfl ?_
  refine zr_fr hM rfl rfl rfl ?_
  refine zr_getf (κ := (22, 0, 0)) hn hM rfl rfl rfl rfl ?_
  refine zr_fr hM rfl rfl rfl ?_
  refine zr_fr hM rfl rfl rfl ?_
  refine zr_fr hM rfl rfl rfl ?_
  refine zr_iald (κ := (26, 0, 0)) hn hM rfl rfl rfl z6 ?_
  refine zr_fr hM rfl rfl rfl ?_
  refine zr_fr hM rfl rfl rfl ?_
  refine zr_getf (κ := (22, 0, 0)) hn hM rfl rfl rfl rfl ?_
  refine zr_fr hM rfl rfl rfl ?_
  refine zr_fr hM rfl rfl rfl ?_
  refine zr_fr hM rfl rfl rfl ?_
  refine zr_iald (κ := (26, 0, 0)) hn hM rfl rfl rfl z7 ?_
  refine zr_fr hM rfl rfl rfl ?_
  refine zr_fr hM rfl rfl rfl ?_
  refine zr_getf (κ := (22, 0, 0)) hn hM rfl rfl rfl rfl ?_
  refine zr_fr hM rfl rfl rfl ?_
  refine zr_fr hM rfl rfl rfl ?_
  refine zr_fr hM rfl rfl rfl ?_
  refine zr_iald (κ := (26, 0, 0)) hn hM rfl rfl rfl z8 ?_
  refine zr_fr hM rfl rfl rfl ?_
  refine zr_fr hM rfl rfl rfl ?_
  refine zr_getf (κ := (22, 0, 0)) hn hM rfl rfl rfl rfl ?_
  refine zr_fr hM rfl rfl rfl ?_
  refine zr_fr hM rfl rfl rfl ?_
  refine zr_fr hM rfl rfl rfl ?_
  refine zr_iald (κ := (26, 0, 0)) hn hM rfl rfl rfl z9 ?_
  refine zr_fr hM rfl rfl rfl ?_
  refine zr_fr hM rfl rfl rfl ?_
  refine zr_fr hM rfl rfl rfl ?_
  refine zr_virt (κ := (22, 0, 0)) hn hM rfl rfl rfl rfl rfl rfl rfl rfl rfl ?_
  refine zgo_ret rfl rfl c10_ ?_
  rw [Bool.false_and]
  refine zr_fr hM rfl rfl rfl ?_
  refine zr_getf (κ := (22, 0, 0)) hn hM rfl rfl rfl rfl ?_
  refine zr_fr hM rfl rfl rfl ?_
  refine zr_bald (κ := (25, 0, 0)) hn hM rfl rfl rfl z11 ?_
  refine zr_ift hM rfl rfl h12 ?_
  refine zr_fr hM rfl rfl rfl ?_
  refine zr_iff hM rfl rfl h13 ?_
  refine zr_fr hM rfl rfl rfl ?_
  refine zr_fr hM rfl rfl rfl ?_
  refine zr_fr hM rfl rfl rfl ?_
  refine zr_fr hM rfl rfl rfl ?_
  refine zr_fr hM rfl rfl rfl ?_
  refine zr_fr hM rfl rfl rfl ?_
  refine zr_virt (κ := (22, 0, 0)) hn hM rfl rfl rfl rfl rfl rfl rfl rfl rfl ?_
  refine zgo_ret rfl rfl c14_ ?_
  rw [Bool.false_and]
  refine zr_fr hM rfl rfl rfl ?_
  refine zr_fr hM rfl rfl rfl ?_
  refine zr_fr hM rfl rfl rfl ?_
  refine zr_ift hM rfl rfl h15 ?_
  refine zr_fr hM rfl rfl rfl ?_
  exact zr_iret2 hM rfl rfl rfl
set_option maxHeartbeats 4000000 in
theorem s99_0_fttttff {n L : Nat} {σ : Ks} {g : List Nat} {cl : Bool} {p1 : Int32} {x4 : Nat} {x5 : Nat} {x6 : Nat} {x7 : Nat} {x8 : Nat} {x9 : Nat} {σ10 : Ks} {c10 : Bool} {x11 : Nat} {σ15 : Ks} {c15 : Bool} {r15 : Int32} (hn : 2 ≤ n ∧ n ≤ 5) (h1 : zcnd .lt p1 0 = false) (h2 : zcnd .lt p1 (σ 42 2) = true) (h3 : zcnd .le ((kup σ 42 0 (Int32.ofInt 0)) 42 0) 0 = true) (z4 : zix (((Int8.ofInt 6).toInt32) * p1) 150 = some x4) (z5 : zix ((((Int8.ofInt 6).toInt32) * p1) + (Int32.ofInt 1)) 150 = some x5) (z6 : zix ((((Int8.ofInt 6).toInt32) * p1) + (Int32.ofInt 2)) 150 = some x6) (z7 : zix ((((Int8.ofInt 6).toInt32) * p1) + (Int32.ofInt 3)) 150 = some x7) (z8 : zix ((((Int8.ofInt 6).toInt32) * p1) + (Int32.ofInt 4)) 150 = some x8) (z9 : zix ((((Int8.ofInt 6).toInt32) * p1) + (Int32.ofInt 5)) 150 = some x9) (c10_ : ZR 100 0 [.val (.ref (kad n (22, 0, 0))), .val (.int p1), .unset] [] (khp n L (kup σ 42 0 (Int32.ofInt 0)) g) true (.inl (none), khp n L σ10 g, c10)) (z11 : zix ((kup σ 42 0 (Int32.ofInt 0)) 41 x6) 5 = some x11) (h12 : zcnd .eq (σ10 40 x11) 0 = true) (h13 : zcnd .ne ((kup σ 42 0 (Int32.ofInt 0)) 41 x4) 0 = true) (h14 : zcnd .ne ((kup σ 42 0 (Int32.ofInt 0)) 41 x4) (Int32.ofInt 1) = false) (c15_ : ZR 105 0 [.val (.ref (kad n (22, 0, 0))), .val (.int ((kup σ 42 0 (Int32.ofInt 0)) 41 x6)), .val (.int ((kup σ 42 0 (Int32.ofInt 0)) 41 x5)), .val (.int ((kup σ 42 0 (Int32.ofInt 0)) 41 x7)), .unset, .unset, .unset] [] (khp n L σ10 g) true (.inl (some (.int r15)), khp n L σ15 g, c15)) (h16 : zcnd .eq r15 0 = false) : ZR 99 0 [.val (.ref (kad n (22, 0, 0))), .val (.int p1), .unset, .unset, .unset, .unset, .unset, .unset, .unset, .unset] [] (khp n L σ g) cl (.inl (some (.int (Int32.ofInt 1))), khp n L σ15 (g), false) := by
  have hM : zmi[99]? = some _ := rfl
  have l4 := (zix_some z4).2.2
  have l5 := (zix_some z5).2.2
  have l6 := (zix_some z6).2.2
  have l7 := (zix_some z7).2.2
  have l8 := (zix_some z8).2.2
  have l9 := (zix_some z9).2.2
  have l11 := (zix_some z11).2.2
  refine zr_fr hM rfl rfl rfl ?_
  refine zr_fr hM rfl rfl rfl ?_
  refine zr_iff hM rfl rfl h1 ?_
  refine zr_fr hM rfl rfl rfl ?_
  refine zr_fr hM rfl rfl rfl ?_
  refine zr_getf (κ := (22, 0, 0)) hn hM rfl rfl rfl rfl ?_
  refine zr_ict hM rfl rfl h2 ?_
  refine zr_fr hM rfl rfl rfl ?_
  refine zr_putf (κ := (22, 0, 0)) hn hM rfl rfl rfl rfl rfl rfl rfl rfl ?_
  refine zr_fr hM rfl rfl rfl ?_
  refine zr_getf (κ := (22, 0, 0)) hn hM rfl rfl rfl rfl ?_
  refine zr_ift hM rfl rfl h3 ?_
  refine zr_fr hM rfl rfl rfl ?_
  refine zr_fr hM rfl rfl rfl ?_
  refine zr_fr hM rfl rfl rfl ?_
  refine zr_fr hM rfl rfl rfl ?_
  refine zr_fr hM rfl rfl rfl ?_
  refine zr_getf (κ := (22, 0, 0)) hn hM rfl rfl rfl rfl ?_
  refine zr_fr hM rfl rfl rfl ?_
  refine zr_iald (κ := (26, 0, 0)) hn hM rfl rfl rfl z4 ?_
  refine zr_fr hM rfl rfl rfl ?_
  refine zr_fr hM rfl rfl rfl ?_
  refine zr_getf (κ := (22, 0, 0)) hn hM rfl rfl rfl rfl ?_
  refine zr_fr hM rfl rfl rfl ?_
  refine zr_fr hM rfl rfl rfl ?_
  refine zr_fr hM rfl rfl rfl ?_
  refine zr_iald (κ := (26, 0, 0)) hn hM rfl rfl rfl z5 ?_
  refine zr_fr hM rfl rfl rfl ?_
  refine zr_fr hM rfl rfl rfl ?_
  refine zr_getf (κ := (22, 0, 0)) hn hM rfl rfl rfl rfl ?_
  refine zr_fr hM rfl rfl rfl ?_
  refine zr_fr hM rfl rfl rfl ?_
  refine zr_fr hM rfl rfl rfl ?_
  refine zr_iald (κ := (26, 0, 0)) hn hM rfl rfl rfl z6 ?_
  refine zr_fr hM rfl rfl rfl ?_
  refine zr_fr hM rfl rfl rfl ?_
  refine zr_getf (κ := (22, 0, 0)) hn hM rfl rfl rfl rfl ?_
  refine zr_fr hM rfl rfl rfl ?_
  refine zr_fr hM rfl rfl rfl ?_
  refine zr_fr hM rfl rfl rfl ?_
  refine zr_iald (κ := (26, 0, 0)) hn hM rfl rfl rfl z7 ?_
  refine zr_fr hM rfl rfl rfl ?_
  refine zr_fr hM rfl rfl rfl ?_
  refine zr_getf (κ := (22, 0, 0)) hn hM rfl rfl rfl rfl ?_
  refine zr_fr hM rfl rfl rfl ?_
  refine zr_fr hM rfl rfl rfl ?_
  refine zr_fr hM rfl rfl rfl ?_
  refine zr_iald (κ := (26, 0, 0)) hn hM rfl rfl rfl z8 ?_
  refine zr_fr hM rfl rfl rfl ?_
  refine zr_fr hM rfl rfl rfl ?_
  refine zr_getf (κ := (22, 0, 0)) hn hM rfl rfl rfl rfl ?_
  refine zr_fr hM rfl rfl rfl ?_
  refine zr_fr hM rfl rfl rfl ?_
  refine zr_fr hM rfl rfl rfl ?_
  refine zr_iald (κ := (26, 0, 0)) hn hM rfl rfl rfl z9 ?_
  refine zr_fr hM rfl rfl rfl ?_
  refine zr_fr hM rfl rfl rfl ?_
  refine zr_fr hM rfl rfl rfl ?_
  refine zr_virt (κ := (22, 0, 0)) hn hM rfl rfl rfl rfl rfl rfl rfl rfl rfl ?_
  refine zgo_ret rfl rfl c10_ ?_
  rw [Bool.false_and]
  refine zr_fr hM rfl rfl rfl ?_
  refine zr_getf (κ := (22, 0, 0)) hn hM rfl rfl rfl rfl ?_
  refine zr_fr hM rfl rfl rfl ?_
  refine zr_bald (κ := (25, 0, 0)) hn hM rfl rfl rfl z11 ?_
  refine zr_ift hM rfl rfl h12 ?_
  refine zr_fr hM rfl rfl rfl ?_
  refine zr_ift hM rfl rfl h13 ?_
  refine zr_fr hM rfl rfl rfl ?_
  refine zr_fr hM rfl rfl rfl ?_
  refine zr_icf hM rfl rfl h14 ?_
  refine zr_fr hM rfl rfl rfl ?_
  refine zr_fr hM rfl rfl rfl ?_
  refine zr_fr hM rfl rfl rfl ?_
  refine zr_fr hM rfl rfl rfl ?_
  refine zr_virt (κ := (22, 0, 0)) hn hM rfl rfl rfl rfl rfl rfl rfl rfl rfl ?_
  refine zgo_ret rfl rfl c15_ ?_
  rw [Bool.false_and]
  refine zr_fr hM rfl rfl rfl ?_
  refine zr_fr hM rfl rfl rfl ?_
  refine zr_fr hM rfl rfl rfl ?_
  refine zr_iff hM rfl rfl h16 ?_
  refine zr_fr hM rfl rfl rfl ?_
  refine zr_fr hM rfl rfl rfl ?_
  exact zr_iret2 hM rfl rfl rfl
