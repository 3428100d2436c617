set_option maxHeartbeats 4000000 in
theorem s131_0_ftttf {n L : Nat} {σ : Ks} {g : List Nat} {cl : Bool} {p1 : Int32} {p2 : Int32} {r1 : Int32} {x5 : Nat} (hn : 2 ≤ n ∧ n ≤ 5) (c1_ : ZR 114 0 [.val (.int p1)] [] (khp n L σ g) true (.inl (some (.int r1)), khp n L σ g, true)) (h2 : zcnd .eq r1 0 = false) (h3 : zcnd .lt p2 0 = true) (h4 : zcnd .le ((kup σ 42 0 (Int32.ofInt 1)) 42 0) 0 = true) (z5 : zix (Int32.ofInt 0) 5 = some x5) (h6 : zcnd .eq ((kup σ 42 0 (Int32.ofInt 1)) 40 x5) 0 = true) (h7 : zcnd .le ((kup (kup σ 42 0 (Int32.ofInt 1)) 42 0 (Int32.ofInt 0)) 42 0) 0 = false) : ZR 131 0 [.val (.ref (kad n (22, 0, 0))), .val (.int p1), .val (.int p2), .unset] [] (khp n L σ g) cl (.inl (some (.int (Int32.ofInt 0))), khp n L (kup (kup σ 42 0 (Int32.ofInt 1)) 42 0 (Int32.ofInt 0)) (g), false) := by
  have hM : zmi[131]? = some _ := rfl
  have l5 := (zix_some z5).2.2
  refine zr_fr hM rfl rfl rfl ?_
  refine zr_fr hM rfl rfl rfl ?_
  refine zr_stat hM rfl rfl rfl rfl rfl rfl ?_
  refine zgo_ret rfl rfl c1_ ?_
  rw [Bool.and_true]
  refine zr_iff hM rfl rfl h2 ?_
  refine zr_fr hM rfl rfl rfl ?_
  refine zr_ift hM rfl rfl h3 ?_
  refine zr_fr hM rfl rfl rfl ?_
  refine zr_fr hM rfl rfl rfl ?_
  refine zr_putf (κ := (22, 0, 0)) hn hM rfl rfl rfl rfl rfl rfl rfl rfl ?_
  refine zr_fr hM rfl rfl rfl ?_
  refine zr_getf (κ := (22, 0, 0)) hn hM rfl rfl rfl rfl ?_
  refine zr_ift hM rfl rfl h4 ?_
  refine zr_fr hM rfl rfl rfl ?_
  refine zr_fr hM rfl rfl rfl ?_
  refine zr_getf (κ := (22, 0, 0)) hn hM rfl rfl rfl rfl ?_
  refine zr_fr hM rfl rfl rfl ?_
  refine zr_bald (κ := (25, 0, 0)) hn hM rfl rfl rfl z5 ?_
  refine zr_ift hM rfl rfl h6 ?_
  refine zr_fr hM rfl rfl rfl ?_
  refine zr_putf (κ := (22, 0, 0)) hn hM rfl rfl rfl rfl rfl rfl rfl rfl ?_
  refine zr_fr hM rfl rfl rfl ?_
  refine zr_getf (κ := (22, 0, 0)) hn hM rfl rfl rfl rfl ?_
  refine zr_iff hM rfl rfl h7 ?_
  refine zr_fr hM rfl rfl rfl ?_
  exact zr_iret2 hM rfl rfl rfl
set_option maxHeartbeats 4000000 in
theorem s131_0_ftttt {n L : Nat} {σ : Ks} {g : List Nat} {cl : Bool} {p1 : Int32} {p2 : Int32} {r1 : Int32} {x5 : Nat} {x8 : Nat} {x9 : Nat} (hn : 2 ≤ n ∧ n ≤ 5) (c1_ : ZR 114 0 [.val (.int p1)] [] (khp n L σ g) true (.inl (some (.int r1)), khp n L σ g, true)) (h2 : zcnd .eq r1 0 = false) (h3 : zcnd .lt p2 0 = true) (h4 : zcnd .le ((kup σ 42 0 (Int32.ofInt 1)) 42 0) 0 = true) (z5 : zix (Int32.ofInt 0) 5 = some x5) (h6 : zcnd .eq ((kup σ 42 0 (Int32.ofInt 1)) 40 x5) 0 = true) (h7 : zcnd .le ((kup (kup σ 42 0 (Int32.ofInt 1)) 42 0 (Int32.ofInt 0)) 42 0) 0 = true) (z8 : zix p1 820 = some x8) (z9 : zix (((Int8.ofInt 12).toInt32) + p1) 820 = some x9) : ZR 131 0 [.val (.ref (kad n (22, 0, 0))), .val (.int p1), .val (.int p2), .unset] [] (khp n L σ g) cl (.inl (some (.int (p2 - ((kup (kup σ 42 0 (Int32.ofInt 1)) 42 0 (Int32.ofInt 0)) (20 + x8 / 164) (x8 % 164))))), khp n L (kup (kup (kup (kup σ 42 0 (Int32.ofInt 1)) 42 0 (Int32.ofInt 0)) (20 + x8 / 164) (x8 % 164) p2) (20 + x9 / 164) (x9 % 164) (((kup (kup (kup σ 42 0 (Int32.ofInt 1)) 42 0 (Int32.ofInt 0)) (20 + x8 / 164) (x8 % 164) p2) (20 + x9 / 164) (x9 % 164)) + (p2 - ((kup (kup σ 42 0 (Int32.ofInt 1)) 42 0 (Int32.ofInt 0)) (20 + x8 / 164) (x8 % 164))))) (g), false) := by
  have hM : zmi[131]? = some _ := rfl
  have l5 := (zix_some z5).2.2
  have l8 := (zix_some z8).2.2
  have l9 := (zix_some z9).2.2
  refine zr_fr hM rfl rfl rfl ?_
  refine zr_fr hM rfl rfl rfl ?_
  refine zr_stat hM rfl rfl rfl rfl rfl rfl ?_
  refine zgo_ret rfl rfl c1_ ?_
  rw [Bool.and_true]
  refine zr_iff hM rfl rfl h2 ?_
  refine zr_fr hM rfl rfl rfl ?_
  refine zr_ift hM rfl rfl h3 ?_
  refine zr_fr hM rfl rfl rfl ?_
  refine zr_fr hM rfl rfl rfl ?_
  refine zr_putf (κ := (22, 0, 0)) hn hM rfl rfl rfl rfl rfl rfl rfl rfl ?_
  refine zr_fr hM rfl rfl rfl ?_
  refine zr_getf (κ := (22, 0, 0)) hn hM rfl rfl rfl rfl ?_
  refine zr_ift hM rfl rfl h4 ?_
  refine zr_fr hM rfl rfl rfl ?_
  refine zr_fr hM rfl rfl rfl ?_
  refine zr_getf (κ := (22, 0, 0)) hn hM rfl rfl rfl rfl ?_
  refine zr_fr hM rfl rfl rfl ?_
  refine zr_bald (κ := (25, 0, 0)) hn hM rfl rfl rfl z5 ?_
  refine zr_ift hM rfl rfl h6 ?_
  refine zr_fr hM rfl rfl rfl ?_
  refine zr_putf (κ := (22, 0, 0)) hn hM rfl rfl rfl rfl rfl rfl rfl rfl ?_
  refine zr_fr hM rfl rfl rfl ?_
  refine zr_getf (κ := (22, 0, 0)) hn hM rfl rfl rfl rfl ?_
  refine zr_ift hM rfl rfl h7 ?_
  refine zr_fr hM rfl rfl rfl ?_
  refine zr_fr hM rfl rfl rfl ?_
  refine zr_getf (κ := (22, 0, 0)) hn hM rfl rfl rfl rfl ?_
  refine zr_fr hM rfl rfl rfl ?_
  refine zr_iald (κ := (23, 0, 0)) hn hM rfl rfl rfl z8 ?_
  refine zr_fr hM rfl rfl rfl ?_
  refine zr_fr hM rfl rfl rfl ?_
  refine zr_fr hM rfl rfl rfl ?_
  refine zr_getf (κ := (22, 0, 0)) hn hM rfl rfl rfl rfl ?_
  refine zr_fr hM rfl rfl rfl ?_
  refine zr_fr hM rfl rfl rfl ?_
  refine zr_iast (κ := (23, 0, 0)) hn hM rfl rfl rfl rfl z8 rfl ?_
  refine zr_fr hM rfl rfl rfl ?_
  refine zr_getf (κ := (22, 0, 0)) hn hM rfl rfl rfl rfl ?_
  refine zr_fr hM rfl rfl rfl ?_
  refine zr_fr hM rfl rfl rfl ?_
  refine zr_fr hM rfl rfl rfl ?_
  refine zr_fr hM rfl rfl rfl ?_
  refine zr_iald (κ := (23, 0, 0)) hn hM rfl rfl rfl z9 ?_
  refine zr_fr hM rfl rfl rfl ?_
  refine zr_fr hM rfl rfl rfl ?_
  refine zr_iast (κ := (23, 0, 0)) hn hM rfl rfl rfl rfl z9 rfl ?_
  refine zr_fr hM rfl rfl rfl ?_
  exact zr_iret2 hM rfl rfl rfl
set_option maxHeartbeats 4000000 in
theorem s131_0_tf {n L : Nat} {σ : Ks} {g : List Nat} {cl : Bool} {p1 : Int32} {p2 : Int32} {r1 : Int32} (hn : 2 ≤ n ∧ n ≤ 5) (c1_ : ZR 114 0 [.val (.int p1)] [] (khp n L σ g) true (.inl (some (.int r1)), khp n L σ g, true)) (h2 : zcnd .eq r1 0 = true) (h3 : zcnd .le ((kup σ 42 0 (Int32.ofInt 1)) 42 0) 0 = false) : ZR 131 0 [.val (.ref (kad n (22, 0, 0))), .val (.int p1), .val (.int p2), .unset] [] (khp n L σ g) cl (.inl (some (.int (Int32.ofInt 0))), khp n L (kup σ 42 0 (Int32.ofInt 1)) (g), false) := by
  have hM : zmi[131]? = some _ := rfl
  refine zr_fr hM rfl rfl rfl ?_
  refine zr_fr hM rfl rfl rfl ?_
  refine zr_stat hM rfl rfl rfl rfl rfl rfl ?_
  refine zgo_ret rfl rfl c1_ ?_
  rw [Bool.and_true]
  refine zr_ift hM rfl rfl h2 ?_
  refine zr_fr hM rfl rfl rfl ?_
  refine zr_fr hM rfl rfl rfl ?_
  refine zr_putf (κ := (22, 0, 0)) hn hM rfl rfl rfl rfl rfl rfl rfl rfl ?_
  refine zr_fr hM rfl rfl rfl ?_
  refine zr_getf (κ := (22, 0, 0)) hn hM rfl rfl rfl rfl ?_
  refine zr_iff hM rfl rfl h3 ?_
  refine zr_fr hM rfl rfl rfl ?_
  exact zr_iret2 hM rfl rfl rfl
set_option maxHeartbeats 4000000 in
theorem s131_0_ttff {n L : Nat} {σ : Ks} {g : List Nat} {cl : Bool} {p1 : Int32} {p2 : Int32} {r1 : Int32} {x4 : Nat} (hn : 2 ≤ n ∧ n ≤ 5) (c1_ : ZR 114 0 [.val (.int p1)] [] (khp n L σ g) true (.inl (some (.int r1)), khp n L σ g, true)) (h2 : zcnd .eq r1 0 = true) (h3 : zcnd .le ((kup σ 42 0 (Int32.ofInt 1)) 42 0) 0 = true) (z4 : zix (Int32.ofInt 0) 5 = some x4) (h5 : zcnd .eq ((kup σ 42 0 (Int32.ofInt 1)) 40 x4) 0 = false) (h6 : zcnd .le ((kup (kup σ 42 0 (Int32.ofInt 1)) 42 0 (Int32.ofInt 2)) 42 0) 0 = false) : ZR 131 0 [.val (.ref (kad n (22, 0, 0))), .val (.int p1), .val (.int p2), .unset] [] (khp n L σ g) cl (.inl (some (.int (Int32.ofInt 0))), khp n L (kup (kup σ 42 0 (Int32.ofInt 1)) 42 0 (Int32.ofInt 2)) (g), false) := by
  have hM : zmi[131]? = some _ := rfl
  have l4 := (zix_some z4).2.2
  refine zr_fr hM rfl rfl rfl ?_
  refine zr_fr hM rfl rfl rfl ?_
  refine zr_stat hM rfl rfl rfl rfl rfl rfl ?_
  refine zgo_ret rfl rfl c1_ ?_
  rw [Bool.and_true]
  refine zr_ift hM rfl rfl h2 ?_
  refine zr_fr hM rfl rfl rfl ?_
  refine zr_fr hM rfl rfl rfl ?_
  refine zr_putf (κ := (22, 0, 0)) hn hM rfl rfl rfl rfl rfl rfl rfl rfl ?_
  refine zr_fr hM rfl rfl rfl ?_
  refine zr_getf (κ := (22, 0, 0)) hn hM rfl rfl rfl rfl ?_
  refine zr_ift hM rfl rfl h3 ?_
  refine zr_fr hM rfl rfl rfl ?_
  refine zr_fr hM rfl rfl rfl ?_
  refine zr_getf (κ := (22, 0, 0)) hn hM rfl rfl rfl rfl ?_
  refine zr_fr hM rfl rfl rfl ?_
  refine zr_bald (κ := (25, 0, 0)) hn hM rfl rfl rfl z4 ?_
  refine zr_iff hM rfl rfl h5 ?_
  refine zr_fr hM rfl rfl rfl ?_
  refine zr_fr hM rfl rfl rfl ?_
  refine zr_putf (κ := (22, 0, 0)) hn hM rfl rfl rfl rfl rfl rfl rfl rfl ?_
  refine zr_fr hM rfl rfl rfl ?_
  refine zr_getf (κ := (22, 0, 0)) hn hM rfl rfl rfl rfl ?_
  refine zr_iff hM rfl rfl h6 ?_
  refine zr_fr hM rfl rfl rfl ?_
  exact zr_iret2 hM rfl rfl rfl
set_option maxHeartbeats 4000000 in
theorem s131_0_ttft {n L : Nat} {σ : Ks} {g : List Nat} {cl : Bool} {p1 : Int32} {p2 : Int32} {r1 : Int32} {x4 : Nat} {x7 : Nat} {x8 : Nat} (hn : 2 ≤ n ∧ n ≤ 5) (c1_ : ZR 114 0 [.val (.int p1)] [] (khp n L σ g) true (.inl (some (.int r1)), khp n L σ g, true)) (h2 : zcnd .eq r1 0 = true) (h3 : zcnd .le ((kup σ 42 0 (Int32.ofInt 1)) 42 0) 0 = true) (z4 : zix (Int32.ofInt 0) 5 = some x4) (h5 : zcnd .eq ((kup σ 42 0 (Int32.ofInt 1)) 40 x4) 0 = false) (h6 : zcnd .le ((kup (kup σ 42 0 (Int32.ofInt 1)) 42 0 (Int32.ofInt 2)) 42 0) 0 = true) (z7 : zix p1 820 = some x7) (z8 : zix (((Int8.ofInt 12).toInt32) + p1) 820 = some x8) : ZR 131 0 [.val (.ref (kad n (22, 0, 0))), .val (.int p1), .val (.int p2), .unset] [] (khp n L σ g) cl (.inl (some (.int (p2 - ((kup (kup σ 42 0 (Int32.ofInt 1)) 42 0 (Int32.ofInt 2)) (20 + x7 / 164) (x7 % 164))))), khp n L (kup (kup (kup (kup σ 42 0 (Int32.ofInt 1)) 42 0 (Int32.ofInt 2)) (20 + x7 / 164) (x7 % 164) p2) (20 + x8 / 164) (x8 % 164) (((kup (kup (kup σ 42 0 (Int32.ofInt 1)) 42 0 (Int32.ofInt 2)) (20 + x7 / 164) (x7 % 164) p2) (20 + x8 / 164) (x8 % 164)) + (p2 - ((kup (kup σ 42 0 (Int32.ofInt 1)) 42 0 (Int32.ofInt 2)) (20 + x7 / 164) (x7 % 164))))) (g), false) := by
  have hM : zmi[131]? = some _ := rfl
  have l4 := (zix_some z4).2.2
  have l7 := (zix_some z7).2.2
  have l8 := (zix_some z8).2.2
  refine zr_fr hM rfl rfl rfl ?_
  refine zr_fr hM rfl rfl rfl ?_
  refine zr_stat hM rfl rfl rfl rfl rfl rfl ?_
  refine zgo_ret rfl rfl c1_ ?_
  rw [Bool.and_true]
  refine zr_ift hM rfl rfl h2 ?_
  refine zr_fr hM rfl rfl rfl ?_
  refine zr_fr hM rfl rfl rfl ?_
  refine zr_putf (κ := (22, 0, 0)) hn hM rfl rfl rfl rfl rfl rfl rfl rfl ?_
  refine zr_fr hM rfl rfl rfl ?_
  refine zr_getf (κ := (22, 0, 0)) hn hM rfl rfl rfl rfl ?_
  refine zr_ift hM rfl rfl h3 ?_
  refine zr_fr hM rfl rfl rfl ?_
  refine zr_fr hM rfl rfl rfl ?_
  refine zr_getf (κ := (22, 0, 0)) hn hM rfl rfl rfl rfl ?_
  refine zr_fr hM rfl rfl rfl ?_
  refine zr_bald (κ := (25, 0, 0)) hn hM rfl rfl rfl z4 ?_
  refine zr_iff hM rfl rfl h5 ?_
  refine zr_fr hM rfl rfl rfl ?_
  refine zr_fr hM rfl rfl rfl ?_
  refine zr_putf (κ := (22, 0, 0)) hn hM rfl rfl rfl rfl rfl rfl rfl rfl ?_
  refine zr_fr hM rfl rfl rfl ?_
  refine zr_getf (κ := (22, 0, 0)) hn hM rfl rfl rfl rfl ?_
  refine zr_ift hM rfl rfl h6 ?_
  refine zr_fr hM rfl rfl rfl ?_
  refine zr_fr hM rfl rfl rfl ?_
  refine zr_getf (κ := (22, 0, 0)) hn hM rfl rfl rfl rfl ?_
  refine zr_fr hM rfl rfl rfl ?_
  refine zr_iald (κ := (23, 0, 0)) hn hM rfl rfl rfl z7 ?_
  refine zr_fr hM rfl rfl rfl ?_
  refine zr_fr hM rfl rfl rfl ?_
  refine zr_fr hM rfl rfl rfl ?_
  refine zr_getf (κ := (22, 0, 0)) hn hM rfl rfl rfl rfl ?_
  refine zr_fr hM rfl rfl rfl ?_
  refine zr_fr hM rfl rfl rfl ?_
  refine zr_iast (κ := (23, 0, 0)) hn hM rfl rfl rfl rfl z7 rfl ?_
  refine zr_fr hM rfl rfl rfl ?_
  refine zr_getf (κ := (22, 0, 0)) hn hM rfl rfl rfl rfl ?_
  refine zr_fr hM rfl rfl rfl ?_
  refine zr_fr hM rfl rfl rfl ?_
  refine zr_fr hM rfl rfl rfl ?_
  refine zr_fr hM rfl rfl rfl ?_
  refine zr_iald (κ := (23, 0, 0)) hn hM rfl rfl rfl z8 ?_
  refine zr_fr hM rfl rfl rfl ?_
  refine zr_fr hM rfl rfl rfl ?_
  refine zr_iast (κ := (23, 0, 0)) hn hM rfl rfl rfl rfl z8 rfl ?_
  refine zr_fr hM rfl rfl rfl ?_
  exact zr_iret2 hM rfl rfl rfl
set_option maxHeartbeats 4000000 in
theorem s131_0_tttf {n L : Nat} {σ : Ks} {g : List Nat} {cl : Bool} {p1 : Int32} {p2 : Int32} {r1 : Int32} {x4 : Nat} (hn : 2 ≤ n ∧ n ≤ 5) (c1_ : ZR 114 0 [.val (.int p1)] [] (khp n L σ g) true (.inl (some (.int r1)), khp n L σ g, true)) (h2 : zcnd .eq r1 0 = true) (h3 : zcnd .le ((kup σ 42 0 (Int32.ofInt 1)) 42 0) 0 = true) (z4 : zix (Int32.ofInt 0) 5 = some x4) (h5 : zcnd .eq ((kup σ 42 0 (Int32.ofInt 1)) 40 x4) 0 = true) (h6 : zcnd .le ((kup (kup σ 42 0 (Int32.ofInt 1)) 42 0 (Int32.ofInt 0)) 42 0) 0 = false) : ZR 131 0 [.val (.ref (kad n (22, 0, 0))), .val (.int p1), .val (.int p2), .unset] [] (khp n L σ g) cl (.inl (some (.int (Int32.ofInt 0))), khp n L (kup (kup σ 42 0 (Int32.ofInt 1)) 42 0 (Int32.ofInt 0)) (g), false) := by
  have hM : zmi[131]? = some _ := rfl
  have l4 := (zix_some z4).2.2
  refine zr_fr hM rfl rfl rfl ?_
  refine zr_fr hM rfl rfl rfl ?_
  refine zr_stat hM rfl rfl rfl rfl rfl rfl ?_
  refine zgo_ret rfl rfl c1_ ?_
  rw [Bool.and_true]
  refine zr_ift hM rfl rfl h2 ?_
  refine zr_fr hM rfl rfl rfl ?_
  refine zr_fr hM rfl rfl rfl ?_
  refine zr_putf (κ := (22, 0, 0)) hn hM rfl rfl rfl rfl rfl rfl rfl rfl ?_
  refine zr_fr hM rfl rfl rfl ?_
  refine zr_getf (κ := (22, 0, 0)) hn hM rfl rfl rfl rfl ?_
  refine zr_ift hM rfl rfl h3 ?_
  refine zr_fr hM rfl rfl rfl ?_
  refine zr_fr hM rfl rfl rfl ?_
  refine zr_getf (κ := (22, 0, 0)) hn hM rfl rfl rfl rfl ?_
  refine zr_fr hM rfl rfl rfl ?_
  refine zr_bald (κ := (25, 0, 0)) hn hM rfl rfl rfl z4 ?_
  refine zr_ift hM rfl rfl h5 ?_
  refine zr_fr hM rfl rfl rfl ?_
  refine zr_putf (κ := (22, 0, 0)) hn hM rfl rfl rfl rfl rfl rfl rfl rfl ?_
  refine zr_fr hM rfl rfl rfl ?_
  refine zr_getf (κ := (22, 0, 0)) hn hM rfl rfl rfl rfl ?_
  refine zr_iff hM rfl rfl h6 ?_
  refine zr_fr hM rfl rfl rfl ?_
  exact zr_iret2 hM rfl rfl rfl
set_option maxHeartbeats 4000000 in
theorem s131_0_tttt {n L : Nat} {σ : Ks} {g : List Nat} {cl : Bool} {p1 : Int32} {p2 : Int32} {r1 : Int32} {x4 : Nat} {x7 : Nat} {x8 : Nat} (hn : 2 ≤ n ∧ n ≤ 5) (c1_ : ZR 114 0 [.val (.int p1)] [] (khp n L σ g) true (.inl (some (.int r1)), khp n L σ g, true)) (h2 : zcnd .eq r1 0 = true) (h3 : zcnd .le ((kup σ 42 0 (Int32.ofInt 1)) 42 0) 0 = true) (z4 : zix (Int32.ofInt 0) 5 = some x4) (h5 : zcnd .eq ((kup σ 42 0 (Int32.ofInt 1)) 40 x4) 0 = true) (h6 : zcnd .le ((kup (kup σ 42 0 (Int32.ofInt 1)) 42 0 (Int32.ofInt 0)) 42 0) 0 = true) (z7 : zix p1 820 = some x7) (z8 : zix (((Int8.ofInt 12).toInt32) + p1) 820 = some x8) : ZR 131 0 [.val (.ref (kad n (22, 0, 0))), .val (.int p1), .val (.int p2), .unset] [] (khp n L σ g) cl (.inl (some (.int (p2 - ((kup (kup σ 42 0 (Int32.ofInt 1)) 42 0 (Int32.ofInt 0)) (20 + x7 / 164) (x7 % 164))))), khp n L (kup (kup (kup (kup σ 42 0 (Int32.ofInt 1)) 42 0 (Int32.ofInt 0)) (20 + x7 / 164) (x7 % 164) p2) (20 + x8 / 164) (x8 % 164) (((kup (kup (kup σ 42 0 (Int32.ofInt 1)) 42 0 (Int32.ofInt 0)) (20 + x7 / 164) (x7 % 164) p2) (20 + x8 / 164) (x8 % 164)) + (p2 - ((kup (kup σ 42 0 (Int32.ofInt 1)) 42 0 (Int32.ofInt 0)) (20 + x7 / 164) (x7 % 164))))) (g), false) := by
  have hM : zmi[131]? = some _ := rfl
  have l4 := (zix_some z4).2.2
  have l7 := (zix_some z7).2.2
  have l8 := (zix_some z8).2.2
  refine zr_fr hM rfl rfl rfl ?_
  refine zr_fr hM rfl rfl rfl ?_
  refine zr_stat hM rfl rfl rfl rfl rfl rfl ?_
  refine zgo_ret rfl rfl c1_ ?_
  rw [Bool.and_true]
  refine zr_ift hM rfl rfl h2 ?_
  refine zr_fr hM rfl rfl rfl ?_
  refine zr_fr hM rfl rfl rfl ?_
  refine zr_putf (κ := (22, 0, 0)) hn hM rfl rfl rfl rfl rfl rfl rfl rfl ?_
  refine zr_fr hM rfl rfl rfl ?_
  refine zr_getf (κ := (22, 0, 0)) hn hM rfl rfl rfl rfl ?_
  refine zr_ift hM rfl rfl h3 ?_
  refine zr_fr hM rfl rfl rfl ?_
  refine zr_fr hM rfl rfl rfl ?_
  refine zr_getf (κ := (22, 0, 0)) hn hM rfl rfl rfl rfl ?_
  refine zr_fr hM rfl rfl rfl ?_
  refine zr_bald (κ := (25, 0, 0)) hn hM rfl rfl rfl z4 ?_
  refine zr_ift hM rfl rfl h5 ?_
  refine zr_fr hM rfl rfl rfl ?_
  refine zr_putf (κ := (22, 0, 0)) hn hM rfl rfl rfl rfl rfl rfl rfl rfl ?_
  refine zr_fr hM rfl rfl rfl ?_
  refine zr_getf (κ := (22, 0, 0)) hn hM rfl rfl rfl rfl ?_
  refine zr_ift hM rfl rfl h6 ?_
  refine zr_fr hM rfl rfl rfl ?_
  refine zr_fr hM rfl rfl rfl ?_
  refine zr_getf (κ := (22, 0, 0)) hn hM rfl rfl rfl rfl ?_
  refine zr_fr hM rfl rfl rfl ?_
  refine zr_iald (κ := (23, 0, 0)) hn hM rfl rfl rfl z7 ?_
  refine zr_fr hM rfl rfl rfl ?_
  refine zr_fr hM rfl rfl rfl ?_
  refine zr_fr hM rfl rfl rfl ?_
  refine zr_getf (κ := (22, 0, 0)) hn hM rfl rfl rfl rfl ?_
  refine zr_fr hM rfl rfl rfl ?_
  refine zr_fr hM rfl rfl rfl ?_
  refine zr_iast (κ := (23, 0, 0)) hn hM rfl rfl rfl rfl z7 rfl ?_
  refine zr_fr hM rfl rfl rfl ?_
  refine zr_getf (κ := (22, 0, 0)) hn hM rfl rfl rfl rfl ?_
  refine zr_fr hM rfl rfl rfl ?_
  refine zr_fr hM rfl rfl rfl ?_
  refine zr_fr hM rfl rfl rfl ?_
  refine zr_fr hM rfl rfl rfl ?_
  refine zr_iald (κ := (23, 0, 0)) hn hM rfl rfl rfl z8 ?_
  refine zr_fr hM rfl rfl rfl ?_
  refine zr_fr hM rfl rfl rfl ?_
  refine zr_iast (κ := (23, 0, 0)) hn hM rfl rfl rfl rfl z8 rfl ?_
  refine zr_fr hM rfl rfl rfl ?_
  exact zr_iret2 hM rfl rfl rfl
set_option maxHeartbeats 4000000 in
theorem s132_0_fff {n L : Nat} {σ : Ks} {g : List Nat} {cl : Bool} {p1 : Int32} {r1 : Int32} {r3 : Int32} {x5 : Nat} (hn : 2 ≤ n ∧ n ≤ 5) (c1_ : ZR 119 0 [.val (.ref (kad n (22, 0, 0))), .val (.int p1)] [] (khp n L (kup σ 42 0 (Int32.ofInt 0)) g) true (.inl (some (.int r1)), khp n L (kup σ 42 0 (Int32.ofInt 0)) g, true)) (h2 : zcnd .eq r1 0 = false) (c3_ : ZR 119 0 [.val (.ref (kad n (22, 0, 0))), .val (.int p1)] [] (khp n L (kup σ 42 0 (Int32.ofInt 0)) g) true (.inl (some (.int r3)), khp n L (kup σ 42 0 (Int32.ofInt 0)) g, true)) (h4 : zcnd .eq r3 0 = false) (z5 : zix p1 5 = some x5) (h6 : zcnd .eq ((kup σ 42 0 (Int32.ofInt 0)) 40 x5) 0 = false) : ZR 132 0 [.val (.ref (kad n (22, 0, 0))), .val (.int p1)] [] (khp n L σ g) cl (.inl (some (.int (Int32.ofInt 0))), khp n L (kup σ 42 0 (Int32.ofInt 0)) (g), false) := by
  have hM : zmi[132]? = some _ := rfl
  have l5 := (zix_some z5).2.2
  refine zr_fr hM rfl rfl rfl ?_
  refine zr_fr hM rfl rfl rfl ?_
  refine zr_putf (κ := (22, 0, 0)) hn hM rfl rfl rfl rfl rfl rfl rfl rfl ?_
  refine zr_fr hM rfl rfl rfl ?_
  refine zr_fr hM rfl rfl rfl ?_
  refine zr_virt (κ := (22, 0, 0)) hn hM rfl rfl rfl rfl rfl rfl rfl rfl rfl ?_
  refine zgo_ret rfl rfl c1_ ?_
  rw [Bool.and_true]
  refine zr_iff hM rfl rfl h2 ?_
  refine zr_fr hM rfl rfl rfl ?_
  refine zr_getf (κ := (22, 0, 0)) hn hM rfl rfl rfl rfl ?_
  refine zr_fr hM rfl rfl rfl ?_
  refine zr_fr hM rfl rfl rfl ?_
  refine zr_virt (κ := (22, 0, 0)) hn hM rfl rfl rfl rfl rfl rfl rfl rfl rfl ?_
  refine zgo_ret rfl rfl c3_ ?_
  rw [Bool.and_true]
  refine zr_iff hM rfl rfl h4 ?_
  refine zr_fr hM rfl rfl rfl ?_
  refine zr_fr hM rfl rfl rfl ?_
  refine zr_bald (κ := (25, 0, 0)) hn hM rfl rfl rfl z5 ?_
  refine zr_iff hM rfl rfl h6 ?_
  refine zr_fr hM rfl rfl rfl ?_
  exact zr_zret2 hM rfl rfl (by decide) rfl
set_option maxHeartbeats 4000000 in
theorem s132_0_fft {n L : Nat} {σ : Ks} {g : List Nat} {cl : Bool} {p1 : Int32} {r1 : Int32} {r3 : Int32} {x5 : Nat} {σ7 : Ks} {c7 : Bool} (hn : 2 ≤ n ∧ n ≤ 5) (c1_ : ZR 119 0 [.val (.ref (kad n (22, 0, 0))), .val (.int p1)] [] (khp n L (kup σ 42 0 (Int32.ofInt 0)) g) true (.inl (some (.int r1)), khp n L (kup σ 42 0 (Int32.ofInt 0)) g, true)) (h2 : zcnd .eq r1 0 = false) (c3_ : ZR 119 0 [.val (.ref (kad n (22, 0, 0))), .val (.int p1)] [] (khp n L (kup σ 42 0 (Int32.ofInt 0)) g) true (.inl (some (.int r3)), khp n L (kup σ 42 0 (Int32.ofInt 0)) g, true)) (h4 : zcnd .eq r3 0 = false) (z5 : zix p1 5 = some x5) (h6 : zcnd .eq ((kup σ 42 0 (Int32.ofInt 0)) 40 x5) 0 = true) (c7_ : ZR 96 0 [.val (.ref (kad n (22, 0, 0))), .val (.int p1), .unset] [] (khp n L (kup σ 42 0 (Int32.ofInt 0)) g) true (.inl (none), khp n L σ7 g, c7)) : ZR 132 0 [.val (.ref (kad n (22, 0, 0))), .val (.int p1)] [] (khp n L σ g) cl (.inl (some (.int (Int32.ofInt 1))), khp n L σ7 (g), false) := by
  have hM : zmi[132]? = some _ := rfl
  have l5 := (zix_some z5).2.2
  refine zr_fr hM rfl rfl rfl ?_
  refine zr_fr hM rfl rfl rfl ?_
  refine zr_putf (κ := (22, 0, 0)) hn hM rfl rfl rfl rfl rfl rfl rfl rfl ?_
  refine zr_fr hM rfl rfl rfl ?_
  refine zr_fr hM rfl rfl rfl ?_
  refine zr_virt (κ := (22, 0, 0)) hn hM rfl rfl rfl rfl rfl rfl rfl rfl rfl ?_
  refine zgo_ret rfl rfl c1_ ?_
  rw [Bool.and_true]
  refine zr_iff hM rfl rfl h2 ?_
  refine zr_fr hM rfl rfl rfl ?_
  refine zr_getf (κ := (22, 0, 0)) hn hM rfl rfl rfl rfl ?_
  refine zr_fr hM rfl rfl rfl ?_
  refine zr_fr hM rfl rfl rfl ?_
  refine zr_virt (κ := (22, 0, 0)) hn hM rfl rfl rfl rfl rfl rfl rfl rfl rfl ?_
  refine zgo_ret rfl rfl c3_ ?_
  rw [Bool.and_true]
  refine zr_iff hM rfl rfl h4 ?_
  refine zr_fr hM rfl rfl rfl ?_
  refine zr_fr hM rfl rfl rfl ?_
  refine zr_bald (κ := (25, 0, 0)) hn hM rfl rfl rfl z5 ?_
  refine zr_ift hM rfl rfl h6 ?_
  refine zr_fr hM rfl rfl rfl ?_
  refine zr_fr hM rfl rfl rfl ?_
  refine zr_virt (κ := (22, 0, 0)) hn hM rfl rfl rfl rfl rfl rfl rfl rfl rfl ?_
  refine zgo_ret rfl rfl c7_ ?_
  rw [Bool.false_and]
  refine zr_fr hM rfl rfl rfl ?_
  exact zr_zret2 hM rfl rfl (by decide) rfl
set_option maxHeartbeats 4000000 in
theorem s132_0_ftf {n L : Nat} {σ : Ks} {g : List Nat} {cl : Bool} {p1 : Int32} {r1 : Int32} {r3 : Int32} {x5 : Nat} (hn : 2 ≤ n ∧ n ≤ 5) (c1_ : ZR 119 0 [.val (.ref (kad n (22, 0, 0))), .val (.int p1)] [] (khp n L (kup σ 42 0 (Int32.ofInt 0)) g) true (.inl (some (.int r1)), khp n L (kup σ 42 0 (Int32.ofInt 0)) g, true)) (h2 : zcnd .eq r1 0 = false) (c3_ : ZR 119 0 [.val (.ref (kad n (22, 0, 0))), .val (.int p1)] [] (khp n L (kup σ 42 0 (Int32.ofInt 0)) g) true (.inl (some (.int r3)), khp n L (kup σ 42 0 (Int32.ofInt 0)) g, true)) (h4 : zcnd .eq r3 0 = true) (z5 : zix (Int32.ofInt 0) 5 = some x5) (h6 : zcnd .eq ((kup σ 42 0 (Int32.ofInt 0)) 40 x5) 0 = false) : ZR 132 0 [.val (.ref (kad n (22, 0, 0))), .val (.int p1)] [] (khp n L σ g) cl (.inl (some (.int (Int32.ofInt 0))), khp n L (kup σ 42 0 (Int32.ofInt 0)) (g), false) := by
  have hM : zmi[132]? = some _ := rfl
  have l5 := (zix_some z5).2.2
  refine zr_fr hM rfl rfl rfl ?_
  refine zr_fr hM rfl rfl rfl ?_
  refine zr_putf (κ := (22, 0, 0)) hn hM rfl rfl rfl rfl rfl rfl rfl rfl ?_
  refine zr_fr hM rfl rfl rfl ?_
  refine zr_fr hM rfl rfl rfl ?_
  refine zr_virt (κ := (22, 0, 0)) hn hM rfl rfl rfl rfl rfl rfl rfl rfl rfl ?_
  refine zgo_ret rfl rfl c1_ ?_
  rw [Bool.and_true]
  refine zr_iff hM rfl rfl h2 ?_
  refine zr_fr hM rfl rfl rfl ?_
  refine zr_getf (κ := (22, 0, 0)) hn hM rfl rfl rfl rfl ?_
  refine zr_fr hM rfl rfl rfl ?_
  refine zr_fr hM rfl rfl rfl ?_
  refine zr_virt (κ := (22, 0, 0)) hn hM rfl rfl rfl rfl rfl rfl rfl rfl rfl ?_
  refine zgo_ret rfl rfl c3_ ?_
  rw [Bool.and_true]
  refine zr_ift hM rfl rfl h4 ?_
  refine zr_fr hM rfl rfl rfl ?_
  refine zr_bald (κ := (25, 0, 0)) hn hM rfl rfl rfl z5 ?_
  refine zr_iff hM rfl rfl h6 ?_
  refine zr_fr hM rfl rfl rfl ?_
  exact zr_zret2 hM rfl rfl (by decide) rfl
set_option maxHeartbeats 4000000 in
theorem s132_0_ftt {n L : Nat} {σ : Ks} {g : List Nat} {cl : Bool} {p1 : Int32} {r1 : Int32} {r3 : Int32} {x5 : Nat} {σ7 : Ks} {c7 : Bool} (hn : 2 ≤ n ∧ n ≤ 5) (c1_ : ZR 119 0 [.val (.ref (kad n (22, 0, 0))), .val (.int p1)] [] (khp n L (kup σ 42 0 (Int32.ofInt 0)) g) true (.inl (some (.int r1)), khp n L (kup σ 42 0 (Int32.ofInt 0)) g, true)) (h2 : zcnd .eq r1 0 = false) (c3_ : ZR 119 0 [.val (.ref (kad n (22, 0, 0))), .val (.int p1)] [] (khp n L (kup σ 42 0 (Int32.ofInt 0)) g) true (.inl (some (.int r3)), khp n L (kup σ 42 0 (Int32.ofInt 0)) g, true)) (h4 : zcnd .eq r3 0 = true) (z5 : zix (Int32.ofInt 0) 5 = some x5) (h6 : zcnd .eq ((kup σ 42 0 (Int32.ofInt 0)) 40 x5) 0 = true) (c7_ : ZR 96 0 [.val (.ref (kad n (22, 0, 0))), .val (.int p1), .unset] [] (khp n L (kup σ 42 0 (Int32.ofInt 0)) g) true (.inl (none), khp n L σ7 g, c7)) : ZR 132 0 [.val (.ref (kad n (22, 0, 0))), .val (.int p1)] [] (khp n L σ g) cl (.inl (some (.int (Int32.ofInt 1))), khp n L σ7 (g), false) := by
  have hM : zmi[132]? = some _ := rfl
  have l5 := (zix_some z5).2.2
  refine zr_fr hM rfl rfl rfl ?_
  refine zr_fr hM rfl rfl rfl ?_
  refine zr_putf (κ := (22, 0, 0)) hn hM rfl rfl rfl rfl rfl rfl rfl rfl ?_
  refine zr_fr hM rfl rfl rfl ?_
  refine zr_fr hM rfl rfl rfl ?_
  refine zr_virt (κ := (22, 0, 0)) hn hM rfl rfl rfl rfl rfl rfl rfl rfl rfl ?_
  refine zgo_ret rfl rfl c1_ ?_
  rw [Bool.and_true]
  refine zr_iff hM rfl rfl h2 ?_
  refine zr_fr hM rfl rfl rfl ?_
  refine zr_getf (κ := (22, 0, 0)) hn hM rfl rfl rfl rfl ?_
  refine zr_fr hM rfl rfl rfl ?_
  refine zr_fr hM rfl rfl rfl ?_
  refine zr_virt (κ := (22, 0, 0)) hn hM rfl rfl rfl rfl rfl rfl rfl rfl rfl ?_
  refine zgo_ret rfl rfl c3_ ?_
  rw [Bool.and_true]
  refine zr_ift hM rfl rfl h4 ?_
  refine zr_fr hM rfl rfl rfl ?_
  refine zr_bald (κ := (25, 0, 0)) hn hM rfl rfl rfl z5 ?_
  refine zr_ift hM rfl rfl h6 ?_
  refine zr_fr hM rfl rfl rfl ?_
  refine zr_fr hM rfl rfl rfl ?_
  refine zr_virt (κ := (22, 0, 0)) hn hM rfl rfl rfl rfl rfl rfl rfl rfl rfl ?_
  refine zgo_ret rfl rfl c7_ ?_
  rw [Bool.false_and]
  refine zr_fr hM rfl rfl rfl ?_
  exact zr_zret2 hM rfl rfl (by decide) rfl
set_option maxHeartbeats 4000000 in
theorem s132_0_t {n L : Nat} {σ : Ks} {g : List Nat} {cl : Bool} {p1 : Int32} {r1 : Int32} (hn : 2 ≤ n ∧ n ≤ 5) (c1_ : ZR 119 0 [.val (.ref (kad n (22, 0, 0))), .val (.int p1)] [] (khp n L (kup σ 42 0 (Int32.ofInt 0)) g) true (.inl (some (.int r1)), khp n L (kup σ 42 0 (Int32.ofInt 0)) g, true)) (h2 : zcnd .eq r1 0 = true) : ZR 132 0 [.val (.ref (kad n (22, 0, 0))), .val (.int p1)] [] (khp n L σ g) cl (.inl (some (.int (Int32.ofInt 0))), khp n L (kup σ 42 0 (Int32.ofInt 0)) (g), false) := by
  have hM : zmi[132]? = some _ := rfl
  refine zr_fr hM rfl rfl rfl ?_
  refine zr_fr hM rfl rfl rfl ?_
  refine zr_putf (κ := (22, 0, 0)) hn hM rfl rfl rfl rfl rfl rfl rfl rfl ?_
  refine zr_fr hM rfl rfl rfl ?_
  refine zr_fr hM rfl rfl rfl ?_
  refine zr_virt (κ := (22, 0, 0)) hn hM rfl rfl rfl rfl rfl rfl rfl rfl rfl ?_
  refine zgo_ret rfl rfl c1_ ?_
  rw [Bool.and_true]
  refine zr_ift hM rfl rfl h2 ?_
  refine zr_fr hM rfl rfl rfl ?_
  exact zr_zret2 hM rfl rfl (by decide) rfl
set_option maxHeartbeats 4000000 in
theorem s133_0_fff {n L : Nat} {σ : Ks} {g : List Nat} {cl : Bool} {p1 : Int32} {r1 : Int32} {r3 : Int32} {x5 : Nat} (hn : 2 ≤ n ∧ n ≤ 5) (c1_ : ZR 119 0 [.val (.ref (kad n (22, 0, 0))), .val (.int p1)] [] (khp n L (kup σ 42 0 (Int32.ofInt 0)) g) true (.inl (some (.int r1)), khp n L (kup σ 42 0 (Int32.ofInt 0)) g, true)) (h2 : zcnd .eq r1 0 = false) (c3_ : ZR 119 0 [.val (.ref (kad n (22, 0, 0))), .val (.int p1)] [] (khp n L (kup σ 42 0 (Int32.ofInt 0)) g) true (.inl (some (.int r3)), khp n L (kup σ 42 0 (Int32.ofInt 0)) g, true)) (h4 : zcnd .eq r3 0 = false) (z5 : zix p1 5 = some x5) (h6 : zcnd .eq ((kup σ 42 0 (Int32.ofInt 0)) 40 x5) 0 = false) : ZR 133 0 [.val (.ref (kad n (22, 0, 0))), .val (.int p1), .unset] [] (khp n L σ g) cl (.inl (some (.int (Int32.ofInt 0))), khp n L (kup σ 42 0 (Int32.ofInt 0)) (g), false) := by
  have hM : zmi[133]? = some _ := rfl
  have l5 := (zix_some z5).2.2
  refine zr_fr hM rfl rfl rfl ?_
  refine zr_fr hM rfl rfl rfl ?_
  refine zr_putf (κ := (22, 0, 0)) hn hM rfl rfl rfl rfl rfl rfl rfl rfl ?_
  refine zr_fr hM rfl rfl rfl ?_
  refine zr_fr hM rfl rfl rfl ?_
  refine zr_virt (κ := (22, 0, 0)) hn hM rfl rfl rfl rfl rfl rfl rfl rfl rfl ?_
  refine zgo_ret rfl rfl c1_ ?_
  rw [Bool.and_true]
  refine zr_iff hM rfl rfl h2 ?_
  refine zr_fr hM rfl rfl rfl ?_
  refine zr_getf (κ := (22, 0, 0)) hn hM rfl rfl rfl rfl ?_
  refine zr_fr hM rfl rfl rfl ?_
  refine zr_fr hM rfl rfl rfl ?_
  refine zr_virt (κ := (22, 0, 0)) hn hM rfl rfl rfl rfl rfl rfl rfl rfl rfl ?_
  refine zgo_ret rfl rfl c3_ ?_
  rw [Bool.and_true]
  refine zr_iff hM rfl rfl h4 ?_
  refine zr_fr hM rfl rfl rfl ?_
  refine zr_fr hM rfl rfl rfl ?_
  refine zr_bald (κ := (25, 0, 0)) hn hM rfl rfl rfl z5 ?_
  refine zr_iff hM rfl rfl h6 ?_
  refine zr_fr hM rfl rfl rfl ?_
  exact zr_zret2 hM rfl rfl (by decide) rfl
set_option maxHeartbeats 4000000 in
theorem s133_0_fft {n L : Nat} {σ : Ks} {g : List Nat} {cl : Bool} {r : Zr} {p1 : Int32} {r1 : Int32} {r3 : Int32} {x5 : Nat} (hn : 2 ≤ n ∧ n ≤ 5) (c1_ : ZR 119 0 [.val (.ref (kad n (22, 0, 0))), .val (.int p1)] [] (khp n L (kup σ 42 0 (Int32.ofInt 0)) g) true (.inl (some (.int r1)), khp n L (kup σ 42 0 (Int32.ofInt 0)) g, true)) (h2 : zcnd .eq r1 0 = false) (c3_ : ZR 119 0 [.val (.ref (kad n (22, 0, 0))), .val (.int p1)] [] (khp n L (kup σ 42 0 (Int32.ofInt 0)) g) true (.inl (some (.int r3)), khp n L (kup σ 42 0 (Int32.ofInt 0)) g, true)) (h4 : zcnd .eq r3 0 = false) (z5 : zix p1 5 = some x5) (h6 : zcnd .eq ((kup σ 42 0 (Int32.ofInt 0)) 40 x5) 0 = true) (k : ZR 133 45 [.val (.ref (kad n (22, 0, 0))), .val (.int p1), .val (.int (Int32.ofInt 0))] [] (khp n L (kup (kup σ 42 0 (Int32.ofInt 0)) 40 x5 (Int32.ofInt 1)) (g)) false r) : ZR 133 0 [.val (.ref (kad n (22, 0, 0))), .val (.int p1), .unset] [] (khp n L σ g) cl r := by
  have hM : zmi[133]? = some _ := rfl
  have l5 := (zix_some z5).2.2
  refine zr_fr hM rfl rfl rfl ?_
  refine zr_fr hM rfl rfl rfl ?_
  refine zr_putf (κ := (22, 0, 0)) hn hM rfl rfl rfl rfl rfl rfl rfl rfl ?_
  refine zr_fr hM rfl rfl rfl ?_
  refine zr_fr hM rfl rfl rfl ?_
  refine zr_virt (κ := (22, 0, 0)) hn hM rfl rfl rfl rfl rfl rfl rfl rfl rfl ?_
  refine zgo_ret rfl rfl c1_ ?_
  rw [Bool.and_true]
  refine zr_iff hM rfl rfl h2 ?_
  refine zr_fr hM rfl rfl rfl ?_
  refine zr_getf (κ := (22, 0, 0)) hn hM rfl rfl rfl rfl ?_
  refine zr_fr hM rfl rfl rfl ?_
  refine zr_fr hM rfl rfl rfl ?_
  refine zr_virt (κ := (22, 0, 0)) hn hM rfl rfl rfl rfl rfl rfl rfl rfl rfl ?_
  refine zgo_ret rfl rfl c3_ ?_
  rw [Bool.and_true]
  refine zr_iff hM rfl rfl h4 ?_
  refine zr_fr hM rfl rfl rfl ?_
  refine zr_fr hM rfl rfl rfl ?_
  refine zr_bald (κ := (25, 0, 0)) hn hM rfl rfl rfl z5 ?_
  refine zr_ift hM rfl rfl h6 ?_
  refine zr_fr hM rfl rfl rfl ?_
  refine zr_getf (κ := (22, 0, 0)) hn hM rfl rfl rfl rfl ?_
  refine zr_fr hM rfl rfl rfl ?_
  refine zr_fr hM rfl rfl rfl ?_
  refine zr_bast (κ := (25, 0, 0)) hn hM rfl rfl rfl rfl (by decide) z5 rfl ?_
  refine zr_fr hM rfl rfl rfl ?_
  refine zr_fr hM rfl rfl rfl ?_
  exact k
set_option maxHeartbeats 4000000 in
theorem s133_0_ftf {n L : Nat} {σ : Ks} {g : List Nat} {cl : Bool} {p1 : Int32} {r1 : Int32} {r3 : Int32} {x5 : Nat} (hn : 2 ≤ n ∧ n ≤ 5) (c1_ : ZR 119 0 [.val (.ref (kad n (22, 0, 0))), .val (.int p1)] [] (khp n L (kup σ 42 0 (Int32.ofInt 0)) g) true (.inl (some (.int r1)), khp n L (kup σ 42 0 (Int32.ofInt 0)) g, true)) (h2 : zcnd .eq r1 0 = false) (c3_ : ZR 119 0 [.val (.ref (kad n (22, 0, 0))), .val (.int p1)] [] (khp n L (kup σ 42 0 (Int32.ofInt 0)) g) true (.inl (some (.int r3)), khp n L (kup σ 42 0 (Int32.ofInt 0)) g, true)) (h4 : zcnd .eq r3 0 = true) (z5 : zix (Int32.ofInt 0) 5 = some x5) (h6 : zcnd .eq ((kup σ 42 0 (Int32.ofInt 0)) 40 x5) 0 = false) : ZR 133 0 [.val (.ref (kad n (22, 0, 0))), .val (.int p1), .unset] [] (khp n L σ g) cl (.inl (some (.int (Int32.ofInt 0))), khp n L (kup σ 42 0 (Int32.ofInt 0)) (g), false) := by
  have hM : zmi[133]? = some _ := rfl
  have l5 := (zix_some z5).2.2
  refine zr_fr hM rfl rfl rfl ?_
  refine zr_fr hM rfl rfl rfl ?_
  refine zr_putf (κ := (22, 0, 0)) hn hM rfl rfl rfl rfl rfl rfl rfl rfl ?_
  refine zr_fr hM rfl rfl rfl ?_
  refine zr_fr hM rfl rfl rfl ?_
  refine zr_virt (κ := (22, 0, 0)) hn hM rfl rfl rfl rfl rfl rfl rfl rfl rfl ?_
  refine zgo_ret rfl rfl c1_ ?_
  rw [Bool.and_true]
  refine zr_iff hM rfl rfl h2 ?_
  refine zr_fr hM rfl rfl rfl ?_
  refine zr_getf (κ := (22, 0, 0)) hn hM rfl rfl rfl rfl ?_
  refine zr_fr hM rfl rfl rfl ?_
  refine zr_fr hM rfl rfl rfl ?_
  refine zr_virt (κ := (22, 0, 0)) hn hM rfl rfl rfl rfl rfl rfl rfl rfl rfl ?_
  refine zgo_ret rfl rfl c3_ ?_
  rw [Bool.and_true]
  refine zr_ift hM rfl rfl h4 ?_
  refine zr_fr hM rfl rfl rfl ?_
  refine zr_bald (κ := (25, 0, 0)) hn hM rfl rfl rfl z5 ?_
  refine zr_iff hM rfl rfl h6 ?_
  refine zr_fr hM rfl rfl rfl ?_
  exact zr_zret2 hM rfl rfl (by decide) rfl
set_option maxHeartbeats 4000000 in
theorem s133_0_ftt {n L : Nat} {σ : Ks} {g : List Nat} {cl : Bool} {r : Zr} {p1 : Int32} {r1 : Int32} {r3 : Int32} {x5 : Nat} {x7 : Nat} (hn : 2 ≤ n ∧ n ≤ 5) (c1_ : ZR 119 0 [.val (.ref (kad n (22, 0, 0))), .val (.int p1)] [] (khp n L (kup σ 42 0 (Int32.ofInt 0)) g) true (.inl (some (.int r1)), khp n L (kup σ 42 0 (Int32.ofInt 0)) g, true)) (h2 : zcnd .eq r1 0 = false) (c3_ : ZR 119 0 [.val (.ref (kad n (22, 0, 0))), .val (.int p1)] [] (khp n L (kup σ 42 0 (Int32.ofInt 0)) g) true (.inl (some (.int r3)), khp n L (kup σ 42 0 (Int32.ofInt 0)) g, true)) (h4 : zcnd .eq r3 0 = true) (z5 : zix (Int32.ofInt 0) 5 = some x5) (h6 : zcnd .eq ((kup σ 42 0 (Int32.ofInt 0)) 40 x5) 0 = true) (z7 : zix p1 5 = some x7) (k : ZR 133 45 [.val (.ref (kad n (22, 0, 0))), .val (.int p1), .val (.int (Int32.ofInt 0))] [] (khp n L (kup (kup σ 42 0 (Int32.ofInt 0)) 40 x7 (Int32.ofInt 1)) (g)) false r) : ZR 133 0 [.val (.ref (kad n (22, 0, 0))), .val (.int p1), .unset] [] (khp n L σ g) cl r := by
  have hM : zmi[133]? = some _ := rfl
  have l5 := (zix_some z5).2.2
  have l7 := (zix_some z7).2.2
  refine zr_fr hM rfl rfl rfl ?_
  refine zr_fr hM rfl rfl rfl ?_
  refine zr_putf (κ := (22, 0, 0)) hn hM rfl rfl rfl rfl rfl rfl rfl rfl ?_
  refine zr_fr hM rfl rfl rfl ?_
  refine zr_fr hM rfl rfl rfl ?_
  refine zr_virt (κ := (22, 0, 0)) hn hM rfl rfl rfl rfl rfl rfl rfl rfl rfl ?_
  refine zgo_ret rfl rfl c1_ ?_
  rw [Bool.and_true]
  refine zr_iff hM rfl rfl h2 ?_
  refine zr_fr hM rfl rfl rfl ?_
  refine zr_getf (κ := (22, 0, 0)) hn hM rfl rfl rfl rfl ?_
  refine zr_fr hM rfl rfl rfl ?_
  refine zr_fr hM rfl rfl rfl ?_
  refine zr_virt (κ := (22, 0, 0)) hn hM rfl rfl rfl rfl rfl rfl rfl rfl rfl ?_
  refine zgo_ret rfl rfl c3_ ?_
  rw [Bool.and_true]
  refine zr_ift hM rfl rfl h4 ?_
  refine zr_fr hM rfl rfl rfl ?_
  refine zr_bald (κ := (25, 0, 0)) hn hM rfl rfl rfl z5 ?_
  refine zr_ift hM rfl rfl h6 ?_
  refine zr_fr hM rfl rfl rfl ?_
  refine zr_getf (κ := (22, 0, 0)) hn hM rfl rfl rfl rfl ?_
  refine zr_fr hM rfl rfl rfl ?_
  refine zr_fr hM rfl rfl rfl ?_
  refine zr_bast (κ := (25, 0, 0)) hn hM rfl rfl rfl rfl (by decide) z7 rfl ?_
  refine zr_fr hM rfl rfl rfl ?_
  refine zr_fr hM rfl rfl rfl ?_
  exact k
set_option maxHeartbeats 4000000 in
theorem s133_0_t {n L : Nat} {σ : Ks} {g : List Nat} {cl : Bool} {p1 : Int32} {r1 : Int32} (hn : 2 ≤ n ∧ n ≤ 5) (c1_ : ZR 119 0 [.val (.ref (kad n (22, 0, 0))), .val (.int p1)] [] (khp n L (kup σ 42 0 (Int32.ofInt 0)) g) true (.inl (some (.int r1)), khp n L (kup σ 42 0 (Int32.ofInt 0)) g, true)) (h2 : zcnd .eq r1 0 = true) : ZR 133 0 [.val (.ref (kad n (22, 0, 0))), .val (.int p1), .unset] [] (khp n L σ g) cl (.inl (some (.int (Int32.ofInt 0))), khp n L (kup σ 42 0 (Int32.ofInt 0)) (g), false) := by
  have hM : zmi[133]? = some _ := rfl
  refine zr_fr hM rfl rfl rfl ?_
  refine zr_fr hM rfl rfl rfl ?_
  refine zr_putf (κ := (22, 0, 0)) hn hM rfl rfl rfl rfl rfl rfl rfl rfl ?_
  refine zr_fr hM rfl rfl rfl ?_
  refine zr_fr hM rfl rfl rfl ?_
  refine zr_virt (κ := (22, 0, 0)) hn hM rfl rfl rfl rfl rfl rfl rfl rfl rfl ?_
  refine zgo_ret rfl rfl c1_ ?_
  rw [Bool.and_true]
  refine zr_ift hM rfl rfl h2 ?_
  refine zr_fr hM rfl rfl rfl ?_
  exact zr_zret2 hM rfl rfl (by decide) rfl
set_option maxHeartbeats 4000000 in
theorem s133_45_f {n L : Nat} {σ : Ks} {g : List Nat} {cl : Bool} {r : Zr} {v1 : Int32} {v2 : Int32} {r2 : Int32} {r3 : Int32} {x4 : Nat} {x5 : Nat} (hn : 2 ≤ n ∧ n ≤ 5) (h1 : zcnd .ge v2 ((Int16.ofInt 164).toInt32) = false) (c2_ : ZR 97 0 [.val (.int v1)] [] (khp n L σ g) true (.inl (some (.int r2)), khp n L σ g, true)) (c3_ : ZR 97 0 [.val (.int v1)] [] (khp n L σ g) true (.inl (some (.int r3)), khp n L σ g, true)) (z4 : zix (r3 + v2) 820 = some x4) (z5 : zix (r2 + v2) 820 = some x5) (k : ZR 133 45 [.val (.ref (kad n (22, 0, 0))), .val (.int v1), .val (.int (v2 + Int32.ofInt 1))] [] (khp n L (kup σ (20 + x5 / 164) (x5 % 164) (σ (30 + x4 / 164) (x4 % 164))) (g)) false r) : ZR 133 45 [.val (.ref (kad n (22, 0, 0))), .val (.int v1), .val (.int v2)] [] (khp n L σ g) cl r := by
  have hM : zmi[133]? = some _ := rfl
  have l4 := (zix_some z4).2.2
  have l5 := (zix_some z5).2.2
  refine zr_fr hM rfl rfl rfl ?_
  refine zr_fr hM rfl rfl rfl ?_
  refine zr_icf hM rfl rfl h1 ?_
  refine zr_fr hM rfl rfl rfl ?_
  refine zr_getf (κ := (22, 0, 0)) hn hM rfl rfl rfl rfl ?_
  refine zr_fr hM rfl rfl rfl ?_
  refine zr_stat hM rfl rfl rfl rfl rfl rfl ?_
  refine zgo_ret rfl rfl c2_ ?_
  rw [Bool.and_true]
  refine zr_fr hM rfl rfl rfl ?_
  refine zr_fr hM rfl rfl rfl ?_
  refine zr_fr hM rfl rfl rfl ?_
  refine zr_getf (κ := (22, 0, 0)) hn hM rfl rfl rfl rfl ?_
  refine zr_fr hM rfl rfl rfl ?_
  refine zr_stat hM rfl rfl rfl rfl rfl rfl ?_
  refine zgo_ret rfl rfl c3_ ?_
  rw [Bool.and_true]
  refine zr_fr hM rfl rfl rfl ?_
  refine zr_fr hM rfl rfl rfl ?_
  refine zr_iald (κ := (24, 0, 0)) hn hM rfl rfl rfl z4 ?_
  refine zr_iast (κ := (23, 0, 0)) hn hM rfl rfl rfl rfl z5 rfl ?_
  refine zr_fr hM rfl rfl rfl ?_
  refine zr_fr hM rfl rfl rfl ?_
  exact k
set_option maxHeartbeats 4000000 in
theorem s133_45_t {n L : Nat} {σ : Ks} {g : List Nat} {cl : Bool} {v1 : Int32} {v2 : Int32} (hn : 2 ≤ n ∧ n ≤ 5) (h1 : zcnd .ge v2 ((Int16.ofInt 164).toInt32) = true) : ZR 133 45 [.val (.ref (kad n (22, 0, 0))), .val (.int v1), .val (.int v2)] [] (khp n L σ g) cl (.inl (some (.int (Int32.ofInt 1))), khp n L σ (g), cl) := by
  have hM : zmi[133]? = some _ := rfl
  refine zr_fr hM rfl rfl rfl ?_
  refine zr_fr hM rfl rfl rfl ?_
  refine zr_ict hM rfl rfl h1 ?_
  refine zr_fr hM rfl rfl rfl ?_
  exact zr_zret2 hM rfl rfl (by decide) rfl
set_option maxHeartbeats 4000000 in
theorem s134_0_fff {n L : Nat} {σ : Ks} {g : List Nat} {cl : Bool} {p1 : Int32} {r1 : Int32} {r3 : Int32} {x5 : Nat} (hn : 2 ≤ n ∧ n ≤ 5) (c1_ : ZR 119 0 [.val (.ref (kad n (22, 0, 0))), .val (.int p1)] [] (khp n L (kup σ 42 0 (Int32.ofInt 0)) g) true (.inl (some (.int r1)), khp n L (kup σ 42 0 (Int32.ofInt 0)) g, true)) (h2 : zcnd .eq r1 0 = false) (c3_ : ZR 119 0 [.val (.ref (kad n (22, 0, 0))), .val (.int p1)] [] (khp n L (kup σ 42 0 (Int32.ofInt 0)) g) true (.inl (some (.int r3)), khp n L (kup σ 42 0 (Int32.ofInt 0)) g, true)) (h4 : zcnd .eq r3 0 = false) (z5 : zix p1 5 = some x5) (h6 : zcnd .ne ((kup σ 42 0 (Int32.ofInt 0)) 40 x5) 0 = false) : ZR 134 0 [.val (.ref (kad n (22, 0, 0))), .val (.int p1)] [] (khp n L σ g) cl (.inl (some (.int (Int32.ofInt 0))), khp n L (kup σ 42 0 (Int32.ofInt 0)) (g), false) := by
  have hM : zmi[134]? = some _ := rfl
  have l5 := (zix_some z5).2.2
  refine zr_fr hM rfl rfl rfl ?_
  refine zr_fr hM rfl rfl rfl ?_
  refine zr_putf (κ := (22, 0, 0)) hn hM rfl rfl rfl rfl rfl rfl rfl rfl ?_
  refine zr_fr hM rfl rfl rfl ?_
  refine zr_fr hM rfl rfl rfl ?_
  refine zr_virt (κ := (22, 0, 0)) hn hM rfl rfl rfl rfl rfl rfl rfl rfl rfl ?_
  refine zgo_ret rfl rfl c1_ ?_
  rw [Bool.and_true]
  refine zr_iff hM rfl rfl h2 ?_
  refine zr_fr hM rfl rfl rfl ?_
  refine zr_getf (κ := (22, 0, 0)) hn hM rfl rfl rfl rfl ?_
  refine zr_fr hM rfl rfl rfl ?_
  refine zr_fr hM rfl rfl rfl ?_
  refine zr_virt (κ := (22, 0, 0)) hn hM rfl rfl rfl rfl rfl rfl rfl rfl rfl ?_
  refine zgo_ret rfl rfl c3_ ?_
  rw [Bool.and_true]
  refine zr_iff hM rfl rfl h4 ?_
  refine zr_fr hM rfl rfl rfl ?_
  refine zr_fr hM rfl rfl rfl ?_
  refine zr_bald (κ := (25, 0, 0)) hn hM rfl rfl rfl z5 ?_
  refine zr_iff hM rfl rfl h6 ?_
  refine zr_fr hM rfl rfl rfl ?_
  exact zr_zret2 hM rfl rfl (by decide) rfl
set_option maxHeartbeats 4000000 in
theorem s134_0_fft {n L : Nat} {σ : Ks} {g : List Nat} {cl : Bool} {p1 : Int32} {r1 : Int32} {r3 : Int32} {x5 : Nat} (hn : 2 ≤ n ∧ n ≤ 5) (c1_ : ZR 119 0 [.val (.ref (kad n (22, 0, 0))), .val (.int p1)] [] (khp n L (kup σ 42 0 (Int32.ofInt 0)) g) true (.inl (some (.int r1)), khp n L (kup σ 42 0 (Int32.ofInt 0)) g, true)) (h2 : zcnd .eq r1 0 = false) (c3_ : ZR 119 0 [.val (.ref (kad n (22, 0, 0))), .val (.int p1)] [] (khp n L (kup σ 42 0 (Int32.ofInt 0)) g) true (.inl (some (.int r3)), khp n L (kup σ 42 0 (Int32.ofInt 0)) g, true)) (h4 : zcnd .eq r3 0 = false) (z5 : zix p1 5 = some x5) (h6 : zcnd .ne ((kup σ 42 0 (Int32.ofInt 0)) 40 x5) 0 = true) : ZR 134 0 [.val (.ref (kad n (22, 0, 0))), .val (.int p1)] [] (khp n L σ g) cl (.inl (some (.int (Int32.ofInt 1))), khp n L (kup (kup σ 42 0 (Int32.ofInt 0)) 40 x5 (Int32.ofInt 0)) (g), false) := by
  have hM : zmi[134]? = some _ := rfl
  have l5 := (zix_some z5).2.2
  refine zr_fr hM rfl rfl rfl ?_
  refine zr_fr hM rfl rfl rfl ?_
  refine zr_putf (κ := (22, 0, 0)) hn hM rfl rfl rfl rfl rfl rfl rfl rfl ?_
  refine zr_fr hM rfl rfl rfl ?_
  refine zr_fr hM rfl rfl rfl ?_
  refine zr_virt (κ := (22, 0, 0)) hn hM rfl rfl rfl rfl rfl rfl rfl rfl rfl ?_
  refine zgo_ret rfl rfl c1_ ?_
  rw [Bool.and_true]
  refine zr_iff hM rfl rfl h2 ?_
  refine zr_fr hM rfl rfl rfl ?_
  refine zr_getf (κ := (22, 0, 0)) hn hM rfl rfl rfl rfl ?_
  refine zr_fr hM rfl rfl rfl ?_
  refine zr_fr hM rfl rfl rfl ?_
  refine zr_virt (κ := (22, 0, 0)) hn hM rfl rfl rfl rfl rfl rfl rfl rfl rfl ?_
  refine zgo_ret rfl rfl c3_ ?_
  rw [Bool.and_true]
  refine zr_iff hM rfl rfl h4 ?_
  refine zr_fr hM rfl rfl rfl ?_
  refine zr_fr hM rfl rfl rfl ?_
  refine zr_bald (κ := (25, 0, 0)) hn hM rfl rfl rfl z5 ?_
  refine zr_ift hM rfl rfl h6 ?_
  refine zr_fr hM rfl rfl rfl ?_
  refine zr_getf (κ := (22, 0, 0)) hn hM rfl rfl rfl rfl ?_
  refine zr_fr hM rfl rfl rfl ?_
  refine zr_fr hM rfl rfl rfl ?_
  refine zr_bast (κ := (25, 0, 0)) hn hM rfl rfl rfl rfl (by decide) z5 rfl ?_
  refine zr_fr hM rfl rfl rfl ?_
  exact zr_zret2 hM rfl rfl (by decide) rfl
set_option maxHeartbeats 4000000 in
theorem s134_0_ftf {n L : Nat} {σ : Ks} {g : List Nat} {cl : Bool} {p1 : Int32} {r1 : Int32} {r3 : Int32} {x5 : Nat} (hn : 2 ≤ n ∧ n ≤ 5) (c1_ : ZR 119 0 [.val (.ref (kad n (22, 0, 0))), .val (.int p1)] [] (khp n L (kup σ 42 0 (Int32.ofInt 0)) g) true (.inl (some (.int r1)), khp n L (kup σ 42 0 (Int32.ofInt 0)) g, true)) (h2 : zcnd .eq r1 0 = false) (c3_ : ZR 119 0 [.val (.ref (kad n (22, 0, 0))), .val (.int p1)] [] (khp n L (kup σ 42 0 (Int32.ofInt 0)) g) true (.inl (some (.int r3)), khp n L (kup σ 42 0 (Int32.ofInt 0)) g, true)) (h4 : zcnd .eq r3 0 = true) (z5 : zix (Int32.ofInt 0) 5 = some x5) (h6 : zcnd .ne ((kup σ 42 0 (Int32.ofInt 0)) 40 x5) 0 = false) : ZR 134 0 [.val (.ref (kad n (22, 0, 0))), .val (.int p1)] [] (khp n L σ g) cl (.inl (some (.int (Int32.ofInt 0))), khp n L (kup σ 42 0 (Int32.ofInt 0)) (g), false) := by
  have hM : zmi[134]? = some _ := rfl
  have l5 := (zix_some z5).2.2
  refine zr_fr hM rfl rfl rfl ?_
  refine zr_fr hM rfl rfl rfl ?_
  refine zr_putf (κ := (22, 0, 0)) hn hM rfl rfl rfl rfl rfl rfl rfl rfl ?_
  refine zr_fr hM rfl rfl rfl ?_
  refine zr_fr hM rfl rfl rfl ?_
  refine zr_virt (κ := (22, 0, 0)) hn hM rfl rfl rfl rfl rfl rfl rfl rfl rfl ?_
  refine zgo_ret rfl rfl c1_ ?_
  rw [Bool.and_true]
  refine zr_iff hM rfl rfl h2 ?_
  refine zr_fr hM rfl rfl rfl ?_
  refine zr_getf (κ := (22, 0, 0)) hn hM rfl rfl rfl rfl ?_
  refine zr_fr hM rfl rfl rfl ?_
  refine zr_fr hM rfl rfl rfl ?_
  refine zr_virt (κ := (22, 0, 0)) hn hM rfl rfl rfl rfl rfl rfl rfl rfl rfl ?_
  refine zgo_ret rfl rfl c3_ ?_
  rw [Bool.and_true]
  refine zr_ift hM rfl rfl h4 ?_
  refine zr_fr hM rfl rfl rfl ?_
  refine zr_bald (κ := (25, 0, 0)) hn hM rfl rfl rfl z5 ?_
  refine zr_iff hM rfl rfl h6 ?_
  refine zr_fr hM rfl rfl rfl ?_
  exact zr_zret2 hM rfl rfl (by decide) rfl
set_option maxHeartbeats 4000000 in
theorem s134_0_ftt {n L : Nat} {σ : Ks} {g : List Nat} {cl : Bool} {p1 : Int32} {r1 : Int32} {r3 : Int32} {x5 : Nat} {x7 : Nat} (hn : 2 ≤ n ∧ n ≤ 5) (c1_ : ZR 119 0 [.val (.ref (kad n (22, 0, 0))), .val (.int p1)] [] (khp n L (kup σ 42 0 (Int32.ofInt 0)) g) true (.inl (some (.int r1)), khp n L (kup σ 42 0 (Int32.ofInt 0)) g, true)) (h2 : zcnd .eq r1 0 = false) (c3_ : ZR 119 0 [.val (.ref (kad n (22, 0, 0))), .val (.int p1)] [] (khp n L (kup σ 42 0 (Int32.ofInt 0)) g) true (.inl (some (.int r3)), khp n L (kup σ 42 0 (Int32.ofInt 0)) g, true)) (h4 : zcnd .eq r3 0 = true) (z5 : zix (Int32.ofInt 0) 5 = some x5) (h6 : zcnd .ne ((kup σ 42 0 (Int32.ofInt 0)) 40 x5) 0 = true) (z7 : zix p1 5 = some x7) : ZR 134 0 [.val (.ref (kad n (22, 0, 0))), .val (.int p1)] [] (khp n L σ g) cl (.inl (some (.int (Int32.ofInt 1))), khp n L (kup (kup σ 42 0 (Int32.ofInt 0)) 40 x7 (Int32.ofInt 0)) (g), false) := by
  have hM : zmi[134]? = some _ := rfl
  have l5 := (zix_some z5).2.2
  have l7 := (zix_some z7).2.2
  refine zr_fr hM rfl rfl rfl ?_
  refine zr_fr hM rfl rfl rfl ?_
  refine zr_putf (κ := (22, 0, 0)) hn hM rfl rfl rfl rfl rfl rfl rfl rfl ?_
  refine zr_fr hM rfl rfl rfl ?_
  refine zr_fr hM rfl rfl rfl ?_
  refine zr_virt (κ := (22, 0, 0)) hn hM rfl rfl rfl rfl rfl rfl rfl rfl rfl ?_
  refine zgo_ret rfl rfl c1_ ?_
  rw [Bool.and_true]
  refine zr_iff hM rfl rfl h2 ?_
  refine zr_fr hM rfl rfl rfl ?_
  refine zr_getf (κ := (22, 0, 0)) hn hM rfl rfl rfl rfl ?_
  refine zr_fr hM rfl rfl rfl ?_
  refine zr_fr hM rfl rfl rfl ?_
  refine zr_virt (κ := (22, 0, 0)) hn hM rfl rfl rfl rfl rfl rfl rfl rfl rfl ?_
  refine zgo_ret rfl rfl c3_ ?_
  rw [Bool.and_true]
  refine zr_ift hM rfl rfl h4 ?_
  refine zr_fr hM rfl rfl rfl ?_
  refine zr_bald (κ := (25, 0, 0)) hn hM rfl rfl rfl z5 ?_
  refine zr_ift hM rfl rfl h6 ?_
  refine zr_fr hM rfl rfl rfl ?_
  refine zr_getf (κ := (22, 0, 0)) hn hM rfl rfl rfl rfl ?_
  refine zr_fr hM rfl rfl rfl ?_
  refine zr_fr hM rfl rfl rfl ?_
  refine zr_bast (κ := (25, 0, 0)) hn hM rfl rfl rfl rfl (by decide) z7 rfl ?_
  refine zr_fr hM rfl rfl rfl ?_
  exact zr_zret2 hM rfl rfl (by decide) rfl
set_option maxHeartbeats 4000000 in
theorem s134_0_t {n L : Nat} {σ : Ks} {g : List Nat} {cl : Bool} {p1 : Int32} {r1 : Int32} (hn : 2 ≤ n ∧ n ≤ 5) (c1_ : ZR 119 0 [.val (.ref (kad n (22, 0, 0))), .val (.int p1)] [] (khp n L (kup σ 42 0 (Int32.ofInt 0)) g) true (.inl (some (.int r1)), khp n L (kup σ 42 0 (Int32.ofInt 0)) g, true)) (h2 : zcnd .eq r1 0 = true) : ZR 134 0 [.val (.ref (kad n (22, 0, 0))), .val (.int p1)] [] (khp n L σ g) cl (.inl (some (.int (Int32.ofInt 0))), khp n L (kup σ 42 0 (Int32.ofInt 0)) (g), false) := by
  have hM : zmi[134]? = some _ := rfl
  refine zr_fr hM rfl rfl rfl ?_
  refine zr_fr hM rfl rfl rfl ?_
  refine zr_putf (κ := (22, 0, 0)) hn hM rfl rfl rfl rfl rfl rfl rfl rfl ?_
  refine zr_fr hM rfl rfl rfl ?_
  refine zr_fr hM rfl rfl rfl ?_
  refine zr_virt (κ := (22, 0, 0)) hn hM rfl rfl rfl rfl rfl rfl rfl rfl rfl ?_
  refine zgo_ret rfl rfl c1_ ?_
  rw [Bool.and_true]
  refine zr_ift hM rfl rfl h2 ?_
  refine zr_fr hM rfl rfl rfl ?_
  exact zr_zret2 hM rfl rfl (by decide) rfl
set_option maxHeartbeats 4000000 in
theorem s135_0_fffff {n L : Nat} {σ : Ks} {g : List Nat} {cl : Bool} {p1 : Int32} {p2 : Int32} {p3 : Int32} {r1 : Int32} {r3 : Int32} (hn : 2 ≤ n ∧ n ≤ 5) (c1_ : ZR 119 0 [.val (.ref (kad n (22, 0, 0))), .val (.int p1)] [] (khp n L σ g) true (.inl (some (.int r1)), khp n L σ g, true)) (h2 : zcnd .eq r1 0 = false) (c3_ : ZR 114 0 [.val (.int p2)] [] (khp n L σ g) true (.inl (some (.int r3)), khp n L σ g, true)) (h4 : zcnd .eq r3 0 = false) (h5 : zcnd .lt p3 0 = false) (h6 : zcnd .ge p3 (Int32.ofInt 4) = false) (h7 : zcnd .le ((kup σ 42 0 (Int32.ofInt 0)) 42 0) 0 = false) : ZR 135 0 [.val (.ref (kad n (22, 0, 0))), .val (.int p1), .val (.int p2), .val (.int p3)] [] (khp n L σ g) cl (.inl (some (.int (Int32.ofInt 0))), khp n L (kup σ 42 0 (Int32.ofInt 0)) (g), false) := by
  have hM : zmi[135]? = some _ := rfl
  refine zr_fr hM rfl rfl rfl ?_
  refine zr_fr hM rfl rfl rfl ?_
  refine zr_fr hM rfl rfl rfl ?_
  refine zr_virt (κ := (22, 0, 0)) hn hM rfl rfl rfl rfl rfl rfl rfl rfl rfl ?_
  refine zgo_ret rfl rfl c1_ ?_
  rw [Bool.and_true]
  refine zr_iff hM rfl rfl h2 ?_
  refine zr_fr hM rfl rfl rfl ?_
  refine zr_stat hM rfl rfl rfl rfl rfl rfl ?_
  refine zgo_ret rfl rfl c3_ ?_
  rw [Bool.and_true]
  refine zr_iff hM rfl rfl h4 ?_
  refine zr_fr hM rfl rfl rfl ?_
  refine zr_iff hM rfl rfl h5 ?_
  refine zr_fr hM rfl rfl rfl ?_
  refine zr_fr hM rfl rfl rfl ?_
  refine zr_icf hM rfl rfl h6 ?_
  refine zr_fr hM rfl rfl rfl ?_
  refine zr_fr hM rfl rfl rfl ?_
  refine zr_putf (κ := (22, 0, 0)) hn hM rfl rfl rfl rfl rfl rfl rfl rfl ?_
  refine zr_fr hM rfl rfl rfl ?_
  refine zr_getf (κ := (22, 0, 0)) hn hM rfl rfl rfl rfl ?_
  refine zr_iff hM rfl rfl h7 ?_
  refine zr_fr hM rfl rfl rfl ?_
  refine zr_fr hM rfl rfl rfl ?_
  exact zr_iret2 hM rfl rfl rfl
set_option maxHeartbeats 4000000 in
theorem s135_0_fffftf {n L : Nat} {σ : Ks} {g : List Nat} {cl : Bool} {p1 : Int32} {p2 : Int32} {p3 : Int32} {r1 : Int32} {r3 : Int32} {r9 : Int32} (hn : 2 ≤ n ∧ n ≤ 5) (c1_ : ZR 119 0 [.val (.ref (kad n (22, 0, 0))), .val (.int p1)] [] (khp n L σ g) true (.inl (some (.int r1)), khp n L σ g, true)) (h2 : zcnd .eq r1 0 = false) (c3_ : ZR 114 0 [.val (.int p2)] [] (khp n L σ g) true (.inl (some (.int r3)), khp n L σ g, true)) (h4 : zcnd .eq r3 0 = false) (h5 : zcnd .lt p3 0 = false) (h6 : zcnd .ge p3 (Int32.ofInt 4) = false) (h7 : zcnd .le ((kup σ 42 0 (Int32.ofInt 0)) 42 0) 0 = true) (h8 : zcnd .ne p3 (Int32.ofInt 3) = false) (c9_ : ZR 136 0 [.val (.ref (kad n (22, 0, 0))), .val (.int p1), .val (.int p2), .unset, .unset, .unset] [] (khp n L (kup σ 42 0 (Int32.ofInt 0)) g) true (.inl (some (.int r9)), khp n L (kup σ 42 0 (Int32.ofInt 0)) g, true)) : ZR 135 0 [.val (.ref (kad n (22, 0, 0))), .val (.int p1), .val (.int p2), .val (.int p3)] [] (khp n L σ g) cl (.inl (some (.int r9)), khp n L (kup σ 42 0 (Int32.ofInt 0)) (g), false) := by
  have hM : zmi[135]? = some _ := rfl
  refine zr_fr hM rfl rfl rfl ?_
  refine zr_fr hM rfl rfl rfl ?_
  refine zr_fr hM rfl rfl rfl ?_
  refine zr_virt (κ := (22, 0, 0)) hn hM rfl rfl rfl rfl rfl rfl rfl rfl rfl ?_
  refine zgo_ret rfl rfl c1_ ?_
  rw [Bool.and_true]
  refine zr_iff hM rfl rfl h2 ?_
  refine zr_fr hM rfl rfl rfl ?_
  refine zr_stat hM rfl rfl rfl rfl rfl rfl ?_
  refine zgo_ret rfl rfl c3_ ?_
  rw [Bool.and_true]
  refine zr_iff hM rfl rfl h4 ?_
  refine zr_fr hM rfl rfl rfl ?_
  refine zr_iff hM rfl rfl h5 ?_
  refine zr_fr hM rfl rfl rfl ?_
  refine zr_fr hM rfl rfl rfl ?_
  refine zr_icf hM rfl rfl h6 ?_
  refine zr_fr hM rfl rfl rfl ?_
  refine zr_fr hM rfl rfl rfl ?_
  refine zr_putf (κ := (22, 0, 0)) hn hM rfl rfl rfl rfl rfl rfl rfl rfl ?_
  refine zr_fr hM rfl rfl rfl ?_
  refine zr_getf (κ := (22, 0, 0)) hn hM rfl rfl rfl rfl ?_
  refine zr_ift hM rfl rfl h7 ?_
  refine zr_fr hM rfl rfl rfl ?_
  refine zr_fr hM rfl rfl rfl ?_
  refine zr_icf hM rfl rfl h8 ?_
  refine zr_fr hM rfl rfl rfl ?_
  refine zr_fr hM rfl rfl rfl ?_
  refine zr_fr hM rfl rfl rfl ?_
  refine zr_virt (κ := (22, 0, 0)) hn hM rfl rfl rfl rfl rfl rfl rfl rfl rfl ?_
  refine zgo_ret rfl rfl c9_ ?_
  rw [Bool.and_true]
  refine zr_fr hM rfl rfl rfl ?_
  exact zr_iret2 hM rfl rfl rfl
set_option maxHeartbeats 4000000 in
theorem s135_0_fffftt {n L : Nat} {σ : Ks} {g : List Nat} {cl : Bool} {p1 : Int32} {p2 : Int32} {p3 : Int32} {r1 : Int32} {r3 : Int32} {r9 : Int32} {x10 : Nat} (hn : 2 ≤ n ∧ n ≤ 5) (c1_ : ZR 119 0 [.val (.ref (kad n (22, 0, 0))), .val (.int p1)] [] (khp n L σ g) true (.inl (some (.int r1)), khp n L σ g, true)) (h2 : zcnd .eq r1 0 = false) (c3_ : ZR 114 0 [.val (.int p2)] [] (khp n L σ g) true (.inl (some (.int r3)), khp n L σ g, true)) (h4 : zcnd .eq r3 0 = false) (h5 : zcnd .lt p3 0 = false) (h6 : zcnd .ge p3 (Int32.ofInt 4) = false) (h7 : zcnd .le ((kup σ 42 0 (Int32.ofInt 0)) 42 0) 0 = true) (h8 : zcnd .ne p3 (Int32.ofInt 3) = true) (c9_ : ZR 97 0 [.val (.int p1)] [] (khp n L (kup σ 42 0 (Int32.ofInt 0)) g) true (.inl (some (.int r9)), khp n L (kup σ 42 0 (Int32.ofInt 0)) g, true)) (z10 : zix ((r9 + ((Int32.ofInt 4) * p3)) + p2) 820 = some x10) : ZR 135 0 [.val (.ref (kad n (22, 0, 0))), .val (.int p1), .val (.int p2), .val (.int p3)] [] (khp n L σ g) cl (.inl (some (.int ((kup σ 42 0 (Int32.ofInt 0)) (20 + x10 / 164) (x10 % 164)))), khp n L (kup σ 42 0 (Int32.ofInt 0)) (g), false) := by
  have hM : zmi[135]? = some _ := rfl
  have l10 := (zix_some z10).2.2
  refine zr_fr hM rfl rfl rfl ?_
  refine zr_fr hM rfl rfl rfl ?_
  refine zr_fr hM rfl rfl rfl ?_
  refine zr_virt (κ := (22, 0, 0)) hn hM rfl rfl rfl rfl rfl rfl rfl rfl rfl ?_
  refine zgo_ret rfl rfl c1_ ?_
  rw [Bool.and_true]
  refine zr_iff hM rfl rfl h2 ?_
  refine zr_fr hM rfl rfl rfl ?_
  refine zr_stat hM rfl rfl rfl rfl rfl rfl ?_
  refine zgo_ret rfl rfl c3_ ?_
  rw [Bool.and_true]
  refine zr_iff hM rfl rfl h4 ?_
  refine zr_fr hM rfl rfl rfl ?_
  refine zr_iff hM rfl rfl h5 ?_
  refine zr_fr hM rfl rfl rfl ?_
  refine zr_fr hM rfl rfl rfl ?_
  refine zr_icf hM rfl rfl h6 ?_
  refine zr_fr hM rfl rfl rfl ?_
  refine zr_fr hM rfl rfl rfl ?_
  refine zr_putf (κ := (22, 0, 0)) hn hM rfl rfl rfl rfl rfl rfl rfl rfl ?_
  refine zr_fr hM rfl rfl rfl ?_
  refine zr_getf (κ := (22, 0, 0)) hn hM rfl rfl rfl rfl ?_
  refine zr_ift hM rfl rfl h7 ?_
  refine zr_fr hM rfl rfl rfl ?_
  refine zr_fr hM rfl rfl rfl ?_
  refine zr_ict hM rfl rfl h8 ?_
  refine zr_fr hM rfl rfl rfl ?_
  refine zr_getf (κ := (22, 0, 0)) hn hM rfl rfl rfl rfl ?_
  refine zr_fr hM rfl rfl rfl ?_
  refine zr_stat hM rfl rfl rfl rfl rfl rfl ?_
  refine zgo_ret rfl rfl c9_ ?_
  rw [Bool.and_true]
  refine zr_fr hM rfl rfl rfl ?_
  refine zr_fr hM rfl rfl rfl ?_
  refine zr_fr hM rfl rfl rfl ?_
  refine zr_fr hM rfl rfl rfl ?_
  refine zr_fr hM rfl rfl rfl ?_
  refine zr_fr hM rfl rfl rfl ?_
  refine zr_iald (κ := (23, 0, 0)) hn hM rfl rfl rfl z10 ?_
  exact zr_iret2 hM rfl rfl rfl
set_option maxHeartbeats 4000000 in
theorem s135_0_ffftf {n L : Nat} {σ : Ks} {g : List Nat} {cl : Bool} {p1 : Int32} {p2 : Int32} {p3 : Int32} {r1 : Int32} {r3 : Int32} (hn : 2 ≤ n ∧ n ≤ 5) (c1_ : ZR 119 0 [.val (.ref (kad n (22, 0, 0))), .val (.int p1)] [] (khp n L σ g) true (.inl (some (.int r1)), khp n L σ g, true)) (h2 : zcnd .eq r1 0 = false) (c3_ : ZR 114 0 [.val (.int p2)] [] (khp n L σ g) true (.inl (some (.int r3)), khp n L σ g, true)) (h4 : zcnd .eq r3 0 = false) (h5 : zcnd .lt p3 0 = false) (h6 : zcnd .ge p3 (Int32.ofInt 4) = true) (h7 : zcnd .le ((kup σ 42 0 (Int32.ofInt 1)) 42 0) 0 = false) : ZR 135 0 [.val (.ref (kad n (22, 0, 0))), .val (.int p1), .val (.int p2), .val (.int p3)] [] (khp n L σ g) cl (.inl (some (.int (Int32.ofInt 0))), khp n L (kup σ 42 0 (Int32.ofInt 1)) (g), false) := by
  have hM : zmi[135]? = some _ := rfl
  refine zr_fr hM rfl rfl rfl ?_
  refine zr_fr hM rfl rfl rfl ?_
  refine zr_fr hM rfl rfl rfl ?_
  refine zr_virt (κ := (22, 0, 0)) hn hM rfl rfl rfl rfl rfl rfl rfl rfl rfl ?_
  refine zgo_ret rfl rfl c1_ ?_
  rw [Bool.and_true]
  refine zr_iff hM rfl rfl h2 ?_
  refine zr_fr hM rfl rfl rfl ?_
  refine zr_stat hM rfl rfl rfl rfl rfl rfl ?_
  refine zgo_ret rfl rfl c3_ ?_
  rw [Bool.and_true]
  refine zr_iff hM rfl rfl h4 ?_
  refine zr_fr hM rfl rfl rfl ?_
  refine zr_iff hM rfl rfl h5 ?_
  refine zr_fr hM rfl rfl rfl ?_
  refine zr_fr hM rfl rfl rfl ?_
  refine zr_ict hM rfl rfl h6 ?_
  refine zr_fr hM rfl rfl rfl ?_
  refine zr_putf (κ := (22, 0, 0)) hn hM rfl rfl rfl rfl rfl rfl rfl rfl ?_
  refine zr_fr hM rfl rfl rfl ?_
  refine zr_getf (κ := (22, 0, 0)) hn hM rfl rfl rfl rfl ?_
  refine zr_iff hM rfl rfl h7 ?_
  refine zr_fr hM rfl rfl rfl ?_
  refine zr_fr hM rfl rfl rfl ?_
  exact zr_iret2 hM rfl rfl rfl
set_option maxHeartbeats 4000000 in
theorem s135_0_fffttf {n L : Nat} {σ : Ks} {g : List Nat} {cl : Bool} {p1 : Int32} {p2 : Int32} {p3 : Int32} {r1 : Int32} {r3 : Int32} {r9 : Int32} (hn : 2 ≤ n ∧ n ≤ 5) (c1_ : ZR 119 0 [.val (.ref (kad n (22, 0, 0))), .val (.int p1)] [] (khp n L σ g) true (.inl (some (.int r1)), khp n L σ g, true)) (h2 : zcnd .eq r1 0 = false) (c3_ : ZR 114 0 [.val (.int p2)] [] (khp n L σ g) true (.inl (some (.int r3)), khp n L σ g, true)) (h4 : zcnd .eq r3 0 = false) (h5 : zcnd .lt p3 0 = false) (h6 : zcnd .ge p3 (Int32.ofInt 4) = true) (h7 : zcnd .le ((kup σ 42 0 (Int32.ofInt 1)) 42 0) 0 = true) (h8 : zcnd .ne p3 (Int32.ofInt 3) = false) (c9_ : ZR 136 0 [.val (.ref (kad n (22, 0, 0))), .val (.int p1), .val (.int p2), .unset, .unset, .unset] [] (khp n L (kup σ 42 0 (Int32.ofInt 1)) g) true (.inl (some (.int r9)), khp n L (kup σ 42 0 (Int32.ofInt 1)) g, true)) : ZR 135 0 [.val (.ref (kad n (22, 0, 0))), .val (.int p1), .val (.int p2), .val (.int p3)] [] (khp n L σ g) cl (.inl (some (.int r9)), khp n L (kup σ 42 0 (Int32.ofInt 1)) (g), false) := by
  have hM : zmi[135]? = some _ := rfl
  refine zr_fr hM rfl rfl rfl ?_
  refine zr_fr hM rfl rfl rfl ?_
  refine zr_fr hM rfl rfl rfl ?_
  refine zr_virt (κ := (22, 0, 0)) hn hM rfl rfl rfl rfl rfl rfl rfl rfl rfl ?_
  refine zgo_ret rfl rfl c1_ ?_
  rw [Bool.and_true]
  refine zr_iff hM rfl rfl h2 ?_
  refine zr_fr hM rfl rfl rfl ?_
  refine zr_stat hM rfl rfl rfl rfl rfl rfl ?_
  refine zgo_ret rfl rfl c3_ ?_
  rw [Bool.and_true]
  refine zr_iff hM rfl rfl h4 ?_
  refine zr_fr hM rfl rfl rfl ?_
  refine zr_iff hM rfl rfl h5 ?_
  refine zr_fr hM rfl rfl rfl ?_
  refine zr_fr hM rfl rfl rfl ?_
  refine zr_ict hM rfl rfl h6 ?_
  refine zr_fr hM rfl rfl rfl ?_
  refine zr_putf (κ := (22, 0, 0)) hn hM rfl rfl rfl rfl rfl rfl rfl rfl ?_
  refine zr_fr hM rfl rfl rfl ?_
  refine zr_getf (κ := (22, 0, 0)) hn hM rfl rfl rfl rfl ?_
  refine zr_ift hM rfl rfl h7 ?_
  refine zr_fr hM rfl rfl rfl ?_
  refine zr_fr hM rfl rfl rfl ?_
  refine zr_icf hM rfl rfl h8 ?_
  refine zr_fr hM rfl rfl rfl ?_
  refine zr_fr hM rfl rfl rfl ?_
  refine zr_fr hM rfl rfl rfl ?_
  refine zr_virt (κ := (22, 0, 0)) hn hM rfl rfl rfl rfl rfl rfl rfl rfl rfl ?_
  refine zgo_ret rfl rfl c9_ ?_
  rw [Bool.and_true]
  refine zr_fr hM rfl rfl rfl ?_
  exact zr_iret2 hM rfl rfl rfl
set_option maxHeartbeats 4000000 in
theorem s135_0_fffttt {n L : Nat} {σ : Ks} {g : List Nat} {cl : Bool} {p1 : Int32} {p2 : Int32} {p3 : Int32} {r1 : Int32} {r3 : Int32} {r9 : Int32} {x10 : Nat} (hn : 2 ≤ n ∧ n ≤ 5) (c1_ : ZR 119 0 [.val (.ref (kad n (22, 0, 0))), .val (.int p1)] [] (khp n L σ g) true (.inl (some (.int r1)), khp n L σ g, true)) (h2 : zcnd .eq r1 0 = false) (c3_ : ZR 114 0 [.val (.int p2)] [] (khp n L σ g) true (.inl (some (.int r3)), khp n L σ g, true)) (h4 : zcnd .eq r3 0 = false) (h5 : zcnd .lt p3 0 = false) (h6 : zcnd .ge p3 (Int32.ofInt 4) = true) (h7 : zcnd .le ((kup σ 42 0 (Int32.ofInt 1)) 42 0) 0 = true) (h8 : zcnd .ne p3 (Int32.ofInt 3) = true) (c9_ : ZR 97 0 [.val (.int p1)] [] (khp n L (kup σ 42 0 (Int32.ofInt 1)) g) true (.inl (some (.int r9)), khp n L (kup σ 42 0 (Int32.ofInt 1)) g, true)) (z10 : zix ((r9 + ((Int32.ofInt 4) * p3)) + p2) 820 = some x10) : ZR 135 0 [.val (.ref (kad n (22, 0, 0))), .val (.int p1), .val (.int p2), .val (.int p3)] [] (khp n L σ g) cl (.inl (some (.int ((kup σ 42 0 (Int32.ofInt 1)) (20 + x10 / 164) (x10 % 164)))), khp n L (kup σ 42 0 (Int32.ofInt 1)) (g), false) := by
  have hM : zmi[135]? = some _ := rfl
  have l10 := (zix_some z10).2.2
  refine zr_fr hM rfl rfl rfl ?_
  refine zr_fr hM rfl rfl rfl ?_
  refine zr_fr hM rfl rfl rfl ?_
  refine zr_virt (κ := (22, 0, 0)) hn hM rfl rfl rfl rfl rfl rfl rfl rfl rfl ?_
  refine zgo_ret rfl rfl c1_ ?_
  rw [Bool.and_true]
  refine zr_iff hM rfl rfl h2 ?_
  refine zr_fr hM rfl rfl rfl ?_
  refine zr_stat hM rfl rfl rfl rfl rfl rfl ?_
  refine zgo_ret rfl rfl c3_ ?_
  rw [Bool.and_true]
  refine zr_iff hM rfl rfl h4 ?_
  refine zr_fr hM rfl rfl rfl ?_
  refine zr_iff hM rfl rfl h5 ?_
  refine zr_fr hM rfl rfl rfl ?_
  refine zr_fr hM rfl rfl rfl ?_
  refine zr_ict hM rfl rfl h6 ?_
  refine zr_fr hM rfl rfl rfl ?_
  refine zr_putf (κ := (22, 0, 0)) hn hM rfl rfl rfl rfl rfl rfl rfl rfl ?_
  refine zr_fr hM rfl rfl rfl ?_
  refine zr_getf (κ := (22, 0, 0)) hn hM rfl rfl rfl rfl ?_
  refine zr_ift hM rfl rfl h7 ?_
  refine zr_fr hM rfl rfl rfl ?_
  refine zr_fr hM rfl rfl rfl ?_
  refine zr_ict hM rfl rfl h8 ?_
  refine zr_fr hM rfl rfl rfl ?_
  refine zr_getf (κ := (22, 0, 0)) hn hM rfl rfl rfl rfl ?_
  refine zr_fr hM rfl rfl rfl ?_
  refine zr_stat hM rfl rfl rfl rfl rfl rfl ?_
  refine zgo_ret rfl rfl c9_ ?_
  rw [Bool.and_true]
  refine zr_fr hM rfl rfl rfl ?_
  refine zr_fr hM rfl rfl rfl ?_
  refine zr_fr hM rfl rfl rfl ?_
  refine zr_fr hM rfl rfl rfl ?_
  refine zr_fr hM rfl rfl rfl ?_
  refine zr_fr hM rfl rfl rfl ?_
  refine zr_iald (κ := (23, 0, 0)) hn hM rfl rfl rfl z10 ?_
  exact zr_iret2 hM rfl rfl rfl
set_option maxHeartbeats 4000000 in
theorem s135_0_fftf {n L : Nat} {σ : Ks} {g : List Nat} {cl : Bool} {p1 : Int32} {p2 : Int32} {p3 : Int32} {r1 : Int32} {r3 : Int32} (hn : 2 ≤ n ∧ n ≤ 5) (c1_ : ZR 119 0 [.val (.ref (kad n (22, 0, 0))), .val (.int p1)] [] (khp n L σ g) true (.inl (some (.int r1)), khp n L σ g, true)) (h2 : zcnd .eq r1 0 = false) (c3_ : ZR 114 0 [.val (.int p2)] [] (khp n L σ g) true (.inl (some (.int r3)), khp n L σ g, true)) (h4 : zcnd .eq r3 0 = false) (h5 : zcnd .lt p3 0 = true) (h6 : zcnd .le ((kup σ 42 0 (Int32.ofInt 1)) 42 0) 0 = false) : ZR 135 0 [.val (.ref (kad n (22, 0, 0))), .val (.int p1), .val (.int p2), .val (.int p3)] [] (khp n L σ g) cl (.inl (some (.int (Int32.ofInt 0))), khp n L (kup σ 42 0 (Int32.ofInt 1)) (g), false) := by
  have hM : zmi[135]? = some _ := rfl
  refine zr_fr hM rfl rfl rfl ?_
  refine zr_fr hM rfl rfl rfl ?_
  refine zr_fr hM rfl rfl rfl ?_
  refine zr_virt (κ := (22, 0, 0)) hn hM rfl rfl rfl rfl rfl rfl rfl rfl rfl ?_
  refine zgo_ret rfl rfl c1_ ?_
  rw [Bool.and_true]
  refine zr_iff hM rfl rfl h2 ?_
  refine zr_fr hM rfl rfl rfl ?_
  refine zr_stat hM rfl rfl rfl rfl rfl rfl ?_
  refine zgo_ret rfl rfl c3_ ?_
  rw [Bool.and_true]
  refine zr_iff hM rfl rfl h4 ?_
  refine zr_fr hM rfl rfl rfl ?_
  refine zr_ift hM rfl rfl h5 ?_
  refine zr_fr hM rfl rfl rfl ?_
  refine zr_putf (κ := (22, 0, 0)) hn hM rfl rfl rfl rfl rfl rfl rfl rfl ?_
  refine zr_fr hM rfl rfl rfl ?_
  refine zr_getf (κ := (22, 0, 0)) hn hM rfl rfl rfl rfl ?_
  refine zr_iff hM rfl rfl h6 ?_
  refine zr_fr hM rfl rfl rfl ?_
  refine zr_fr hM rfl rfl rfl ?_
  exact zr_iret2 hM rfl rfl rfl
set_option maxHeartbeats 4000000 in
theorem s135_0_ffttf {n L : Nat} {σ : Ks} {g : List Nat} {cl : Bool} {p1 : Int32} {p2 : Int32} {p3 : Int32} {r1 : Int32} {r3 : Int32} {r8 : Int32} (hn : 2 ≤ n ∧ n ≤ 5) (c1_ : ZR 119 0 [.val (.ref (kad n (22, 0, 0))), .val (.int p1)] [] (khp n L σ g) true (.inl (some (.int r1)), khp n L σ g, true)) (h2 : zcnd .eq r1 0 = false) (c3_ : ZR 114 0 [.val (.int p2)] [] (khp n L σ g) true (.inl (some (.int r3)), khp n L σ g, true)) (h4 : zcnd .eq r3 0 = false) (h5 : zcnd .lt p3 0 = true) (h6 : zcnd .le ((kup σ 42 0 (Int32.ofInt 1)) 42 0) 0 = true) (h7 : zcnd .ne p3 (Int32.ofInt 3) = false) (c8_ : ZR 136 0 [.val (.ref (kad n (22, 0, 0))), .val (.int p1), .val (.int p2), .unset, .unset, .unset] [] (khp n L (kup σ 42 0 (Int32.ofInt 1)) g) true (.inl (some (.int r8)), khp n L (kup σ 42 0 (Int32.ofInt 1)) g, true)) : ZR 135 0 [.val (.ref (kad n (22, 0, 0))), .val (.int p1), .val (.int p2), .val (.int p3)] [] (khp n L σ g) cl (.inl (some (.int r8)), khp n L (kup σ 42 0 (Int32.ofInt 1)) (g), false) := by
  have hM : zmi[135]? = some _ := rfl
  refine zr_fr hM rfl rfl rfl ?_
  refine zr_fr hM rfl rfl rfl ?_
  refine zr_fr hM rfl rfl rfl ?_
  refine zr_virt (κ := (22, 0, 0)) hn hM rfl rfl rfl rfl rfl rfl rfl rfl rfl ?_
  refine zgo_ret rfl rfl c1_ ?_
  rw [Bool.and_true]
  refine zr_iff hM rfl rfl h2 ?_
  refine zr_fr hM rfl rfl rfl ?_
  refine zr_stat hM rfl rfl rfl rfl rfl rfl ?_
  refine zgo_ret rfl rfl c3_ ?_
  rw [Bool.and_true]
  refine zr_iff hM rfl rfl h4 ?_
  refine zr_fr hM rfl rfl rfl ?_
  refine zr_ift hM rfl rfl h5 ?_
  refine zr_fr hM rfl rfl rfl ?_
  refine zr_putf (κ := (22, 0, 0)) hn hM rfl rfl rfl rfl rfl rfl rfl rfl ?_
  refine zr_fr hM rfl rfl rfl ?_
  refine zr_getf (κ := (22, 0, 0)) hn hM rfl rfl rfl rfl ?_
  refine zr_ift hM rfl rfl h6 ?_
  refine zr_fr hM rfl rfl rfl ?_
  refine zr_fr hM rfl rfl rfl ?_
  refine zr_icf hM rfl rfl h7 ?_
  refine zr_fr hM rfl rfl rfl ?_
  refine zr_fr hM rfl rfl rfl ?_
  refine zr_fr hM rfl rfl rfl ?_
  refine zr_virt (κ := (22, 0, 0)) hn hM rfl rfl rfl rfl rfl rfl rfl rfl rfl ?_
  refine zgo_ret rfl rfl c8_ ?_
  rw [Bool.and_true]
  refine zr_fr hM rfl rfl rfl ?_
  exact zr_iret2 hM rfl rfl rfl
set_option maxHeartbeats 4000000 in
theorem s135_0_ffttt {n L : Nat} {σ : Ks} {g : List Nat} {cl : Bool} {p1 : Int32} {p2 : Int32} {p3 : Int32} {r1 : Int32} {r3 : Int32} {r8 : Int32} {x9 : Nat} (hn : 2 ≤ n ∧ n ≤ 5) (c1_ : ZR 119 0 [.val (.ref (kad n (22, 0, 0))), .val (.int p1)] [] (khp n L σ g) true (.inl (some (.int r1)), khp n L σ g, true)) (h2 : zcnd .eq r1 0 = false) (c3_ : ZR 114 0 [.val (.int p2)] [] (khp n L σ g) true (.inl (some (.int r3)), khp n L σ g, true)) (h4 : zcnd .eq r3 0 = false) (h5 : zcnd .lt p3 0 = true) (h6 : zcnd .le ((kup σ 42 0 (Int32.ofInt 1)) 42 0) 0 = true) (h7 : zcnd .ne p3 (Int32.ofInt 3) = true) (c8_ : ZR 97 0 [.val (.int p1)] [] (khp n L (kup σ 42 0 (Int32.ofInt 1)) g) true (.inl (some (.int r8)), khp n L (kup σ 42 0 (Int32.ofInt 1)) g, true)) (z9 : zix ((r8 + ((Int32.ofInt 4) * p3)) + p2) 820 = some x9) : ZR 135 0 [.val (.ref (kad n (22, 0, 0))), .val (.int p1), .val (.int p2), .val (.int p3)] [] (khp n L σ g) cl (.inl (some (.int ((kup σ 42 0 (Int32.ofInt 1)) (20 + x9 / 164) (x9 % 164)))), khp n L (kup σ 42 0 (Int32.ofInt 1)) (g), false) := by
  have hM : zmi[135]? = some _ := rfl
  have l9 := (zix_some z9).2.2
  refine zr_fr hM rfl rfl rfl ?_
  refine zr_fr hM rfl rfl rfl ?_
  refine zr_fr hM rfl rfl rfl ?_
  refine zr_virt (κ := (22, 0, 0)) hn hM rfl rfl rfl rfl rfl rfl rfl rfl rfl ?_
  refine zgo_ret rfl rfl c1_ ?_
  rw [Bool.and_true]
  refine zr_iff hM rfl rfl h2 ?_
  refine zr_fr hM rfl rfl rfl ?_
  refine zr_stat hM rfl rfl rfl rfl rfl rfl ?_
  refine zgo_ret rfl rfl c3_ ?_
  rw [Bool.and_true]
  refine zr_iff hM rfl rfl h4 ?_
  refine zr_fr hM rfl rfl rfl ?_
  refine zr_ift hM rfl rfl h5 ?_
  refine zr_fr hM rfl rfl rfl ?_
  refine zr_putf (κ := (22, 0, 0)) hn hM rfl rfl rfl rfl rfl rfl rfl rfl ?_
  refine zr_fr hM rfl rfl rfl ?_
  refine zr_getf (κ := (22, 0, 0)) hn hM rfl rfl rfl rfl ?_
  refine zr_ift hM rfl rfl h6 ?_
  refine zr_fr hM rfl rfl rfl ?_
  refine zr_fr hM rfl rfl rfl ?_
  refine zr_ict hM rfl rfl h7 ?_
  refine zr_fr hM rfl rfl rfl ?_
  refine zr_getf (κ := (22, 0, 0)) hn hM rfl rfl rfl rfl ?_
  refine zr_fr hM rfl rfl rfl ?_
  refine zr_stat hM rfl rfl rfl rfl rfl rfl ?_
  refine zgo_ret rfl rfl c8_ ?_
  rw [Bool.and_true]
  refine zr_fr hM rfl rfl rfl ?_
  refine zr_fr hM rfl rfl rfl ?_
  refine zr_fr hM rfl rfl rfl ?_
  refine zr_fr hM rfl rfl rfl ?_
  refine zr_fr hM rfl rfl rfl ?_
  refine zr_fr hM rfl rfl rfl ?_
  refine zr_iald (κ := (23, 0, 0)) hn hM rfl rfl rfl z9 ?_
  exact zr_iret2 hM rfl rfl rfl
set_option maxHeartbeats 4000000 in
theorem s135_0_ftf {n L : Nat} {σ : Ks} {g : List Nat} {cl : Bool} {p1 : Int32} {p2 : Int32} {p3 : Int32} {r1 : Int32} {r3 : Int32} (hn : 2 ≤ n ∧ n ≤ 5) (c1_ : ZR 119 0 [.val (.ref (kad n (22, 0, 0))), .val (.int p1)] [] (khp n L σ g) true (.inl (some (.int r1)), khp n L σ g, true)) (h2 : zcnd .eq r1 0 = false) (c3_ : ZR 114 0 [.val (.int p2)] [] (khp n L σ g) true (.inl (some (.int r3)), khp n L σ g, true)) (h4 : zcnd .eq r3 0 = true) (h5 : zcnd .le ((kup σ 42 0 (Int32.ofInt 1)) 42 0) 0 = false) : ZR 135 0 [.val (.ref (kad n (22, 0, 0))), .val (.int p1), .val (.int p2), .val (.int p3)] [] (khp n L σ g) cl (.inl (some (.int (Int32.ofInt 0))), khp n L (kup σ 42 0 (Int32.ofInt 1)) (g), false) := by
  have hM : zmi[135]? = some _ := rfl
  refine zr_fr hM rfl rfl rfl ?_
  refine zr_fr hM rfl rfl rfl ?_
  refine zr_fr hM rfl rfl rfl ?_
  refine zr_virt (κ := (22, 0, 0)) hn hM rfl rfl rfl rfl rfl rfl rfl rfl rfl ?_
  refine zgo_ret rfl rfl c1_ ?_
  rw [Bool.and_true]
  refine zr_iff hM rfl rfl h2 ?_
  refine zr_fr hM rfl rfl rfl ?_
  refine zr_stat hM rfl rfl rfl rfl rfl rfl ?_
  refine zgo_ret rfl rfl c3_ ?_
  rw [Bool.and_true]
  refine zr_ift hM rfl rfl h4 ?_
  refine zr_fr hM rfl rfl rfl ?_
  refine zr_putf (κ := (22, 0, 0)) hn hM rfl rfl rfl rfl rfl rfl rfl rfl ?_
  refine zr_fr hM rfl rfl rfl ?_
  refine zr_getf (κ := (22, 0, 0)) hn hM rfl rfl rfl rfl ?_
  refine zr_iff hM rfl rfl h5 ?_
  refine zr_fr hM rfl rfl rfl ?_
  refine zr_fr hM rfl rfl rfl ?_
  exact zr_iret2 hM rfl rfl rfl
set_option maxHeartbeats 4000000 in
theorem s135_0_fttf {n L : Nat} {σ : Ks} {g : List Nat} {cl : Bool} {p1 : Int32} {p2 : Int32} {p3 : Int32} {r1 : Int32} {r3 : Int32} {r7 : Int32} (hn : 2 ≤ n ∧ n ≤ 5) (c1_ : ZR 119 0 [.val (.ref (kad n (22, 0, 0))), .val (.int p1)] [] (khp n L σ g) true (.inl (some (.int r1)), khp n L σ g, true)) (h2 : zcnd .eq r1 0 = false) (c3_ : ZR 114 0 [.val (.int p2)] [] (khp n L σ g) true (.inl (some (.int r3)), khp n L σ g, true)) (h4 : zcnd .eq r3 0 = true) (h5 : zcnd .le ((kup σ 42 0 (Int32.ofInt 1)) 42 0) 0 = true) (h6 : zcnd .ne p3 (Int32.ofInt 3) = false) (c7_ : ZR 136 0 [.val (.ref (kad n (22, 0, 0))), .val (.int p1), .val (.int p2), .unset, .unset, .unset] [] (khp n L (kup σ 42 0 (Int32.ofInt 1)) g) true (.inl (some (.int r7)), khp n L (kup σ 42 0 (Int32.ofInt 1)) g, true)) : ZR 135 0 [.val (.ref (kad n (22, 0, 0))), .val (.int p1), .val (.int p2), .val (.int p3)] [] (khp n L σ g) cl (.inl (some (.int r7)), khp n L (kup σ 42 0 (Int32.ofInt 1)) (g), false) := by
  have hM : zmi[135]? = some _ := rfl
  refine zr_fr hM rfl rfl rfl ?_
  refine zr_fr hM rfl rfl rfl ?_
  refine zr_fr hM rfl rfl rfl ?_
  refine zr_virt (κ := (22, 0, 0)) hn hM rfl rfl rfl rfl rfl rfl rfl rfl rfl ?_
  refine zgo_ret rfl rfl c1_ ?_
  rw [Bool.and_true]
  refine zr_iff hM rfl rfl h2 ?_
  refine zr_fr hM rfl rfl rfl ?_
  refine zr_stat hM rfl rfl rfl rfl rfl rfl ?_
  refine zgo_ret rfl rfl c3_ ?_
  rw [Bool.and_true]
  refine zr_ift hM rfl rfl h4 ?_
  refine zr_fr hM rfl rfl rfl ?_
  refine zr_putf (κ := (22, 0, 0)) hn hM rfl rfl rfl rfl rfl rfl rfl rfl ?_
  refine zr_fr hM rfl rfl rfl ?_
  refine zr_getf (κ := (22, 0, 0)) hn hM rfl rfl rfl rfl ?_
  refine zr_ift hM rfl rfl h5 ?_
  refine zr_fr hM rfl rfl rfl ?_
  refine zr_fr hM rfl rfl rfl ?_
  refine zr_icf hM rfl rfl h6 ?_
  refine zr_fr hM rfl rfl rfl ?_
  refine zr_fr hM rfl rfl rfl ?_
  refine zr_fr hM rfl rfl rfl ?_
  refine zr_virt (κ := (22, 0, 0)) hn hM rfl rfl rfl rfl rfl rfl rfl rfl rfl ?_
  refine zgo_ret rfl rfl c7_ ?_
  rw [Bool.and_true]
  refine zr_fr hM rfl rfl rfl ?_
  exact zr_iret2 hM rfl rfl rfl
set_option maxHeartbeats 4000000 in
theorem s135_0_fttt {n L : Nat} {σ : Ks} {g : List Nat} {cl : Bool} {p1 : Int32} {p2 : Int32} {p3 : Int32} {r1 : Int32} {r3 : Int32} {r7 : Int32} {x8 : Nat} (hn : 2 ≤ n ∧ n ≤ 5) (c1_ : ZR 119 0 [.val (.ref (kad n (22, 0, 0))), .val (.int p1)] [] (khp n L σ g) true (.inl (some (.int r1)), khp n L σ g, true)) (h2 : zcnd .eq r1 0 = false) (c3_ : ZR 114 0 [.val (.int p2)] [] (khp n L σ g) true (.inl (some (.int r3)), khp n L σ g, true)) (h4 : zcnd .eq r3 0 = true) (h5 : zcnd .le ((kup σ 42 0 (Int32.ofInt 1)) 42 0) 0 = true) (h6 : zcnd .ne p3 (Int32.ofInt 3) = true) (c7_ : ZR 97 0 [.val (.int p1)] [] (khp n L (kup σ 42 0 (Int32.ofInt 1)) g) true (.inl (some (.int r7)), khp n L (kup σ 42 0 (Int32.ofInt 1)) g, true)) (z8 : zix ((r7 + ((Int32.ofInt 4) * p3)) + p2) 820 = some x8) : ZR 135 0 [.val (.ref (kad n (22, 0, 0))), .val (.int p1), .val (.int p2), .val (.int p3)] [] (khp n L σ g) cl (.inl (some (.int ((kup σ 42 0 (Int32.ofInt 1)) (20 + x8 / 164) (x8 % 164)))), khp n L (kup σ 42 0 (Int32.ofInt 1)) (g), false) := by
  have hM : zmi[135]? = some _ := rfl
  have l8 := (zix_some z8).2.2
  refine zr_fr hM rfl rfl rfl ?_
  refine zr_fr hM rfl rfl rfl ?_
  refine zr_fr hM rfl rfl rfl ?_
  refine zr_virt (κ := (22, 0, 0)) hn hM rfl rfl rfl rfl rfl rfl rfl rfl rfl ?_
  refine zgo_ret rfl rfl c1_ ?_
  rw [Bool.and_true]
  refine zr_iff hM rfl rfl h2 ?_
  refine zr_fr hM rfl rfl rfl ?_
  refine zr_stat hM rfl rfl rfl rfl rfl rfl ?_
  refine zgo_ret rfl rfl c3_ ?_
  rw [Bool.and_true]
  refine zr_ift hM rfl rfl h4 ?_
  refine zr_fr hM rfl rfl rfl ?_
  refine zr_putf (κ := (22, 0, 0)) hn hM rfl rfl rfl rfl rfl rfl rfl rfl ?_
  refine zr_fr hM rfl rfl rfl ?_
  refine zr_getf (κ := (22, 0, 0)) hn hM rfl rfl rfl rfl ?_
  refine zr_ift hM rfl rfl h5 ?_
  refine zr_fr hM rfl rfl rfl ?_
  refine zr_fr hM rfl rfl rfl ?_
  refine zr_ict hM rfl rfl h6 ?_
  refine zr_fr hM rfl rfl rfl ?_
  refine zr_getf (κ := (22, 0, 0)) hn hM rfl rfl rfl rfl ?_
  refine zr_fr hM rfl rfl rfl ?_
  refine zr_stat hM rfl rfl rfl rfl rfl rfl ?_
  refine zgo_ret rfl rfl c7_ ?_
  rw [Bool.and_true]
  refine zr_fr hM rfl rfl rfl ?_
  refine zr_fr hM rfl rfl rfl ?_
  refine zr_fr hM rfl rfl rfl ?_
  refine zr_fr hM rfl rfl rfl ?_
  refine zr_fr hM rfl rfl rfl ?_
  refine zr_fr hM rfl rfl rfl ?_
  refine zr_iald (κ := (23, 0, 0)) hn hM rfl rfl rfl z8 ?_
  exact zr_iret2 hM rfl rfl rfl
set_option maxHeartbeats 4000000 in
theorem s135_0_tf {n L : Nat} {σ : Ks} {g : List Nat} {cl : Bool} {p1 : Int32} {p2 : Int32} {p3 : Int32} {r1 : Int32} (hn : 2 ≤ n ∧ n ≤ 5) (c1_ : ZR 119 0 [.val (.ref (kad n (22, 0, 0))), .val (.int p1)] [] (khp n L σ g) true (.inl (some (.int r1)), khp n L σ g, true)) (h2 : zcnd .eq r1 0 = true) (h3 : zcnd .le ((kup σ 42 0 (Int32.ofInt 1)) 42 0) 0 = false) : ZR 135 0 [.val (.ref (kad n (22, 0, 0))), .val (.int p1), .val (.int p2), .val (.int p3)] [] (khp n L σ g) cl (.inl (some (.int (Int32.ofInt 0))), khp n L (kup σ 42 0 (Int32.ofInt 1)) (g), false) := by
  have hM : zmi[135]? = some _ := rfl
  refine zr_fr hM rfl rfl rfl ?_
  refine zr_fr hM rfl rfl rfl ?_
  refine zr_fr hM rfl rfl rfl ?_
  refine zr_virt (κ := (22, 0, 0)) hn hM rfl rfl rfl rfl rfl rfl rfl rfl rfl ?_
  refine zgo_ret rfl rfl c1_ ?_
  rw [Bool.and_true]
  refine zr_ift hM rfl rfl h2 ?_
  refine zr_fr hM rfl rfl rfl ?_
  refine zr_putf (κ := (22, 0, 0)) hn hM rfl rfl rfl rfl rfl rfl rfl rfl ?_
  refine zr_fr hM rfl rfl rfl ?_
  refine zr_getf (κ := (22, 0, 0)) hn hM rfl rfl rfl rfl ?_
  refine zr_iff hM rfl rfl h3 ?_
  refine zr_fr hM rfl rfl rfl ?_
  refine zr_fr hM rfl rfl rfl ?_
  exact zr_iret2 hM rfl rfl rfl
set_option maxHeartbeats 4000000 in
theorem s135_0_ttf {n L : Nat} {σ : Ks} {g : List Nat} {cl : Bool} {p1 : Int32} {p2 : Int32} {p3 : Int32} {r1 : Int32} {r5 : Int32} (hn : 2 ≤ n ∧ n ≤ 5) (c1_ : ZR 119 0 [.val (.ref (kad n (22, 0, 0))), .val (.int p1)] [] (khp n L σ g) true (.inl (some (.int r1)), khp n L σ g, true)) (h2 : zcnd .eq r1 0 = true) (h3 : zcnd .le ((kup σ 42 0 (Int32.ofInt 1)) 42 0) 0 = true) (h4 : zcnd .ne p3 (Int32.ofInt 3) = false) (c5_ : ZR 136 0 [.val (.ref (kad n (22, 0, 0))), .val (.int p1), .val (.int p2), .unset, .unset, .unset] [] (khp n L (kup σ 42 0 (Int32.ofInt 1)) g) true (.inl (some (.int r5)), khp n L (kup σ 42 0 (Int32.ofInt 1)) g, true)) : ZR 135 0 [.val (.ref (kad n (22, 0, 0))), .val (.int p1), .val (.int p2), .val (.int p3)] [] (khp n L σ g) cl (.inl (some (.int r5)), khp n L (kup σ 42 0 (Int32.ofInt 1)) (g), false) := by
  have hM : zmi[135]? = some _ := rfl
  refine zr_fr hM rfl rfl rfl ?_
  refine zr_fr hM rfl rfl rfl ?_
  refine zr_fr hM rfl rfl rfl ?_
  refine zr_virt (κ := (22, 0, 0)) hn hM rfl rfl rfl rfl rfl rfl rfl rfl rfl ?_
  refine zgo_ret rfl rfl c1_ ?_
  rw [Bool.and_true]
  refine zr_ift hM rfl rfl h2 ?_
  refine zr_fr hM rfl rfl rfl ?_
  refine zr_putf (κ := (22, 0, 0)) hn hM rfl rfl rfl rfl rfl rfl rfl rfl ?_
  refine zr_fr hM rfl rfl rfl ?_
  refine zr_getf (κ := (22, 0, 0)) hn hM rfl rfl rfl rfl ?_
  refine zr_ift hM rfl rfl h3 ?_
  refine zr_fr hM rfl rfl rfl ?_
  refine zr_fr hM rfl rfl rfl ?_
  refine zr_icf hM rfl rfl h4 ?_
  refine zr_fr hM rfl rfl rfl ?_
  refine zr_fr hM rfl rfl rfl ?_
  refine zr_fr hM rfl rfl rfl ?_
  refine zr_virt (κ := (22, 0, 0)) hn hM rfl rfl rfl rfl rfl rfl rfl rfl rfl ?_
  refine zgo_ret rfl rfl c5_ ?_
  rw [Bool.and_true]
  refine zr_fr hM rfl rfl rfl ?_
  exact zr_iret2 hM rfl rfl rfl
set_option maxHeartbeats 4000000 in
theorem s135_0_ttt {n L : Nat} {σ : Ks} {g : List Nat} {cl : Bool} {p1 : Int32} {p2 : Int32} {p3 : Int32} {r1 : Int32} {r5 : Int32} {x6 : Nat} (hn : 2 ≤ n ∧ n ≤ 5) (c1_ : ZR 119 0 [.val (.ref (kad n (22, 0, 0))), .val (.int p1)] [] (khp n L σ g) true (.inl (some (.int r1)), khp n L σ g, true)) (h2 : zcnd .eq r1 0 = true) (h3 : zcnd .le ((kup σ 42 0 (Int32.ofInt 1)) 42 0) 0 = true) (h4 : zcnd .ne p3 (Int32.ofInt 3) = true) (c5_ : ZR 97 0 [.val (.int p1)] [] (khp n L (kup σ 42 0 (Int32.ofInt 1)) g) true (.inl (some (.int r5)), khp n L (kup σ 42 0 (Int32.ofInt 1)) g, true)) (z6 : zix ((r5 + ((Int32.ofInt 4) * p3)) + p2) 820 = some x6) : ZR 135 0 [.val (.ref (kad n (22, 0, 0))), .val (.int p1), .val (.int p2), .val (.int p3)] [] (khp n L σ g) cl (.inl (some (.int ((kup σ 42 0 (Int32.ofInt 1)) (20 + x6 / 164) (x6 % 164)))), khp n L (kup σ 42 0 (Int32.ofInt 1)) (g), false) := by
  have hM : zmi[135]? = some _ := rfl
  have l6 := (zix_some z6).2.2
  refine zr_fr hM rfl rfl rfl ?_
  refine zr_fr hM rfl rfl rfl ?_
  refine zr_fr hM rfl rfl rfl ?_
  refine zr_virt (κ := (22, 0, 0)) hn hM rfl rfl rfl rfl rfl rfl rfl rfl rfl ?_
  refine zgo_ret rfl rfl c1_ ?_
  rw [Bool.and_true]
  refine zr_ift hM rfl rfl h2 ?_
  refine zr_fr hM rfl rfl rfl ?_
  refine zr_putf (κ := (22, 0, 0)) hn hM rfl rfl rfl rfl rfl rfl rfl rfl ?_
  refine zr_fr hM rfl rfl rfl ?_
  refine zr_getf (κ := (22, 0, 0)) hn hM rfl rfl rfl rfl ?_
  refine zr_ift hM rfl rfl h3 ?_
  refine zr_fr hM rfl rfl rfl ?_
  refine zr_fr hM rfl rfl rfl ?_
  refine zr_ict hM rfl rfl h4 ?_
  refine zr_fr hM rfl rfl rfl ?_
  refine zr_getf (κ := (22, 0, 0)) hn hM rfl rfl rfl rfl ?_
  refine zr_fr hM rfl rfl rfl ?_
  refine zr_stat hM rfl rfl rfl rfl rfl rfl ?_
  refine zgo_ret rfl rfl c5_ ?_
  rw [Bool.and_true]
  refine zr_fr hM rfl rfl rfl ?_
  refine zr_fr hM rfl rfl rfl ?_
  refine zr_fr hM rfl rfl rfl ?_
  refine zr_fr hM rfl rfl rfl ?_
  refine zr_fr hM rfl rfl rfl ?_
  refine zr_fr hM rfl rfl rfl ?_
  refine zr_iald (κ := (23, 0, 0)) hn hM rfl rfl rfl z6 ?_
  exact zr_iret2 hM rfl rfl rfl
set_option maxHeartbeats 4000000 in
theorem s136_0_r {n L : Nat} {σ : Ks} {g : List Nat} {cl : Bool} {r : Zr} {p1 : Int32} {p2 : Int32} {r1 : Int32} (hn : 2 ≤ n ∧ n ≤ 5) (c1_ : ZR 97 0 [.val (.int p1)] [] (khp n L σ g) true (.inl (some (.int r1)), khp n L σ g, true)) (k : ZR 136 11 [.val (.ref (kad n (22, 0, 0))), .val (.int p1), .val (.int p2), .val (.int r1), .val (.int (Int32.ofInt 0)), .val (.int (Int32.ofInt 0))] [] (khp n L σ (g)) cl r) : ZR 136 0 [.val (.ref (kad n (22, 0, 0))), .val (.int p1), .val (.int p2), .unset, .unset, .unset] [] (khp n L σ g) cl r := by
  have hM : zmi[136]? = some _ := rfl
  refine zr_fr hM rfl rfl rfl ?_
  refine zr_stat hM rfl rfl rfl rfl rfl rfl ?_
  refine zgo_ret rfl rfl c1_ ?_
  rw [Bool.and_true]
  refine zr_fr hM rfl rfl rfl ?_
  refine zr_fr hM rfl rfl rfl ?_
  refine zr_fr hM rfl rfl rfl ?_
  refine zr_fr hM rfl rfl rfl ?_
  refine zr_fr hM rfl rfl rfl ?_
  exact k
set_option maxHeartbeats 4000000 in
theorem s136_11_ff {n L : Nat} {σ : Ks} {g : List Nat} {cl : Bool} {r : Zr} {v1 : Int32} {v2 : Int32} {v3 : Int32} {v4 : Int32} {v5 : Int32} {x1 : Nat} {x3 : Nat} {x5 : Nat} (hn : 2 ≤ n ∧ n ≤ 5) (z1 : zix (v3 + ((Int8.ofInt 19).toInt32)) 820 = some x1) (h2 : zcnd .ge v5 (σ (20 + x1 / 164) (x1 % 164)) = false) (z3 : zix (((v3 + ((Int8.ofInt 20).toInt32)) + ((Int32.ofInt 4) * v5)) + (Int32.ofInt 1)) 820 = some x3) (h4 : zcnd .ne (σ (20 + x3 / 164) (x3 % 164)) v2 = false) (z5 : zix (((v3 + ((Int8.ofInt 20).toInt32)) + ((Int32.ofInt 4) * v5)) + (Int32.ofInt 2)) 820 = some x5) (k : ZR 136 11 [.val (.ref (kad n (22, 0, 0))), .val (.int v1), .val (.int v2), .val (.int v3), .val (.int (v4 + (σ (20 + x5 / 164) (x5 % 164)))), .val (.int (v5 + Int32.ofInt 1))] [] (khp n L σ (g)) cl r) : ZR 136 11 [.val (.ref (kad n (22, 0, 0))), .val (.int v1), .val (.int v2), .val (.int v3), .val (.int v4), .val (.int v5)] [] (khp n L σ g) cl r := by
  have hM : zmi[136]? = some _ := rfl
  have l1 := (zix_some z1).2.2
  have l3 := (zix_some z3).2.2
  have l5 := (zix_some z5).2.2
  refine zr_fr hM rfl rfl rfl ?_
  refine zr_fr hM rfl rfl rfl ?_
  refine zr_getf (κ := (22, 0, 0)) hn hM rfl rfl rfl rfl ?_
  refine zr_fr hM rfl rfl rfl ?_
  refine zr_fr hM rfl rfl rfl ?_
  refine zr_fr hM rfl rfl rfl ?_
  refine zr_iald (κ := (23, 0, 0)) hn hM rfl rfl rfl z1 ?_
  refine zr_icf hM rfl rfl h2 ?_
  refine zr_fr hM rfl rfl rfl ?_
  refine zr_fr hM rfl rfl rfl ?_
  refine zr_getf (κ := (22, 0, 0)) hn hM rfl rfl rfl rfl ?_
  refine zr_fr hM rfl rfl rfl ?_
  refine zr_fr hM rfl rfl rfl ?_
  refine zr_fr hM rfl rfl rfl ?_
  refine zr_fr hM rfl rfl rfl ?_
  refine zr_fr hM rfl rfl rfl ?_
  refine zr_fr hM rfl rfl rfl ?_
  refine zr_fr hM rfl rfl rfl ?_
  refine zr_fr hM rfl rfl rfl ?_
  refine zr_fr hM rfl rfl rfl ?_
  refine zr_iald (κ := (23, 0, 0)) hn hM rfl rfl rfl z3 ?_
  refine zr_fr hM rfl rfl rfl ?_
  refine zr_icf hM rfl rfl h4 ?_
  refine zr_fr hM rfl rfl rfl ?_
  refine zr_getf (κ := (22, 0, 0)) hn hM rfl rfl rfl rfl ?_
  refine zr_fr hM rfl rfl rfl ?_
  refine zr_fr hM rfl rfl rfl ?_
  refine zr_fr hM rfl rfl rfl ?_
  refine zr_fr hM rfl rfl rfl ?_
  refine zr_fr hM rfl rfl rfl ?_
  refine zr_fr hM rfl rfl rfl ?_
  refine zr_fr hM rfl rfl rfl ?_
  refine zr_fr hM rfl rfl rfl ?_
  refine zr_fr hM rfl rfl rfl ?_
  refine zr_iald (κ := (23, 0, 0)) hn hM rfl rfl rfl z5 ?_
  refine zr_fr hM rfl rfl rfl ?_
  refine zr_fr hM rfl rfl rfl ?_
  refine zr_fr hM rfl rfl rfl ?_
  refine zr_fr hM rfl rfl rfl ?_
  refine zr_fr hM rfl rfl rfl ?_
  exact k
set_option maxHeartbeats 4000000 in
theorem s136_11_ft {n L : Nat} {σ : Ks} {g : List Nat} {cl : Bool} {r : Zr} {v1 : Int32} {v2 : Int32} {v3 : Int32} {v4 : Int32} {v5 : Int32} {x1 : Nat} {x3 : Nat} (hn : 2 ≤ n ∧ n ≤ 5) (z1 : zix (v3 + ((Int8.ofInt 19).toInt32)) 820 = some x1) (h2 : zcnd .ge v5 (σ (20 + x1 / 164) (x1 % 164)) = false) (z3 : zix (((v3 + ((Int8.ofInt 20).toInt32)) + ((Int32.ofInt 4) * v5)) + (Int32.ofInt 1)) 820 = some x3) (h4 : zcnd .ne (σ (20 + x3 / 164) (x3 % 164)) v2 = true) (k : ZR 136 11 [.val (.ref (kad n (22, 0, 0))), .val (.int v1), .val (.int v2), .val (.int v3), .val (.int (v4 + (Int32.ofInt 0))), .val (.int (v5 + Int32.ofInt 1))] [] (khp n L σ (g)) cl r) : ZR 136 11 [.val (.ref (kad n (22, 0, 0))), .val (.int v1), .val (.int v2), .val (.int v3), .val (.int v4), .val (.int v5)] [] (khp n L σ g) cl r := by
  have hM : zmi[136]? = some _ := rfl
  have l1 := (zix_some z1).2.2
  have l3 := (zix_some z3).2.2
  refine zr_fr hM rfl rfl rfl ?_
  refine zr_fr hM rfl rfl rfl ?_
  refine zr_getf (κ := (22, 0, 0)) hn hM rfl rfl rfl rfl ?_
  refine zr_fr hM rfl rfl rfl ?_
  refine zr_fr hM rfl rfl rfl ?_
  refine zr_fr hM rfl rfl rfl ?_
  refine zr_iald (κ := (23, 0, 0)) hn hM rfl rfl rfl z1 ?_
  refine zr_icf hM rfl rfl h2 ?_
  refine zr_fr hM rfl rfl rfl ?_
  refine zr_fr hM rfl rfl rfl ?_
  refine zr_getf (κ := (22, 0, 0)) hn hM rfl rfl rfl rfl ?_
  refine zr_fr hM rfl rfl rfl ?_
  refine zr_fr hM rfl rfl rfl ?_
  refine zr_fr hM rfl rfl rfl ?_
  refine zr_fr hM rfl rfl rfl ?_
  refine zr_fr hM rfl rfl rfl ?_
  refine zr_fr hM rfl rfl rfl ?_
  refine zr_fr hM rfl rfl rfl ?_
  refine zr_fr hM rfl rfl rfl ?_
  refine zr_fr hM rfl rfl rfl ?_
  refine zr_iald (κ := (23, 0, 0)) hn hM rfl rfl rfl z3 ?_
  refine zr_fr hM rfl rfl rfl ?_
  refine zr_ict hM rfl rfl h4 ?_
  refine zr_fr hM rfl rfl rfl ?_
  refine zr_fr hM rfl rfl rfl ?_
  refine zr_fr hM rfl rfl rfl ?_
  refine zr_fr hM rfl rfl rfl ?_
  refine zr_fr hM rfl rfl rfl ?_
  exact k
set_option maxHeartbeats 4000000 in
theorem s136_11_t {n L : Nat} {σ : Ks} {g : List Nat} {cl : Bool} {v1 : Int32} {v2 : Int32} {v3 : Int32} {v4 : Int32} {v5 : Int32} {x1 : Nat} (hn : 2 ≤ n ∧ n ≤ 5) (z1 : zix (v3 + ((Int8.ofInt 19).toInt32)) 820 = some x1) (h2 : zcnd .ge v5 (σ (20 + x1 / 164) (x1 % 164)) = true) : ZR 136 11 [.val (.ref (kad n (22, 0, 0))), .val (.int v1), .val (.int v2), .val (.int v3), .val (.int v4), .val (.int v5)] [] (khp n L σ g) cl (.inl (some (.int v4)), khp n L σ (g), cl) := by
  have hM : zmi[136]? = some _ := rfl
  have l1 := (zix_some z1).2.2
  refine zr_fr hM rfl rfl rfl ?_
  refine zr_fr hM rfl rfl rfl ?_
  refine zr_getf (κ := (22, 0, 0)) hn hM rfl rfl rfl rfl ?_
  refine zr_fr hM rfl rfl rfl ?_
  refine zr_fr hM rfl rfl rfl ?_
  refine zr_fr hM rfl rfl rfl ?_
  refine zr_iald (κ := (23, 0, 0)) hn hM rfl rfl rfl z1 ?_
  refine zr_ict hM rfl rfl h2 ?_
  refine zr_fr hM rfl rfl rfl ?_
  exact zr_iret2 hM rfl rfl rfl
set_option maxHeartbeats 4000000 in
theorem s137_0_fff {n L : Nat} {σ : Ks} {g : List Nat} {cl : Bool} {p1 : Int32} {p2 : Int32} {p3 : Int32} {r1 : Int32} {r3 : Int32} {r5 : Int32} (hn : 2 ≤ n ∧ n ≤ 5) (c1_ : ZR 119 0 [.val (.ref (kad n (22, 0, 0))), .val (.int p1)] [] (khp n L (kup σ 42 0 (Int32.ofInt 0)) g) true (.inl (some (.int r1)), khp n L (kup σ 42 0 (Int32.ofInt 0)) g, true)) (h2 : zcnd .eq r1 0 = false) (c3_ : ZR 119 0 [.val (.ref (kad n (22, 0, 0))), .val (.int p2)] [] (khp n L (kup σ 42 0 (Int32.ofInt 0)) g) true (.inl (some (.int r3)), khp n L (kup σ 42 0 (Int32.ofInt 0)) g, true)) (h4 : zcnd .eq r3 0 = false) (c5_ : ZR 114 0 [.val (.int p3)] [] (khp n L (kup σ 42 0 (Int32.ofInt 0)) g) true (.inl (some (.int r5)), khp n L (kup σ 42 0 (Int32.ofInt 0)) g, true)) (h6 : zcnd .ne r5 0 = false) : ZR 137 0 [.val (.ref (kad n (22, 0, 0))), .val (.int p1), .val (.int p2), .val (.int p3)] [] (khp n L σ g) cl (.inl (some (.int (Int32.ofInt (-1)))), khp n L (kup σ 42 0 (Int32.ofInt 0)) (g), false) := by
  have hM : zmi[137]? = some _ := rfl
  refine zr_fr hM rfl rfl rfl ?_
  refine zr_fr hM rfl rfl rfl ?_
  refine zr_putf (κ := (22, 0, 0)) hn hM rfl rfl rfl rfl rfl rfl rfl rfl ?_
  refine zr_fr hM rfl rfl rfl ?_
  refine zr_fr hM rfl rfl rfl ?_
  refine zr_virt (κ := (22, 0, 0)) hn hM rfl rfl rfl rfl rfl rfl rfl rfl rfl ?_
  refine zgo_ret rfl rfl c1_ ?_
  rw [Bool.and_true]
  refine zr_iff hM rfl rfl h2 ?_
  refine zr_fr hM rfl rfl rfl ?_
  refine zr_fr hM rfl rfl rfl ?_
  refine zr_virt (κ := (22, 0, 0)) hn hM rfl rfl rfl rfl rfl rfl rfl rfl rfl ?_
  refine zgo_ret rfl rfl c3_ ?_
  rw [Bool.and_true]
  refine zr_iff hM rfl rfl h4 ?_
  refine zr_fr hM rfl rfl rfl ?_
  refine zr_stat hM rfl rfl rfl rfl rfl rfl ?_
  refine zgo_ret rfl rfl c5_ ?_
  rw [Bool.and_true]
  refine zr_iff hM rfl rfl h6 ?_
  refine zr_fr hM rfl rfl rfl ?_
  refine zr_fr hM rfl rfl rfl ?_
  exact zr_iret2 hM rfl rfl rfl
set_option maxHeartbeats 4000000 in
theorem s137_0_fftfff {n L : Nat} {σ : Ks} {g : List Nat} {cl : Bool} {p1 : Int32} {p2 : Int32} {p3 : Int32} {r1 : Int32} {r3 : Int32} {r5 : Int32} {r7 : Int32} {r9 : Int32} {r11 : Int32} {r12 : Int32} {x14 : Nat} (hn : 2 ≤ n ∧ n ≤ 5) (c1_ : ZR 119 0 [.val (.ref (kad n (22, 0, 0))), .val (.int p1)] [] (khp n L (kup σ 42 0 (Int32.ofInt 0)) g) true (.inl (some (.int r1)), khp n L (kup σ 42 0 (Int32.ofInt 0)) g, true)) (h2 : zcnd .eq r1 0 = false) (c3_ : ZR 119 0 [.val (.ref (kad n (22, 0, 0))), .val (.int p2)] [] (khp n L (kup σ 42 0 (Int32.ofInt 0)) g) true (.inl (some (.int r3)), khp n L (kup σ 42 0 (Int32.ofInt 0)) g, true)) (h4 : zcnd .eq r3 0 = false) (c5_ : ZR 114 0 [.val (.int p3)] [] (khp n L (kup σ 42 0 (Int32.ofInt 0)) g) true (.inl (some (.int r5)), khp n L (kup σ 42 0 (Int32.ofInt 0)) g, true)) (h6 : zcnd .ne r5 0 = true) (c7_ : ZR 119 0 [.val (.ref (kad n (22, 0, 0))), .val (.int p1)] [] (khp n L (kup σ 42 0 (Int32.ofInt 0)) g) true (.inl (some (.int r7)), khp n L (kup σ 42 0 (Int32.ofInt 0)) g, true)) (h8 : zcnd .eq r7 0 = false) (c9_ : ZR 119 0 [.val (.ref (kad n (22, 0, 0))), .val (.int p2)] [] (khp n L (kup σ 42 0 (Int32.ofInt 0)) g) true (.inl (some (.int r9)), khp n L (kup σ 42 0 (Int32.ofInt 0)) g, true)) (h10 : zcnd .eq r9 0 = false) (c11_ : ZR 95 0 [.val (.int p1), .val (.int p2)] [] (khp n L (kup σ 42 0 (Int32.ofInt 0)) g) true (.inl (some (.int r11)), khp n L (kup σ 42 0 (Int32.ofInt 0)) g, true)) (c12_ : ZR 114 0 [.val (.int p3)] [] (khp n L (kup σ 42 0 (Int32.ofInt 0)) g) true (.inl (some (.int r12)), khp n L (kup σ 42 0 (Int32.ofInt 0)) g, true)) (h13 : zcnd .eq r12 0 = false) (z14 : zix ((r11 + ((Int8.ofInt 16).toInt32)) + p3) 820 = some x14) : ZR 137 0 [.val (.ref (kad n (22, 0, 0))), .val (.int p1), .val (.int p2), .val (.int p3)] [] (khp n L σ g) cl (.inl (some (.int ((kup σ 42 0 (Int32.ofInt 0)) (20 + x14 / 164) (x14 % 164)))), khp n L (kup σ 42 0 (Int32.ofInt 0)) (g), false) := by
  have hM : zmi[137]? = some _ := rfl
  have l14 := (zix_some z14).2.2
  refine zr_fr hM rfl rfl rfl ?_
  refine zr_fr hM rfl rfl rfl ?_
  refine zr_putf (κ := (22, 0, 0)) hn hM rfl rfl rfl rfl rfl rfl rfl rfl ?_
  refine zr_fr hM rfl rfl rfl ?_
  refine zr_fr hM rfl rfl rfl ?_
  refine zr_virt (κ := (22, 0, 0)) hn hM rfl rfl rfl rfl rfl rfl rfl rfl rfl ?_
  refine zgo_ret rfl rfl c1_ ?_
  rw [Bool.and_true]
  refine zr_iff hM rfl rfl h2 ?_
  refine zr_fr hM rfl rfl rfl ?_
  refine zr_fr hM rfl rfl rfl ?_
  refine zr_virt (κ := (22, 0, 0)) hn hM rfl rfl rfl rfl rfl rfl rfl rfl rfl ?_
  refine zgo_ret rfl rfl c3_ ?_
  rw [Bool.and_true]
  refine zr_iff hM rfl rfl h4 ?_
  refine zr_fr hM rfl rfl rfl ?_
  refine zr_stat hM rfl rfl rfl rfl rfl rfl ?_
  refine zgo_ret rfl rfl c5_ ?_
  rw [Bool.and_true]
  refine zr_ift hM rfl rfl h6 ?_
  refine zr_fr hM rfl rfl rfl ?_
  refine zr_getf (κ := (22, 0, 0)) hn hM rfl rfl rfl rfl ?_
  refine zr_fr hM rfl rfl rfl ?_
  refine zr_fr hM rfl rfl rfl ?_
  refine zr_virt (κ := (22, 0, 0)) hn hM rfl rfl rfl rfl rfl rfl rfl rfl rfl ?_
  refine zgo_ret rfl rfl c7_ ?_
  rw [Bool.and_true]
  refine zr_iff hM rfl rfl h8 ?_
  refine zr_fr hM rfl rfl rfl ?_
  refine zr_fr hM rfl rfl rfl ?_
  refine zr_fr hM rfl rfl rfl ?_
  refine zr_fr hM rfl rfl rfl ?_
  refine zr_virt (κ := (22, 0, 0)) hn hM rfl rfl rfl rfl rfl rfl rfl rfl rfl ?_
  refine zgo_ret rfl rfl c9_ ?_
  rw [Bool.and_true]
  refine zr_iff hM rfl rfl h10 ?_
  refine zr_fr hM rfl rfl rfl ?_
  refine zr_fr hM rfl rfl rfl ?_
  refine zr_stat hM rfl rfl rfl rfl rfl rfl ?_
  refine zgo_ret rfl rfl c11_ ?_
  rw [Bool.and_true]
  refine zr_fr hM rfl rfl rfl ?_
  refine zr_fr hM rfl rfl rfl ?_
  refine zr_fr hM rfl rfl rfl ?_
  refine zr_stat hM rfl rfl rfl rfl rfl rfl ?_
  refine zgo_ret rfl rfl c12_ ?_
  rw [Bool.and_true]
  refine zr_iff hM rfl rfl h13 ?_
  refine zr_fr hM rfl rfl rfl ?_
  refine zr_fr hM rfl rfl rfl ?_
  refine zr_fr hM rfl rfl rfl ?_
  refine zr_iald (κ := (23, 0, 0)) hn hM rfl rfl rfl z14 ?_
  exact zr_iret2 hM rfl rfl rfl
set_option maxHeartbeats 4000000 in
theorem s137_0_fftfft {n L : Nat} {σ : Ks} {g : List Nat} {cl : Bool} {p1 : Int32} {p2 : Int32} {p3 : Int32} {r1 : Int32} {r3 : Int32} {r5 : Int32} {r7 : Int32} {r9 : Int32} {r11 : Int32} {r12 : Int32} {x14 : Nat} (hn : 2 ≤ n ∧ n ≤ 5) (c1_ : ZR 119 0 [.val (.ref (kad n (22, 0, 0))), .val (.int p1)] [] (khp n L (kup σ 42 0 (Int32.ofInt 0)) g) true (.inl (some (.int r1)), khp n L (kup σ 42 0 (Int32.ofInt 0)) g, true)) (h2 : zcnd .eq r1 0 = false) (c3_ : ZR 119 0 [.val (.ref (kad n (22, 0, 0))), .val (.int p2)] [] (khp n L (kup σ 42 0 (Int32.ofInt 0)) g) true (.inl (some (.int r3)), khp n L (kup σ 42 0 (Int32.ofInt 0)) g, true)) (h4 : zcnd .eq r3 0 = false) (c5_ : ZR 114 0 [.val (.int p3)] [] (khp n L (kup σ 42 0 (Int32.ofInt 0)) g) true (.inl (some (.int r5)), khp n L (kup σ 42 0 (Int32.ofInt 0)) g, true)) (h6 : zcnd .ne r5 0 = true) (c7_ : ZR 119 0 [.val (.ref (kad n (22, 0, 0))), .val (.int p1)] [] (khp n L (kup σ 42 0 (Int32.ofInt 0)) g) true (.inl (some (.int r7)), khp n L (kup σ 42 0 (Int32.ofInt 0)) g, true)) (h8 : zcnd .eq r7 0 = false) (c9_ : ZR 119 0 [.val (.ref (kad n (22, 0, 0))), .val (.int p2)] [] (khp n L (kup σ 42 0 (Int32.ofInt 0)) g) true (.inl (some (.int r9)), khp n L (kup σ 42 0 (Int32.ofInt 0)) g, true)) (h10 : zcnd .eq r9 0 = false) (c11_ : ZR 95 0 [.val (.int p1), .val (.int p2)] [] (khp n L (kup σ 42 0 (Int32.ofInt 0)) g) true (.inl (some (.int r11)), khp n L (kup σ 42 0 (Int32.ofInt 0)) g, true)) (c12_ : ZR 114 0 [.val (.int p3)] [] (khp n L (kup σ 42 0 (Int32.ofInt 0)) g) true (.inl (some (.int r12)), khp n L (kup σ 42 0 (Int32.ofInt 0)) g, true)) (h13 : zcnd .eq r12 0 = true) (z14 : zix ((r11 + ((Int8.ofInt 16).toInt32)) + (Int32.ofInt 0)) 820 = some x14) : ZR 137 0 [.val (.ref (kad n (22, 0, 0))), .val (.int p1), .val (.int p2), .val (.int p3)] [] (khp n L σ g) cl (.inl (some (.int ((kup σ 42 0 (Int32.ofInt 0)) (20 + x14 / 164) (x14 % 164)))), khp n L (kup σ 42 0 (Int32.ofInt 0)) (g), false) := by
  have hM : zmi[137]? = some _ := rfl
  have l14 := (zix_some z14).2.2
  refine zr_fr hM rfl rfl rfl ?_
  refine zr_fr hM rfl rfl rfl ?_
  refine zr_putf (κ := (22, 0, 0)) hn hM rfl rfl rfl rfl rfl rfl rfl rfl ?_
  refine zr_fr hM rfl rfl rfl ?_
  refine zr_fr hM rfl rfl rfl ?_
  refine zr_virt (κ := (22, 0, 0)) hn hM rfl rfl rfl rfl rfl rfl rfl rfl rfl ?_
  refine zgo_ret rfl rfl c1_ ?_
  rw [Bool.and_true]
  refine zr_iff hM rfl rfl h2 ?_
  refine zr_fr hM rfl rfl rfl ?_
  refine zr_fr hM rfl rfl rfl ?_
  refine zr_virt (κ := (22, 0, 0)) hn hM rfl rfl rfl rfl rfl rfl rfl rfl rfl ?_
  refine zgo_ret rfl rfl c3_ ?_
  rw [Bool.and_true]
  refine zr_iff hM rfl rfl h4 ?_
  refine zr_fr hM rfl rfl rfl ?_
  refine zr_stat hM rfl rfl rfl rfl rfl rfl ?_
  refine zgo_ret rfl rfl c5_ ?_
  rw [Bool.and_true]
  refine zr_ift hM rfl rfl h6 ?_
  refine zr_fr hM rfl rfl rfl ?_
  refine zr_getf (κ := (22, 0, 0)) hn hM rfl rfl rfl rfl ?_
  refine zr_fr hM rfl rfl rfl ?_
  refine zr_fr hM rfl rfl rfl ?_
  refine zr_virt (κ := (22, 0, 0)) hn hM rfl rfl rfl rfl rfl rfl rfl rfl rfl ?_
  refine zgo_ret rfl rfl c7_ ?_
  rw [Bool.and_true]
  refine zr_iff hM rfl rfl h8 ?_
  refine zr_fr hM rfl rfl rfl ?_
  refine zr_fr hM rfl rfl rfl ?_
  refine zr_fr hM rfl rfl rfl ?_
  refine zr_fr hM rfl rfl rfl ?_
  refine zr_virt (κ := (22, 0, 0)) hn hM rfl rfl rfl rfl rfl rfl rfl rfl rfl ?_
  refine zgo_ret rfl rfl c9_ ?_
  rw [Bool.and_true]
  refine zr_iff hM rfl rfl h10 ?_
  refine zr_fr hM rfl rfl rfl ?_
  refine zr_fr hM rfl rfl rfl ?_
  refine zr_stat hM rfl rfl rfl rfl rfl rfl ?_
  refine zgo_ret rfl rfl c11_ ?_
  rw [Bool.and_true]
  refine zr_fr hM rfl rfl rfl ?_
  refine zr_fr hM rfl rfl rfl ?_
  refine zr_fr hM rfl rfl rfl ?_
  refine zr_stat hM rfl rfl rfl rfl rfl rfl ?_
  refine zgo_ret rfl rfl c12_ ?_
  rw [Bool.and_true]
  refine zr_ift hM rfl rfl h13 ?_
  refine zr_fr hM rfl rfl rfl ?_
  refine zr_fr hM rfl rfl rfl ?_
  refine zr_iald (κ := (23, 0, 0)) hn hM rfl rfl rfl z14 ?_
  exact zr_iret2 hM rfl rfl rfl
set_option maxHeartbeats 4000000 in
theorem s137_0_fftftf {n L : Nat} {σ : Ks} {g : List Nat} {cl : Bool} {p1 : Int32} {p2 : Int32} {p3 : Int32} {r1 : Int32} {r3 : Int32} {r5 : Int32} {r7 : Int32} {r9 : Int32} {r11 : Int32} {r12 : Int32} {x14 : Nat} (hn : 2 ≤ n ∧ n ≤ 5) (c1_ : ZR 119 0 [.val (.ref (kad n (22, 0, 0))), .val (.int p1)] [] (khp n L (kup σ 42 0 (Int32.ofInt 0)) g) true (.inl (some (.int r1)), khp n L (kup σ 42 0 (Int32.ofInt 0)) g, true)) (h2 : zcnd .eq r1 0 = false) (c3_ : ZR 119 0 [.val (.ref (kad n (22, 0, 0))), .val (.int p2)] [] (khp n L (kup σ 42 0 (Int32.ofInt 0)) g) true (.inl (some (.int r3)), khp n L (kup σ 42 0 (Int32.ofInt 0)) g, true)) (h4 : zcnd .eq r3 0 = false) (c5_ : ZR 114 0 [.val (.int p3)] [] (khp n L (kup σ 42 0 (Int32.ofInt 0)) g) true (.inl (some (.int r5)), khp n L (kup σ 42 0 (Int32.ofInt 0)) g, true)) (h6 : zcnd .ne r5 0 = true) (c7_ : ZR 119 0 [.val (.ref (kad n (22, 0, 0))), .val (.int p1)] [] (khp n L (kup σ 42 0 (Int32.ofInt 0)) g) true (.inl (some (.int r7)), khp n L (kup σ 42 0 (Int32.ofInt 0)) g, true)) (h8 : zcnd .eq r7 0 = false) (c9_ : ZR 119 0 [.val (.ref (kad n (22, 0, 0))), .val (.int p2)] [] (khp n L (kup σ 42 0 (Int32.ofInt 0)) g) true (.inl (some (.int r9)), khp n L (kup σ 42 0 (Int32.ofInt 0)) g, true)) (h10 : zcnd .eq r9 0 = true) (c11_ : ZR 95 0 [.val (.int p1), .val (.int (Int32.ofInt 0))] [] (khp n L (kup σ 42 0 (Int32.ofInt 0)) g) true (.inl (some (.int r11)), khp n L (kup σ 42 0 (Int32.ofInt 0)) g, true)) (c12_ : ZR 114 0 [.val (.int p3)] [] (khp n L (kup σ 42 0 (Int32.ofInt 0)) g) true (.inl (some (.int r12)), khp n L (kup σ 42 0 (Int32.ofInt 0)) g, true)) (h13 : zcnd .eq r12 0 = false) (z14 : zix ((r11 + ((Int8.ofInt 16).toInt32)) + p3) 820 = some x14) : ZR 137 0 [.val (.ref (kad n (22, 0, 0))), .val (.int p1), .val (.int p2), .val (.int p3)] [] (khp n L σ g) cl (.inl (some (.int ((kup σ 42 0 (Int32.ofInt 0)) (20 + x14 / 164) (x14 % 164)))), khp n L (kup σ 42 0 (Int32.ofInt 0)) (g), false) := by
  have hM : zmi[137]? = some _ := rfl
  have l14 := (zix_some z14).2.2
  refine zr_fr hM rfl rfl rfl ?_
  refine zr_fr hM rfl rfl rfl ?_
  refine zr_putf (κ := (22, 0, 0)) hn hM rfl rfl rfl rfl rfl rfl rfl rfl ?_
  refine zr_fr hM rfl rfl rfl ?_
  refine zr_fr hM rfl rfl rfl ?_
  refine zr_virt (κ := (22, 0, 0)) hn hM rfl rfl rfl rfl rfl rfl rfl rfl rfl ?_
  refine zgo_ret rfl rfl c1_ ?_
  rw [Bool.and_true]
  refine zr_iff hM rfl rfl h2 ?_
  refine zr_fr hM rfl rfl rfl ?_
  refine zr_fr hM rfl rfl rfl ?_
  refine zr_virt (κ := (22, 0, 0)) hn hM rfl rfl rfl rfl rfl rfl rfl rfl rfl ?_
  refine zgo_ret rfl rfl c3_ ?_
  rw [Bool.and_true]
  refine zr_iff hM rfl rfl h4 ?_
  refine zr_fr hM rfl rfl rfl ?_
  refine zr_stat hM rfl rfl rfl rfl rfl rfl ?_
  refine zgo_ret rfl rfl c5_ ?_
  rw [Bool.and_true]
  refine zr_ift hM rfl rfl h6 ?_
  refine zr_fr hM rfl rfl rfl ?_
  refine zr_getf (κ := (22, 0, 0)) hn hM rfl rfl rfl rfl ?_
  refine zr_fr hM rfl rfl rfl ?_
  refine zr_fr hM rfl rfl rfl ?_
  refine zr_virt (κ := (22, 0, 0)) hn hM rfl rfl rfl rfl rfl rfl rfl rfl rfl ?_
  refine zgo_ret rfl rfl c7_ ?_
  rw [Bool.and_true]
  refine zr_iff hM rfl rfl h8 ?_
  refine zr_fr hM rfl rfl rfl ?_
  refine zr_fr hM rfl rfl rfl ?_
  refine zr_fr hM rfl rfl rfl ?_
  refine zr_fr hM rfl rfl rfl ?_
  refine zr_virt (κ := (22, 0, 0)) hn hM rfl rfl rfl rfl rfl rfl rfl rfl rfl ?_
  refine zgo_ret rfl rfl c9_ ?_
  rw [Bool.and_true]
  refine zr_ift hM rfl rfl h10 ?_
  refine zr_fr hM rfl rfl rfl ?_
  refine zr_stat hM rfl rfl rfl rfl rfl rfl ?_
  refine zgo_ret rfl rfl c11_ ?_
  rw [Bool.and_true]
  refine zr_fr hM rfl rfl rfl ?_
  refine zr_fr hM rfl rfl rfl ?_
  refine zr_fr hM rfl rfl rfl ?_
  refine zr_stat hM rfl rfl rfl rfl rfl rfl ?_
  refine zgo_ret rfl rfl c12_ ?_
  rw [Bool.and_true]
  refine zr_iff hM rfl rfl h13 ?_
  refine zr_fr hM rfl rfl rfl ?_
  refine zr_fr hM rfl rfl rfl ?_
  refine zr_fr hM rfl rfl rfl ?_
  refine zr_iald (κ := (23, 0, 0)) hn hM rfl rfl rfl z14 ?_
  exact zr_iret2 hM rfl rfl rfl
set_option maxHeartbeats 4000000 in
theorem s137_0_fftftt {n L : Nat} {σ : Ks} {g : List Nat} {cl : Bool} {p1 : Int32} {p2 : Int32} {p3 : Int32} {r1 : Int32} {r3 : Int32} {r5 : Int32} {r7 : Int32} {r9 : Int32} {r11 : Int32} {r12 : Int32} {x14 : Nat} (hn : 2 ≤ n ∧ n ≤ 5) (c1_ : ZR 119 0 [.val (.ref (kad n (22, 0, 0))), .val (.int p1)] [] (khp n L (kup σ 42 0 (Int32.ofInt 0)) g) true (.inl (some (.int r1)), khp n L (kup σ 42 0 (Int32.ofInt 0)) g, true)) (h2 : zcnd .eq r1 0 = false) (c3_ : ZR 119 0 [.val (.ref (kad n (22, 0, 0))), .val (.int p2)] [] (khp n L (kup σ 42 0 (Int32.ofInt 0)) g) true (.inl (some (.int r3)), khp n L (kup σ 42 0 (Int32.ofInt 0)) g, true)) (h4 : zcnd .eq r3 0 = false) (c5_ : ZR 114 0 [.val (.int p3)] [] (khp n L (kup σ 42 0 (Int32.ofInt 0)) g) true (.inl (some (.int r5)), khp n L (kup σ 42 0 (Int32.ofInt 0)) g, true)) (h6 : zcnd .ne r5 0 = true) (c7_ : ZR 119 0 [.val (.ref (kad n (22, 0, 0))), .val (.int p1)] [] (khp n L (kup σ 42 0 (Int32.ofInt 0)) g) true (.inl (some (.int r7)), khp n L (kup σ 42 0 (Int32.ofInt 0)) g, true)) (h8 : zcnd .eq r7 0 = false) (c9_ : ZR 119 0 [.val (.ref (kad n (22, 0, 0))), .val (.int p2)] [] (khp n L (kup σ 42 0 (Int32.ofInt 0)) g) true (.inl (some (.int r9)), khp n L (kup σ 42 0 (Int32.ofInt 0)) g, true)) (h10 : zcnd .eq r9 0 = true) (c11_ : ZR 95 0 [.val (.int p1), .val (.int (Int32.ofInt 0))] [] (khp n L (kup σ 42 0 (Int32.ofInt 0)) g) true (.inl (some (.int r11)), khp n L (kup σ 42 0 (Int32.ofInt 0)) g, true)) (c12_ : ZR 114 0 [.val (.int p3)] [] (khp n L (kup σ 42 0 (Int32.ofInt 0)) g) true (.inl (some (.int r12)), khp n L (kup σ 42 0 (Int32.ofInt 0)) g, true)) (h13 : zcnd .eq r12 0 = true) (z14 : zix ((r11 + ((Int8.ofInt 16).toInt32)) + (Int32.ofInt 0)) 820 = some x14) : ZR 137 0 [.val (.ref (kad n (22, 0, 0))), .val (.int p1), .val (.int p2), .val (.int p3)] [] (khp n L σ g) cl (.inl (some (.int ((kup σ 42 0 (Int32.ofInt 0)) (20 + x14 / 164) (x14 % 164)))), khp n L (kup σ 42 0 (Int32.ofInt 0)) (g), false) := by
  have hM : zmi[137]? = some _ := rfl
  have l14 := (zix_some z14).2.2
  refine zr_fr hM rfl rfl rfl ?_
  refine zr_fr hM rfl rfl rfl ?_
  refine zr_putf (κ := (22, 0, 0)) hn hM rfl rfl rfl rfl rfl rfl rfl rfl ?_
  refine zr_fr hM rfl rfl rfl ?_
  refine zr_fr hM rfl rfl rfl ?_
  refine zr_virt (κ := (22, 0, 0)) hn hM rfl rfl rfl rfl rfl rfl rfl rfl rfl ?_
  refine zgo_ret rfl rfl c1_ ?_
  rw [Bool.and_true]
  refine zr_iff hM rfl rfl h2 ?_
  refine zr_fr hM rfl rfl rfl ?_
  refine zr_fr hM rfl rfl rfl ?_
  refine zr_virt (κ := (22, 0, 0)) hn hM rfl rfl rfl rfl rfl rfl rfl rfl rfl ?_
  refine zgo_ret rfl rfl c3_ ?_
  rw [Bool.and_true]
  refine zr_iff hM rfl rfl h4 ?_
  refine zr_fr hM rfl rfl rfl ?_
  refine zr_stat hM rfl rfl rfl rfl rfl rfl ?_
  refine zgo_ret rfl rfl c5_ ?_
  rw [Bool.and_true]
  refine zr_ift hM rfl rfl h6 ?_
  refine zr_fr hM rfl rfl rfl ?_
  refine zr_getf (κ := (22, 0, 0)) hn hM rfl rfl rfl rfl ?_
  refine zr_fr hM rfl rfl rfl ?_
  refine zr_fr hM rfl rfl rfl ?_
  refine zr_virt (κ := (22, 0, 0)) hn hM rfl rfl rfl rfl rfl rfl rfl rfl rfl ?_
  refine zgo_ret rfl rfl c7_ ?_
  rw [Bool.and_true]
  refine zr_iff hM rfl rfl h8 ?_
  refine zr_fr hM rfl rfl rfl ?_
  refine zr_fr hM rfl rfl rfl ?_
  refine zr_fr hM rfl rfl rfl ?_
  refine zr_fr hM rfl rfl rfl ?_
  refine zr_virt (κ := (22, 0, 0)) hn hM rfl rfl rfl rfl rfl rfl rfl rfl rfl ?_
  refine zgo_ret rfl rfl c9_ ?_
  rw [Bool.and_true]
  refine zr_ift hM rfl rfl h10 ?_
  refine zr_fr hM rfl rfl rfl ?_
  refine zr_stat hM rfl rfl rfl rfl rfl rfl ?_
  refine zgo_ret rfl rfl c11_ ?_
  rw [Bool.and_true]
  refine zr_fr hM rfl rfl rfl ?_
  refine zr_fr hM rfl rfl rfl ?_
  refine zr_fr hM rfl rfl rfl ?_
  refine zr_stat hM rfl rfl rfl rfl rfl rfl ?_
  refine zgo_ret rfl rfl c12_ ?_
  rw [Bool.and_true]
  refine zr_ift hM rfl rfl h13 ?_
  refine zr_fr hM rfl rfl rfl ?_
  refine zr_fr hM rfl rfl rfl ?_
  refine zr_iald (κ := (23, 0, 0)) hn hM rfl rfl rfl z14 ?_
  exact zr_iret2 hM rfl rfl rfl
set_option maxHeartbeats 4000000 in
theorem s137_0_ffttff {n L : Nat} {σ : Ks} {g : List Nat} {cl : Bool} {p1 : Int32} {p2 : Int32} {p3 : Int32} {r1 : Int32} {r3 : Int32} {r5 : Int32} {r7 : Int32} {r9 : Int32} {r11 : Int32} {r12 : Int32} {x14 : Nat} (hn : 2 ≤ n ∧ n ≤ 5) (c1_ : ZR 119 0 [.val (.ref (kad n (22, 0, 0))), .val (.int p1)] [] (khp n L (kup σ 42 0 (Int32.ofInt 0)) g) true (.inl (some (.int r1)), khp n L (kup σ 42 0 (Int32.ofInt 0)) g, true)) (h2 : zcnd .eq r1 0 = false) (c3_ : ZR 119 0 [.val (.ref (kad n (22, 0, 0))), .val (.int p2)] [] (khp n L (kup σ 42 0 (Int32.ofInt 0)) g) true (.inl (some (.int r3)), khp n L (kup σ 42 0 (Int32.ofInt 0)) g, true)) (h4 : zcnd .eq r3 0 = false) (c5_ : ZR 114 0 [.val (.int p3)] [] (khp n L (kup σ 42 0 (Int32.ofInt 0)) g) true (.inl (some (.int r5)), khp n L (kup σ 42 0 (Int32.ofInt 0)) g, true)) (h6 : zcnd .ne r5 0 = true) (c7_ : ZR 119 0 [.val (.ref (kad n (22, 0, 0))), .val (.int p1)] [] (khp n L (kup σ 42 0 (Int32.ofInt 0)) g) true (.inl (some (.int r7)), khp n L (kup σ 42 0 (Int32.ofInt 0)) g, true)) (h8 : zcnd .eq r7 0 = true) (c9_ : ZR 119 0 [.val (.ref (kad n (22, 0, 0))), .val (.int p2)] [] (khp n L (kup σ 42 0 (Int32.ofInt 0)) g) true (.inl (some (.int r9)), khp n L (kup σ 42 0 (Int32.ofInt 0)) g, true)) (h10 : zcnd .eq r9 0 = false) (c11_ : ZR 95 0 [.val (.int (Int32.ofInt 0)), .val (.int p2)] [] (khp n L (kup σ 42 0 (Int32.ofInt 0)) g) true (.inl (some (.int r11)), khp n L (kup σ 42 0 (Int32.ofInt 0)) g, true)) (c12_ : ZR 114 0 [.val (.int p3)] [] (khp n L (kup σ 42 0 (Int32.ofInt 0)) g) true (.inl (some (.int r12)), khp n L (kup σ 42 0 (Int32.ofInt 0)) g, true)) (h13 : zcnd .eq r12 0 = false) (z14 : zix ((r11 + ((Int8.ofInt 16).toInt32)) + p3) 820 = some x14) : ZR 137 0 [.val (.ref (kad n (22, 0, 0))), .val (.int p1), .val (.int p2), .val (.int p3)] [] (khp n L σ g) cl (.inl (some (.int ((kup σ 42 0 (Int32.ofInt 0)) (20 + x14 / 164) (x14 % 164)))), khp n L (kup σ 42 0 (Int32.ofInt 0)) (g), false) := by
  have hM : zmi[137]? = some _ := rfl
  have l14 := (zix_some z14).2.2
  refine zr_fr hM rfl rfl rfl ?_
  refine zr_fr hM rfl rfl rfl ?_
  refine zr_putf (κ := (22, 0, 0)) hn hM rfl rfl rfl rfl rfl rfl rfl rfl ?_
  refine zr_fr hM rfl rfl rfl ?_
  refine zr_fr hM rfl rfl rfl ?_
  refine zr_virt (κ := (22, 0, 0)) hn hM rfl rfl rfl rfl rfl rfl rfl rfl rfl ?_
  refine zgo_ret rfl rfl c1_ ?_
  rw [Bool.and_true]
  refine zr_iff hM rfl rfl h2 ?_
  refine zr_fr hM rfl rfl rfl ?_
  refine zr_fr hM rfl rfl rfl ?_
  refine zr_virt (κ := (22, 0, 0)) hn hM rfl rfl rfl rfl rfl rfl rfl rfl rfl ?_
  refine zgo_ret rfl rfl c3_ ?_
  rw [Bool.and_true]
  refine zr_iff hM rfl rfl h4 ?_
  refine zr_fr hM rfl rfl rfl ?_
  refine zr_stat hM rfl rfl rfl rfl rfl rfl ?_
  refine zgo_ret rfl rfl c5_ ?_
  rw [Bool.and_true]
  refine zr_ift hM rfl rfl h6 ?_
  refine zr_fr hM rfl rfl rfl ?_
  refine zr_getf (κ := (22, 0, 0)) hn hM rfl rfl rfl rfl ?_
  refine zr_fr hM rfl rfl rfl ?_
  refine zr_fr hM rfl rfl rfl ?_
  refine zr_virt (κ := (22, 0, 0)) hn hM rfl rfl rfl rfl rfl rfl rfl rfl rfl ?_
  refine zgo_ret rfl rfl c7_ ?_
  rw [Bool.and_true]
  refine zr_ift hM rfl rfl h8 ?_
  refine zr_fr hM rfl rfl rfl ?_
  refine zr_fr hM rfl rfl rfl ?_
  refine zr_fr hM rfl rfl rfl ?_
  refine zr_virt (κ := (22, 0, 0)) hn hM rfl rfl rfl rfl rfl rfl rfl rfl rfl ?_
  refine zgo_ret rfl rfl c9_ ?_
  rw [Bool.and_true]
  refine zr_iff hM rfl rfl h10 ?_
  refine zr_fr hM rfl rfl rfl ?_
  refine zr_fr hM rfl rfl rfl ?_
  refine zr_stat hM rfl rfl rfl rfl rfl rfl ?_
  refine zgo_ret rfl rfl c11_ ?_
  rw [Bool.and_true]
  refine zr_fr hM rfl rfl rfl ?_
  refine zr_fr hM rfl rfl rfl ?_
  refine zr_fr hM rfl rfl rfl ?_
  refine zr_stat hM rfl rfl rfl rfl rfl rfl ?_
  refine zgo_ret rfl rfl c12_ ?_
  rw [Bool.and_true]
  refine zr_iff hM rfl rfl h13 ?_
  refine zr_fr hM rfl rfl rfl ?_
  refine zr_fr hM rfl rfl rfl ?_
  refine zr_fr hM rfl rfl rfl ?_
  refine zr_iald (κ := (23, 0, 0)) hn hM rfl rfl rfl z14 ?_
  exact zr_iret2 hM rfl rfl rfl
set_option maxHeartbeats 4000000 in
theorem s137_0_ffttft {n L : Nat} {σ : Ks} {g : List Nat} {cl : Bool} {p1 : Int32} {p2 : Int32} {p3 : Int32} {r1 : Int32} {r3 : Int32} {r5 : Int32} {r7 : Int32} {r9 : Int32} {r11 : Int32} {r12 : Int32} {x14 : Nat} (hn : 2 ≤ n ∧ n ≤ 5) (c1_ : ZR 119 0 [.val (.ref (kad n (22, 0, 0))), .val (.int p1)] [] (khp n L (kup σ 42 0 (Int32.ofInt 0)) g) true (.inl (some (.int r1)), khp n L (kup σ 42 0 (Int32.ofInt 0)) g, true)) (h2 : zcnd .eq r1 0 = false) (c3_ : ZR 119 0 [.val (.ref (kad n (22, 0, 0))), .val (.int p2)] [] (khp n L (kup σ 42 0 (Int32.ofInt 0)) g) true (.inl (some (.int r3)), khp n L (kup σ 42 0 (Int32.ofInt 0)) g, true)) (h4 : zcnd .eq r3 0 = false) (c5_ : ZR 114 0 [.val (.int p3)] [] (khp n L (kup σ 42 0 (Int32.ofInt 0)) g) true (.inl (some (.int r5)), khp n L (kup σ 42 0 (Int32.ofInt 0)) g, true)) (h6 : zcnd .ne r5 0 = true) (c7_ : ZR 119 0 [.val (.ref (kad n (22, 0, 0))), .val (.int p1)] [] (khp n L (kup σ 42 0 (Int32.ofInt 0)) g) true (.inl (some (.int r7)), khp n L (kup σ 42 0 (Int32.ofInt 0)) g, true)) (h8 : zcnd .eq r7 0 = true) (c9_ : ZR 119 0 [.val (.ref (kad n (22, 0, 0))), .val (.int p2)] [] (khp n L (kup σ 42 0 (Int32.ofInt 0)) g) true (.inl (some (.int r9)), khp n L (kup σ 42 0 (Int32.ofInt 0)) g, true)) (h10 : zcnd .eq r9 0 = false) (c11_ : ZR 95 0 [.val (.int (Int32.ofInt 0)), .val (.int p2)] [] (khp n L (kup σ 42 0 (Int32.ofInt 0)) g) true (.inl (some (.int r11)), khp n L (kup σ 42 0 (Int32.ofInt 0)) g, true)) (c12_ : ZR 114 0 [.val (.int p3)] [] (khp n L (kup σ 42 0 (Int32.ofInt 0)) g) true (.inl (some (.int r12)), khp n L (kup σ 42 0 (Int32.ofInt 0)) g, true)) (h13 : zcnd .eq r12 0 = true) (z14 : zix ((r11 + ((Int8.ofInt 16).toInt32)) + (Int32.ofInt 0)) 820 = some x14) : ZR 137 0 [.val (.ref (kad n (22, 0, 0))), .val (.int p1), .val (.int p2), .val (.int p3)] [] (khp n L σ g) cl (.inl (some (.int ((kup σ 42 0 (Int32.ofInt 0)) (20 + x14 / 164) (x14 % 164)))), khp n L (kup σ 42 0 (Int32.ofInt 0)) (g), false) := by
  have hM : zmi[137]? = some _ := rfl
  have l14 := (zix_some z14).2.2
  refine zr_fr hM rfl rfl rfl ?_
  refine zr_fr hM rfl rfl rfl ?_
  refine zr_putf (κ := (22, 0, 0)) hn hM rfl rfl rfl rfl rfl rfl rfl rfl ?_
  refine zr_fr hM rfl rfl rfl ?_
  refine zr_fr hM rfl rfl rfl ?_
  refine zr_virt (κ := (22, 0, 0)) hn hM rfl rfl rfl rfl rfl rfl rfl rfl rfl ?_
  refine zgo_ret rfl rfl c1_ ?_
  rw [Bool.and_true]
  refine zr_iff hM rfl rfl h2 ?_
  refine zr_fr hM rfl rfl rfl ?_
  refine zr_fr hM rfl rfl rfl ?_
  refine zr_virt (κ := (22, 0, 0)) hn hM rfl rfl rfl rfl rfl rfl rfl rfl rfl ?_
  refine zgo_ret rfl rfl c3_ ?_
  rw [Bool.and_true]
  refine zr_iff hM rfl rfl h4 ?_
  refine zr_fr hM rfl rfl rfl ?_
  refine zr_stat hM rfl rfl rfl rfl rfl rfl ?_
  refine zgo_ret rfl rfl c5_ ?_
  rw [Bool.and_true]
  refine zr_ift hM rfl rfl h6 ?_
  refine zr_fr hM rfl rfl rfl ?_
  refine zr_getf (κ := (22, 0, 0)) hn hM rfl rfl rfl rfl ?_
  refine zr_fr hM rfl rfl rfl ?_
  refine zr_fr hM rfl rfl rfl ?_
  refine zr_virt (κ := (22, 0, 0)) hn hM rfl rfl rfl rfl rfl rfl rfl rfl rfl ?_
  refine zgo_ret rfl rfl c7_ ?_
  rw [Bool.and_true]
  refine zr_ift hM rfl rfl h8 ?_
  refine zr_fr hM rfl rfl rfl ?_
  refine zr_fr hM rfl rfl rfl ?_
  refine zr_fr hM rfl rfl rfl ?_
  refine zr_virt (κ := (22, 0, 0)) hn hM rfl rfl rfl rfl rfl rfl rfl rfl rfl ?_
  refine zgo_ret rfl rfl c9_ ?_
  rw [Bool.and_true]
  refine zr_iff hM rfl rfl h10 ?_
  refine zr_fr hM rfl rfl rfl ?_
  refine zr_fr hM rfl rfl rfl ?_
  refine zr_stat hM rfl rfl rfl rfl rfl rfl ?_
  refine zgo_ret rfl rfl c11_ ?_
  rw [Bool.and_true]
  refine zr_fr hM rfl rfl rfl ?_
  refine zr_fr hM rfl rfl rfl ?_
  refine zr_fr hM rfl rfl rfl ?_
  refine zr_stat hM rfl rfl rfl rfl rfl rfl ?_
  refine zgo_ret rfl rfl c12_ ?_
  rw [Bool.and_true]
  refine zr_ift hM rfl rfl h13 ?_
  refine zr_fr hM rfl rfl rfl ?_
  refine zr_fr hM rfl rfl rfl ?_
  refine zr_iald (κ := (23, 0, 0)) hn hM rfl rfl rfl z14 ?_
  exact zr_iret2 hM rfl rfl rfl
set_option maxHeartbeats 4000000 in
theorem s137_0_fftttf {n L : Nat} {σ : Ks} {g : List Nat} {cl : Bool} {p1 : Int32} {p2 : Int32} {p3 : Int32} {r1 : Int32} {r3 : Int32} {r5 : Int32} {r7 : Int32} {r9 : Int32} {r11 : Int32} {r12 : Int32} {x14 : Nat} (hn : 2 ≤ n ∧ n ≤ 5) (c1_ : ZR 119 0 [.val (.ref (kad n (22, 0, 0))), .val (.int p1)] [] (khp n L (kup σ 42 0 (Int32.ofInt 0)) g) true (.inl (some (.int r1)), khp n L (kup σ 42 0 (Int32.ofInt 0)) g, true)) (h2 : zcnd .eq r1 0 = false) (c3_ : ZR 119 0 [.val (.ref (kad n (22, 0, 0))), .val (.int p2)] [] (khp n L (kup σ 42 0 (Int32.ofInt 0)) g) true (.inl (some (.int r3)), khp n L (kup σ 42 0 (Int32.ofInt 0)) g, true)) (h4 : zcnd .eq r3 0 = false) (c5_ : ZR 114 0 [.val (.int p3)] [] (khp n L (kup σ 42 0 (Int32.ofInt 0)) g) true (.inl (some (.int r5)), khp n L (kup σ 42 0 (Int32.ofInt 0)) g, true)) (h6 : zcnd .ne r5 0 = true) (c7_ : ZR 119 0 [.val (.ref (kad n (22, 0, 0))), .val (.int p1)] [] (khp n L (kup σ 42 0 (Int32.ofInt 0)) g) true (.inl (some (.int r7)), khp n L (kup σ 42 0 (Int32.ofInt 0)) g, true)) (h8 : zcnd .eq r7 0 = true) (c9_ : ZR 119 0 [.val (.ref (kad n (22, 0, 0))), .val (.int p2)] [] (khp n L (kup σ 42 0 (Int32.ofInt 0)) g) true (.inl (some (.int r9)), khp n L (kup σ 42 0 (Int32.ofInt 0)) g, true)) (h10 : zcnd .eq r9 0 = true) (c11_ : ZR 95 0 [.val (.int (Int32.ofInt 0)), .val (.int (Int32.ofInt 0))] [] (khp n L (kup σ 42 0 (Int32.ofInt 0)) g) true (.inl (some (.int r11)), khp n L (kup σ 42 0 (Int32.ofInt 0)) g, true)) (c12_ : ZR 114 0 [.val (.int p3)] [] (khp n L (kup σ 42 0 (Int32.ofInt 0)) g) true (.inl (some (.int r12)), khp n L (kup σ 42 0 (Int32.ofInt 0)) g, true)) (h13 : zcnd .eq r12 0 = false) (z14 : zix ((r11 + ((Int8.ofInt 16).toInt32)) + p3) 820 = some x14) : ZR 137 0 [.val (.ref (kad n (22, 0, 0))), .val (.int p1), .val (.int p2), .val (.int p3)] [] (khp n L σ g) cl (.inl (some (.int ((kup σ 42 0 (Int32.ofInt 0)) (20 + x14 / 164) (x14 % 164)))), khp n L (kup σ 42 0 (Int32.ofInt 0)) (g), false) := by
  have hM : zmi[137]? = some _ := rfl
  have l14 := (zix_some z14).2.2
  refine zr_fr hM rfl rfl rfl ?_
  refine zr_fr hM rfl rfl rfl ?_
  refine zr_putf (κ := (22, 0, 0)) hn hM rfl rfl rfl rfl rfl rfl rfl rfl ?_
  refine zr_fr hM rfl rfl rfl ?_
  refine zr_fr hM rfl rfl rfl ?_
  refine zr_virt (κ := (22, 0, 0)) hn hM rfl rfl rfl rfl rfl rfl rfl rfl rfl ?_
  refine zgo_ret rfl rfl c1_ ?_
  rw [Bool.and_true]
  refine zr_iff hM rfl rfl h2 ?_
  refine zr_fr hM rfl rfl rfl ?_
  refine zr_fr hM rfl rfl rfl ?_
  refine zr_virt (κ := (22, 0, 0)) hn hM rfl rfl rfl rfl rfl rfl rfl rfl rfl ?_
  refine zgo_ret rfl rfl c3_ ?_
  rw [Bool.and_true]
  refine zr_iff hM rfl rfl h4 ?_
  refine zr_fr hM rfl rfl rfl ?_
  refine zr_stat hM rfl rfl rfl rfl rfl rfl ?_
  refine zgo_ret rfl rfl c5_ ?_
  rw [Bool.and_true]
  refine zr_ift hM rfl rfl h6 ?_
  refine zr_fr hM rfl rfl rfl ?_
  refine zr_getf (κ := (22, 0, 0)) hn hM rfl rfl rfl rfl ?_
  refine zr_fr hM rfl rfl rfl ?_
  refine zr_fr hM rfl rfl rfl ?_
  refine zr_virt (κ := (22, 0, 0)) hn hM rfl rfl rfl rfl rfl rfl rfl rfl rfl ?_
  refine zgo_ret rfl rfl c7_ ?_
  rw [Bool.and_true]
  refine zr_ift hM rfl rfl h8 ?_
  refine zr_fr hM rfl rfl rfl ?_
  refine zr_fr hM rfl rfl rfl ?_
  refine zr_fr hM rfl rfl rfl ?_
  refine zr_virt (κ := (22, 0, 0)) hn hM rfl rfl rfl rfl rfl rfl rfl rfl rfl ?_
  refine zgo_ret rfl rfl c9_ ?_
  rw [Bool.and_true]
  refine zr_ift hM rfl rfl h10 ?_
  refine zr_fr hM rfl rfl rfl ?_
  refine zr_stat hM rfl rfl rfl rfl rfl rfl ?_
  refine zgo_ret rfl rfl c11_ ?_
  rw [Bool.and_true]
  refine zr_fr hM rfl rfl rfl ?_
  refine zr_fr hM rfl rfl rfl ?_
  refine zr_fr hM rfl rfl rfl ?_
  refine zr_stat hM rfl rfl rfl rfl rfl rfl ?_
  refine zgo_ret rfl rfl c12_ ?_
  rw [Bool.and_true]
  refine zr_iff hM rfl rfl h13 ?_
  refine zr_fr hM rfl rfl rfl ?_
  refine zr_fr hM rfl rfl rfl ?_
  refine zr_fr hM rfl rfl rfl ?_
  refine zr_iald (κ := (23, 0, 0)) hn hM rfl rfl rfl z14 ?_
  exact zr_iret2 hM rfl rfl rfl
set_option maxHeartbeats 4000000 in
theorem s137_0_fftttt {n L : Nat} {σ : Ks} {g : List Nat} {cl : Bool} {p1 : Int32} {p2 : Int32} {p3 : Int32} {r1 : Int32} {r3 : Int32} {r5 : Int32} {r7 : Int32} {r9 : Int32} {r11 : Int32} {r12 : Int32} {x14 : Nat} (hn : 2 ≤ n ∧ n ≤ 5) (c1_ : ZR 119 0 [.val (.ref (kad n (22, 0, 0))), .val (.int p1)] [] (khp n L (kup σ 42 0 (Int32.ofInt 0)) g) true (.inl (some (.int r1)), khp n L (kup σ 42 0 (Int32.ofInt 0)) g, true)) (h2 : zcnd .eq r1 0 = false) (c3_ : ZR 119 0 [.val (.ref (kad n (22, 0, 0))), .val (.int p2)] [] (khp n L (kup σ 42 0 (Int32.ofInt 0)) g) true (.inl (some (.int r3)), khp n L (kup σ 42 0 (Int32.ofInt 0)) g, true)) (h4 : zcnd .eq r3 0 = false) (c5_ : ZR 114 0 [.val (.int p3)] [] (khp n L (kup σ 42 0 (Int32.ofInt 0)) g) true (.inl (some (.int r5)), khp n L (kup σ 42 0 (Int32.ofInt 0)) g, true)) (h6 : zcnd .ne r5 0 = true) (c7_ : ZR 119 0 [.val (.ref (kad n (22, 0, 0))), .val (.int p1)] [] (khp n L (kup σ 42 0 (Int32.ofInt 0)) g) true (.inl (some (.int r7)), khp n L (kup σ 42 0 (Int32.ofInt 0)) g, true)) (h8 : zcnd .eq r7 0 = true) (c9_ : ZR 119 0 [.val (.ref (kad n (22, 0, 0))), .val (.int p2)] [] (khp n L (kup σ 42 0 (Int32.ofInt 0)) g) true (.inl (some (.int r9)), khp n L (kup σ 42 0 (Int32.ofInt 0)) g, true)) (h10 : zcnd .eq r9 0 = true) (c11_ : ZR 95 0 [.val (.int (Int32.ofInt 0)), .val (.int (Int32.ofInt 0))] [] (khp n L (kup σ 42 0 (Int32.ofInt 0)) g) true (.inl (some (.int r11)), khp n L (kup σ 42 0 (Int32.ofInt 0)) g, true)) (c12_ : ZR 114 0 [.val (.int p3)] [] (khp n L (kup σ 42 0 (Int32.ofInt 0)) g) true (.inl (some (.int r12)), khp n L (kup σ 42 0 (Int32.ofInt 0)) g, true)) (h13 : zcnd .eq r12 0 = true) (z14 : zix ((r11 + ((Int8.ofInt 16).toInt32)) + (Int32.ofInt 0)) 820 = some x14) : ZR 137 0 [.val (.ref (kad n (22, 0, 0))), .val (.int p1), .val (.int p2), .val (.int p3)] [] (khp n L σ g) cl (.inl (some (.int ((kup σ 42 0 (Int32.ofInt 0)) (20 + x14 / 164) (x14 % 164)))), khp n L (kup σ 42 0 (Int32.ofInt 0)) (g), false) := by
  have hM : zmi[137]? = some _ := rfl
  have l14 := (zix_some z14).2.2
  refine zr_fr hM rfl rfl rfl ?_
  refine zr_fr hM rfl rfl rfl ?_
  refine zr_putf (κ := (22, 0, 0)) hn hM rfl rfl rfl rfl rfl rfl rfl rfl ?_
  refine zr_fr hM rfl rfl rfl ?_
  refine zr_fr hM rfl rfl rfl ?_
  refine zr_virt (κ := (22, 0, 0)) hn hM rfl rfl rfl rfl rfl rfl rfl rfl rfl ?_
  refine zgo_ret rfl rfl c1_ ?_
  rw [Bool.and_true]
  refine zr_iff hM rfl rfl h2 ?_
  refine zr_fr hM rfl rfl rfl ?_
  refine zr_fr hM rfl rfl rfl ?_
  refine zr_virt (κ := (22, 0, 0)) hn hM rfl rfl rfl rfl rfl rfl rfl rfl rfl ?_
  refine zgo_ret rfl rfl c3_ ?_
  rw [Bool.and_true]
  refine zr_iff hM rfl rfl h4 ?_
  refine zr_fr hM rfl rfl rfl ?_
  refine zr_stat hM rfl rfl rfl rfl rfl rfl ?_
  refine zgo_ret rfl rfl c5_ ?_
  rw [Bool.and_true]
  refine zr_ift hM rfl rfl h6 ?_
  refine zr_fr hM rfl rfl rfl ?_
  refine zr_getf (κ := (22, 0, 0)) hn hM rfl rfl rfl rfl ?_
  refine zr_fr hM rfl rfl rfl ?_
  refine zr_fr hM rfl rfl rfl ?_
  refine zr_virt (κ := (22, 0, 0)) hn hM rfl rfl rfl rfl rfl rfl rfl rfl rfl ?_
  refine zgo_ret rfl rfl c7_ ?_
  rw [Bool.and_true]
  refine zr_ift hM rfl rfl h8 ?_
  refine zr_fr hM rfl rfl rfl ?_
  refine zr_fr hM rfl rfl rfl ?_
  refine zr_fr hM rfl rfl rfl ?_
  refine zr_virt (κ := (22, 0, 0)) hn hM rfl rfl rfl rfl rfl rfl rfl rfl rfl ?_
  refine zgo_ret rfl rfl c9_ ?_
  rw [Bool.and_true]
  refine zr_ift hM rfl rfl h10 ?_
  refine zr_fr hM rfl rfl rfl ?_
  refine zr_stat hM rfl rfl rfl rfl rfl rfl ?_
  refine zgo_ret rfl rfl c11_ ?_
  rw [Bool.and_true]
  refine zr_fr hM rfl rfl rfl ?_
  refine zr_fr hM rfl rfl rfl ?_
  refine zr_fr hM rfl rfl rfl ?_
  refine zr_stat hM rfl rfl rfl rfl rfl rfl ?_
  refine zgo_ret rfl rfl c12_ ?_
  rw [Bool.and_true]
  refine zr_ift hM rfl rfl h13 ?_
  refine zr_fr hM rfl rfl rfl ?_
  refine zr_fr hM rfl rfl rfl ?_
  refine zr_iald (κ := (23, 0, 0)) hn hM rfl rfl rfl z14 ?_
  exact zr_iret2 hM rfl rfl rfl
set_option maxHeartbeats 4000000 in
theorem s137_0_ft {n L : Nat} {σ : Ks} {g : List Nat} {cl : Bool} {p1 : Int32} {p2 : Int32} {p3 : Int32} {r1 : Int32} {r3 : Int32} (hn : 2 ≤ n ∧ n ≤ 5) (c1_ : ZR 119 0 [.val (.ref (kad n (22, 0, 0))), .val (.int p1)] [] (khp n L (kup σ 42 0 (Int32.ofInt 0)) g) true (.inl (some (.int r1)), khp n L (kup σ 42 0 (Int32.ofInt 0)) g, true)) (h2 : zcnd .eq r1 0 = false) (c3_ : ZR 119 0 [.val (.ref (kad n (22, 0, 0))), .val (.int p2)] [] (khp n L (kup σ 42 0 (Int32.ofInt 0)) g) true (.inl (some (.int r3)), khp n L (kup σ 42 0 (Int32.ofInt 0)) g, true)) (h4 : zcnd .eq r3 0 = true) : ZR 137 0 [.val (.ref (kad n (22, 0, 0))), .val (.int p1), .val (.int p2), .val (.int p3)] [] (khp n L σ g) cl (.inl (some (.int (Int32.ofInt (-1)))), khp n L (kup σ 42 0 (Int32.ofInt 0)) (g), false) := by
  have hM : zmi[137]? = some _ := rfl
  refine zr_fr hM rfl rfl rfl ?_
  refine zr_fr hM rfl rfl rfl ?_
  refine zr_putf (κ := (22, 0, 0)) hn hM rfl rfl rfl rfl rfl rfl rfl rfl ?_
  refine zr_fr hM rfl rfl rfl ?_
  refine zr_fr hM rfl rfl rfl ?_
  refine zr_virt (κ := (22, 0, 0)) hn hM rfl rfl rfl rfl rfl rfl rfl rfl rfl ?_
  refine zgo_ret rfl rfl c1_ ?_
  rw [Bool.and_true]
  refine zr_iff hM rfl rfl h2 ?_
  refine zr_fr hM rfl rfl rfl ?_
  refine zr_fr hM rfl rfl rfl ?_
  refine zr_virt (κ := (22, 0, 0)) hn hM rfl rfl rfl rfl rfl rfl rfl rfl rfl ?_
  refine zgo_ret rfl rfl c3_ ?_
  rw [Bool.and_true]
  refine zr_ift hM rfl rfl h4 ?_
  refine zr_fr hM rfl rfl rfl ?_
  refine zr_fr hM rfl rfl rfl ?_
  exact zr_iret2 hM rfl rfl rfl
set_option maxHeartbeats 4000000 in
theorem s137_0_t {n L : Nat} {σ : Ks} {g : List Nat} {cl : Bool} {p1 : Int32} {p2 : Int32} {p3 : Int32} {r1 : Int32} (hn : 2 ≤ n ∧ n ≤ 5) (c1_ : ZR 119 0 [.val (.ref (kad n (22, 0, 0))), .val (.int p1)] [] (khp n L (kup σ 42 0 (Int32.ofInt 0)) g) true (.inl (some (.int r1)), khp n L (kup σ 42 0 (Int32.ofInt 0)) g, true)) (h2 : zcnd .eq r1 0 = true) : ZR 137 0 [.val (.ref (kad n (22, 0, 0))), .val (.int p1), .val (.int p2), .val (.int p3)] [] (khp n L σ g) cl (.inl (some (.int (Int32.ofInt (-1)))), khp n L (kup σ 42 0 (Int32.ofInt 0)) (g), false) := by
  have hM : zmi[137]? = some _ := rfl
  refine zr_fr hM rfl rfl rfl ?_
  refine zr_fr hM rfl rfl rfl ?_
  refine zr_putf (κ := (22, 0, 0)) hn hM rfl rfl rfl rfl rfl rfl rfl rfl ?_
  refine zr_fr hM rfl rfl rfl ?_
  refine zr_fr hM rfl rfl rfl ?_
  refine zr_virt (κ := (22, 0, 0)) hn hM rfl rfl rfl rfl rfl rfl rfl rfl rfl ?_
  refine zgo_ret rfl rfl c1_ ?_
  rw [Bool.and_true]
  refine zr_ift hM rfl rfl h2 ?_
  refine zr_fr hM rfl rfl rfl ?_
  refine zr_fr hM rfl rfl rfl ?_
  exact zr_iret2 hM rfl rfl rfl
set_option maxHeartbeats 4000000 in
theorem s138_0_fffff {n L : Nat} {σ : Ks} {g : List Nat} {cl : Bool} {p1 : Int32} {p2 : Int32} {p3 : Int32} {r1 : Int32} {r3 : Int32} (hn : 2 ≤ n ∧ n ≤ 5) (c1_ : ZR 119 0 [.val (.ref (kad n (22, 0, 0))), .val (.int p1)] [] (khp n L (kup σ 42 0 (Int32.ofInt 0)) g) true (.inl (some (.int r1)), khp n L (kup σ 42 0 (Int32.ofInt 0)) g, true)) (h2 : zcnd .eq r1 0 = false) (c3_ : ZR 119 0 [.val (.ref (kad n (22, 0, 0))), .val (.int p2)] [] (khp n L (kup σ 42 0 (Int32.ofInt 0)) g) true (.inl (some (.int r3)), khp n L (kup σ 42 0 (Int32.ofInt 0)) g, true)) (h4 : zcnd .eq r3 0 = false) (h5 : zcnd .eq p1 p2 = false) (h6 : zcnd .lt p3 0 = false) (h7 : zcnd .le p3 (Int32.ofInt 3) = false) : ZR 138 0 [.val (.ref (kad n (22, 0, 0))), .val (.int p1), .val (.int p2), .val (.int p3), .unset, .unset, .unset] [] (khp n L σ g) cl (.inl (some (.int (Int32.ofInt (-1)))), khp n L (kup σ 42 0 (Int32.ofInt 0)) (g), false) := by
  have hM : zmi[138]? = some _ := rfl
  refine zr_fr hM rfl rfl rfl ?_
  refine zr_fr hM rfl rfl rfl ?_
  refine zr_putf (κ := (22, 0, 0)) hn hM rfl rfl rfl rfl rfl rfl rfl rfl ?_
  refine zr_fr hM rfl rfl rfl ?_
  refine zr_fr hM rfl rfl rfl ?_
  refine zr_virt (κ := (22, 0, 0)) hn hM rfl rfl rfl rfl rfl rfl rfl rfl rfl ?_
  refine zgo_ret rfl rfl c1_ ?_
  rw [Bool.and_true]
  refine zr_iff hM rfl rfl h2 ?_
  refine zr_fr hM rfl rfl rfl ?_
  refine zr_fr hM rfl rfl rfl ?_
  refine zr_virt (κ := (22, 0, 0)) hn hM rfl rfl rfl rfl rfl rfl rfl rfl rfl ?_
  refine zgo_ret rfl rfl c3_ ?_
  rw [Bool.and_true]
  refine zr_iff hM rfl rfl h4 ?_
  refine zr_fr hM rfl rfl rfl ?_
  refine zr_fr hM rfl rfl rfl ?_
  refine zr_icf hM rfl rfl h5 ?_
  refine zr_fr hM rfl rfl rfl ?_
  refine zr_iff hM rfl rfl h6 ?_
  refine zr_fr hM rfl rfl rfl ?_
  refine zr_fr hM rfl rfl rfl ?_
  refine zr_icf hM rfl rfl h7 ?_
  refine zr_fr hM rfl rfl rfl ?_
  exact zr_iret2 hM rfl rfl rfl
set_option maxHeartbeats 4000000 in
theorem s138_0_fffft {n L : Nat} {σ : Ks} {g : List Nat} {cl : Bool} {r : Zr} {p1 : Int32} {p2 : Int32} {p3 : Int32} {r1 : Int32} {r3 : Int32} {r8 : Int32} {x9 : Nat} (hn : 2 ≤ n ∧ n ≤ 5) (c1_ : ZR 119 0 [.val (.ref (kad n (22, 0, 0))), .val (.int p1)] [] (khp n L (kup σ 42 0 (Int32.ofInt 0)) g) true (.inl (some (.int r1)), khp n L (kup σ 42 0 (Int32.ofInt 0)) g, true)) (h2 : zcnd .eq r1 0 = false) (c3_ : ZR 119 0 [.val (.ref (kad n (22, 0, 0))), .val (.int p2)] [] (khp n L (kup σ 42 0 (Int32.ofInt 0)) g) true (.inl (some (.int r3)), khp n L (kup σ 42 0 (Int32.ofInt 0)) g, true)) (h4 : zcnd .eq r3 0 = false) (h5 : zcnd .eq p1 p2 = false) (h6 : zcnd .lt p3 0 = false) (h7 : zcnd .le p3 (Int32.ofInt 3) = true) (c8_ : ZR 95 0 [.val (.int p1), .val (.int p2)] [] (khp n L (kup σ 42 0 (Int32.ofInt 0)) g) true (.inl (some (.int r8)), khp n L (kup σ 42 0 (Int32.ofInt 0)) g, true)) (z9 : zix (r8 + ((Int8.ofInt 14).toInt32)) 820 = some x9) (k : ZR 138 59 [.val (.ref (kad n (22, 0, 0))), .val (.int p1), .val (.int p2), .val (.int p3), .val (.int r8), .val (.int ((kup σ 42 0 (Int32.ofInt 0)) (20 + x9 / 164) (x9 % 164))), .val (.int (Int32.ofInt 0))] [] (khp n L (kup σ 42 0 (Int32.ofInt 0)) (g)) false r) : ZR 138 0 [.val (.ref (kad n (22, 0, 0))), .val (.int p1), .val (.int p2), .val (.int p3), .unset, .unset, .unset] [] (khp n L σ g) cl r := by
  have hM : zmi[138]? = some _ := rfl
  have l9 := (zix_some z9).2.2
  refine zr_fr hM rfl rfl rfl ?_
  refine zr_fr hM rfl rfl rfl ?_
  refine zr_putf (κ := (22, 0, 0)) hn hM rfl rfl rfl rfl rfl rfl rfl rfl ?_
  refine zr_fr hM rfl rfl rfl ?_
  refine zr_fr hM rfl rfl rfl ?_
  refine zr_virt (κ := (22, 0, 0)) hn hM rfl rfl rfl rfl rfl rfl rfl rfl rfl ?_
  refine zgo_ret rfl rfl c1_ ?_
  rw [Bool.and_true]
  refine zr_iff hM rfl rfl h2 ?_
  refine zr_fr hM rfl rfl rfl ?_
  refine zr_fr hM rfl rfl rfl ?_
  refine zr_virt (κ := (22, 0, 0)) hn hM rfl rfl rfl rfl rfl rfl rfl rfl rfl ?_
  refine zgo_ret rfl rfl c3_ ?_
  rw [Bool.and_true]
  refine zr_iff hM rfl rfl h4 ?_
  refine zr_fr hM rfl rfl rfl ?_
  refine zr_fr hM rfl rfl rfl ?_
  refine zr_icf hM rfl rfl h5 ?_
  refine zr_fr hM rfl rfl rfl ?_
  refine zr_iff hM rfl rfl h6 ?_
  refine zr_fr hM rfl rfl rfl ?_
  refine zr_fr hM rfl rfl rfl ?_
  refine zr_ict hM rfl rfl h7 ?_
  refine zr_fr hM rfl rfl rfl ?_
  refine zr_fr hM rfl rfl rfl ?_
  refine zr_stat hM rfl rfl rfl rfl rfl rfl ?_
  refine zgo_ret rfl rfl c8_ ?_
  rw [Bool.and_true]
  refine zr_fr hM rfl rfl rfl ?_
  refine zr_fr hM rfl rfl rfl ?_
  refine zr_getf (κ := (22, 0, 0)) hn hM rfl rfl rfl rfl ?_
  refine zr_fr hM rfl rfl rfl ?_
  refine zr_fr hM rfl rfl rfl ?_
  refine zr_fr hM rfl rfl rfl ?_
  refine zr_iald (κ := (23, 0, 0)) hn hM rfl rfl rfl z9 ?_
  refine zr_fr hM rfl rfl rfl ?_
  refine zr_fr hM rfl rfl rfl ?_
  refine zr_fr hM rfl rfl rfl ?_
  exact k
set_option maxHeartbeats 4000000 in
theorem s138_0_ffft {n L : Nat} {σ : Ks} {g : List Nat} {cl : Bool} {p1 : Int32} {p2 : Int32} {p3 : Int32} {r1 : Int32} {r3 : Int32} (hn : 2 ≤ n ∧ n ≤ 5) (c1_ : ZR 119 0 [.val (.ref (kad n (22, 0, 0))), .val (.int p1)] [] (khp n L (kup σ 42 0 (Int32.ofInt 0)) g) true (.inl (some (.int r1)), khp n L (kup σ 42 0 (Int32.ofInt 0)) g, true)) (h2 : zcnd .eq r1 0 = false) (c3_ : ZR 119 0 [.val (.ref (kad n (22, 0, 0))), .val (.int p2)] [] (khp n L (kup σ 42 0 (Int32.ofInt 0)) g) true (.inl (some (.int r3)), khp n L (kup σ 42 0 (Int32.ofInt 0)) g, true)) (h4 : zcnd .eq r3 0 = false) (h5 : zcnd .eq p1 p2 = false) (h6 : zcnd .lt p3 0 = true) : ZR 138 0 [.val (.ref (kad n (22, 0, 0))), .val (.int p1), .val (.int p2), .val (.int p3), .unset, .unset, .unset] [] (khp n L σ g) cl (.inl (some (.int (Int32.ofInt (-1)))), khp n L (kup σ 42 0 (Int32.ofInt 0)) (g), false) := by
  have hM : zmi[138]? = some _ := rfl
  refine zr_fr hM rfl rfl rfl ?_
  refine zr_fr hM rfl rfl rfl ?_
  refine zr_putf (κ := (22, 0, 0)) hn hM rfl rfl rfl rfl rfl rfl rfl rfl ?_
  refine zr_fr hM rfl rfl rfl ?_
  refine zr_fr hM rfl rfl rfl ?_
  refine zr_virt (κ := (22, 0, 0)) hn hM rfl rfl rfl rfl rfl rfl rfl rfl rfl ?_
  refine zgo_ret rfl rfl c1_ ?_
  rw [Bool.and_true]
  refine zr_iff hM rfl rfl h2 ?_
  refine zr_fr hM rfl rfl rfl ?_
  refine zr_fr hM rfl rfl rfl ?_
  refine zr_virt (κ := (22, 0, 0)) hn hM rfl rfl rfl rfl rfl rfl rfl rfl rfl ?_
  refine zgo_ret rfl rfl c3_ ?_
  rw [Bool.and_true]
  refine zr_iff hM rfl rfl h4 ?_
  refine zr_fr hM rfl rfl rfl ?_
  refine zr_fr hM rfl rfl rfl ?_
  refine zr_icf hM rfl rfl h5 ?_
  refine zr_fr hM rfl rfl rfl ?_
  refine zr_ift hM rfl rfl h6 ?_
  refine zr_fr hM rfl rfl rfl ?_
  exact zr_iret2 hM rfl rfl rfl
set_option maxHeartbeats 4000000 in
theorem s138_0_fft {n L : Nat} {σ : Ks} {g : List Nat} {cl : Bool} {p1 : Int32} {p2 : Int32} {p3 : Int32} {r1 : Int32} {r3 : Int32} (hn : 2 ≤ n ∧ n ≤ 5) (c1_ : ZR 119 0 [.val (.ref (kad n (22, 0, 0))), .val (.int p1)] [] (khp n L (kup σ 42 0 (Int32.ofInt 0)) g) true (.inl (some (.int r1)), khp n L (kup σ 42 0 (Int32.ofInt 0)) g, true)) (h2 : zcnd .eq r1 0 = false) (c3_ : ZR 119 0 [.val (.ref (kad n (22, 0, 0))), .val (.int p2)] [] (khp n L (kup σ 42 0 (Int32.ofInt 0)) g) true (.inl (some (.int r3)), khp n L (kup σ 42 0 (Int32.ofInt 0)) g, true)) (h4 : zcnd .eq r3 0 = false) (h5 : zcnd .eq p1 p2 = true) : ZR 138 0 [.val (.ref (kad n (22, 0, 0))), .val (.int p1), .val (.int p2), .val (.int p3), .unset, .unset, .unset] [] (khp n L σ g) cl (.inl (some (.int (Int32.ofInt (-1)))), khp n L (kup σ 42 0 (Int32.ofInt 0)) (g), false) := by
  have hM : zmi[138]? = some _ := rfl
  refine zr_fr hM rfl rfl rfl ?_
  refine zr_fr hM rfl rfl rfl ?_
  refine zr_putf (κ := (22, 0, 0)) hn hM rfl rfl rfl rfl rfl rfl rfl rfl ?_
  refine zr_fr hM rfl rfl rfl ?_
  refine zr_fr hM rfl rfl rfl ?_
  refine zr_virt (κ := (22, 0, 0)) hn hM rfl rfl rfl rfl rfl rfl rfl rfl rfl ?_
  refine zgo_ret rfl rfl c1_ ?_
  rw [Bool.and_true]
  refine zr_iff hM rfl rfl h2 ?_
  refine zr_fr hM rfl rfl rfl ?_
  refine zr_fr hM rfl rfl rfl ?_
  refine zr_virt (κ := (22, 0, 0)) hn hM rfl rfl rfl rfl rfl rfl rfl rfl rfl ?_
  refine zgo_ret rfl rfl c3_ ?_
  rw [Bool.and_true]
  refine zr_iff hM rfl rfl h4 ?_
  refine zr_fr hM rfl rfl rfl ?_
  refine zr_fr hM rfl rfl rfl ?_
  refine zr_ict hM rfl rfl h5 ?_
  refine zr_fr hM rfl rfl rfl ?_
  exact zr_iret2 hM rfl rfl rfl
set_option maxHeartbeats 4000000 in
theorem s138_0_ft {n L : Nat} {σ : Ks} {g : List Nat} {cl : Bool} {p1 : Int32} {p2 : Int32} {p3 : Int32} {r1 : Int32} {r3 : Int32} (hn : 2 ≤ n ∧ n ≤ 5) (c1_ : ZR 119 0 [.val (.ref (kad n (22, 0, 0))), .val (.int p1)] [] (khp n L (kup σ 42 0 (Int32.ofInt 0)) g) true (.inl (some (.int r1)), khp n L (kup σ 42 0 (Int32.ofInt 0)) g, true)) (h2 : zcnd .eq r1 0 = false) (c3_ : ZR 119 0 [.val (.ref (kad n (22, 0, 0))), .val (.int p2)] [] (khp n L (kup σ 42 0 (Int32.ofInt 0)) g) true (.inl (some (.int r3)), khp n L (kup σ 42 0 (Int32.ofInt 0)) g, true)) (h4 : zcnd .eq r3 0 = true) : ZR 138 0 [.val (.ref (kad n (22, 0, 0))), .val (.int p1), .val (.int p2), .val (.int p3), .unset, .unset, .unset] [] (khp n L σ g) cl (.inl (some (.int (Int32.ofInt (-1)))), khp n L (kup σ 42 0 (Int32.ofInt 0)) (g), false) := by
  have hM : zmi[138]? = some _ := rfl
  refine zr_fr hM rfl rfl rfl ?_
  refine zr_fr hM rfl rfl rfl ?_
  refine zr_putf (κ := (22, 0, 0)) hn hM rfl rfl rfl rfl rfl rfl rfl rfl ?_
  refine zr_fr hM rfl rfl rfl ?_
  refine zr_fr hM rfl rfl rfl ?_
  refine zr_virt (κ := (22, 0, 0)) hn hM rfl rfl rfl rfl rfl rfl rfl rfl rfl ?_
  refine zgo_ret rfl rfl c1_ ?_
  rw [Bool.and_true]
  refine zr_iff hM rfl rfl h2 ?_
  refine zr_fr hM rfl rfl rfl ?_
  refine zr_fr hM rfl rfl rfl ?_
  refine zr_virt (κ := (22, 0, 0)) hn hM rfl rfl rfl rfl rfl rfl rfl rfl rfl ?_
  refine zgo_ret rfl rfl c3_ ?_
  rw [Bool.and_true]
  refine zr_ift hM rfl rfl h4 ?_
  refine zr_fr hM rfl rfl rfl ?_
  exact zr_iret2 hM rfl rfl rfl
set_option maxHeartbeats 4000000 in
theorem s138_0_t {n L : Nat} {σ : Ks} {g : List Nat} {cl : Bool} {p1 : Int32} {p2 : Int32} {p3 : Int32} {r1 : Int32} (hn : 2 ≤ n ∧ n ≤ 5) (c1_ : ZR 119 0 [.val (.ref (kad n (22, 0, 0))), .val (.int p1)] [] (khp n L (kup σ 42 0 (Int32.ofInt 0)) g) true (.inl (some (.int r1)), khp n L (kup σ 42 0 (Int32.ofInt 0)) g, true)) (h2 : zcnd .eq r1 0 = true) : ZR 138 0 [.val (.ref (kad n (22, 0, 0))), .val (.int p1), .val (.int p2), .val (.int p3), .unset, .unset, .unset] [] (khp n L σ g) cl (.inl (some (.int (Int32.ofInt (-1)))), khp n L (kup σ 42 0 (Int32.ofInt 0)) (g), false) := by
  have hM : zmi[138]? = some _ := rfl
  refine zr_fr hM rfl rfl rfl ?_
  refine zr_fr hM rfl rfl rfl ?_
  refine zr_putf (κ := (22, 0, 0)) hn hM rfl rfl rfl rfl rfl rfl rfl rfl ?_
  refine zr_fr hM rfl rfl rfl ?_
  refine zr_fr hM rfl rfl rfl ?_
  refine zr_virt (κ := (22, 0, 0)) hn hM rfl rfl rfl rfl rfl rfl rfl rfl rfl ?_
  refine zgo_ret rfl rfl c1_ ?_
  rw [Bool.and_true]
  refine zr_ift hM rfl rfl h2 ?_
  refine zr_fr hM rfl rfl rfl ?_
  exact zr_iret2 hM rfl rfl rfl
set_option maxHeartbeats 4000000 in
theorem s138_59_f {n L : Nat} {σ : Ks} {g : List Nat} {cl : Bool} {r : Zr} {v1 : Int32} {v2 : Int32} {v3 : Int32} {v4 : Int32} {v5 : Int32} {v6 : Int32} {x2 : Nat} (hn : 2 ≤ n ∧ n ≤ 5) (h1 : zcnd .ge v6 ((Int8.ofInt 16).toInt32) = false) (z2 : zix (v4 + ((Int8.ofInt 15).toInt32)) 820 = some x2) (k : ZR 138 59 [.val (.ref (kad n (22, 0, 0))), .val (.int v1), .val (.int v2), .val (.int v3), .val (.int v4), .val (.int (v5 + (((σ (20 + x2 / 164) (x2 % 164)) >>> (v6 &&& 31)) &&& (Int32.ofInt 1)))), .val (.int (v6 + Int32.ofInt 1))] [] (khp n L σ (g)) cl r) : ZR 138 59 [.val (.ref (kad n (22, 0, 0))), .val (.int v1), .val (.int v2), .val (.int v3), .val (.int v4), .val (.int v5), .val (.int v6)] [] (khp n L σ g) cl r := by
  have hM : zmi[138]? = some _ := rfl
  have l2 := (zix_some z2).2.2
  refine zr_fr hM rfl rfl rfl ?_
  refine zr_fr hM rfl rfl rfl ?_
  refine zr_icf hM rfl rfl h1 ?_
  refine zr_fr hM rfl rfl rfl ?_
  refine zr_fr hM rfl rfl rfl ?_
  refine zr_getf (κ := (22, 0, 0)) hn hM rfl rfl rfl rfl ?_
  refine zr_fr hM rfl rfl rfl ?_
  refine zr_fr hM rfl rfl rfl ?_
  refine zr_fr hM rfl rfl rfl ?_
  refine zr_iald (κ := (23, 0, 0)) hn hM rfl rfl rfl z2 ?_
  refine zr_fr hM rfl rfl rfl ?_
  refine zr_fr hM rfl rfl rfl ?_
  refine zr_fr hM rfl rfl rfl ?_
  refine zr_fr hM rfl rfl rfl ?_
  refine zr_fr hM rfl rfl rfl ?_
  refine zr_fr hM rfl rfl rfl ?_
  refine zr_fr hM rfl rfl rfl ?_
  refine zr_fr hM rfl rfl rfl ?_
  exact k
set_option maxHeartbeats 4000000 in
theorem s138_59_tf {n L : Nat} {σ : Ks} {g : List Nat} {cl : Bool} {v1 : Int32} {v2 : Int32} {v3 : Int32} {v4 : Int32} {v5 : Int32} {v6 : Int32} {x3 : Nat} (hn : 2 ≤ n ∧ n ≤ 5) (h1 : zcnd .ge v6 ((Int8.ofInt 16).toInt32) = true) (h2 : zcnd .ge v3 (Int32.ofInt 2) = false) (z3 : zix (v4 + v3) 820 = some x3) : ZR 138 59 [.val (.ref (kad n (22, 0, 0))), .val (.int v1), .val (.int v2), .val (.int v3), .val (.int v4), .val (.int v5), .val (.int v6)] [] (khp n L σ g) cl (.inl (some (.int (σ (20 + x3 / 164) (x3 % 164)))), khp n L σ (g), cl) := by
  have hM : zmi[138]? = some _ := rfl
  have l3 := (zix_some z3).2.2
  refine zr_fr hM rfl rfl rfl ?_
  refine zr_fr hM rfl rfl rfl ?_
  refine zr_ict hM rfl rfl h1 ?_
  refine zr_fr hM rfl rfl rfl ?_
  refine zr_fr hM rfl rfl rfl ?_
  refine zr_icf hM rfl rfl h2 ?_
  refine zr_fr hM rfl rfl rfl ?_
  refine zr_getf (κ := (22, 0, 0)) hn hM rfl rfl rfl rfl ?_
  refine zr_fr hM rfl rfl rfl ?_
  refine zr_fr hM rfl rfl rfl ?_
  refine zr_fr hM rfl rfl rfl ?_
  refine zr_iald (κ := (23, 0, 0)) hn hM rfl rfl rfl z3 ?_
  refine zr_fr hM rfl rfl rfl ?_
  exact zr_iret2 hM rfl rfl rfl
set_option maxHeartbeats 4000000 in
theorem s138_59_ttf {n L : Nat} {σ : Ks} {g : List Nat} {cl : Bool} {v1 : Int32} {v2 : Int32} {v3 : Int32} {v4 : Int32} {v5 : Int32} {v6 : Int32} {x4 : Nat} (hn : 2 ≤ n ∧ n ≤ 5) (h1 : zcnd .ge v6 ((Int8.ofInt 16).toInt32) = true) (h2 : zcnd .ge v3 (Int32.ofInt 2) = true) (h3 : zcnd .ne v3 (Int32.ofInt 2) = false) (z4 : zix (v4 + ((Int8.ofInt 14).toInt32)) 820 = some x4) : ZR 138 59 [.val (.ref (kad n (22, 0, 0))), .val (.int v1), .val (.int v2), .val (.int v3), .val (.int v4), .val (.int v5), .val (.int v6)] [] (khp n L σ g) cl (.inl (some (.int (σ (20 + x4 / 164) (x4 % 164)))), khp n L σ (g), cl) := by
  have hM : zmi[138]? = some _ := rfl
  have l4 := (zix_some z4).2.2
  refine zr_fr hM rfl rfl rfl ?_
  refine zr_fr hM rfl rfl rfl ?_
  refine zr_ict hM rfl rfl h1 ?_
  refine zr_fr hM rfl rfl rfl ?_
  refine zr_fr hM rfl rfl rfl ?_
  refine zr_ict hM rfl rfl h2 ?_
  refine zr_fr hM rfl rfl rfl ?_
  refine zr_fr hM rfl rfl rfl ?_
  refine zr_icf hM rfl rfl h3 ?_
  refine zr_fr hM rfl rfl rfl ?_
  refine zr_getf (κ := (22, 0, 0)) hn hM rfl rfl rfl rfl ?_
  refine zr_fr hM rfl rfl rfl ?_
  refine zr_fr hM rfl rfl rfl ?_
  refine zr_fr hM rfl rfl rfl ?_
  refine zr_iald (κ := (23, 0, 0)) hn hM rfl rfl rfl z4 ?_
  refine zr_fr hM rfl rfl rfl ?_
  exact zr_iret2 hM rfl rfl rfl
set_option maxHeartbeats 4000000 in
theorem s138_59_ttt {n L : Nat} {σ : Ks} {g : List Nat} {cl : Bool} {v1 : Int32} {v2 : Int32} {v3 : Int32} {v4 : Int32} {v5 : Int32} {v6 : Int32} (hn : 2 ≤ n ∧ n ≤ 5) (h1 : zcnd .ge v6 ((Int8.ofInt 16).toInt32) = true) (h2 : zcnd .ge v3 (Int32.ofInt 2) = true) (h3 : zcnd .ne v3 (Int32.ofInt 2) = true) : ZR 138 59 [.val (.ref (kad n (22, 0, 0))), .val (.int v1), .val (.int v2), .val (.int v3), .val (.int v4), .val (.int v5), .val (.int v6)] [] (khp n L σ g) cl (.inl (some (.int v5)), khp n L σ (g), cl) := by
  have hM : zmi[138]? = some _ := rfl
  refine zr_fr hM rfl rfl rfl ?_
  refine zr_fr hM rfl rfl rfl ?_
  refine zr_ict hM rfl rfl h1 ?_
  refine zr_fr hM rfl rfl rfl ?_
  refine zr_fr hM rfl rfl rfl ?_
  refine zr_ict hM rfl rfl h2 ?_
  refine zr_fr hM rfl rfl rfl ?_
  refine zr_fr hM rfl rfl rfl ?_
  refine zr_ict hM rfl rfl h3 ?_
  refine zr_fr hM rfl rfl rfl ?_
  exact zr_iret2 hM rfl rfl rfl
set_option maxHeartbeats 4000000 in
theorem s139_0_fff {n L : Nat} {σ : Ks} {g : List Nat} {cl : Bool} {p1 : Int32} {p2 : Int32} {r1 : Int32} (hn : 2 ≤ n ∧ n ≤ 5) (c1_ : ZR 114 0 [.val (.int p1)] [] (khp n L (kup σ 42 0 (Int32.ofInt 0)) g) true (.inl (some (.int r1)), khp n L (kup σ 42 0 (Int32.ofInt 0)) g, true)) (h2 : zcnd .eq r1 0 = false) (h3 : zcnd .lt p2 0 = false) (h4 : zcnd .le p2 (Int32.ofInt 2) = false) : ZR 139 0 [.val (.ref (kad n (22, 0, 0))), .val (.int p1), .val (.int p2), .unset, .unset] [] (khp n L σ g) cl (.inl (some (.int (Int32.ofInt (-1)))), khp n L (kup σ 42 0 (Int32.ofInt 0)) (g), false) := by
  have hM : zmi[139]? = some _ := rfl
  refine zr_fr hM rfl rfl rfl ?_
  refine zr_fr hM rfl rfl rfl ?_
  refine zr_putf (κ := (22, 0, 0)) hn hM rfl rfl rfl rfl rfl rfl rfl rfl ?_
  refine zr_fr hM rfl rfl rfl ?_
  refine zr_stat hM rfl rfl rfl rfl rfl rfl ?_
  refine zgo_ret rfl rfl c1_ ?_
  rw [Bool.and_true]
  refine zr_iff hM rfl rfl h2 ?_
  refine zr_fr hM rfl rfl rfl ?_
  refine zr_iff hM rfl rfl h3 ?_
  refine zr_fr hM rfl rfl rfl ?_
  refine zr_fr hM rfl rfl rfl ?_
  refine zr_icf hM rfl rfl h4 ?_
  refine zr_fr hM rfl rfl rfl ?_
  exact zr_iret2 hM rfl rfl rfl
set_option maxHeartbeats 4000000 in
theorem s139_0_fftf {n L : Nat} {σ : Ks} {g : List Nat} {cl : Bool} {p1 : Int32} {p2 : Int32} {r1 : Int32} {x6 : Nat} (hn : 2 ≤ n ∧ n ≤ 5) (c1_ : ZR 114 0 [.val (.int p1)] [] (khp n L (kup σ 42 0 (Int32.ofInt 0)) g) true (.inl (some (.int r1)), khp n L (kup σ 42 0 (Int32.ofInt 0)) g, true)) (h2 : zcnd .eq r1 0 = false) (h3 : zcnd .lt p2 0 = false) (h4 : zcnd .le p2 (Int32.ofInt 2) = true) (h5 : zcnd .ne p2 (Int32.ofInt 2) = false) (z6 : zix (((Int8.ofInt 12).toInt32) + p1) 820 = some x6) : ZR 139 0 [.val (.ref (kad n (22, 0, 0))), .val (.int p1), .val (.int p2), .unset, .unset] [] (khp n L σ g) cl (.inl (some (.int ((kup σ 42 0 (Int32.ofInt 0)) (20 + x6 / 164) (x6 % 164)))), khp n L (kup σ 42 0 (Int32.ofInt 0)) (g), false) := by
  have hM : zmi[139]? = some _ := rfl
  have l6 := (zix_some z6).2.2
  refine zr_fr hM rfl rfl rfl ?_
  refine zr_fr hM rfl rfl rfl ?_
  refine zr_putf (κ := (22, 0, 0)) hn hM rfl rfl rfl rfl rfl rfl rfl rfl ?_
  refine zr_fr hM rfl rfl rfl ?_
  refine zr_stat hM rfl rfl rfl rfl rfl rfl ?_
  refine zgo_ret rfl rfl c1_ ?_
  rw [Bool.and_true]
  refine zr_iff hM rfl rfl h2 ?_
  refine zr_fr hM rfl rfl rfl ?_
  refine zr_iff hM rfl rfl h3 ?_
  refine zr_fr hM rfl rfl rfl ?_
  refine zr_fr hM rfl rfl rfl ?_
  refine zr_ict hM rfl rfl h4 ?_
  refine zr_fr hM rfl rfl rfl ?_
  refine zr_fr hM rfl rfl rfl ?_
  refine zr_icf hM rfl rfl h5 ?_
  refine zr_fr hM rfl rfl rfl ?_
  refine zr_getf (κ := (22, 0, 0)) hn hM rfl rfl rfl rfl ?_
  refine zr_fr hM rfl rfl rfl ?_
  refine zr_fr hM rfl rfl rfl ?_
  refine zr_fr hM rfl rfl rfl ?_
  refine zr_iald (κ := (23, 0, 0)) hn hM rfl rfl rfl z6 ?_
  exact zr_iret2 hM rfl rfl rfl
set_option maxHeartbeats 4000000 in
theorem s139_0_fftt {n L : Nat} {σ : Ks} {g : List Nat} {cl : Bool} {r : Zr} {p1 : Int32} {p2 : Int32} {r1 : Int32} {r6 : Int32} (hn : 2 ≤ n ∧ n ≤ 5) (c1_ : ZR 114 0 [.val (.int p1)] [] (khp n L (kup σ 42 0 (Int32.ofInt 0)) g) true (.inl (some (.int r1)), khp n L (kup σ 42 0 (Int32.ofInt 0)) g, true)) (h2 : zcnd .eq r1 0 = false) (h3 : zcnd .lt p2 0 = false) (h4 : zcnd .le p2 (Int32.ofInt 2) = true) (h5 : zcnd .ne p2 (Int32.ofInt 2) = true) (c6_ : ZR 140 0 [.val (.ref (kad n (22, 0, 0))), .val (.int p1), .unset, .unset, .unset, .unset, .unset, .unset] [] (khp n L (kup σ 42 0 (Int32.ofInt 0)) g) true (.inl (some (.int r6)), khp n L (kup σ 42 0 (Int32.ofInt 0)) g, true)) (k : ZR 139 47 [.val (.ref (kad n (22, 0, 0))), .val (.int p1), .val (.int p2), .val (.int r6), .val (.int (Int32.ofInt 0))] [] (khp n L (kup σ 42 0 (Int32.ofInt 0)) (g)) false r) : ZR 139 0 [.val (.ref (kad n (22, 0, 0))), .val (.int p1), .val (.int p2), .unset, .unset] [] (khp n L σ g) cl r := by
  have hM : zmi[139]? = some _ := rfl
  refine zr_fr hM rfl rfl rfl ?_
  refine zr_fr hM rfl rfl rfl ?_
  refine zr_putf (κ := (22, 0, 0)) hn hM rfl rfl rfl rfl rfl rfl rfl rfl ?_
  refine zr_fr hM rfl rfl rfl ?_
  refine zr_stat hM rfl rfl rfl rfl rfl rfl ?_
  refine zgo_ret rfl rfl c1_ ?_
  rw [Bool.and_true]
  refine zr_iff hM rfl rfl h2 ?_
  refine zr_fr hM rfl rfl rfl ?_
  refine zr_iff hM rfl rfl h3 ?_
  refine zr_fr hM rfl rfl rfl ?_
  refine zr_fr hM rfl rfl rfl ?_
  refine zr_ict hM rfl rfl h4 ?_
  refine zr_fr hM rfl rfl rfl ?_
  refine zr_fr hM rfl rfl rfl ?_
  refine zr_ict hM rfl rfl h5 ?_
  refine zr_fr hM rfl rfl rfl ?_
  refine zr_fr hM rfl rfl rfl ?_
  refine zr_virt (κ := (22, 0, 0)) hn hM rfl rfl rfl rfl rfl rfl rfl rfl rfl ?_
  refine zgo_ret rfl rfl c6_ ?_
  rw [Bool.and_true]
  refine zr_fr hM rfl rfl rfl ?_
  refine zr_fr hM rfl rfl rfl ?_
  refine zr_fr hM rfl rfl rfl ?_
  exact k
set_option maxHeartbeats 4000000 in
theorem s139_0_ft {n L : Nat} {σ : Ks} {g : List Nat} {cl : Bool} {p1 : Int32} {p2 : Int32} {r1 : Int32} (hn : 2 ≤ n ∧ n ≤ 5) (c1_ : ZR 114 0 [.val (.int p1)] [] (khp n L (kup σ 42 0 (Int32.ofInt 0)) g) true (.inl (some (.int r1)), khp n L (kup σ 42 0 (Int32.ofInt 0)) g, true)) (h2 : zcnd .eq r1 0 = false) (h3 : zcnd .lt p2 0 = true) : ZR 139 0 [.val (.ref (kad n (22, 0, 0))), .val (.int p1), .val (.int p2), .unset, .unset] [] (khp n L σ g) cl (.inl (some (.int (Int32.ofInt (-1)))), khp n L (kup σ 42 0 (Int32.ofInt 0)) (g), false) := by
  have hM : zmi[139]? = some _ := rfl
  refine zr_fr hM rfl rfl rfl ?_
  refine zr_fr hM rfl rfl rfl ?_
  refine zr_putf (κ := (22, 0, 0)) hn hM rfl rfl rfl rfl rfl rfl rfl rfl ?_
  refine zr_fr hM rfl rfl rfl ?_
  refine zr_stat hM rfl rfl rfl rfl rfl rfl ?_
  refine zgo_ret rfl rfl c1_ ?_
  rw [Bool.and_true]
  refine zr_iff hM rfl rfl h2 ?_
  refine zr_fr hM rfl rfl rfl ?_
  refine zr_ift hM rfl rfl h3 ?_
  refine zr_fr hM rfl rfl rfl ?_
  exact zr_iret2 hM rfl rfl rfl
set_option maxHeartbeats 4000000 in
theorem s139_0_t {n L : Nat} {σ : Ks} {g : List Nat} {cl : Bool} {p1 : Int32} {p2 : Int32} {r1 : Int32} (hn : 2 ≤ n ∧ n ≤ 5) (c1_ : ZR 114 0 [.val (.int p1)] [] (khp n L (kup σ 42 0 (Int32.ofInt 0)) g) true (.inl (some (.int r1)), khp n L (kup σ 42 0 (Int32.ofInt 0)) g, true)) (h2 : zcnd .eq r1 0 = true) : ZR 139 0 [.val (.ref (kad n (22, 0, 0))), .val (.int p1), .val (.int p2), .unset, .unset] [] (khp n L σ g) cl (.inl (some (.int (Int32.ofInt (-1)))), khp n L (kup σ 42 0 (Int32.ofInt 0)) (g), false) := by
  have hM : zmi[139]? = some _ := rfl
  refine zr_fr hM rfl rfl rfl ?_
  refine zr_fr hM rfl rfl rfl ?_
  refine zr_putf (κ := (22, 0, 0)) hn hM rfl rfl rfl rfl rfl rfl rfl rfl ?_
  refine zr_fr hM rfl rfl rfl ?_
  refine zr_stat hM rfl rfl rfl rfl rfl rfl ?_
  refine zgo_ret rfl rfl c1_ ?_
  rw [Bool.and_true]
  refine zr_ift hM rfl rfl h2 ?_
  refine zr_fr hM rfl rfl rfl ?_
  exact zr_iret2 hM rfl rfl rfl
set_option maxHeartbeats 4000000 in
theorem s139_47_ff {n L : Nat} {σ : Ks} {g : List Nat} {cl : Bool} {r : Zr} {v1 : Int32} {v2 : Int32} {v3 : Int32} {v4 : Int32} {r3 : Int32} {x4 : Nat} {r5 : Int32} {x6 : Nat} {r7 : Int32} {x8 : Nat} {r9 : Int32} (hn : 2 ≤ n ∧ n ≤ 5) (h1 : zcnd .ge v4 (σ 42 1) = false) (h2 : zcnd .ne v2 (Int32.ofInt 1) = false) (c3_ : ZR 97 0 [.val (.int v4)] [] (khp n L σ g) true (.inl (some (.int r3)), khp n L σ g, true)) (z4 : zix (r3 + v1) 820 = some x4) (c5_ : ZR 97 0 [.val (.int v4)] [] (khp n L σ g) true (.inl (some (.int r5)), khp n L σ g, true)) (z6 : zix ((r5 + (Int32.ofInt 4)) + v1) 820 = some x6) (c7_ : ZR 97 0 [.val (.int v4)] [] (khp n L σ g) true (.inl (some (.int r7)), khp n L σ g, true)) (z8 : zix ((r7 + ((Int8.ofInt 8).toInt32)) + v1) 820 = some x8) (c9_ : ZR 136 0 [.val (.ref (kad n (22, 0, 0))), .val (.int v4), .val (.int v1), .unset, .unset, .unset] [] (khp n L σ g) true (.inl (some (.int r9)), khp n L σ g, true)) (k : ZR 139 47 [.val (.ref (kad n (22, 0, 0))), .val (.int v1), .val (.int v2), .val (.int (v3 + ((((σ (20 + x4 / 164) (x4 % 164)) + (σ (20 + x6 / 164) (x6 % 164))) + (σ (20 + x8 / 164) (x8 % 164))) + r9))), .val (.int (v4 + Int32.ofInt 1))] [] (khp n L σ (g)) cl r) : ZR 139 47 [.val (.ref (kad n (22, 0, 0))), .val (.int v1), .val (.int v2), .val (.int v3), .val (.int v4)] [] (khp n L σ g) cl r := by
  have hM : zmi[139]? = some _ := rfl
  have l4 := (zix_some z4).2.2
  have l6 := (zix_some z6).2.2
  have l8 := (zix_some z8).2.2
  refine zr_fr hM rfl rfl rfl ?_
  refine zr_fr hM rfl rfl rfl ?_
  refine zr_getf (κ := (22, 0, 0)) hn hM rfl rfl rfl rfl ?_
  refine zr_icf hM rfl rfl h1 ?_
  refine zr_fr hM rfl rfl rfl ?_
  refine zr_fr hM rfl rfl rfl ?_
  refine zr_icf hM rfl rfl h2 ?_
  refine zr_fr hM rfl rfl rfl ?_
  refine zr_fr hM rfl rfl rfl ?_
  refine zr_getf (κ := (22, 0, 0)) hn hM rfl rfl rfl rfl ?_
  refine zr_fr hM rfl rfl rfl ?_
  refine zr_stat hM rfl rfl rfl rfl rfl rfl ?_
  refine zgo_ret rfl rfl c3_ ?_
  rw [Bool.and_true]
  refine zr_fr hM rfl rfl rfl ?_
  refine zr_fr hM rfl rfl rfl ?_
  refine zr_iald (κ := (23, 0, 0)) hn hM rfl rfl rfl z4 ?_
  refine zr_fr hM rfl rfl rfl ?_
  refine zr_getf (κ := (22, 0, 0)) hn hM rfl rfl rfl rfl ?_
  refine zr_fr hM rfl rfl rfl ?_
  refine zr_stat hM rfl rfl rfl rfl rfl rfl ?_
  refine zgo_ret rfl rfl c5_ ?_
  rw [Bool.and_true]
  refine zr_fr hM rfl rfl rfl ?_
  refine zr_fr hM rfl rfl rfl ?_
  refine zr_fr hM rfl rfl rfl ?_
  refine zr_fr hM rfl rfl rfl ?_
  refine zr_iald (κ := (23, 0, 0)) hn hM rfl rfl rfl z6 ?_
  refine zr_fr hM rfl rfl rfl ?_
  refine zr_fr hM rfl rfl rfl ?_
  refine zr_getf (κ := (22, 0, 0)) hn hM rfl rfl rfl rfl ?_
  refine zr_fr hM rfl rfl rfl ?_
  refine zr_stat hM rfl rfl rfl rfl rfl rfl ?_
  refine zgo_ret rfl rfl c7_ ?_
  rw [Bool.and_true]
  refine zr_fr hM rfl rfl rfl ?_
  refine zr_fr hM rfl rfl rfl ?_
  refine zr_fr hM rfl rfl rfl ?_
  refine zr_fr hM rfl rfl rfl ?_
  refine zr_iald (κ := (23, 0, 0)) hn hM rfl rfl rfl z8 ?_
  refine zr_fr hM rfl rfl rfl ?_
  refine zr_fr hM rfl rfl rfl ?_
  refine zr_fr hM rfl rfl rfl ?_
  refine zr_fr hM rfl rfl rfl ?_
  refine zr_virt (κ := (22, 0, 0)) hn hM rfl rfl rfl rfl rfl rfl rfl rfl rfl ?_
  refine zgo_ret rfl rfl c9_ ?_
  rw [Bool.and_true]
  refine zr_fr hM rfl rfl rfl ?_
  refine zr_fr hM rfl rfl rfl ?_
  refine zr_fr hM rfl rfl rfl ?_
  refine zr_fr hM rfl rfl rfl ?_
  refine zr_fr hM rfl rfl rfl ?_
  exact k
set_option maxHeartbeats 4000000 in
theorem s139_47_ft {n L : Nat} {σ : Ks} {g : List Nat} {cl : Bool} {v1 : Int32} {v2 : Int32} {v3 : Int32} {v4 : Int32} (hn : 2 ≤ n ∧ n ≤ 5) (h1 : zcnd .ge v4 (σ 42 1) = false) (h2 : zcnd .ne v2 (Int32.ofInt 1) = true) : ZR 139 47 [.val (.ref (kad n (22, 0, 0))), .val (.int v1), .val (.int v2), .val (.int v3), .val (.int v4)] [] (khp n L σ g) cl (.inl (some (.int v3)), khp n L σ (g), cl) := by
  have hM : zmi[139]? = some _ := rfl
  refine zr_fr hM rfl rfl rfl ?_
  refine zr_fr hM rfl rfl rfl ?_
  refine zr_getf (κ := (22, 0, 0)) hn hM rfl rfl rfl rfl ?_
  refine zr_icf hM rfl rfl h1 ?_
  refine zr_fr hM rfl rfl rfl ?_
  refine zr_fr hM rfl rfl rfl ?_
  refine zr_ict hM rfl rfl h2 ?_
  refine zr_fr hM rfl rfl rfl ?_
  exact zr_iret2 hM rfl rfl rfl
set_option maxHeartbeats 4000000 in
theorem s139_47_t {n L : Nat} {σ : Ks} {g : List Nat} {cl : Bool} {v1 : Int32} {v2 : Int32} {v3 : Int32} {v4 : Int32} (hn : 2 ≤ n ∧ n ≤ 5) (h1 : zcnd .ge v4 (σ 42 1) = true) : ZR 139 47 [.val (.ref (kad n (22, 0, 0))), .val (.int v1), .val (.int v2), .val (.int v3), .val (.int v4)] [] (khp n L σ g) cl (.inl (some (.int v3)), khp n L σ (g), cl) := by
  have hM : zmi[139]? = some _ := rfl
  refine zr_fr hM rfl rfl rfl ?_
  refine zr_fr hM rfl rfl rfl ?_
  refine zr_getf (κ := (22, 0, 0)) hn hM rfl rfl rfl rfl ?_
  refine zr_ict hM rfl rfl h1 ?_
  refine zr_fr hM rfl rfl rfl ?_
  exact zr_iret2 hM rfl rfl rfl
set_option maxHeartbeats 4000000 in
theorem s140_0_r {n L : Nat} {σ : Ks} {g : List Nat} {cl : Bool} {r : Zr} {p1 : Int32} (hn : 2 ≤ n ∧ n ≤ 5) (k : ZR 140 4 [.val (.ref (kad n (22, 0, 0))), .val (.int p1), .val (.int (Int32.ofInt 0)), .val (.int (Int32.ofInt 0)), .unset, .unset, .unset, .unset] [] (khp n L σ (g)) cl r) : ZR 140 0 [.val (.ref (kad n (22, 0, 0))), .val (.int p1), .unset, .unset, .unset, .unset, .unset, .unset] [] (khp n L σ g) cl r := by
  have hM : zmi[140]? = some _ := rfl
  refine zr_fr hM rfl rfl rfl ?_
  refine zr_fr hM rfl rfl rfl ?_
  refine zr_fr hM rfl rfl rfl ?_
  refine zr_fr hM rfl rfl rfl ?_
  exact k
set_option maxHeartbeats 4000000 in
theorem s140_4_f {n L : Nat} {σ : Ks} {g : List Nat} {cl : Bool} {r : Zr} {v1 : Int32} {v2 : Int32} {v3 : Int32} {w4 : Option Int32} {w5 : Option Int32} {w6 : Option Int32} {w7 : Option Int32} (hn : 2 ≤ n ∧ n ≤ 5) (h1 : zcnd .ge v3 (σ 42 1) = false) (k : ZR 140 15 [.val (.ref (kad n (22, 0, 0))), .val (.int v1), .val (.int v2), .val (.int v3), .val (.int (Int32.ofInt 0)), zop w5, zop w6, zop w7] [] (khp n L σ (g)) cl r) : ZR 140 4 [.val (.ref (kad n (22, 0, 0))), .val (.int v1), .val (.int v2), .val (.int v3), zop w4, zop w5, zop w6, zop w7] [] (khp n L σ g) cl r := by
  have hM : zmi[140]? = some _ := rfl
  refine zr_fr hM rfl rfl rfl ?_
  refine zr_fr hM rfl rfl rfl ?_
  refine zr_getf (κ := (22, 0, 0)) hn hM rfl rfl rfl rfl ?_
  refine zr_icf hM rfl rfl h1 ?_
  refine zr_fr hM rfl rfl rfl ?_
  refine zr_fr (ls' := [.val (.ref (kad n (22, 0, 0))), .val (.int v1), .val (.int v2), .val (.int v3), .val (.int (Int32.ofInt 0)), zop w5, zop w6, zop w7]) hM rfl rfl (by cases w4 <;> rfl) ?_
  exact k
set_option maxHeartbeats 4000000 in
theorem s140_4_t {n L : Nat} {σ : Ks} {g : List Nat} {cl : Bool} {v1 : Int32} {v2 : Int32} {v3 : Int32} {w4 : Option Int32} {w5 : Option Int32} {w6 : Option Int32} {w7 : Option Int32} (hn : 2 ≤ n ∧ n ≤ 5) (h1 : zcnd .ge v3 (σ 42 1) = true) : ZR 140 4 [.val (.ref (kad n (22, 0, 0))), .val (.int v1), .val (.int v2), .val (.int v3), zop w4, zop w5, zop w6, zop w7] [] (khp n L σ g) cl (.inl (some (.int v2)), khp n L σ (g), cl) := by
  have hM : zmi[140]? = some _ := rfl
  refine zr_fr hM rfl rfl rfl ?_
  refine zr_fr hM rfl rfl rfl ?_
  refine zr_getf (κ := (22, 0, 0)) hn hM rfl rfl rfl rfl ?_
  refine zr_ict hM rfl rfl h1 ?_
  refine zr_fr hM rfl rfl rfl ?_
  exact zr_iret2 hM rfl rfl rfl
set_option maxHeartbeats 4000000 in
theorem s140_15_f {n L : Nat} {σ : Ks} {g : List Nat} {cl : Bool} {r : Zr} {v1 : Int32} {v2 : Int32} {v3 : Int32} {v4 : Int32} {w5 : Option Int32} {w6 : Option Int32} {w7 : Option Int32} {r2 : Int32} (hn : 2 ≤ n ∧ n ≤ 5) (h1 : zcnd .ge v4 (σ 42 1) = false) (c2_ : ZR 95 0 [.val (.int v3), .val (.int v4)] [] (khp n L σ g) true (.inl (some (.int r2)), khp n L σ g, true)) (k : ZR 140 35 [.val (.ref (kad n (22, 0, 0))), .val (.int v1), .val (.int v2), .val (.int v3), .val (.int v4), .val (.int r2), .val (.int (Int32.ofInt 0)), zop w7] [] (khp n L σ (g)) cl r) : ZR 140 15 [.val (.ref (kad n (22, 0, 0))), .val (.int v1), .val (.int v2), .val (.int v3), .val (.int v4), zop w5, zop w6, zop w7] [] (khp n L σ g) cl r := by
  have hM : zmi[140]? = some _ := rfl
  refine zr_fr hM rfl rfl rfl ?_
  refine zr_fr hM rfl rfl rfl ?_
  refine zr_getf (κ := (22, 0, 0)) hn hM rfl rfl rfl rfl ?_
  refine zr_icf hM rfl rfl h1 ?_
  refine zr_fr hM rfl rfl rfl ?_
  refine zr_fr hM rfl rfl rfl ?_
  refine zr_stat hM rfl rfl rfl rfl rfl rfl ?_
  refine zgo_ret rfl rfl c2_ ?_
  rw [Bool.and_true]
  refine zr_fr (ls' := [.val (.ref (kad n (22, 0, 0))), .val (.int v1), .val (.int v2), .val (.int v3), .val (.int v4), .val (.int r2), zop w6, zop w7]) hM rfl rfl (by cases w5 <;> rfl) ?_
  refine zr_fr hM rfl rfl rfl ?_
  refine zr_fr (ls' := [.val (.ref (kad n (22, 0, 0))), .val (.int v1), .val (.int v2), .val (.int v3), .val (.int v4), .val (.int r2), .val (.int (Int32.ofInt 0)), zop w7]) hM rfl rfl (by cases w6 <;> rfl) ?_
  exact k
set_option maxHeartbeats 4000000 in
theorem s140_15_t {n L : Nat} {σ : Ks} {g : List Nat} {cl : Bool} {r : Zr} {v1 : Int32} {v2 : Int32} {v3 : Int32} {v4 : Int32} {w5 : Option Int32} {w6 : Option Int32} {w7 : Option Int32} (hn : 2 ≤ n ∧ n ≤ 5) (h1 : zcnd .ge v4 (σ 42 1) = true) (k : ZR 140 4 [.val (.ref (kad n (22, 0, 0))), .val (.int v1), .val (.int v2), .val (.int (v3 + Int32.ofInt 1)), .val (.int v4), zop w5, zop w6, zop w7] [] (khp n L σ (g)) cl r) : ZR 140 15 [.val (.ref (kad n (22, 0, 0))), .val (.int v1), .val (.int v2), .val (.int v3), .val (.int v4), zop w5, zop w6, zop w7] [] (khp n L σ g) cl r := by
  have hM : zmi[140]? = some _ := rfl
  refine zr_fr hM rfl rfl rfl ?_
  refine zr_fr hM rfl rfl rfl ?_
  refine zr_getf (κ := (22, 0, 0)) hn hM rfl rfl rfl rfl ?_
  refine zr_ict hM rfl rfl h1 ?_
  refine zr_fr hM rfl rfl rfl ?_
  refine zr_fr hM rfl rfl rfl ?_
  exact k
set_option maxHeartbeats 4000000 in
theorem s140_35_fff {n L : Nat} {σ : Ks} {g : List Nat} {cl : Bool} {r : Zr} {v1 : Int32} {v2 : Int32} {v3 : Int32} {v4 : Int32} {v5 : Int32} {v6 : Int32} {w7 : Option Int32} {x1 : Nat} {x3 : Nat} {x5 : Nat} {r6 : Int32} {x8 : Nat} (hn : 2 ≤ n ∧ n ≤ 5) (z1 : zix (v5 + (Int32.ofInt 1)) 820 = some x1) (h2 : zcnd .ge v6 (σ (20 + x1 / 164) (x1 % 164)) = false) (z3 : zix (((v5 + (Int32.ofInt 2)) + ((Int32.ofInt 3) * v6)) + (Int32.ofInt 1)) 820 = some x3) (h4 : zcnd .ne (σ (20 + x3 / 164) (x3 % 164)) v1 = false) (z5 : zix ((v5 + (Int32.ofInt 2)) + ((Int32.ofInt 3) * v6)) 820 = some x5) (c6_ : ZR 102 0 [.val (.ref (kad n (22, 0, 0))), .val (.int v4), .val (.int v3), .val (.int (σ (20 + x5 / 164) (x5 % 164))), .unset, .unset] [] (khp n L σ g) true (.inl (some (.int r6)), khp n L σ g, true)) (h7 : zcnd .ne r6 0 = false) (z8 : zix (((v5 + (Int32.ofInt 2)) + ((Int32.ofInt 3) * v6)) + (Int32.ofInt 2)) 820 = some x8) (k : ZR 140 35 [.val (.ref (kad n (22, 0, 0))), .val (.int v1), .val (.int (v2 + (σ (20 + x8 / 164) (x8 % 164)))), .val (.int v3), .val (.int v4), .val (.int v5), .val (.int (v6 + Int32.ofInt 1)), .val (.int ((v5 + (Int32.ofInt 2)) + ((Int32.ofInt 3) * v6)))] [] (khp n L σ (g)) cl r) : ZR 140 35 [.val (.ref (kad n (22, 0, 0))), .val (.int v1), .val (.int v2), .val (.int v3), .val (.int v4), .val (.int v5), .val (.int v6), zop w7] [] (khp n L σ g) cl r := by
  have hM : zmi[140]? = some _ := rfl
  have l1 := (zix_some z1).2.2
  have l3 := (zix_some z3).2.2
  have l5 := (zix_some z5).2.2
  have l8 := (zix_some z8).2.2
  refine zr_fr hM rfl rfl rfl ?_
  refine zr_fr hM rfl rfl rfl ?_
  refine zr_getf (κ := (22, 0, 0)) hn hM rfl rfl rfl rfl ?_
  refine zr_fr hM rfl rfl rfl ?_
  refine zr_fr hM rfl rfl rfl ?_
  refine zr_fr hM rfl rfl rfl ?_
  refine zr_iald (κ := (23, 0, 0)) hn hM rfl rfl rfl z1 ?_
  refine zr_icf hM rfl rfl h2 ?_
  refine zr_fr hM rfl rfl rfl ?_
  refine zr_fr hM rfl rfl rfl ?_
  refine zr_fr hM rfl rfl rfl ?_
  refine zr_fr hM rfl rfl rfl ?_
  refine zr_fr hM rfl rfl rfl ?_
  refine zr_fr hM rfl rfl rfl ?_
  refine zr_fr hM rfl rfl rfl ?_
  refine zr_fr (ls' := [.val (.ref (kad n (22, 0, 0))), .val (.int v1), .val (.int v2), .val (.int v3), .val (.int v4), .val (.int v5), .val (.int v6), .val (.int ((v5 + (Int32.ofInt 2)) + ((Int32.ofInt 3) * v6)))]) hM rfl rfl (by cases w7 <;> rfl) ?_
  refine zr_fr hM rfl rfl rfl ?_
  refine zr_fr hM rfl rfl rfl ?_
  refine zr_getf (κ := (22, 0, 0)) hn hM rfl rfl rfl rfl ?_
  refine zr_fr hM rfl rfl rfl ?_
  refine zr_fr hM rfl rfl rfl ?_
  refine zr_fr hM rfl rfl rfl ?_
  refine zr_iald (κ := (23, 0, 0)) hn hM rfl rfl rfl z3 ?_
  refine zr_fr hM rfl rfl rfl ?_
  refine zr_icf hM rfl rfl h4 ?_
  refine zr_fr hM rfl rfl rfl ?_
  refine zr_fr hM rfl rfl rfl ?_
  refine zr_fr hM rfl rfl rfl ?_
  refine zr_fr hM rfl rfl rfl ?_
  refine zr_getf (κ := (22, 0, 0)) hn hM rfl rfl rfl rfl ?_
  refine zr_fr hM rfl rfl rfl ?_
  refine zr_iald (κ := (23, 0, 0)) hn hM rfl rfl rfl z5 ?_
  refine zr_virt (κ := (22, 0, 0)) hn hM rfl rfl rfl rfl rfl rfl rfl rfl rfl ?_
  refine zgo_ret rfl rfl c6_ ?_
  rw [Bool.and_true]
  refine zr_iff hM rfl rfl h7 ?_
  refine zr_fr hM rfl rfl rfl ?_
  refine zr_getf (κ := (22, 0, 0)) hn hM rfl rfl rfl rfl ?_
  refine zr_fr hM rfl rfl rfl ?_
  refine zr_fr hM rfl rfl rfl ?_
  refine zr_fr hM rfl rfl rfl ?_
  refine zr_iald (κ := (23, 0, 0)) hn hM rfl rfl rfl z8 ?_
  refine zr_fr hM rfl rfl rfl ?_
  refine zr_fr hM rfl rfl rfl ?_
  refine zr_fr hM rfl rfl rfl ?_
  refine zr_fr hM rfl rfl rfl ?_
  refine zr_fr hM rfl rfl rfl ?_
  exact k
set_option maxHeartbeats 4000000 in
theorem s140_35_fft {n L : Nat} {σ : Ks} {g : List Nat} {cl : Bool} {r : Zr} {v1 : Int32} {v2 : Int32} {v3 : Int32} {v4 : Int32} {v5 : Int32} {v6 : Int32} {w7 : Option Int32} {x1 : Nat} {x3 : Nat} {x5 : Nat} {r6 : Int32} (hn : 2 ≤ n ∧ n ≤ 5) (z1 : zix (v5 + (Int32.ofInt 1)) 820 = some x1) (h2 : zcnd .ge v6 (σ (20 + x1 / 164) (x1 % 164)) = false) (z3 : zix (((v5 + (Int32.ofInt 2)) + ((Int32.ofInt 3) * v6)) + (Int32.ofInt 1)) 820 = some x3) (h4 : zcnd .ne (σ (20 + x3 / 164) (x3 % 164)) v1 = false) (z5 : zix ((v5 + (Int32.ofInt 2)) + ((Int32.ofInt 3) * v6)) 820 = some x5) (c6_ : ZR 102 0 [.val (.ref (kad n (22, 0, 0))), .val (.int v4), .val (.int v3), .val (.int (σ (20 + x5 / 164) (x5 % 164))), .unset, .unset] [] (khp n L σ g) true (.inl (some (.int r6)), khp n L σ g, true)) (h7 : zcnd .ne r6 0 = true) (k : ZR 140 35 [.val (.ref (kad n (22, 0, 0))), .val (.int v1), .val (.int (v2 + (Int32.ofInt 0))), .val (.int v3), .val (.int v4), .val (.int v5), .val (.int (v6 + Int32.ofInt 1)), .val (.int ((v5 + (Int32.ofInt 2)) + ((Int32.ofInt 3) * v6)))] [] (khp n L σ (g)) cl r) : ZR 140 35 [.val (.ref (kad n (22, 0, 0))), .val (.int v1), .val (.int v2), .val (.int v3), .val (.int v4), .val (.int v5), .val (.int v6), zop w7] [] (khp n L σ g) cl r := by
  have hM : zmi[140]? = some _ := rfl
  have l1 := (zix_some z1).2.2
  have l3 := (zix_some z3).2.2
  have l5 := (zix_some z5).2.2
  refine zr_fr hM rfl rfl rfl ?_
  refine zr_fr hM rfl rfl rfl ?_
  refine zr_getf (κ := (22, 0, 0)) hn hM rfl rfl rfl rfl ?_
  refine zr_fr hM rfl rfl rfl ?_
  refine zr_fr hM rfl rfl rfl ?_
  refine zr_fr hM rfl rfl rfl ?_
  refine zr_iald (κ := (23, 0, 0)) hn hM rfl rfl rfl z1 ?_
  refine zr_icf hM rfl rfl h2 ?_
  refine zr_fr hM rfl rfl rfl ?_
  refine zr_fr hM rfl rfl rfl ?_
  refine zr_fr hM rfl rfl rfl ?_
  refine zr_fr hM rfl rfl rfl ?_
  refine zr_fr hM rfl rfl rfl ?_
  refine zr_fr hM rfl rfl rfl ?_
  refine zr_fr hM rfl rfl rfl ?_
  refine zr_fr (ls' := [.val (.ref (kad n (22, 0, 0))), .val (.int v1), .val (.int v2), .val (.int v3), .val (.int v4), .val (.int v5), .val (.int v6), .val (.int ((v5 + (Int32.ofInt 2)) + ((Int32.ofInt 3) * v6)))]) hM rfl rfl (by cases w7 <;> rfl) ?_
  refine zr_fr hM rfl rfl rfl ?_
  refine zr_fr hM rfl rfl rfl ?_
  refine zr_getf (κ := (22, 0, 0)) hn hM rfl rfl rfl rfl ?_
  refine zr_fr hM rfl rfl rfl ?_
  refine zr_fr hM rfl rfl rfl ?_
  refine zr_fr hM rfl rfl rfl ?_
  refine zr_iald (κ := (23, 0, 0)) hn hM rfl rfl rfl z3 ?_
  refine zr_fr hM rfl rfl rfl ?_
  refine zr_icf hM rfl rfl h4 ?_
  refine zr_fr hM rfl rfl rfl ?_
  refine zr_fr hM rfl rfl rfl ?_
  refine zr_fr hM rfl rfl rfl ?_
  refine zr_fr hM rfl rfl rfl ?_
  refine zr_getf (κ := (22, 0, 0)) hn hM rfl rfl rfl rfl ?_
  refine zr_fr hM rfl rfl rfl ?_
  refine zr_iald (κ := (23, 0, 0)) hn hM rfl rfl rfl z5 ?_
  refine zr_virt (κ := (22, 0, 0)) hn hM rfl rfl rfl rfl rfl rfl rfl rfl rfl ?_
  refine zgo_ret rfl rfl c6_ ?_
  rw [Bool.and_true]
  refine zr_ift hM rfl rfl h7 ?_
  refine zr_fr hM rfl rfl rfl ?_
  refine zr_fr hM rfl rfl rfl ?_
  refine zr_fr hM rfl rfl rfl ?_
  refine zr_fr hM rfl rfl rfl ?_
  refine zr_fr hM rfl rfl rfl ?_
  exact k
set_option maxHeartbeats 4000000 in
theorem s140_35_ft {n L : Nat} {σ : Ks} {g : List Nat} {cl : Bool} {r : Zr} {v1 : Int32} {v2 : Int32} {v3 : Int32} {v4 : Int32} {v5 : Int32} {v6 : Int32} {w7 : Option Int32} {x1 : Nat} {x3 : Nat} (hn : 2 ≤ n ∧ n ≤ 5) (z1 : zix (v5 + (Int32.ofInt 1)) 820 = some x1) (h2 : zcnd .ge v6 (σ (20 + x1 / 164) (x1 % 164)) = false) (z3 : zix (((v5 + (Int32.ofInt 2)) + ((Int32.ofInt 3) * v6)) + (Int32.ofInt 1)) 820 = some x3) (h4 : zcnd .ne (σ (20 + x3 / 164) (x3 % 164)) v1 = true) (k : ZR 140 35 [.val (.ref (kad n (22, 0, 0))), .val (.int v1), .val (.int (v2 + (Int32.ofInt 0))), .val (.int v3), .val (.int v4), .val (.int v5), .val (.int (v6 + Int32.ofInt 1)), .val (.int ((v5 + (Int32.ofInt 2)) + ((Int32.ofInt 3) * v6)))] [] (khp n L σ (g)) cl r) : ZR 140 35 [.val (.ref (kad n (22, 0, 0))), .val (.int v1), .val (.int v2), .val (.int v3), .val (.int v4), .val (.int v5), .val (.int v6), zop w7] [] (khp n L σ g) cl r := by
  have hM : zmi[140]? = some _ := rfl
  have l1 := (zix_some z1).2.2
  have l3 := (zix_some z3).2.2
  refine zr_fr hM rfl rfl rfl ?_
  refine zr_fr hM rfl rfl rfl ?_
  refine zr_getf (κ := (22, 0, 0)) hn hM rfl rfl rfl rfl ?_
  refine zr_fr hM rfl rfl rfl ?_
  refine zr_fr hM rfl rfl rfl ?_
  refine zr_fr hM rfl rfl rfl ?_
  refine zr_iald (κ := (23, 0, 0)) hn hM rfl rfl rfl z1 ?_
  refine zr_icf hM rfl rfl h2 ?_
  refine zr_fr hM rfl rfl rfl ?_
  refine zr_fr hM rfl rfl rfl ?_
  refine zr_fr hM rfl rfl rfl ?_
  refine zr_fr hM rfl rfl rfl ?_
  refine zr_fr hM rfl rfl rfl ?_
  refine zr_fr hM rfl rfl rfl ?_
  refine zr_fr hM rfl rfl rfl ?_
  refine zr_fr (ls' := [.val (.ref (kad n (22, 0, 0))), .val (.int v1), .val (.int v2), .val (.int v3), .val (.int v4), .val (.int v5), .val (.int v6), .val (.int ((v5 + (Int32.ofInt 2)) + ((Int32.ofInt 3) * v6)))]) hM rfl rfl (by cases w7 <;> rfl) ?_
  refine zr_fr hM rfl rfl rfl ?_
  refine zr_fr hM rfl rfl rfl ?_
  refine zr_getf (κ := (22, 0, 0)) hn hM rfl rfl rfl rfl ?_
  refine zr_fr hM rfl rfl rfl ?_
  refine zr_fr hM rfl rfl rfl ?_
  refine zr_fr hM rfl rfl rfl ?_
  refine zr_iald (κ := (23, 0, 0)) hn hM rfl rfl rfl z3 ?_
  refine zr_fr hM rfl rfl rfl ?_
  refine zr_ict hM rfl rfl h4 ?_
  refine zr_fr hM rfl rfl rfl ?_
  refine zr_fr hM rfl rfl rfl ?_
  refine zr_fr hM rfl rfl rfl ?_
  refine zr_fr hM rfl rfl rfl ?_
  refine zr_fr hM rfl rfl rfl ?_
  exact k
set_option maxHeartbeats 4000000 in
theorem s140_35_t {n L : Nat} {σ : Ks} {g : List Nat} {cl : Bool} {r : Zr} {v1 : Int32} {v2 : Int32} {v3 : Int32} {v4 : Int32} {v5 : Int32} {v6 : Int32} {w7 : Option Int32} {x1 : Nat} (hn : 2 ≤ n ∧ n ≤ 5) (z1 : zix (v5 + (Int32.ofInt 1)) 820 = some x1) (h2 : zcnd .ge v6 (σ (20 + x1 / 164) (x1 % 164)) = true) (k : ZR 140 15 [.val (.ref (kad n (22, 0, 0))), .val (.int v1), .val (.int v2), .val (.int v3), .val (.int (v4 + Int32.ofInt 1)), .val (.int v5), .val (.int v6), zop w7] [] (khp n L σ (g)) cl r) : ZR 140 35 [.val (.ref (kad n (22, 0, 0))), .val (.int v1), .val (.int v2), .val (.int v3), .val (.int v4), .val (.int v5), .val (.int v6), zop w7] [] (khp n L σ g) cl r := by
  have hM : zmi[140]? = some _ := rfl
  have l1 := (zix_some z1).2.2
  refine zr_fr hM rfl rfl rfl ?_
  refine zr_fr hM rfl rfl rfl ?_
  refine zr_getf (κ := (22, 0, 0)) hn hM rfl rfl rfl rfl ?_
  refine zr_fr hM rfl rfl rfl ?_
  refine zr_fr hM rfl rfl rfl ?_
  refine zr_fr hM rfl rfl rfl ?_
  refine zr_iald (κ := (23, 0, 0)) hn hM rfl rfl rfl z1 ?_
  refine zr_ict hM rfl rfl h2 ?_
  refine zr_fr hM rfl rfl rfl ?_
  refine zr_fr hM rfl rfl rfl ?_
  exact k
set_option maxHeartbeats 4000000 in
theorem s141_0_ff {n L : Nat} {σ : Ks} {g : List Nat} {cl : Bool} {p1 : Int32} {r3 : Int32} {x4 : Nat} (hn : 2 ≤ n ∧ n ≤ 5) (h1 : zcnd .lt p1 (Int32.ofInt 5) = false) (h2 : zcnd .ge p1 ((Int32.ofInt 5) + ((kup σ 42 0 (Int32.ofInt 0)) 42 1)) = false) (c3_ : ZR 97 0 [.val (.int (p1 - (Int32.ofInt 5)))] [] (khp n L (kup σ 42 0 (Int32.ofInt 0)) g) true (.inl (some (.int r3)), khp n L (kup σ 42 0 (Int32.ofInt 0)) g, true)) (z4 : zix (r3 + ((Int8.ofInt 16).toInt32)) 820 = some x4) : ZR 141 0 [.val (.ref (kad n (22, 0, 0))), .val (.int p1)] [] (khp n L σ g) cl (.inl (some (.int ((kup σ 42 0 (Int32.ofInt 0)) (20 + x4 / 164) (x4 % 164)))), khp n L (kup σ 42 0 (Int32.ofInt 0)) (g), false) := by
  have hM : zmi[141]? = some _ := rfl
  have l4 := (zix_some z4).2.2
  refine zr_fr hM rfl rfl rfl ?_
  refine zr_fr hM rfl rfl rfl ?_
  refine zr_putf (κ := (22, 0, 0)) hn hM rfl rfl rfl rfl rfl rfl rfl rfl ?_
  refine zr_fr hM rfl rfl rfl ?_
  refine zr_fr hM rfl rfl rfl ?_
  refine zr_icf hM rfl rfl h1 ?_
  refine zr_fr hM rfl rfl rfl ?_
  refine zr_fr hM rfl rfl rfl ?_
  refine zr_fr hM rfl rfl rfl ?_
  refine zr_getf (κ := (22, 0, 0)) hn hM rfl rfl rfl rfl ?_
  refine zr_fr hM rfl rfl rfl ?_
  refine zr_icf hM rfl rfl h2 ?_
  refine zr_fr hM rfl rfl rfl ?_
  refine zr_getf (κ := (22, 0, 0)) hn hM rfl rfl rfl rfl ?_
  refine zr_fr hM rfl rfl rfl ?_
  refine zr_fr hM rfl rfl rfl ?_
  refine zr_fr hM rfl rfl rfl ?_
  refine zr_stat hM rfl rfl rfl rfl rfl rfl ?_
  refine zgo_ret rfl rfl c3_ ?_
  rw [Bool.and_true]
  refine zr_fr hM rfl rfl rfl ?_
  refine zr_fr hM rfl rfl rfl ?_
  refine zr_iald (κ := (23, 0, 0)) hn hM rfl rfl rfl z4 ?_
  exact zr_iret2 hM rfl rfl rfl
set_option maxHeartbeats 4000000 in
theorem s141_0_ftfff {n L : Nat} {σ : Ks} {g : List Nat} {cl : Bool} {p1 : Int32} {x5 : Nat} (hn : 2 ≤ n ∧ n ≤ 5) (h1 : zcnd .lt p1 (Int32.ofInt 5) = false) (h2 : zcnd .ge p1 ((Int32.ofInt 5) + ((kup σ 42 0 (Int32.ofInt 0)) 42 1)) = true) (h3 : zcnd .lt p1 ((Int8.ofInt 10).toInt32) = false) (h4 : zcnd .ge p1 (((Int8.ofInt 10).toInt32) + ((kup σ 42 0 (Int32.ofInt 0)) 42 1)) = false) (z5 : zix (p1 - ((Int8.ofInt 10).toInt32)) 5 = some x5) (h6 : zcnd .eq ((kup σ 42 0 (Int32.ofInt 0)) 40 x5) 0 = false) : ZR 141 0 [.val (.ref (kad n (22, 0, 0))), .val (.int p1)] [] (khp n L σ g) cl (.inl (some (.int (Int32.ofInt 0))), khp n L (kup σ 42 0 (Int32.ofInt 0)) (g), false) := by
  have hM : zmi[141]? = some _ := rfl
  have l5 := (zix_some z5).2.2
  refine zr_fr hM rfl rfl rfl ?_
  refine zr_fr hM rfl rfl rfl ?_
  refine zr_putf (κ := (22, 0, 0)) hn hM rfl rfl rfl rfl rfl rfl rfl rfl ?_
  refine zr_fr hM rfl rfl rfl ?_
  refine zr_fr hM rfl rfl rfl ?_
  refine zr_icf hM rfl rfl h1 ?_
  refine zr_fr hM rfl rfl rfl ?_
  refine zr_fr hM rfl rfl rfl ?_
  refine zr_fr hM rfl rfl rfl ?_
  refine zr_getf (κ := (22, 0, 0)) hn hM rfl rfl rfl rfl ?_
  refine zr_fr hM rfl rfl rfl ?_
  refine zr_ict hM rfl rfl h2 ?_
  refine zr_fr hM rfl rfl rfl ?_
  refine zr_fr hM rfl rfl rfl ?_
  refine zr_icf hM rfl rfl h3 ?_
  refine zr_fr hM rfl rfl rfl ?_
  refine zr_fr hM rfl rfl rfl ?_
  refine zr_fr hM rfl rfl rfl ?_
  refine zr_getf (κ := (22, 0, 0)) hn hM rfl rfl rfl rfl ?_
  refine zr_fr hM rfl rfl rfl ?_
  refine zr_icf hM rfl rfl h4 ?_
  refine zr_fr hM rfl rfl rfl ?_
  refine zr_getf (κ := (22, 0, 0)) hn hM rfl rfl rfl rfl ?_
  refine zr_fr hM rfl rfl rfl ?_
  refine zr_fr hM rfl rfl rfl ?_
  refine zr_fr hM rfl rfl rfl ?_
  refine zr_bald (κ := (25, 0, 0)) hn hM rfl rfl rfl z5 ?_
  refine zr_iff hM rfl rfl h6 ?_
  refine zr_fr hM rfl rfl rfl ?_
  refine zr_fr hM rfl rfl rfl ?_
  exact zr_iret2 hM rfl rfl rfl
set_option maxHeartbeats 4000000 in
theorem s141_0_ftfft {n L : Nat} {σ : Ks} {g : List Nat} {cl : Bool} {p1 : Int32} {x5 : Nat} (hn : 2 ≤ n ∧ n ≤ 5) (h1 : zcnd .lt p1 (Int32.ofInt 5) = false) (h2 : zcnd .ge p1 ((Int32.ofInt 5) + ((kup σ 42 0 (Int32.ofInt 0)) 42 1)) = true) (h3 : zcnd .lt p1 ((Int8.ofInt 10).toInt32) = false) (h4 : zcnd .ge p1 (((Int8.ofInt 10).toInt32) + ((kup σ 42 0 (Int32.ofInt 0)) 42 1)) = false) (z5 : zix (p1 - ((Int8.ofInt 10).toInt32)) 5 = some x5) (h6 : zcnd .eq ((kup σ 42 0 (Int32.ofInt 0)) 40 x5) 0 = true) : ZR 141 0 [.val (.ref (kad n (22, 0, 0))), .val (.int p1)] [] (khp n L σ g) cl (.inl (some (.int (Int32.ofInt 1))), khp n L (kup σ 42 0 (Int32.ofInt 0)) (g), false) := by
  have hM : zmi[141]? = some _ := rfl
  have l5 := (zix_some z5).2.2
  refine zr_fr hM rfl rfl rfl ?_
  refine zr_fr hM rfl rfl rfl ?_
  refine zr_putf (κ := (22, 0, 0)) hn hM rfl rfl rfl rfl rfl rfl rfl rfl ?_
  refine zr_fr hM rfl rfl rfl ?_
  refine zr_fr hM rfl rfl rfl ?_
  refine zr_icf hM rfl rfl h1 ?_
  refine zr_fr hM rfl rfl rfl ?_
  refine zr_fr hM rfl rfl rfl ?_
  refine zr_fr hM rfl rfl rfl ?_
  refine zr_getf (κ := (22, 0, 0)) hn hM rfl rfl rfl rfl ?_
  refine zr_fr hM rfl rfl rfl ?_
  refine zr_ict hM rfl rfl h2 ?_
  refine zr_fr hM rfl rfl rfl ?_
  refine zr_fr hM rfl rfl rfl ?_
  refine zr_icf hM rfl rfl h3 ?_
  refine zr_fr hM rfl rfl rfl ?_
  refine zr_fr hM rfl rfl rfl ?_
  refine zr_fr hM rfl rfl rfl ?_
  refine zr_getf (κ := (22, 0, 0)) hn hM rfl rfl rfl rfl ?_
  refine zr_fr hM rfl rfl rfl ?_
  refine zr_icf hM rfl rfl h4 ?_
  refine zr_fr hM rfl rfl rfl ?_
  refine zr_getf (κ := (22, 0, 0)) hn hM rfl rfl rfl rfl ?_
  refine zr_fr hM rfl rfl rfl ?_
  refine zr_fr hM rfl rfl rfl ?_
  refine zr_fr hM rfl rfl rfl ?_
  refine zr_bald (κ := (25, 0, 0)) hn hM rfl rfl rfl z5 ?_
  refine zr_ift hM rfl rfl h6 ?_
  refine zr_fr hM rfl rfl rfl ?_
  exact zr_iret2 hM rfl rfl rfl
set_option maxHeartbeats 4000000 in
theorem s141_0_ftftf {n L : Nat} {σ : Ks} {g : List Nat} {cl : Bool} {p1 : Int32} (hn : 2 ≤ n ∧ n ≤ 5) (h1 : zcnd .lt p1 (Int32.ofInt 5) = false) (h2 : zcnd .ge p1 ((Int32.ofInt 5) + ((kup σ 42 0 (Int32.ofInt 0)) 42 1)) = true) (h3 : zcnd .lt p1 ((Int8.ofInt 10).toInt32) = false) (h4 : zcnd .ge p1 (((Int8.ofInt 10).toInt32) + ((kup σ 42 0 (Int32.ofInt 0)) 42 1)) = true) (h5 : zcnd .ne p1 0 = false) : ZR 141 0 [.val (.ref (kad n (22, 0, 0))), .val (.int p1)] [] (khp n L σ g) cl (.inl (some (.int ((kup σ 42 0 (Int32.ofInt 0)) 42 1))), khp n L (kup σ 42 0 (Int32.ofInt 0)) (g), false) := by
  have hM : zmi[141]? = some _ := rfl
  refine zr_fr hM rfl rfl rfl ?_
  refine zr_fr hM rfl rfl rfl ?_
  refine zr_putf (κ := (22, 0, 0)) hn hM rfl rfl rfl rfl rfl rfl rfl rfl ?_
  refine zr_fr hM rfl rfl rfl ?_
  refine zr_fr hM rfl rfl rfl ?_
  refine zr_icf hM rfl rfl h1 ?_
  refine zr_fr hM rfl rfl rfl ?_
  refine zr_fr hM rfl rfl rfl ?_
  refine zr_fr hM rfl rfl rfl ?_
  refine zr_getf (κ := (22, 0, 0)) hn hM rfl rfl rfl rfl ?_
  refine zr_fr hM rfl rfl rfl ?_
  refine zr_ict hM rfl rfl h2 ?_
  refine zr_fr hM rfl rfl rfl ?_
  refine zr_fr hM rfl rfl rfl ?_
  refine zr_icf hM rfl rfl h3 ?_
  refine zr_fr hM rfl rfl rfl ?_
  refine zr_fr hM rfl rfl rfl ?_
  refine zr_fr hM rfl rfl rfl ?_
  refine zr_getf (κ := (22, 0, 0)) hn hM rfl rfl rfl rfl ?_
  refine zr_fr hM rfl rfl rfl ?_
  refine zr_ict hM rfl rfl h4 ?_
  refine zr_fr hM rfl rfl rfl ?_
  refine zr_iff hM rfl rfl h5 ?_
  refine zr_fr hM rfl rfl rfl ?_
  refine zr_getf (κ := (22, 0, 0)) hn hM rfl rfl rfl rfl ?_
  refine zr_fr hM rfl rfl rfl ?_
  exact zr_iret2 hM rfl rfl rfl
set_option maxHeartbeats 4000000 in
theorem s141_0_ftfttf {n L : Nat} {σ : Ks} {g : List Nat} {cl : Bool} {p1 : Int32} (hn : 2 ≤ n ∧ n ≤ 5) (h1 : zcnd .lt p1 (Int32.ofInt 5) = false) (h2 : zcnd .ge p1 ((Int32.ofInt 5) + ((kup σ 42 0 (Int32.ofInt 0)) 42 1)) = true) (h3 : zcnd .lt p1 ((Int8.ofInt 10).toInt32) = false) (h4 : zcnd .ge p1 (((Int8.ofInt 10).toInt32) + ((kup σ 42 0 (Int32.ofInt 0)) 42 1)) = true) (h5 : zcnd .ne p1 0 = true) (h6 : zcnd .ne p1 (Int32.ofInt 1) = false) : ZR 141 0 [.val (.ref (kad n (22, 0, 0))), .val (.int p1)] [] (khp n L σ g) cl (.inl (some (.int ((kup σ 42 0 (Int32.ofInt 0)) 42 2))), khp n L (kup σ 42 0 (Int32.ofInt 0)) (g), false) := by
  have hM : zmi[141]? = some _ := rfl
  refine zr_fr hM rfl rfl rfl ?_
  refine zr_fr hM rfl rfl rfl ?_
  refine zr_putf (κ := (22, 0, 0)) hn hM rfl rfl rfl rfl rfl rfl rfl rfl ?_
  refine zr_fr hM rfl rfl rfl ?_
  refine zr_fr hM rfl rfl rfl ?_
  refine zr_icf hM rfl rfl h1 ?_
  refine zr_fr hM rfl rfl rfl ?_
  refine zr_fr hM rfl rfl rfl ?_
  refine zr_fr hM rfl rfl rfl ?_
  refine zr_getf (κ := (22, 0, 0)) hn hM rfl rfl rfl rfl ?_
  refine zr_fr hM rfl rfl rfl ?_
  refine zr_ict hM rfl rfl h2 ?_
  refine zr_fr hM rfl rfl rfl ?_
  refine zr_fr hM rfl rfl rfl ?_
  refine zr_icf hM rfl rfl h3 ?_
  refine zr_fr hM rfl rfl rfl ?_
  refine zr_fr hM rfl rfl rfl ?_
  refine zr_fr hM rfl rfl rfl ?_
  refine zr_getf (κ := (22, 0, 0)) hn hM rfl rfl rfl rfl ?_
  refine zr_fr hM rfl rfl rfl ?_
  refine zr_ict hM rfl rfl h4 ?_
  refine zr_fr hM rfl rfl rfl ?_
  refine zr_ift hM rfl rfl h5 ?_
  refine zr_fr hM rfl rfl rfl ?_
  refine zr_fr hM rfl rfl rfl ?_
  refine zr_icf hM rfl rfl h6 ?_
  refine zr_fr hM rfl rfl rfl ?_
  refine zr_getf (κ := (22, 0, 0)) hn hM rfl rfl rfl rfl ?_
  refine zr_fr hM rfl rfl rfl ?_
  exact zr_iret2 hM rfl rfl rfl
set_option maxHeartbeats 4000000 in
theorem s141_0_ftftttf {n L : Nat} {σ : Ks} {g : List Nat} {cl : Bool} {p1 : Int32} (hn : 2 ≤ n ∧ n ≤ 5) (h1 : zcnd .lt p1 (Int32.ofInt 5) = false) (h2 : zcnd .ge p1 ((Int32.ofInt 5) + ((kup σ 42 0 (Int32.ofInt 0)) 42 1)) = true) (h3 : zcnd .lt p1 ((Int8.ofInt 10).toInt32) = false) (h4 : zcnd .ge p1 (((Int8.ofInt 10).toInt32) + ((kup σ 42 0 (Int32.ofInt 0)) 42 1)) = true) (h5 : zcnd .ne p1 0 = true) (h6 : zcnd .ne p1 (Int32.ofInt 1) = true) (h7 : zcnd .ne p1 (Int32.ofInt 2) = false) : ZR 141 0 [.val (.ref (kad n (22, 0, 0))), .val (.int p1)] [] (khp n L σ g) cl (.inl (some (.int ((kup σ 42 0 (Int32.ofInt 0)) 42 3))), khp n L (kup σ 42 0 (Int32.ofInt 0)) (g), false) := by
  have hM : zmi[141]? = some _ := rfl
  refine zr_fr hM rfl rfl rfl ?_
  refine zr_fr hM rfl rfl rfl ?_
  refine zr_putf (κ := (22, 0, 0)) hn hM rfl rfl rfl rfl rfl rfl rfl rfl ?_
  refine zr_fr hM rfl rfl rfl ?_
  refine zr_fr hM rfl rfl rfl ?_
  refine zr_icf hM rfl rfl h1 ?_
  refine zr_fr hM rfl rfl rfl ?_
  refine zr_fr hM rfl rfl rfl ?_
  refine zr_fr hM rfl rfl rfl ?_
  refine zr_getf (κ := (22, 0, 0)) hn hM rfl rfl rfl rfl ?_
  refine zr_fr hM rfl rfl rfl ?_
  refine zr_ict hM rfl rfl h2 ?_
  refine zr_fr hM rfl rfl rfl ?_
  refine zr_fr hM rfl rfl rfl ?_
  refine zr_icf hM rfl rfl h3 ?_
  refine zr_fr hM rfl rfl rfl ?_
  refine zr_fr hM rfl rfl rfl ?_
  refine zr_fr hM rfl rfl rfl ?_
  refine zr_getf (κ := (22, 0, 0)) hn hM rfl rfl rfl rfl ?_
  refine zr_fr hM rfl rfl rfl ?_
  refine zr_ict hM rfl rfl h4 ?_
  refine zr_fr hM rfl rfl rfl ?_
  refine zr_ift hM rfl rfl h5 ?_
  refine zr_fr hM rfl rfl rfl ?_
  refine zr_fr hM rfl rfl rfl ?_
  refine zr_ict hM rfl rfl h6 ?_
  refine zr_fr hM rfl rfl rfl ?_
  refine zr_fr hM rfl rfl rfl ?_
  refine zr_icf hM rfl rfl h7 ?_
  refine zr_fr hM rfl rfl rfl ?_
  refine zr_getf (κ := (22, 0, 0)) hn hM rfl rfl rfl rfl ?_
  refine zr_fr hM rfl rfl rfl ?_
  exact zr_iret2 hM rfl rfl rfl
set_option maxHeartbeats 4000000 in
theorem s141_0_ftfttttff {n L : Nat} {σ : Ks} {g : List Nat} {cl : Bool} {p1 : Int32} {r9 : Int32} (hn : 2 ≤ n ∧ n ≤ 5) (h1 : zcnd .lt p1 (Int32.ofInt 5) = false) (h2 : zcnd .ge p1 ((Int32.ofInt 5) + ((kup σ 42 0 (Int32.ofInt 0)) 42 1)) = true) (h3 : zcnd .lt p1 ((Int8.ofInt 10).toInt32) = false) (h4 : zcnd .ge p1 (((Int8.ofInt 10).toInt32) + ((kup σ 42 0 (Int32.ofInt 0)) 42 1)) = true) (h5 : zcnd .ne p1 0 = true) (h6 : zcnd .ne p1 (Int32.ofInt 1) = true) (h7 : zcnd .ne p1 (Int32.ofInt 2) = true) (h8 : zcnd .ne p1 (Int32.ofInt 3) = false) (c9_ : ZR 142 0 [.val (.ref (kad n (22, 0, 0))), .unset, .unset, .unset, .unset] [] (khp n L (kup σ 42 0 (Int32.ofInt 0)) g) true (.inl (some (.int r9)), khp n L (kup σ 42 0 (Int32.ofInt 0)) g, true)) (h10 : zcnd .eq r9 0 = false) : ZR 141 0 [.val (.ref (kad n (22, 0, 0))), .val (.int p1)] [] (khp n L σ g) cl (.inl (some (.int (Int32.ofInt 1))), khp n L (kup σ 42 0 (Int32.ofInt 0)) (g), false) := by
  have hM : zmi[141]? = some _ := rfl
  refine zr_fr hM rfl rfl rfl ?_
  refine zr_fr hM rfl rfl rfl ?_
  refine zr_putf (κ := (22, 0, 0)) hn hM rfl rfl rfl rfl rfl rfl rfl rfl ?_
  refine zr_fr hM rfl rfl rfl ?_
  refine zr_fr hM rfl rfl rfl ?_
  refine zr_icf hM rfl rfl h1 ?_
  refine zr_fr hM rfl rfl rfl ?_
  refine zr_fr hM rfl rfl rfl ?_
  refine zr_fr hM rfl rfl rfl ?_
  refine zr_getf (κ := (22, 0, 0)) hn hM rfl rfl rfl rfl ?_
  refine zr_fr hM rfl rfl rfl ?_
  refine zr_ict hM rfl rfl h2 ?_
  refine zr_fr hM rfl rfl rfl ?_
  refine zr_fr hM rfl rfl rfl ?_
  refine zr_icf hM rfl rfl h3 ?_
  refine zr_fr hM rfl rfl rfl ?_
  refine zr_fr hM rfl rfl rfl ?_
  refine zr_fr hM rfl rfl rfl ?_
  refine zr_getf (κ := (22, 0, 0)) hn hM rfl rfl rfl rfl ?_
  refine zr_fr hM rfl rfl rfl ?_
  refine zr_ict hM rfl rfl h4 ?_
  refine zr_fr hM rfl rfl rfl ?_
  refine zr_ift hM rfl rfl h5 ?_
  refine zr_fr hM rfl rfl rfl ?_
  refine zr_fr hM rfl rfl rfl ?_
  refine zr_ict hM rfl rfl h6 ?_
  refine zr_fr hM rfl rfl rfl ?_
  refine zr_fr hM rfl rfl rfl ?_
  refine zr_ict hM rfl rfl h7 ?_
  refine zr_fr hM rfl rfl rfl ?_
  refine zr_fr hM rfl rfl rfl ?_
  refine zr_icf hM rfl rfl h8 ?_
  refine zr_fr hM rfl rfl rfl ?_
  refine zr_virt (κ := (22, 0, 0)) hn hM rfl rfl rfl rfl rfl rfl rfl rfl rfl ?_
  refine zgo_ret rfl rfl c9_ ?_
  rw [Bool.and_true]
  refine zr_iff hM rfl rfl h10 ?_
  refine zr_fr hM rfl rfl rfl ?_
  refine zr_fr hM rfl rfl rfl ?_
  exact zr_iret2 hM rfl rfl rfl
set_option maxHeartbeats 4000000 in
theorem s141_0_ftfttttft {n L : Nat} {σ : Ks} {g : List Nat} {cl : Bool} {p1 : Int32} {r9 : Int32} (hn : 2 ≤ n ∧ n ≤ 5) (h1 : zcnd .lt p1 (Int32.ofInt 5) = false) (h2 : zcnd .ge p1 ((Int32.ofInt 5) + ((kup σ 42 0 (Int32.ofInt 0)) 42 1)) = true) (h3 : zcnd .lt p1 ((Int8.ofInt 10).toInt32) = false) (h4 : zcnd .ge p1 (((Int8.ofInt 10).toInt32) + ((kup σ 42 0 (Int32.ofInt 0)) 42 1)) = true) (h5 : zcnd .ne p1 0 = true) (h6 : zcnd .ne p1 (Int32.ofInt 1) = true) (h7 : zcnd .ne p1 (Int32.ofInt 2) = true) (h8 : zcnd .ne p1 (Int32.ofInt 3) = false) (c9_ : ZR 142 0 [.val (.ref (kad n (22, 0, 0))), .unset, .unset, .unset, .unset] [] (khp n L (kup σ 42 0 (Int32.ofInt 0)) g) true (.inl (some (.int r9)), khp n L (kup σ 42 0 (Int32.ofInt 0)) g, true)) (h10 : zcnd .eq r9 0 = true) : ZR 141 0 [.val (.ref (kad n (22, 0, 0))), .val (.int p1)] [] (khp n L σ g) cl (.inl (some (.int (Int32.ofInt 0))), khp n L (kup σ 42 0 (Int32.ofInt 0)) (g), false) := by
  have hM : zmi[141]? = some _ := rfl
  refine zr_fr hM rfl rfl rfl ?_
  refine zr_fr hM rfl rfl rfl ?_
  refine zr_putf (κ := (22, 0, 0)) hn hM rfl rfl rfl rfl rfl rfl rfl rfl ?_
  refine zr_fr hM rfl rfl rfl ?_
  refine zr_fr hM rfl rfl rfl ?_
  refine zr_icf hM rfl rfl h1 ?_
  refine zr_fr hM rfl rfl rfl ?_
  refine zr_fr hM rfl rfl rfl ?_
  refine zr_fr hM rfl rfl rfl ?_
  refine zr_getf (κ := (22, 0, 0)) hn hM rfl rfl rfl rfl ?_
  refine zr_fr hM rfl rfl rfl ?_
  refine zr_ict hM rfl rfl h2 ?_
  refine zr_fr hM rfl rfl rfl ?_
  refine zr_fr hM rfl rfl rfl ?_
  refine zr_icf hM rfl rfl h3 ?_
  refine zr_fr hM rfl rfl rfl ?_
  refine zr_fr hM rfl rfl rfl ?_
  refine zr_fr hM rfl rfl rfl ?_
  refine zr_getf (κ := (22, 0, 0)) hn hM rfl rfl rfl rfl ?_
  refine zr_fr hM rfl rfl rfl ?_
  refine zr_ict hM rfl rfl h4 ?_
  refine zr_fr hM rfl rfl rfl ?_
  refine zr_ift hM rfl rfl h5 ?_
  refine zr_fr hM rfl rfl rfl ?_
  refine zr_fr hM rfl rfl rfl ?_
  refine zr_ict hM rfl rfl h6 ?_
  refine zr_fr hM rfl rfl rfl ?_
  refine zr_fr hM rfl rfl rfl ?_
  refine zr_ict hM rfl rfl h7 ?_
  refine zr_fr hM rfl rfl rfl ?_
  refine zr_fr hM rfl rfl rfl ?_
  refine zr_icf hM rfl rfl h8 ?_
  refine zr_fr hM rfl rfl rfl ?_
  refine zr_virt (κ := (22, 0, 0)) hn hM rfl rfl rfl rfl rfl rfl rfl rfl rfl ?_
  refine zgo_ret rfl rfl c9_ ?_
  rw [Bool.and_true]
  refine zr_ift hM rfl rfl h10 ?_
  refine zr_fr hM rfl rfl rfl ?_
  refine zr_fr hM rfl rfl rfl ?_
  exact zr_iret2 hM rfl rfl rfl
set_option maxHeartbeats 4000000 in
theorem s141_0_ftftttttf {n L : Nat} {σ : Ks} {g : List Nat} {cl : Bool} {p1 : Int32} {r10 : Int32} (hn : 2 ≤ n ∧ n ≤ 5) (h1 : zcnd .lt p1 (Int32.ofInt 5) = false) (h2 : zcnd .ge p1 ((Int32.ofInt 5) + ((kup σ 42 0 (Int32.ofInt 0)) 42 1)) = true) (h3 : zcnd .lt p1 ((Int8.ofInt 10).toInt32) = false) (h4 : zcnd .ge p1 (((Int8.ofInt 10).toInt32) + ((kup σ 42 0 (Int32.ofInt 0)) 42 1)) = true) (h5 : zcnd .ne p1 0 = true) (h6 : zcnd .ne p1 (Int32.ofInt 1) = true) (h7 : zcnd .ne p1 (Int32.ofInt 2) = true) (h8 : zcnd .ne p1 (Int32.ofInt 3) = true) (h9 : zcnd .ne p1 (Int32.ofInt 4) = false) (c10_ : ZR 143 0 [.val (.ref (kad n (22, 0, 0))), .unset, .unset, .unset] [] (khp n L (kup σ 42 0 (Int32.ofInt 0)) g) true (.inl (some (.int r10)), khp n L (kup σ 42 0 (Int32.ofInt 0)) g, true)) : ZR 141 0 [.val (.ref (kad n (22, 0, 0))), .val (.int p1)] [] (khp n L σ g) cl (.inl (some (.int r10)), khp n L (kup σ 42 0 (Int32.ofInt 0)) (g), false) := by
  have hM : zmi[141]? = some _ := rfl
  refine zr_fr hM rfl rfl rfl ?_
  refine zr_fr hM rfl rfl rfl ?_
  refine zr_putf (κ := (22, 0, 0)) hn hM rfl rfl rfl rfl rfl rfl rfl rfl ?_
  refine zr_fr hM rfl rfl rfl ?_
  refine zr_fr hM rfl rfl rfl ?_
  refine zr_icf hM rfl rfl h1 ?_
  refine zr_fr hM rfl rfl rfl ?_
  refine zr_fr hM rfl rfl rfl ?_
  refine zr_fr hM rfl rfl rfl ?_
  refine zr_getf (κ := (22, 0, 0)) hn hM rfl rfl rfl rfl ?_
  refine zr_fr hM rfl rfl rfl ?_
  refine zr_ict hM rfl rfl h2 ?_
  refine zr_fr hM rfl rfl rfl ?_
  refine zr_fr hM rfl rfl rfl ?_
  refine zr_icf hM rfl rfl h3 ?_
  refine zr_fr hM rfl rfl rfl ?_
  refine zr_fr hM rfl rfl rfl ?_
  refine zr_fr hM rfl rfl rfl ?_
  refine zr_getf (κ := (22, 0, 0)) hn hM rfl rfl rfl rfl ?_
  refine zr_fr hM rfl rfl rfl ?_
  refine zr_ict hM rfl rfl h4 ?_
  refine zr_fr hM rfl rfl rfl ?_
  refine zr_ift hM rfl rfl h5 ?_
  refine zr_fr hM rfl rfl rfl ?_
  refine zr_fr hM rfl rfl rfl ?_
  refine zr_ict hM rfl rfl h6 ?_
  refine zr_fr hM rfl rfl rfl ?_
  refine zr_fr hM rfl rfl rfl ?_
  refine zr_ict hM rfl rfl h7 ?_
  refine zr_fr hM rfl rfl rfl ?_
  refine zr_fr hM rfl rfl rfl ?_
  refine zr_ict hM rfl rfl h8 ?_
  refine zr_fr hM rfl rfl rfl ?_
  refine zr_fr hM rfl rfl rfl ?_
  refine zr_icf hM rfl rfl h9 ?_
  refine zr_fr hM rfl rfl rfl ?_
  refine zr_virt (κ := (22, 0, 0)) hn hM rfl rfl rfl rfl rfl rfl rfl rfl rfl ?_
  refine zgo_ret rfl rfl c10_ ?_
  rw [Bool.and_true]
  refine zr_fr hM rfl rfl rfl ?_
  exact zr_iret2 hM rfl rfl rfl
set_option maxHeartbeats 4000000 in
theorem s141_0_ftftttttt {n L : Nat} {σ : Ks} {g : List Nat} {cl : Bool} {p1 : Int32} (hn : 2 ≤ n ∧ n ≤ 5) (h1 : zcnd .lt p1 (Int32.ofInt 5) = false) (h2 : zcnd .ge p1 ((Int32.ofInt 5) + ((kup σ 42 0 (Int32.ofInt 0)) 42 1)) = true) (h3 : zcnd .lt p1 ((Int8.ofInt 10).toInt32) = false) (h4 : zcnd .ge p1 (((Int8.ofInt 10).toInt32) + ((kup σ 42 0 (Int32.ofInt 0)) 42 1)) = true) (h5 : zcnd .ne p1 0 = true) (h6 : zcnd .ne p1 (Int32.ofInt 1) = true) (h7 : zcnd .ne p1 (Int32.ofInt 2) = true) (h8 : zcnd .ne p1 (Int32.ofInt 3) = true) (h9 : zcnd .ne p1 (Int32.ofInt 4) = true) : ZR 141 0 [.val (.ref (kad n (22, 0, 0))), .val (.int p1)] [] (khp n L σ g) cl (.inl (some (.int (Int32.ofInt (-1)))), khp n L (kup σ 42 0 (Int32.ofInt 0)) (g), false) := by
  have hM : zmi[141]? = some _ := rfl
  refine zr_fr hM rfl rfl rfl ?_
  refine zr_fr hM rfl rfl rfl ?_
  refine zr_putf (κ := (22, 0, 0)) hn hM rfl rfl rfl rfl rfl rfl rfl rfl ?_
  refine zr_fr hM rfl rfl rfl ?_
  refine zr_fr hM rfl rfl rfl ?_
  refine zr_icf hM rfl rfl h1 ?_
  refine zr_fr hM rfl rfl rfl ?_
  refine zr_fr hM rfl rfl rfl ?_
  refine zr_fr hM rfl rfl rfl ?_
  refine zr_getf (κ := (22, 0, 0)) hn hM rfl rfl rfl rfl ?_
  refine zr_fr hM rfl rfl rfl ?_
  refine zr_ict hM rfl rfl h2 ?_
  refine zr_fr hM rfl rfl rfl ?_
  refine zr_fr hM rfl rfl rfl ?_
  refine zr_icf hM rfl rfl h3 ?_
  refine zr_fr hM rfl rfl rfl ?_
  refine zr_fr hM rfl rfl rfl ?_
  refine zr_fr hM rfl rfl rfl ?_
  refine zr_getf (κ := (22, 0, 0)) hn hM rfl rfl rfl rfl ?_
  refine zr_fr hM rfl rfl rfl ?_
  refine zr_ict hM rfl rfl h4 ?_
  refine zr_fr hM rfl rfl rfl ?_
  refine zr_ift hM rfl rfl h5 ?_
  refine zr_fr hM rfl rfl rfl ?_
  refine zr_fr hM rfl rfl rfl ?_
  refine zr_ict hM rfl rfl h6 ?_
  refine zr_fr hM rfl rfl rfl ?_
  refine zr_fr hM rfl rfl rfl ?_
  refine zr_ict hM rfl rfl h7 ?_
  refine zr_fr hM rfl rfl rfl ?_
  refine zr_fr hM rfl rfl rfl ?_
  refine zr_ict hM rfl rfl h8 ?_
  refine zr_fr hM rfl rfl rfl ?_
  refine zr_fr hM rfl rfl rfl ?_
  refine zr_ict hM rfl rfl h9 ?_
  refine zr_fr hM rfl rfl rfl ?_
  exact zr_iret2 hM rfl rfl rfl
set_option maxHeartbeats 4000000 in
theorem s141_0_fttf {n L : Nat} {σ : Ks} {g : List Nat} {cl : Bool} {p1 : Int32} (hn : 2 ≤ n ∧ n ≤ 5) (h1 : zcnd .lt p1 (Int32.ofInt 5) = false) (h2 : zcnd .ge p1 ((Int32.ofInt 5) + ((kup σ 42 0 (Int32.ofInt 0)) 42 1)) = true) (h3 : zcnd .lt p1 ((Int8.ofInt 10).toInt32) = true) (h4 : zcnd .ne p1 0 = false) : ZR 141 0 [.val (.ref (kad n (22, 0, 0))), .val (.int p1)] [] (khp n L σ g) cl (.inl (some (.int ((kup σ 42 0 (Int32.ofInt 0)) 42 1))), khp n L (kup σ 42 0 (Int32.ofInt 0)) (g), false) := by
  have hM : zmi[141]? = some _ := rfl
  refine zr_fr hM rfl rfl rfl ?_
  refine zr_fr hM rfl rfl rfl ?_
  refine zr_putf (κ := (22, 0, 0)) hn hM rfl rfl rfl rfl rfl rfl rfl rfl ?_
  refine zr_fr hM rfl rfl rfl ?_
  refine zr_fr hM rfl rfl rfl ?_
  refine zr_icf hM rfl rfl h1 ?_
  refine zr_fr hM rfl rfl rfl ?_
  refine zr_fr hM rfl rfl rfl ?_
  refine zr_fr hM rfl rfl rfl ?_
  refine zr_getf (κ := (22, 0, 0)) hn hM rfl rfl rfl rfl ?_
  refine zr_fr hM rfl rfl rfl ?_
  refine zr_ict hM rfl rfl h2 ?_
  refine zr_fr hM rfl rfl rfl ?_
  refine zr_fr hM rfl rfl rfl ?_
  refine zr_ict hM rfl rfl h3 ?_
  refine zr_fr hM rfl rfl rfl ?_
  refine zr_iff hM rfl rfl h4 ?_
  refine zr_fr hM rfl rfl rfl ?_
  refine zr_getf (κ := (22, 0, 0)) hn hM rfl rfl rfl rfl ?_
  refine zr_fr hM rfl rfl rfl ?_
  exact zr_iret2 hM rfl rfl rfl
set_option maxHeartbeats 4000000 in
theorem s141_0_ftttf {n L : Nat} {σ : Ks} {g : List Nat} {cl : Bool} {p1 : Int32} (hn : 2 ≤ n ∧ n ≤ 5) (h1 : zcnd .lt p1 (Int32.ofInt 5) = false) (h2 : zcnd .ge p1 ((Int32.ofInt 5) + ((kup σ 42 0 (Int32.ofInt 0)) 42 1)) = true) (h3 : zcnd .lt p1 ((Int8.ofInt 10).toInt32) = true) (h4 : zcnd .ne p1 0 = true) (h5 : zcnd .ne p1 (Int32.ofInt 1) = false) : ZR 141 0 [.val (.ref (kad n (22, 0, 0))), .val (.int p1)] [] (khp n L σ g) cl (.inl (some (.int ((kup σ 42 0 (Int32.ofInt 0)) 42 2))), khp n L (kup σ 42 0 (Int32.ofInt 0)) (g), false) := by
  have hM : zmi[141]? = some _ := rfl
  refine zr_fr hM rfl rfl rfl ?_
  refine zr_fr hM rfl rfl rfl ?_
  refine zr_putf (κ := (22, 0, 0)) hn hM rfl rfl rfl rfl rfl rfl rfl rfl ?_
  refine zr_fr hM rfl rfl rfl ?_
  refine zr_fr hM rfl rfl rfl ?_
  refine zr_icf hM rfl rfl h1 ?_
  refine zr_fr hM rfl rfl rfl ?_
  refine zr_fr hM rfl rfl rfl ?_
  refine zr_fr hM rfl rfl rfl ?_
  refine zr_getf (κ := (22, 0, 0)) hn hM rfl rfl rfl rfl ?_
  refine zr_fr hM rfl rfl rfl ?_
  refine zr_ict hM rfl rfl h2 ?_
  refine zr_fr hM rfl rfl rfl ?_
  refine zr_fr hM rfl rfl rfl ?_
  refine zr_ict hM rfl rfl h3 ?_
  refine zr_fr hM rfl rfl rfl ?_
  refine zr_ift hM rfl rfl h4 ?_
  refine zr_fr hM rfl rfl rfl ?_
  refine zr_fr hM rfl rfl rfl ?_
  refine zr_icf hM rfl rfl h5 ?_
  refine zr_fr hM rfl rfl rfl ?_
  refine zr_getf (κ := (22, 0, 0)) hn hM rfl rfl rfl rfl ?_
  refine zr_fr hM rfl rfl rfl ?_
  exact zr_iret2 hM rfl rfl rfl
set_option maxHeartbeats 4000000 in
theorem s141_0_fttttf {n L : Nat} {σ : Ks} {g : List Nat} {cl : Bool} {p1 : Int32} (hn : 2 ≤ n ∧ n ≤ 5) (h1 : zcnd .lt p1 (Int32.ofInt 5) = false) (h2 : zcnd .ge p1 ((Int32.ofInt 5) + ((kup σ 42 0 (Int32.ofInt 0)) 42 1)) = true) (h3 : zcnd .lt p1 ((Int8.ofInt 10).toInt32) = true) (h4 : zcnd .ne p1 0 = true) (h5 : zcnd .ne p1 (Int32.ofInt 1) = true) (h6 : zcnd .ne p1 (Int32.ofInt 2) = false) : ZR 141 0 [.val (.ref (kad n (22, 0, 0))), .val (.int p1)] [] (khp n L σ g) cl (.inl (some (.int ((kup σ 42 0 (Int32.ofInt 0)) 42 3))), khp n L (kup σ 42 0 (Int32.ofInt 0)) (g), false) := by
  have hM : zmi[141]? = some _ := rfl
  refine zr_fr hM rfl rfl rfl ?_
  refine zr_fr hM rfl rfl rfl ?_
  refine zr_putf (κ := (22, 0, 0)) hn hM rfl rfl rfl rfl rfl rfl rfl rfl ?_
  refine zr_fr hM rfl rfl rfl ?_
  refine zr_fr hM rfl rfl rfl ?_
  refine zr_icf hM rfl rfl h1 ?_
  refine zr_fr hM rfl rfl rfl ?_
  refine zr_fr hM rfl rfl rfl ?_
  refine zr_fr hM rfl rfl rfl ?_
  refine zr_getf (κ := (22, 0, 0)) hn hM rfl rfl rfl rfl ?_
  refine zr_fr hM rfl rfl rfl ?_
  refine zr_ict hM rfl rfl h2 ?_
  refine zr_fr hM rfl rfl rfl ?_
  refine zr_fr hM rfl rfl rfl ?_
  refine zr_ict hM rfl rfl h3 ?_
  refine zr_fr hM rfl rfl rfl ?_
  refine zr_ift hM rfl rfl h4 ?_
  refine zr_fr hM rfl rfl rfl ?_
  refine zr_fr hM rfl rfl rfl ?_
  refine zr_ict hM rfl rfl h5 ?_
  refine zr_fr hM rfl rfl rfl ?_
  refine zr_fr hM rfl rfl rfl ?_
  refine zr_icf hM rfl rfl h6 ?_
  refine zr_fr hM rfl rfl rfl ?_
  refine zr_getf (κ := (22, 0, 0)) hn hM rfl rfl rfl rfl ?_
  refine zr_fr hM rfl rfl rfl ?_
  exact zr_iret2 hM rfl rfl rfl
set_option maxHeartbeats 4000000 in
theorem s141_0_ftttttff {n L : Nat} {σ : Ks} {g : List Nat} {cl : Bool} {p1 : Int32} {r8 : Int32} (hn : 2 ≤ n ∧ n ≤ 5) (h1 : zcnd .lt p1 (Int32.ofInt 5) = false) (h2 : zcnd .ge p1 ((Int32.ofInt 5) + ((kup σ 42 0 (Int32.ofInt 0)) 42 1)) = true) (h3 : zcnd .lt p1 ((Int8.ofInt 10).toInt32) = true) (h4 : zcnd .ne p1 0 = true) (h5 : zcnd .ne p1 (Int32.ofInt 1) = true) (h6 : zcnd .ne p1 (Int32.ofInt 2) = true) (h7 : zcnd .ne p1 (Int32.ofInt 3) = false) (c8_ : ZR 142 0 [.val (.ref (kad n (22, 0, 0))), .unset, .unset, .unset, .unset] [] (khp n L (kup σ 42 0 (Int32.ofInt 0)) g) true (.inl (some (.int r8)), khp n L (kup σ 42 0 (Int32.ofInt 0)) g, true)) (h9 : zcnd .eq r8 0 = false) : ZR 141 0 [.val (.ref (kad n (22, 0, 0))), .val (.int p1)] [] (khp n L σ g) cl (.inl (some (.int (Int32.ofInt 1))), khp n L (kup σ 42 0 (Int32.ofInt 0)) (g), false) := by
  have hM : zmi[141]? = some _ := rfl
  refine zr_fr hM rfl rfl rfl ?_
  refine zr_fr hM rfl rfl rfl ?_
  refine zr_putf (κ := (22, 0, 0)) hn hM rfl rfl rfl rfl rfl rfl rfl rfl ?_
  refine zr_fr hM rfl rfl rfl ?_
  refine zr_fr hM rfl rfl rfl ?_
  refine zr_icf hM rfl rfl h1 ?_
  refine zr_fr hM rfl rfl rfl ?_
  refine zr_fr hM rfl rfl rfl ?_
  refine zr_fr hM rfl rfl rfl ?_
  refine zr_getf (κ := (22, 0, 0)) hn hM rfl rfl rfl rfl ?_
  refine zr_fr hM rfl rfl rfl ?_
  refine zr_ict hM rfl rfl h2 ?_
  refine zr_fr hM rfl rfl rfl ?_
  refine zr_fr hM rfl rfl rfl ?_
  refine zr_ict hM rfl rfl h3 ?_
  refine zr_fr hM rfl rfl rfl ?_
  refine zr_ift hM rfl rfl h4 ?_
  refine zr_fr hM rfl rfl rfl ?_
  refine zr_fr hM rfl rfl rfl ?_
  refine zr_ict hM rfl rfl h5 ?_
  refine zr_fr hM rfl rfl rfl ?_
  refine zr_fr hM rfl rfl rfl ?_
  refine zr_ict hM rfl rfl h6 ?_
  refine zr_fr hM rfl rfl rfl ?_
  refine zr_fr hM rfl rfl rfl ?_
  refine zr_icf hM rfl rfl h7 ?_
  refine zr_fr hM rfl rfl rfl ?_
  refine zr_virt (κ := (22, 0, 0)) hn hM rfl rfl rfl rfl rfl rfl rfl rfl rfl ?_
  refine zgo_ret rfl rfl c8_ ?_
  rw [Bool.and_true]
  refine zr_iff hM rfl rfl h9 ?_
  refine zr_fr hM rfl rfl rfl ?_
  refine zr_fr hM rfl rfl rfl ?_
  exact zr_iret2 hM rfl rfl rfl
set_option maxHeartbeats 4000000 in
theorem s141_0_ftttttft {n L : Nat} {σ : Ks} {g : List Nat} {cl : Bool} {p1 : Int32} {r8 : Int32} (hn : 2 ≤ n ∧ n ≤ 5) (h1 : zcnd .lt p1 (Int32.ofInt 5) = false) (h2 : zcnd .ge p1 ((Int32.ofInt 5) + ((kup σ 42 0 (Int32.ofInt 0)) 42 1)) = true) (h3 : zcnd .lt p1 ((Int8.ofInt 10).toInt32) = true) (h4 : zcnd .ne p1 0 = true) (h5 : zcnd .ne p1 (Int32.ofInt 1) = true) (h6 : zcnd .ne p1 (Int32.ofInt 2) = true) (h7 : zcnd .ne p1 (Int32.ofInt 3) = false) (c8_ : ZR 142 0 [.val (.ref (kad n (22, 0, 0))), .unset, .unset, .unset, .unset] [] (khp n L (kup σ 42 0 (Int32.ofInt 0)) g) true (.inl (some (.int r8)), khp n L (kup σ 42 0 (Int32.ofInt 0)) g, true)) (h9 : zcnd .eq r8 0 = true) : ZR 141 0 [.val (.ref (kad n (22, 0, 0))), .val (.int p1)] [] (khp n L σ g) cl (.inl (some (.int (Int32.ofInt 0))), khp n L (kup σ 42 0 (Int32.ofInt 0)) (g), false) := by
  have hM : zmi[141]? = some _ := rfl
  refine zr_fr hM rfl rfl rfl ?_
  refine zr_fr hM rfl rfl rfl ?_
  refine zr_putf (κ := (22, 0, 0)) hn hM rfl rfl rfl rfl rfl rfl rfl rfl ?_
  refine zr_fr hM rfl rfl rfl ?_
  refine zr_fr hM rfl rfl rfl ?_
  refine zr_icf hM rfl rfl h1 ?_
  refine zr_fr hM rfl rfl rfl ?_
  refine zr_fr hM rfl rfl rfl ?_
  refine zr_fr hM rfl rfl rfl ?_
  refine zr_getf (κ := (22, 0, 0)) hn hM rfl rfl rfl rfl ?_
  refine zr_fr hM rfl rfl rfl ?_
  refine zr_ict hM rfl rfl h2 ?_
  refine zr_fr hM rfl rfl rfl ?_
  refine zr_fr hM rfl rfl rfl ?_
  refine zr_ict hM rfl rfl h3 ?_
  refine zr_fr hM rfl rfl rfl ?_
  refine zr_ift hM rfl rfl h4 ?_
  refine zr_fr hM rfl rfl rfl ?_
  refine zr_fr hM rfl rfl rfl ?_
  refine zr_ict hM rfl rfl h5 ?_
  refine zr_fr hM rfl rfl rfl ?_
  refine zr_fr hM rfl rfl rfl ?_
  refine zr_ict hM rfl rfl h6 ?_
  refine zr_fr hM rfl rfl rfl ?_
  refine zr_fr hM rfl rfl rfl ?_
  refine zr_icf hM rfl rfl h7 ?_
  refine zr_fr hM rfl rfl rfl ?_
  refine zr_virt (κ := (22, 0, 0)) hn hM rfl rfl rfl rfl rfl rfl rfl rfl rfl ?_
  refine zgo_ret rfl rfl c8_ ?_
  rw [Bool.and_true]
  refine zr_ift hM rfl rfl h9 ?_
  refine zr_fr hM rfl rfl rfl ?_
  refine zr_fr hM rfl rfl rfl ?_
  exact zr_iret2 hM rfl rfl rfl
set_option maxHeartbeats 4000000 in
theorem s141_0_fttttttf {n L : Nat} {σ : Ks} {g : List Nat} {cl : Bool} {p1 : Int32} {r9 : Int32} (hn : 2 ≤ n ∧ n ≤ 5) (h1 : zcnd .lt p1 (Int32.ofInt 5) = false) (h2 : zcnd .ge p1 ((Int32.ofInt 5) + ((kup σ 42 0 (Int32.ofInt 0)) 42 1)) = true) (h3 : zcnd .lt p1 ((Int8.ofInt 10).toInt32) = true) (h4 : zcnd .ne p1 0 = true) (h5 : zcnd .ne p1 (Int32.ofInt 1) = true) (h6 : zcnd .ne p1 (Int32.ofInt 2) = true) (h7 : zcnd .ne p1 (Int32.ofInt 3) = true) (h8 : zcnd .ne p1 (Int32.ofInt 4) = false) (c9_ : ZR 143 0 [.val (.ref (kad n (22, 0, 0))), .unset, .unset, .unset] [] (khp n L (kup σ 42 0 (Int32.ofInt 0)) g) true (.inl (some (.int r9)), khp n L (kup σ 42 0 (Int32.ofInt 0)) g, true)) : ZR 141 0 [.val (.ref (kad n (22, 0, 0))), .val (.int p1)] [] (khp n L σ g) cl (.inl (some (.int r9)), khp n L (kup σ 42 0 (Int32.ofInt 0)) (g), false) := by
  have hM : zmi[141]? = some _ := rfl
  refine zr_fr hM rfl rfl rfl ?_
  refine zr_fr hM rfl rfl rfl ?_
  refine zr_putf (κ := (22, 0, 0)) hn hM rfl rfl rfl rfl rfl rfl rfl rfl ?_
  refine zr_fr hM rfl rfl rfl ?_
  refine zr_fr hM rfl rfl rfl ?_
  refine zr_icf hM rfl rfl h1 ?_
  refine zr_fr hM rfl rfl rfl ?_
  refine zr_fr hM rfl rfl rfl ?_
  refine zr_fr hM rfl rfl rfl ?_
  refine zr_getf (κ := (22, 0, 0)) hn hM rfl rfl rfl rfl ?_
  refine zr_fr hM rfl rfl rfl ?_
  refine zr_ict hM rfl rfl h2 ?_
  refine zr_fr hM rfl rfl rfl ?_
  refine zr_fr hM rfl rfl rfl ?_
  refine zr_ict hM rfl rfl h3 ?_
  refine zr_fr hM rfl rfl rfl ?_
  refine zr_ift hM rfl rfl h4 ?_
  refine zr_fr hM rfl rfl rfl ?_
  refine zr_fr hM rfl rfl rfl ?_
  refine zr_ict hM rfl rfl h5 ?_
  refine zr_fr hM rfl rfl rfl ?_
  refine zr_fr hM rfl rfl rfl ?_
  refine zr_ict hM rfl rfl h6 ?_
  refine zr_fr hM rfl rfl rfl ?_
  refine zr_fr hM rfl rfl rfl ?_
  refine zr_ict hM rfl rfl h7 ?_
  refine zr_fr hM rfl rfl rfl ?_
  refine zr_fr hM rfl rfl rfl ?_
  refine zr_icf hM rfl rfl h8 ?_
  refine zr_fr hM rfl rfl rfl ?_
  refine zr_virt (κ := (22, 0, 0)) hn hM rfl rfl rfl rfl rfl rfl rfl rfl rfl ?_
  refine zgo_ret rfl rfl c9_ ?_
  rw [Bool.and_true]
  refine zr_fr hM rfl rfl rfl ?_
  exact zr_iret2 hM rfl rfl rfl
set_option maxHeartbeats 4000000 in
theorem s141_0_fttttttt {n L : Nat} {σ : Ks} {g : List Nat} {cl : Bool} {p1 : Int32} (hn : 2 ≤ n ∧ n ≤ 5) (h1 : zcnd .lt p1 (Int32.ofInt 5) = false) (h2 : zcnd .ge p1 ((Int32.ofInt 5) + ((kup σ 42 0 (Int32.ofInt 0)) 42 1)) = true) (h3 : zcnd .lt p1 ((Int8.ofInt 10).toInt32) = true) (h4 : zcnd .ne p1 0 = true) (h5 : zcnd .ne p1 (Int32.ofInt 1) = true) (h6 : zcnd .ne p1 (Int32.ofInt 2) = true) (h7 : zcnd .ne p1 (Int32.ofInt 3) = true) (h8 : zcnd .ne p1 (Int32.ofInt 4) = true) : ZR 141 0 [.val (.ref (kad n (22, 0, 0))), .val (.int p1)] [] (khp n L σ g) cl (.inl (some (.int (Int32.ofInt (-1)))), khp n L (kup σ 42 0 (Int32.ofInt 0)) (g), false) := by
  have hM : zmi[141]? = some _ := rfl
  refine zr_fr hM rfl rfl rfl ?_
  refine zr_fr hM rfl rfl rfl ?_
  refine zr_putf (κ := (22, 0, 0)) hn hM rfl rfl rfl rfl rfl rfl rfl rfl ?_
  refine zr_fr hM rfl rfl rfl ?_
  refine zr_fr hM rfl rfl rfl ?_
  refine zr_icf hM rfl rfl h1 ?_
  refine zr_fr hM rfl rfl rfl ?_
  refine zr_fr hM rfl rfl rfl ?_
  refine zr_fr hM rfl rfl rfl ?_
  refine zr_getf (κ := (22, 0, 0)) hn hM rfl rfl rfl rfl ?_
  refine zr_fr hM rfl rfl rfl ?_
  refine zr_ict hM rfl rfl h2 ?_
  refine zr_fr hM rfl rfl rfl ?_
  refine zr_fr hM rfl rfl rfl ?_
  refine zr_ict hM rfl rfl h3 ?_
  refine zr_fr hM rfl rfl rfl ?_
  refine zr_ift hM rfl rfl h4 ?_
  refine zr_fr hM rfl rfl rfl ?_
  refine zr_fr hM rfl rfl rfl ?_
  refine zr_ict hM rfl rfl h5 ?_
  refine zr_fr hM rfl rfl rfl ?_
  refine zr_fr hM rfl rfl rfl ?_
  refine zr_ict hM rfl rfl h6 ?_
  refine zr_fr hM rfl rfl rfl ?_
  refine zr_fr hM rfl rfl rfl ?_
  refine zr_ict hM rfl rfl h7 ?_
  refine zr_fr hM rfl rfl rfl ?_
  refine zr_fr hM rfl rfl rfl ?_
  refine zr_ict hM rfl rfl h8 ?_
  refine zr_fr hM rfl rfl rfl ?_
  exact zr_iret2 hM rfl rfl rfl
set_option maxHeartbeats 4000000 in
theorem s141_0_tfff {n L : Nat} {σ : Ks} {g : List Nat} {cl : Bool} {p1 : Int32} {x4 : Nat} (hn : 2 ≤ n ∧ n ≤ 5) (h1 : zcnd .lt p1 (Int32.ofInt 5) = true) (h2 : zcnd .lt p1 ((Int8.ofInt 10).toInt32) = false) (h3 : zcnd .ge p1 (((Int8.ofInt 10).toInt32) + ((kup σ 42 0 (Int32.ofInt 0)) 42 1)) = false) (z4 : zix (p1 - ((Int8.ofInt 10).toInt32)) 5 = some x4) (h5 : zcnd .eq ((kup σ 42 0 (Int32.ofInt 0)) 40 x4) 0 = false) : ZR 141 0 [.val (.ref (kad n (22, 0, 0))), .val (.int p1)] [] (khp n L σ g) cl (.inl (some (.int (Int32.ofInt 0))), khp n L (kup σ 42 0 (Int32.ofInt 0)) (g), false) := by
  have hM : zmi[141]? = some _ := rfl
  have l4 := (zix_some z4).2.2
  refine zr_fr hM rfl rfl rfl ?_
  refine zr_fr hM rfl rfl rfl ?_
  refine zr_putf (κ := (22, 0, 0)) hn hM rfl rfl rfl rfl rfl rfl rfl rfl ?_
  refine zr_fr hM rfl rfl rfl ?_
  refine zr_fr hM rfl rfl rfl ?_
  refine zr_ict hM rfl rfl h1 ?_
  refine zr_fr hM rfl rfl rfl ?_
  refine zr_fr hM rfl rfl rfl ?_
  refine zr_icf hM rfl rfl h2 ?_
  refine zr_fr hM rfl rfl rfl ?_
  refine zr_fr hM rfl rfl rfl ?_
  refine zr_fr hM rfl rfl rfl ?_
  refine zr_getf (κ := (22, 0, 0)) hn hM rfl rfl rfl rfl ?_
  refine zr_fr hM rfl rfl rfl ?_
  refine zr_icf hM rfl rfl h3 ?_
  refine zr_fr hM rfl rfl rfl ?_
  refine zr_getf (κ := (22, 0, 0)) hn hM rfl rfl rfl rfl ?_
  refine zr_fr hM rfl rfl rfl ?_
  refine zr_fr hM rfl rfl rfl ?_
  refine zr_fr hM rfl rfl rfl ?_
  refine zr_bald (κ := (25, 0, 0)) hn hM rfl rfl rfl z4 ?_
  refine zr_iff hM rfl rfl h5 ?_
  refine zr_fr hM rfl rfl rfl ?_
  refine zr_fr hM rfl rfl rfl ?_
  exact zr_iret2 hM rfl rfl rfl
set_option maxHeartbeats 4000000 in
theorem s141_0_tfft {n L : Nat} {σ : Ks} {g : List Nat} {cl : Bool} {p1 : Int32} {x4 : Nat} (hn : 2 ≤ n ∧ n ≤ 5) (h1 : zcnd .lt p1 (Int32.ofInt 5) = true) (h2 : zcnd .lt p1 ((Int8.ofInt 10).toInt32) = false) (h3 : zcnd .ge p1 (((Int8.ofInt 10).toInt32) + ((kup σ 42 0 (Int32.ofInt 0)) 42 1)) = false) (z4 : zix (p1 - ((Int8.ofInt 10).toInt32)) 5 = some x4) (h5 : zcnd .eq ((kup σ 42 0 (Int32.ofInt 0)) 40 x4) 0 = true) : ZR 141 0 [.val (.ref (kad n (22, 0, 0))), .val (.int p1)] [] (khp n L σ g) cl (.inl (some (.int (Int32.ofInt 1))), khp n L (kup σ 42 0 (Int32.ofInt 0)) (g), false) := by
  have hM : zmi[141]? = some _ := rfl
  have l4 := (zix_some z4).2.2
  refine zr_fr hM rfl rfl rfl ?_
  refine zr_fr hM rfl rfl rfl ?_
  refine zr_putf (κ := (22, 0, 0)) hn hM rfl rfl rfl rfl rfl rfl rfl rfl ?_
  refine zr_fr hM rfl rfl rfl ?_
  refine zr_fr hM rfl rfl rfl ?_
  refine zr_ict hM rfl rfl h1 ?_
  refine zr_fr hM rfl rfl rfl ?_
  refine zr_fr hM rfl rfl rfl ?_
  refine zr_icf hM rfl rfl h2 ?_
  refine zr_fr hM rfl rfl rfl ?_
  refine zr_fr hM rfl rfl rfl ?_
  refine zr_fr hM rfl rfl rfl ?_
  refine zr_getf (κ := (22, 0, 0)) hn hM rfl rfl rfl rfl ?_
  refine zr_fr hM rfl rfl rfl ?_
  refine zr_icf hM rfl rfl h3 ?_
  refine zr_fr hM rfl rfl rfl ?_
  refine zr_getf (κ := (22, 0, 0)) hn hM rfl rfl rfl rfl ?_
  refine zr_fr hM rfl rfl rfl ?_
  refine zr_fr hM rfl rfl rfl ?_
  refine zr_fr hM rfl rfl rfl ?_
  refine zr_bald (κ := (25, 0, 0)) hn hM rfl rfl rfl z4 ?_
  refine zr_ift hM rfl rfl h5 ?_
  refine zr_fr hM rfl rfl rfl ?_
  exact zr_iret2 hM rfl rfl rfl
set_option maxHeartbeats 4000000 in
theorem s141_0_tftf {n L : Nat} {σ : Ks} {g : List Nat} {cl : Bool} {p1 : Int32} (hn : 2 ≤ n ∧ n ≤ 5) (h1 : zcnd .lt p1 (Int32.ofInt 5) = true) (h2 : zcnd .lt p1 ((Int8.ofInt 10).toInt32) = false) (h3 : zcnd .ge p1 (((Int8.ofInt 10).toInt32) + ((kup σ 42 0 (Int32.ofInt 0)) 42 1)) = true) (h4 : zcnd .ne p1 0 = false) : ZR 141 0 [.val (.ref (kad n (22, 0, 0))), .val (.int p1)] [] (khp n L σ g) cl (.inl (some (.int ((kup σ 42 0 (Int32.ofInt 0)) 42 1))), khp n L (kup σ 42 0 (Int32.ofInt 0)) (g), false) := by
  have hM : zmi[141]? = some _ := rfl
  refine zr_fr hM rfl rfl rfl ?_
  refine zr_fr hM rfl rfl rfl ?_
  refine zr_putf (κ := (22, 0, 0)) hn hM rfl rfl rfl rfl rfl rfl rfl rfl ?_
  refine zr_fr hM rfl rfl rfl ?_
  refine zr_fr hM rfl rfl rfl ?_
  refine zr_ict hM rfl rfl h1 ?_
  refine zr_fr hM rfl rfl rfl ?_
  refine zr_fr hM rfl rfl rfl ?_
  refine zr_icf hM rfl rfl h2 ?_
  refine zr_fr hM rfl rfl rfl ?_
  refine zr_fr hM rfl rfl rfl ?_
  refine zr_fr hM rfl rfl rfl ?_
  refine zr_getf (κ := (22, 0, 0)) hn hM rfl rfl rfl rfl ?_
  refine zr_fr hM rfl rfl rfl ?_
  refine zr_ict hM rfl rfl h3 ?_
  refine zr_fr hM rfl rfl rfl ?_
  refine zr_iff hM rfl rfl h4 ?_
  refine zr_fr hM rfl rfl rfl ?_
  refine zr_getf (κ := (22, 0, 0)) hn hM rfl rfl rfl rfl ?_
  refine zr_fr hM rfl rfl rfl ?_
  exact zr_iret2 hM rfl rfl rfl
set_option maxHeartbeats 4000000 in
theorem s141_0_tfttf {n L : Nat} {σ : Ks} {g : List Nat} {cl : Bool} {p1 : Int32} (hn : 2 ≤ n ∧ n ≤ 5) (h1 : zcnd .lt p1 (Int32.ofInt 5) = true) (h2 : zcnd .lt p1 ((Int8.ofInt 10).toInt32) = false) (h3 : zcnd .ge p1 (((Int8.ofInt 10).toInt32) + ((kup σ 42 0 (Int32.ofInt 0)) 42 1)) = true) (h4 : zcnd .ne p1 0 = true) (h5 : zcnd .ne p1 (Int32.ofInt 1) = false) : ZR 141 0 [.val (.ref (kad n (22, 0, 0))), .val (.int p1)] [] (khp n L σ g) cl (.inl (some (.int ((kup σ 42 0 (Int32.ofInt 0)) 42 2))), khp n L (kup σ 42 0 (Int32.ofInt 0)) (g), false) := by
  have hM : zmi[141]? = some _ := rfl
  refine zr_fr hM rfl rfl rfl ?_
  refine zr_fr hM rfl rfl rfl ?_
  refine zr_putf (κ := (22, 0, 0)) hn hM rfl rfl rfl rfl rfl rfl rfl rfl ?_
  refine zr_fr hM rfl rfl rfl ?_
  refine zr_fr hM rfl rfl rfl ?_
  refine zr_ict hM rfl rfl h1 ?_
  refine zr_fr hM rfl rfl rfl ?_
  refine zr_fr hM rfl rfl rfl ?_
  refine zr_icf hM rfl rfl h2 ?_
  refine zr_fr hM rfl rfl rfl ?_
  refine zr_fr hM rfl rfl rfl ?_
  refine zr_fr hM rfl rfl rfl ?_
  refine zr_getf (κ := (22, 0, 0)) hn hM rfl rfl rfl rfl ?_
  refine zr_fr hM rfl rfl rfl ?_
  refine zr_ict hM rfl rfl h3 ?_
  refine zr_fr hM rfl rfl rfl ?_
  refine zr_ift hM rfl rfl h4 ?_
  refine zr_fr hM rfl rfl rfl ?_
  refine zr_fr hM rfl rfl rfl ?_
  refine zr_icf hM rfl rfl h5 ?_
  refine zr_fr hM rfl rfl rfl ?_
  refine zr_getf (κ := (22, 0, 0)) hn hM rfl rfl rfl rfl ?_
  refine zr_fr hM rfl rfl rfl ?_
  exact zr_iret2 hM rfl rfl rfl
set_option maxHeartbeats 4000000 in
theorem s141_0_tftttf {n L : Nat} {σ : Ks} {g : List Nat} {cl : Bool} {p1 : Int32} (hn : 2 ≤ n ∧ n ≤ 5) (h1 : zcnd .lt p1 (Int32.ofInt 5) = true) (h2 : zcnd .lt p1 ((Int8.ofInt 10).toInt32) = false) (h3 : zcnd .ge p1 (((Int8.ofInt 10).toInt32) + ((kup σ 42 0 (Int32.ofInt 0)) 42 1)) = true) (h4 : zcnd .ne p1 0 = true) (h5 : zcnd .ne p1 (Int32.ofInt 1) = true) (h6 : zcnd .ne p1 (Int32.ofInt 2) = false) : ZR 141 0 [.val (.ref (kad n (22, 0, 0))), .val (.int p1)] [] (khp n L σ g) cl (.inl (some (.int ((kup σ 42 0 (Int32.ofInt 0)) 42 3))), khp n L (kup σ 42 0 (Int32.ofInt 0)) (g), false) := by
  have hM : zmi[141]? = some _ := rfl
  refine zr_fr hM rfl rfl rfl ?_
  refine zr_fr hM rfl rfl rfl ?_
  refine zr_putf (κ := (22, 0, 0)) hn hM rfl rfl rfl rfl rfl rfl rfl rfl ?_
  refine zr_fr hM rfl rfl rfl ?_
  refine zr_fr hM rfl rfl rfl ?_
  refine zr_ict hM rfl rfl h1 ?_
  refine zr_fr hM rfl rfl rfl ?_
  refine zr_fr hM rfl rfl rfl ?_
  refine zr_icf hM rfl rfl h2 ?_
  refine zr_fr hM rfl rfl rfl ?_
  refine zr_fr hM rfl rfl rfl ?_
  refine zr_fr hM rfl rfl rfl ?_
  refine zr_getf (κ := (22, 0, 0)) hn hM rfl rfl rfl rfl ?_
  refine zr_fr hM rfl rfl rfl ?_
  refine zr_ict hM rfl rfl h3 ?_
  refine zr_fr hM rfl rfl rfl ?_
  refine zr_ift hM rfl rfl h4 ?_
  refine zr_fr hM rfl rfl rfl ?_
  refine zr_fr hM rfl rfl rfl ?_
  refine zr_ict hM rfl rfl h5 ?_
  refine zr_fr hM rfl rfl rfl ?_
  refine zr_fr hM rfl rfl rfl ?_
  refine zr_icf hM rfl rfl h6 ?_
  refine zr_fr hM rfl rfl rfl ?_
  refine zr_getf (κ := (22, 0, 0)) hn hM rfl rfl rfl rfl ?_
  refine zr_fr hM rfl rfl rfl ?_
  exact zr_iret2 hM rfl rfl rfl
set_option maxHeartbeats 4000000 in
theorem s141_0_tfttttff {n L : Nat} {σ : Ks} {g : List Nat} {cl : Bool} {p1 : Int32} {r8 : Int32} (hn : 2 ≤ n ∧ n ≤ 5) (h1 : zcnd .lt p1 (Int32.ofInt 5) = true) (h2 : zcnd .lt p1 ((Int8.ofInt 10).toInt32) = false) (h3 : zcnd .ge p1 (((Int8.ofInt 10).toInt32) + ((kup σ 42 0 (Int32.ofInt 0)) 42 1)) = true) (h4 : zcnd .ne p1 0 = true) (h5 : zcnd .ne p1 (Int32.ofInt 1) = true) (h6 : zcnd .ne p1 (Int32.ofInt 2) = true) (h7 : zcnd .ne p1 (Int32.ofInt 3) = false) (c8_ : ZR 142 0 [.val (.ref (kad n (22, 0, 0))), .unset, .unset, .unset, .unset] [] (khp n L (kup σ 42 0 (Int32.ofInt 0)) g) true (.inl (some (.int r8)), khp n L (kup σ 42 0 (Int32.ofInt 0)) g, true)) (h9 : zcnd .eq r8 0 = false) : ZR 141 0 [.val (.ref (kad n (22, 0, 0))), .val (.int p1)] [] (khp n L σ g) cl (.inl (some (.int (Int32.ofInt 1))), khp n L (kup σ 42 0 (Int32.ofInt 0)) (g), false) := by
  have hM : zmi[141]? = some _ := rfl
  refine zr_fr hM rfl rfl rfl ?_
  refine zr_fr hM rfl rfl rfl ?_
  refine zr_putf (κ := (22, 0, 0)) hn hM rfl rfl rfl rfl rfl rfl rfl rfl ?_
  refine zr_fr hM rfl rfl rfl ?_
  refine zr_fr hM rfl rfl rfl ?_
  refine zr_ict hM rfl rfl h1 ?_
  refine zr_fr hM rfl rfl rfl ?_
  refine zr_fr hM rfl rfl rfl ?_
  refine zr_icf hM rfl rfl h2 ?_
  refine zr_fr hM rfl rfl rfl ?_
  refine zr_fr hM rfl rfl rfl ?_
  refine zr_fr hM rfl rfl rfl ?_
  refine zr_getf (κ := (22, 0, 0)) hn hM rfl rfl rfl rfl ?_
  refine zr_fr hM rfl rfl rfl ?_
  refine zr_ict hM rfl rfl h3 ?_
  refine zr_fr hM rfl rfl rfl ?_
  refine zr_ift hM rfl rfl h4 ?_
  refine zr_fr hM rfl rfl rfl ?_
  refine zr_fr hM rfl rfl rfl ?_
  refine zr_ict hM rfl rfl h5 ?_
  refine zr_fr hM rfl rfl rfl ?_
  refine zr_fr hM rfl rfl rfl ?_
  refine zr_ict hM rfl rfl h6 ?_
  refine zr_fr hM rfl rfl rfl ?_
  refine zr_fr hM rfl rfl rfl ?_
  refine zr_icf hM rfl rfl h7 ?_
  refine zr_fr hM rfl rfl rfl ?_
  refine zr_virt (κ := (22, 0, 0)) hn hM rfl rfl rfl rfl rfl rfl rfl rfl rfl ?_
  refine zgo_ret rfl rfl c8_ ?_
  rw [Bool.and_true]
  refine zr_iff hM rfl rfl h9 ?_
  refine zr_fr hM rfl rfl rfl ?_
  refine zr_fr hM rfl rfl rfl ?_
  exact zr_iret2 hM rfl rfl rfl
set_option maxHeartbeats 4000000 in
theorem s141_0_tfttttft {n L : Nat} {σ : Ks} {g : List Nat} {cl : Bool} {p1 : Int32} {r8 : Int32} (hn : 2 ≤ n ∧ n ≤ 5) (h1 : zcnd .lt p1 (Int32.ofInt 5) = true) (h2 : zcnd .lt p1 ((Int8.ofInt 10).toInt32) = false) (h3 : zcnd .ge p1 (((Int8.ofInt 10).toInt32) + ((kup σ 42 0 (Int32.ofInt 0)) 42 1)) = true) (h4 : zcnd .ne p1 0 = true) (h5 : zcnd .ne p1 (Int32.ofInt 1) = true) (h6 : zcnd .ne p1 (Int32.ofInt 2) = true) (h7 : zcnd .ne p1 (Int32.ofInt 3) = false) (c8_ : ZR 142 0 [.val (.ref (kad n (22, 0, 0))), .unset, .unset, .unset, .unset] [] (khp n L (kup σ 42 0 (Int32.ofInt 0)) g) true (.inl (some (.int r8)), khp n L (kup σ 42 0 (Int32.ofInt 0)) g, true)) (h9 : zcnd .eq r8 0 = true) : ZR 141 0 [.val (.ref (kad n (22, 0, 0))), .val (.int p1)] [] (khp n L σ g) cl (.inl (some (.int (Int32.ofInt 0))), khp n L (kup σ 42 0 (Int32.ofInt 0)) (g), false) := by
  have hM : zmi[141]? = some _ := rfl
  refine zr_fr hM rfl rfl rfl ?_
  refine zr_fr hM rfl rfl rfl ?_
  refine zr_putf (κ := (22, 0, 0)) hn hM rfl rfl rfl rfl rfl rfl rfl rfl ?_
  refine zr_fr hM rfl rfl rfl ?_
  refine zr_fr hM rfl rfl rfl ?_
  refine zr_ict hM rfl rfl h1 ?_
  refine zr_fr hM rfl rfl rfl ?_
  refine zr_fr hM rfl rfl rfl ?_
  refine zr_icf hM rfl rfl h2 ?_
  refine zr_fr hM rfl rfl rfl ?_
  refine zr_fr hM rfl rfl rfl ?_
  refine zr_fr hM rfl rfl rfl ?_
  refine zr_getf (κ := (22, 0, 0)) hn hM rfl rfl rfl rfl ?_
  refine zr_fr hM rfl rfl rfl ?_
  refine zr_ict hM rfl rfl h3 ?_
  refine zr_fr hM rfl rfl rfl ?_
  refine zr_ift hM rfl rfl h4 ?_
  refine zr_fr hM rfl rfl rfl ?_
  refine zr_fr hM rfl rfl rfl ?_
  refine zr_ict hM rfl rfl h5 ?_
  refine zr_fr hM rfl rfl rfl ?_
  refine zr_fr hM rfl rfl rfl ?_
  refine zr_ict hM rfl rfl h6 ?_
  refine zr_fr hM rfl rfl rfl ?_
  refine zr_fr hM rfl rfl rfl ?_
  refine zr_icf hM rfl rfl h7 ?_
  refine zr_fr hM rfl rfl rfl ?_
  refine zr_virt (κ := (22, 0, 0)) hn hM rfl rfl rfl rfl rfl rfl rfl rfl rfl ?_
  refine zgo_ret rfl rfl c8_ ?_
  rw [Bool.and_true]
  refine zr_ift hM rfl rfl h9 ?_
  refine zr_fr hM rfl rfl rfl ?_
  refine zr_fr hM rfl rfl rfl ?_
  exact zr_iret2 hM rfl rfl rfl
set_option maxHeartbeats 4000000 in
theorem s141_0_tftttttf {n L : Nat} {σ : Ks} {g : List Nat} {cl : Bool} {p1 : Int32} {r9 : Int32} (hn : 2 ≤ n ∧ n ≤ 5) (h1 : zcnd .lt p1 (Int32.ofInt 5) = true) (h2 : zcnd .lt p1 ((Int8.ofInt 10).toInt32) = false) (h3 : zcnd .ge p1 (((Int8.ofInt 10).toInt32) + ((kup σ 42 0 (Int32.ofInt 0)) 42 1)) = true) (h4 : zcnd .ne p1 0 = true) (h5 : zcnd .ne p1 (Int32.ofInt 1) = true) (h6 : zcnd .ne p1 (Int32.ofInt 2) = true) (h7 : zcnd .ne p1 (Int32.ofInt 3) = true) (h8 : zcnd .ne p1 (Int32.ofInt 4) = false) (c9_ : ZR 143 0 [.val (.ref (kad n (22, 0, 0))), .unset, .unset, .unset] [] (khp n L (kup σ 42 0 (Int32.ofInt 0)) g) true (.inl (some (.int r9)), khp n L (kup σ 42 0 (Int32.ofInt 0)) g, true)) : ZR 141 0 [.val (.ref (kad n (22, 0, 0))), .val (.int p1)] [] (khp n L σ g) cl (.inl (some (.int r9)), khp n L (kup σ 42 0 (Int32.ofInt 0)) (g), false) := by
  have hM : zmi[141]? = some _ := rfl
  refine zr_fr hM rfl rfl rfl ?_
  refine zr_fr hM rfl rfl rfl ?_
  refine zr_putf (κ := (22, 0, 0)) hn hM rfl rfl rfl rfl rfl rfl rfl rfl ?_
  refine zr_fr hM rfl rfl rfl ?_
  refine zr_fr hM rfl rfl rfl ?_
  refine zr_ict hM rfl rfl h1 ?_
  refine zr_fr hM rfl rfl rfl ?_
  refine zr_fr hM rfl rfl rfl ?_
  refine zr_icf hM rfl rfl h2 ?_
  refine zr_fr hM rfl rfl rfl ?_
  refine zr_fr hM rfl rfl rfl ?_
  refine zr_fr hM rfl rfl rfl ?_
  refine zr_getf (κ := (22, 0, 0)) hn hM rfl rfl rfl rfl ?_
  refine zr_fr hM rfl rfl rfl ?_
  refine zr_ict hM rfl rfl h3 ?_
  refine zr_fr hM rfl rfl rfl ?_
  refine zr_ift hM rfl rfl h4 ?_
  refine zr_fr hM rfl rfl rfl ?_
  refine zr_fr hM rfl rfl rfl ?_
  refine zr_ict hM rfl rfl h5 ?_
  refine zr_fr hM rfl rfl rfl ?_
  refine zr_fr hM rfl rfl rfl ?_
  refine zr_ict hM rfl rfl h6 ?_
  refine zr_fr hM rfl rfl rfl ?_
  refine zr_fr hM rfl rfl rfl ?_
  refine zr_ict hM rfl rfl h7 ?_
  refine zr_fr hM rfl rfl rfl ?_
  refine zr_fr hM rfl rfl rfl ?_
  refine zr_icf hM rfl rfl h8 ?_
  refine zr_fr hM rfl rfl rfl ?_
  refine zr_virt (κ := (22, 0, 0)) hn hM rfl rfl rfl rfl rfl rfl rfl rfl rfl ?_
  refine zgo_ret rfl rfl c9_ ?_
  rw [Bool.and_true]
  refine zr_fr hM rfl rfl rfl ?_
  exact zr_iret2 hM rfl rfl rfl
set_option maxHeartbeats 4000000 in
theorem s141_0_tftttttt {n L : Nat} {σ : Ks} {g : List Nat} {cl : Bool} {p1 : Int32} (hn : 2 ≤ n ∧ n ≤ 5) (h1 : zcnd .lt p1 (Int32.ofInt 5) = true) (h2 : zcnd .lt p1 ((Int8.ofInt 10).toInt32) = false) (h3 : zcnd .ge p1 (((Int8.ofInt 10).toInt32) + ((kup σ 42 0 (Int32.ofInt 0)) 42 1)) = true) (h4 : zcnd .ne p1 0 = true) (h5 : zcnd .ne p1 (Int32.ofInt 1) = true) (h6 : zcnd .ne p1 (Int32.ofInt 2) = true) (h7 : zcnd .ne p1 (Int32.ofInt 3) = true) (h8 : zcnd .ne p1 (Int32.ofInt 4) = true) : ZR 141 0 [.val (.ref (kad n (22, 0, 0))), .val (.int p1)] [] (khp n L σ g) cl (.inl (some (.int (Int32.ofInt (-1)))), khp n L (kup σ 42 0 (Int32.ofInt 0)) (g), false) := by
  have hM : zmi[141]? = some _ := rfl
  refine zr_fr hM rfl rfl rfl ?_
  refine zr_fr hM rfl rfl rfl ?_
  refine zr_putf (κ := (22, 0, 0)) hn hM rfl rfl rfl rfl rfl rfl rfl rfl ?_
  refine zr_fr hM rfl rfl rfl ?_
  refine zr_fr hM rfl rfl rfl ?_
  refine zr_ict hM rfl rfl h1 ?_
  refine zr_fr hM rfl rfl rfl ?_
  refine zr_fr hM rfl rfl rfl ?_
  refine zr_icf hM rfl rfl h2 ?_
  refine zr_fr hM rfl rfl rfl ?_
  refine zr_fr hM rfl rfl rfl ?_
  refine zr_fr hM rfl rfl rfl ?_
  refine zr_getf (κ := (22, 0, 0)) hn hM rfl rfl rfl rfl ?_
  refine zr_fr hM rfl rfl rfl ?_
  refine zr_ict hM rfl rfl h3 ?_
  refine zr_fr hM rfl rfl rfl ?_
  refine zr_ift hM rfl rfl h4 ?_
  refine zr_fr hM rfl rfl rfl ?_
  refine zr_fr hM rfl rfl rfl ?_
  refine zr_ict hM rfl rfl h5 ?_
  refine zr_fr hM rfl rfl rfl ?_
  refine zr_fr hM rfl rfl rfl ?_
  refine zr_ict hM rfl rfl h6 ?_
  refine zr_fr hM rfl rfl rfl ?_
  refine zr_fr hM rfl rfl rfl ?_
  refine zr_ict hM rfl rfl h7 ?_
  refine zr_fr hM rfl rfl rfl ?_
  refine zr_fr hM rfl rfl rfl ?_
  refine zr_ict hM rfl rfl h8 ?_
  refine zr_fr hM rfl rfl rfl ?_
  exact zr_iret2 hM rfl rfl rfl
set_option maxHeartbeats 4000000 in
theorem s141_0_ttf {n L : Nat} {σ : Ks} {g : List Nat} {cl : Bool} {p1 : Int32} (hn : 2 ≤ n ∧ n ≤ 5) (h1 : zcnd .lt p1 (Int32.ofInt 5) = true) (h2 : zcnd .lt p1 ((Int8.ofInt 10).toInt32) = true) (h3 : zcnd .ne p1 0 = false) : ZR 141 0 [.val (.ref (kad n (22, 0, 0))), .val (.int p1)] [] (khp n L σ g) cl (.inl (some (.int ((kup σ 42 0 (Int32.ofInt 0)) 42 1))), khp n L (kup σ 42 0 (Int32.ofInt 0)) (g), false) := by
  have hM : zmi[141]? = some _ := rfl
  refine zr_fr hM rfl rfl rfl ?_
  refine zr_fr hM rfl rfl rfl ?_
  refine zr_putf (κ := (22, 0, 0)) hn hM rfl rfl rfl rfl rfl rfl rfl rfl ?_
  refine zr_fr hM rfl rfl rfl ?_
  refine zr_fr hM rfl rfl rfl ?_
  refine zr_ict hM rfl rfl h1 ?_
  refine zr_fr hM rfl rfl rfl ?_
  refine zr_fr hM rfl rfl rfl ?_
  refine zr_ict hM rfl rfl h2 ?_
  refine zr_fr hM rfl rfl rfl ?_
  refine zr_iff hM rfl rfl h3 ?_
  refine zr_fr hM rfl rfl rfl ?_
  refine zr_getf (κ := (22, 0, 0)) hn hM rfl rfl rfl rfl ?_
  refine zr_fr hM rfl rfl rfl ?_
  exact zr_iret2 hM rfl rfl rfl
set_option maxHeartbeats 4000000 in
theorem s141_0_tttf {n L : Nat} {σ : Ks} {g : List Nat} {cl : Bool} {p1 : Int32} (hn : 2 ≤ n ∧ n ≤ 5) (h1 : zcnd .lt p1 (Int32.ofInt 5) = true) (h2 : zcnd .lt p1 ((Int8.ofInt 10).toInt32) = true) (h3 : zcnd .ne p1 0 = true) (h4 : zcnd .ne p1 (Int32.ofInt 1) = false) : ZR 141 0 [.val (.ref (kad n (22, 0, 0))), .val (.int p1)] [] (khp n L σ g) cl (.inl (some (.int ((kup σ 42 0 (Int32.ofInt 0)) 42 2))), khp n L (kup σ 42 0 (Int32.ofInt 0)) (g), false) := by
  have hM : zmi[141]? = some _ := rfl
  refine zr_fr hM rfl rfl rfl ?_
  refine zr_fr hM rfl rfl rfl ?_
  refine zr_putf (κ := (22, 0, 0)) hn hM rfl rfl rfl rfl rfl rfl rfl rfl ?_
  refine zr_fr hM rfl rfl rfl ?_
  refine zr_fr hM rfl rfl rfl ?_
  refine zr_ict hM rfl rfl h1 ?_
  refine zr_fr hM rfl rfl rfl ?_
  refine zr_fr hM rfl rfl rfl ?_
  refine zr_ict hM rfl rfl h2 ?_
  refine zr_fr hM rfl rfl rfl ?_
  refine zr_ift hM rfl rfl h3 ?_
  refine zr_fr hM rfl rfl rfl ?_
  refine zr_fr hM rfl rfl rfl ?_
  refine zr_icf hM rfl rfl h4 ?_
  refine zr_fr hM rfl rfl rfl ?_
  refine zr_getf (κ := (22, 0, 0)) hn hM rfl rfl rfl rfl ?_
  refine zr_fr hM rfl rfl rfl ?_
  exact zr_iret2 hM rfl rfl rfl
set_option maxHeartbeats 4000000 in
theorem s141_0_ttttf {n L : Nat} {σ : Ks} {g : List Nat} {cl : Bool} {p1 : Int32} (hn : 2 ≤ n ∧ n ≤ 5) (h1 : zcnd .lt p1 (Int32.ofInt 5) = true) (h2 : zcnd .lt p1 ((Int8.ofInt 10).toInt32) = true) (h3 : zcnd .ne p1 0 = true) (h4 : zcnd .ne p1 (Int32.ofInt 1) = true) (h5 : zcnd .ne p1 (Int32.ofInt 2) = false) : ZR 141 0 [.val (.ref (kad n (22, 0, 0))), .val (.int p1)] [] (khp n L σ g) cl (.inl (some (.int ((kup σ 42 0 (Int32.ofInt 0)) 42 3))), khp n L (kup σ 42 0 (Int32.ofInt 0)) (g), false) := by
  have hM : zmi[141]? = some _ := rfl
  refine zr_fr hM rfl rfl rfl ?_
  refine zr_fr hM rfl rfl rfl ?_
  refine zr_putf (κ := (22, 0, 0)) hn hM rfl rfl rfl rfl rfl rfl rfl rfl ?_
  refine zr_fr hM rfl rfl rfl ?_
  refine zr_fr hM rfl rfl rfl ?_
  refine zr_ict hM rfl rfl h1 ?_
  refine zr_fr hM rfl rfl rfl ?_
  refine zr_fr hM rfl rfl rfl ?_
  refine zr_ict hM rfl rfl h2 ?_
  refine zr_fr hM rfl rfl rfl ?_
  refine zr_ift hM rfl rfl h3 ?_
  refine zr_fr hM rfl rfl rfl ?_
  refine zr_fr hM rfl rfl rfl ?_
  refine zr_ict hM rfl rfl h4 ?_
  refine zr_fr hM rfl rfl rfl ?_
  refine zr_fr hM rfl rfl rfl ?_
  refine zr_icf hM rfl rfl h5 ?_
  refine zr_fr hM rfl rfl rfl ?_
  refine zr_getf (κ := (22, 0, 0)) hn hM rfl rfl rfl rfl ?_
  refine zr_fr hM rfl rfl rfl ?_
  exact zr_iret2 hM rfl rfl rfl
set_option maxHeartbeats 4000000 in
theorem s141_0_tttttff {n L : Nat} {σ : Ks} {g : List Nat} {cl : Bool} {p1 : Int32} {r7 : Int32} (hn : 2 ≤ n ∧ n ≤ 5) (h1 : zcnd .lt p1 (Int32.ofInt 5) = true) (h2 : zcnd .lt p1 ((Int8.ofInt 10).toInt32) = true) (h3 : zcnd .ne p1 0 = true) (h4 : zcnd .ne p1 (Int32.ofInt 1) = true) (h5 : zcnd .ne p1 (Int32.ofInt 2) = true) (h6 : zcnd .ne p1 (Int32.ofInt 3) = false) (c7_ : ZR 142 0 [.val (.ref (kad n (22, 0, 0))), .unset, .unset, .unset, .unset] [] (khp n L (kup σ 42 0 (Int32.ofInt 0)) g) true (.inl (some (.int r7)), khp n L (kup σ 42 0 (Int32.ofInt 0)) g, true)) (h8 : zcnd .eq r7 0 = false) : ZR 141 0 [.val (.ref (kad n (22, 0, 0))), .val (.int p1)] [] (khp n L σ g) cl (.inl (some (.int (Int32.ofInt 1))), khp n L (kup σ 42 0 (Int32.ofInt 0)) (g), false) := by
  have hM : zmi[141]? = some _ := rfl
  refine zr_fr hM rfl rfl rfl ?_
  refine zr_fr hM rfl rfl rfl ?_
  refine zr_putf (κ := (22, 0, 0)) hn hM rfl rfl rfl rfl rfl rfl rfl rfl ?_
  refine zr_fr hM rfl rfl rfl ?_
  refine zr_fr hM rfl rfl rfl ?_
  refine zr_ict hM rfl rfl h1 ?_
  refine zr_fr hM rfl rfl rfl ?_
  refine zr_fr hM rfl rfl rfl ?_
  refine zr_ict hM rfl rfl h2 ?_
  refine zr_fr hM rfl rfl rfl ?_
  refine zr_ift hM rfl rfl h3 ?_
  refine zr_fr hM rfl rfl rfl ?_
  refine zr_fr hM rfl rfl rfl ?_
  refine zr_ict hM rfl rfl h4 ?_
  refine zr_fr hM rfl rfl rfl ?_
  refine zr_fr hM rfl rfl rfl ?_
  refine zr_ict hM rfl rfl h5 ?_
  refine zr_fr hM rfl rfl rfl ?_
  refine zr_fr hM rfl rfl rfl ?_
  refine zr_icf hM rfl rfl h6 ?_
  refine zr_fr hM rfl rfl rfl ?_
  refine zr_virt (κ := (22, 0, 0)) hn hM rfl rfl rfl rfl rfl rfl rfl rfl rfl ?_
  refine zgo_ret rfl rfl c7_ ?_
  rw [Bool.and_true]
  refine zr_iff hM rfl rfl h8 ?_
  refine zr_fr hM rfl rfl rfl ?_
  refine zr_fr hM rfl rfl rfl ?_
  exact zr_iret2 hM rfl rfl rfl
set_option maxHeartbeats 4000000 in
theorem s141_0_tttttft {n L : Nat} {σ : Ks} {g : List Nat} {cl : Bool} {p1 : Int32} {r7 : Int32} (hn : 2 ≤ n ∧ n ≤ 5) (h1 : zcnd .lt p1 (Int32.ofInt 5) = true) (h2 : zcnd .lt p1 ((Int8.ofInt 10).toInt32) = true) (h3 : zcnd .ne p1 0 = true) (h4 : zcnd .ne p1 (Int32.ofInt 1) = true) (h5 : zcnd .ne p1 (Int32.ofInt 2) = true) (h6 : zcnd .ne p1 (Int32.ofInt 3) = false) (c7_ : ZR 142 0 [.val (.ref (kad n (22, 0, 0))), .unset, .unset, .unset, .unset] [] (khp n L (kup σ 42 0 (Int32.ofInt 0)) g) true (.inl (some (.int r7)), khp n L (kup σ 42 0 (Int32.ofInt 0)) g, true)) (h8 : zcnd .eq r7 0 = true) : ZR 141 0 [.val (.ref (kad n (22, 0, 0))), .val (.int p1)] [] (khp n L σ g) cl (.inl (some (.int (Int32.ofInt 0))), khp n L (kup σ 42 0 (Int32.ofInt 0)) (g), false) := by
  have hM : zmi[141]? = some _ := rfl
  refine zr_fr hM rfl rfl rfl ?_
  refine zr_fr hM rfl rfl rfl ?_
  refine zr_putf (κ := (22, 0, 0)) hn hM rfl rfl rfl rfl rfl rfl rfl rfl ?_
  refine zr_fr hM rfl rfl rfl ?_
  refine zr_fr hM rfl rfl rfl ?_
  refine zr_ict hM rfl rfl h1 ?_
  refine zr_fr hM rfl rfl rfl ?_
  refine zr_fr hM rfl rfl rfl ?_
  refine zr_ict hM rfl rfl h2 ?_
  refine zr_fr hM rfl rfl rfl ?_
  refine zr_ift hM rfl rfl h3 ?_
  refine zr_fr hM rfl rfl rfl ?_
  refine zr_fr hM rfl rfl rfl ?_
  refine zr_ict hM rfl rfl h4 ?_
  refine zr_fr hM rfl rfl rfl ?_
  refine zr_fr hM rfl rfl rfl ?_
  refine zr_ict hM rfl rfl h5 ?_
  refine zr_fr hM rfl rfl rfl ?_
  refine zr_fr hM rfl rfl rfl ?_
  refine zr_icf hM rfl rfl h6 ?_
  refine zr_fr hM rfl rfl rfl ?_
  refine zr_virt (κ := (22, 0, 0)) hn hM rfl rfl rfl rfl rfl rfl rfl rfl rfl ?_
  refine zgo_ret rfl rfl c7_ ?_
  rw [Bool.and_true]
  refine zr_ift hM rfl rfl h8 ?_
  refine zr_fr hM rfl rfl rfl ?_
  refine zr_fr hM rfl rfl rfl ?_
  exact zr_iret2 hM rfl rfl rfl
set_option maxHeartbeats 4000000 in
theorem s141_0_ttttttf {n L : Nat} {σ : Ks} {g : List Nat} {cl : Bool} {p1 : Int32} {r8 : Int32} (hn : 2 ≤ n ∧ n ≤ 5) (h1 : zcnd .lt p1 (Int32.ofInt 5) = true) (h2 : zcnd .lt p1 ((Int8.ofInt 10).toInt32) = true) (h3 : zcnd .ne p1 0 = true) (h4 : zcnd .ne p1 (Int32.ofInt 1) = true) (h5 : zcnd .ne p1 (Int32.ofInt 2) = true) (h6 : zcnd .ne p1 (Int32.ofInt 3) = true) (h7 : zcnd .ne p1 (Int32.ofInt 4) = false) (c8_ : ZR 143 0 [.val (.ref (kad n (22, 0, 0))), .unset, .unset, .unset] [] (khp n L (kup σ 42 0 (Int32.ofInt 0)) g) true (.inl (some (.int r8)), khp n L (kup σ 42 0 (Int32.ofInt 0)) g, true)) : ZR 141 0 [.val (.ref (kad n (22, 0, 0))), .val (.int p1)] [] (khp n L σ g) cl (.inl (some (.int r8)), khp n L (kup σ 42 0 (Int32.ofInt 0)) (g), false) := by
  have hM : zmi[141]? = some _ := rfl
  refine zr_fr hM rfl rfl rfl ?_
  refine zr_fr hM rfl rfl rfl ?_
  refine zr_putf (κ := (22, 0, 0)) hn hM rfl rfl rfl rfl rfl rfl rfl rfl ?_
  refine zr_fr hM rfl rfl rfl ?_
  refine zr_fr hM rfl rfl rfl ?_
  refine zr_ict hM rfl rfl h1 ?_
  refine zr_fr hM rfl rfl rfl ?_
  refine zr_fr hM rfl rfl rfl ?_
  refine zr_ict hM rfl rfl h2 ?_
  refine zr_fr hM rfl rfl rfl ?_
  refine zr_ift hM rfl rfl h3 ?_
  refine zr_fr hM rfl rfl rfl ?_
  refine zr_fr hM rfl rfl rfl ?_
  refine zr_ict hM rfl rfl h4 ?_
  refine zr_fr hM rfl rfl rfl ?_
  refine zr_fr hM rfl rfl rfl ?_
  refine zr_ict hM rfl rfl h5 ?_
  refine zr_fr hM rfl rfl rfl ?_
  refine zr_fr hM rfl rfl rfl ?_
  refine zr_ict hM rfl rfl h6 ?_
  refine zr_fr hM rfl rfl rfl ?_
  refine zr_fr hM rfl rfl rfl ?_
  refine zr_icf hM rfl rfl h7 ?_
  refine zr_fr hM rfl rfl rfl ?_
  refine zr_virt (κ := (22, 0, 0)) hn hM rfl rfl rfl rfl rfl rfl rfl rfl rfl ?_
  refine zgo_ret rfl rfl c8_ ?_
  rw [Bool.and_true]
  refine zr_fr hM rfl rfl rfl ?_
  exact zr_iret2 hM rfl rfl rfl
set_option maxHeartbeats 4000000 in
theorem s141_0_ttttttt {n L : Nat} {σ : Ks} {g : List Nat} {cl : Bool} {p1 : Int32} (hn : 2 ≤ n ∧ n ≤ 5) (h1 : zcnd .lt p1 (Int32.ofInt 5) = true) (h2 : zcnd .lt p1 ((Int8.ofInt 10).toInt32) = true) (h3 : zcnd .ne p1 0 = true) (h4 : zcnd .ne p1 (Int32.ofInt 1) = true) (h5 : zcnd .ne p1 (Int32.ofInt 2) = true) (h6 : zcnd .ne p1 (Int32.ofInt 3) = true) (h7 : zcnd .ne p1 (Int32.ofInt 4) = true) : ZR 141 0 [.val (.ref (kad n (22, 0, 0))), .val (.int p1)] [] (khp n L σ g) cl (.inl (some (.int (Int32.ofInt (-1)))), khp n L (kup σ 42 0 (Int32.ofInt 0)) (g), false) := by
  have hM : zmi[141]? = some _ := rfl
  refine zr_fr hM rfl rfl rfl ?_
  refine zr_fr hM rfl rfl rfl ?_
  refine zr_putf (κ := (22, 0, 0)) hn hM rfl rfl rfl rfl rfl rfl rfl rfl ?_
  refine zr_fr hM rfl rfl rfl ?_
  refine zr_fr hM rfl rfl rfl ?_
  refine zr_ict hM rfl rfl h1 ?_
  refine zr_fr hM rfl rfl rfl ?_
  refine zr_fr hM rfl rfl rfl ?_
  refine zr_ict hM rfl rfl h2 ?_
  refine zr_fr hM rfl rfl rfl ?_
  refine zr_ift hM rfl rfl h3 ?_
  refine zr_fr hM rfl rfl rfl ?_
  refine zr_fr hM rfl rfl rfl ?_
  refine zr_ict hM rfl rfl h4 ?_
  refine zr_fr hM rfl rfl rfl ?_
  refine zr_fr hM rfl rfl rfl ?_
  refine zr_ict hM rfl rfl h5 ?_
  refine zr_fr hM rfl rfl rfl ?_
  refine zr_fr hM rfl rfl rfl ?_
  refine zr_ict hM rfl rfl h6 ?_
  refine zr_fr hM rfl rfl rfl ?_
  refine zr_fr hM rfl rfl rfl ?_
  refine zr_ict hM rfl rfl h7 ?_
  refine zr_fr hM rfl rfl rfl ?_
  exact zr_iret2 hM rfl rfl rfl
set_option maxHeartbeats 4000000 in
theorem s142_0_f {n L : Nat} {σ : Ks} {g : List Nat} {cl : Bool} {r : Zr} {r1 : Int32} (hn : 2 ≤ n ∧ n ≤ 5) (c1_ : ZR 143 0 [.val (.ref (kad n (22, 0, 0))), .unset, .unset, .unset] [] (khp n L σ g) true (.inl (some (.int r1)), khp n L σ g, true)) (h2 : zcnd .ne r1 0 = false) (k : ZR 142 15 [.val (.ref (kad n (22, 0, 0))), .val (.int (Int32.ofInt 1)), .val (.int (Int32.ofInt 0)), .unset, .unset] [] (khp n L σ (g)) cl r) : ZR 142 0 [.val (.ref (kad n (22, 0, 0))), .unset, .unset, .unset, .unset] [] (khp n L σ g) cl r := by
  have hM : zmi[142]? = some _ := rfl
  refine zr_fr hM rfl rfl rfl ?_
  refine zr_virt (κ := (22, 0, 0)) hn hM rfl rfl rfl rfl rfl rfl rfl rfl rfl ?_
  refine zgo_ret rfl rfl c1_ ?_
  rw [Bool.and_true]
  refine zr_iff hM rfl rfl h2 ?_
  refine zr_fr hM rfl rfl rfl ?_
  refine zr_fr hM rfl rfl rfl ?_
  refine zr_fr hM rfl rfl rfl ?_
  refine zr_fr hM rfl rfl rfl ?_
  refine zr_fr hM rfl rfl rfl ?_
  exact k
set_option maxHeartbeats 4000000 in
theorem s142_0_t {n L : Nat} {σ : Ks} {g : List Nat} {cl : Bool} {r : Zr} {r1 : Int32} (hn : 2 ≤ n ∧ n ≤ 5) (c1_ : ZR 143 0 [.val (.ref (kad n (22, 0, 0))), .unset, .unset, .unset] [] (khp n L σ g) true (.inl (some (.int r1)), khp n L σ g, true)) (h2 : zcnd .ne r1 0 = true) (k : ZR 142 15 [.val (.ref (kad n (22, 0, 0))), .val (.int (Int32.ofInt 0)), .val (.int (Int32.ofInt 0)), .unset, .unset] [] (khp n L σ (g)) cl r) : ZR 142 0 [.val (.ref (kad n (22, 0, 0))), .unset, .unset, .unset, .unset] [] (khp n L σ g) cl r := by
  have hM : zmi[142]? = some _ := rfl
  refine zr_fr hM rfl rfl rfl ?_
  refine zr_virt (κ := (22, 0, 0)) hn hM rfl rfl rfl rfl rfl rfl rfl rfl rfl ?_
  refine zgo_ret rfl rfl c1_ ?_
  rw [Bool.and_true]
  refine zr_ift hM rfl rfl h2 ?_
  refine zr_fr hM rfl rfl rfl ?_
  refine zr_fr hM rfl rfl rfl ?_
  refine zr_fr hM rfl rfl rfl ?_
  refine zr_fr hM rfl rfl rfl ?_
  exact k
set_option maxHeartbeats 4000000 in
theorem s142_15_f {n L : Nat} {σ : Ks} {g : List Nat} {cl : Bool} {r : Zr} {v1 : Int32} {v2 : Int32} {w3 : Option Int32} {w4 : Option Int32} (hn : 2 ≤ n ∧ n ≤ 5) (h1 : zcnd .ge v2 (σ 42 1) = false) (k : ZR 142 25 [.val (.ref (kad n (22, 0, 0))), .val (.int v1), .val (.int v2), .val (.int (Int32.ofInt 0)), zop w4] [] (khp n L σ (g)) cl r) : ZR 142 15 [.val (.ref (kad n (22, 0, 0))), .val (.int v1), .val (.int v2), zop w3, zop w4] [] (khp n L σ g) cl r := by
  have hM : zmi[142]? = some _ := rfl
  refine zr_fr hM rfl rfl rfl ?_
  refine zr_fr hM rfl rfl rfl ?_
  refine zr_getf (κ := (22, 0, 0)) hn hM rfl rfl rfl rfl ?_
  refine zr_icf hM rfl rfl h1 ?_
  refine zr_fr hM rfl rfl rfl ?_
  refine zr_fr (ls' := [.val (.ref (kad n (22, 0, 0))), .val (.int v1), .val (.int v2), .val (.int (Int32.ofInt 0)), zop w4]) hM rfl rfl (by cases w3 <;> rfl) ?_
  exact k
set_option maxHeartbeats 4000000 in
theorem s142_15_t {n L : Nat} {σ : Ks} {g : List Nat} {cl : Bool} {v1 : Int32} {v2 : Int32} {w3 : Option Int32} {w4 : Option Int32} (hn : 2 ≤ n ∧ n ≤ 5) (h1 : zcnd .ge v2 (σ 42 1) = true) (q2 : v1 = 0 ∨ v1 = 1) : ZR 142 15 [.val (.ref (kad n (22, 0, 0))), .val (.int v1), .val (.int v2), zop w3, zop w4] [] (khp n L σ g) cl (.inl (some (.int v1)), khp n L σ (g), cl) := by
  have hM : zmi[142]? = some _ := rfl
  refine zr_fr hM rfl rfl rfl ?_
  refine zr_fr hM rfl rfl rfl ?_
  refine zr_getf (κ := (22, 0, 0)) hn hM rfl rfl rfl rfl ?_
  refine zr_ict hM rfl rfl h1 ?_
  refine zr_fr hM rfl rfl rfl ?_
  exact zr_zret2 hM rfl rfl q2 rfl
set_option maxHeartbeats 4000000 in
theorem s142_25_f {n L : Nat} {σ : Ks} {g : List Nat} {cl : Bool} {r : Zr} {v1 : Int32} {v2 : Int32} {v3 : Int32} {w4 : Option Int32} (hn : 2 ≤ n ∧ n ≤ 5) (h1 : zcnd .ge v3 (σ 42 1) = false) (k : ZR 142 36 [.val (.ref (kad n (22, 0, 0))), .val (.int v1), .val (.int v2), .val (.int v3), .val (.int (Int32.ofInt 0))] [] (khp n L σ (g)) cl r) : ZR 142 25 [.val (.ref (kad n (22, 0, 0))), .val (.int v1), .val (.int v2), .val (.int v3), zop w4] [] (khp n L σ g) cl r := by
  have hM : zmi[142]? = some _ := rfl
  refine zr_fr hM rfl rfl rfl ?_
  refine zr_fr hM rfl rfl rfl ?_
  refine zr_getf (κ := (22, 0, 0)) hn hM rfl rfl rfl rfl ?_
  refine zr_icf hM rfl rfl h1 ?_
  refine zr_fr hM rfl rfl rfl ?_
  refine zr_fr (ls' := [.val (.ref (kad n (22, 0, 0))), .val (.int v1), .val (.int v2), .val (.int v3), .val (.int (Int32.ofInt 0))]) hM rfl rfl (by cases w4 <;> rfl) ?_
  exact k
set_option maxHeartbeats 4000000 in
theorem s142_25_t {n L : Nat} {σ : Ks} {g : List Nat} {cl : Bool} {r : Zr} {v1 : Int32} {v2 : Int32} {v3 : Int32} {w4 : Option Int32} (hn : 2 ≤ n ∧ n ≤ 5) (h1 : zcnd .ge v3 (σ 42 1) = true) (k : ZR 142 15 [.val (.ref (kad n (22, 0, 0))), .val (.int v1), .val (.int (v2 + Int32.ofInt 1)), .val (.int v3), zop w4] [] (khp n L σ (g)) cl r) : ZR 142 25 [.val (.ref (kad n (22, 0, 0))), .val (.int v1), .val (.int v2), .val (.int v3), zop w4] [] (khp n L σ g) cl r := by
  have hM : zmi[142]? = some _ := rfl
  refine zr_fr hM rfl rfl rfl ?_
  refine zr_fr hM rfl rfl rfl ?_
  refine zr_getf (κ := (22, 0, 0)) hn hM rfl rfl rfl rfl ?_
  refine zr_ict hM rfl rfl h1 ?_
  refine zr_fr hM rfl rfl rfl ?_
  refine zr_fr hM rfl rfl rfl ?_
  exact k
set_option maxHeartbeats 4000000 in
theorem s142_36_ffff {n L : Nat} {σ : Ks} {g : List Nat} {cl : Bool} {r : Zr} {v1 : Int32} {v2 : Int32} {v3 : Int32} {v4 : Int32} {r4 : Int32} {x5 : Nat} {r6 : Int32} {x7 : Nat} (hn : 2 ≤ n ∧ n ≤ 5) (h1 : zcnd .ge v4 (Int32.ofInt 4) = false) (h2 : zcnd .eq v1 0 = false) (h3 : zcnd .eq v3 v2 = false) (c4_ : ZR 95 0 [.val (.int v2), .val (.int v3)] [] (khp n L σ g) true (.inl (some (.int r4)), khp n L σ g, true)) (z5 : zix ((r4 + ((Int8.ofInt 16).toInt32)) + v4) 820 = some x5) (c6_ : ZR 97 0 [.val (.int v3)] [] (khp n L σ g) true (.inl (some (.int r6)), khp n L σ g, true)) (z7 : zix (r6 + v4) 820 = some x7) (h8 : zcnd .ne (σ (20 + x5 / 164) (x5 % 164)) (σ (20 + x7 / 164) (x7 % 164)) = false) (k : ZR 142 36 [.val (.ref (kad n (22, 0, 0))), .val (.int (Int32.ofInt 1)), .val (.int v2), .val (.int v3), .val (.int (v4 + Int32.ofInt 1))] [] (khp n L σ (g)) cl r) : ZR 142 36 [.val (.ref (kad n (22, 0, 0))), .val (.int v1), .val (.int v2), .val (.int v3), .val (.int v4)] [] (khp n L σ g) cl r := by
  have hM : zmi[142]? = some _ := rfl
  have l5 := (zix_some z5).2.2
  have l7 := (zix_some z7).2.2
  refine zr_fr hM rfl rfl rfl ?_
  refine zr_fr hM rfl rfl rfl ?_
  refine zr_icf hM rfl rfl h1 ?_
  refine zr_fr hM rfl rfl rfl ?_
  refine zr_iff hM rfl rfl h2 ?_
  refine zr_fr hM rfl rfl rfl ?_
  refine zr_fr hM rfl rfl rfl ?_
  refine zr_icf hM rfl rfl h3 ?_
  refine zr_fr hM rfl rfl rfl ?_
  refine zr_getf (κ := (22, 0, 0)) hn hM rfl rfl rfl rfl ?_
  refine zr_fr hM rfl rfl rfl ?_
  refine zr_fr hM rfl rfl rfl ?_
  refine zr_stat hM rfl rfl rfl rfl rfl rfl ?_
  refine zgo_ret rfl rfl c4_ ?_
  rw [Bool.and_true]
  refine zr_fr hM rfl rfl rfl ?_
  refine zr_fr hM rfl rfl rfl ?_
  refine zr_fr hM rfl rfl rfl ?_
  refine zr_fr hM rfl rfl rfl ?_
  refine zr_iald (κ := (23, 0, 0)) hn hM rfl rfl rfl z5 ?_
  refine zr_fr hM rfl rfl rfl ?_
  refine zr_getf (κ := (22, 0, 0)) hn hM rfl rfl rfl rfl ?_
  refine zr_fr hM rfl rfl rfl ?_
  refine zr_stat hM rfl rfl rfl rfl rfl rfl ?_
  refine zgo_ret rfl rfl c6_ ?_
  rw [Bool.and_true]
  refine zr_fr hM rfl rfl rfl ?_
  refine zr_fr hM rfl rfl rfl ?_
  refine zr_iald (κ := (23, 0, 0)) hn hM rfl rfl rfl z7 ?_
  refine zr_icf hM rfl rfl h8 ?_
  refine zr_fr hM rfl rfl rfl ?_
  refine zr_fr hM rfl rfl rfl ?_
  refine zr_fr hM rfl rfl rfl ?_
  refine zr_fr hM rfl rfl rfl ?_
  refine zr_fr hM rfl rfl rfl ?_
  exact k
set_option maxHeartbeats 4000000 in
theorem s142_36_ffft {n L : Nat} {σ : Ks} {g : List Nat} {cl : Bool} {r : Zr} {v1 : Int32} {v2 : Int32} {v3 : Int32} {v4 : Int32} {r4 : Int32} {x5 : Nat} {r6 : Int32} {x7 : Nat} (hn : 2 ≤ n ∧ n ≤ 5) (h1 : zcnd .ge v4 (Int32.ofInt 4) = false) (h2 : zcnd .eq v1 0 = false) (h3 : zcnd .eq v3 v2 = false) (c4_ : ZR 95 0 [.val (.int v2), .val (.int v3)] [] (khp n L σ g) true (.inl (some (.int r4)), khp n L σ g, true)) (z5 : zix ((r4 + ((Int8.ofInt 16).toInt32)) + v4) 820 = some x5) (c6_ : ZR 97 0 [.val (.int v3)] [] (khp n L σ g) true (.inl (some (.int r6)), khp n L σ g, true)) (z7 : zix (r6 + v4) 820 = some x7) (h8 : zcnd .ne (σ (20 + x5 / 164) (x5 % 164)) (σ (20 + x7 / 164) (x7 % 164)) = true) (k : ZR 142 36 [.val (.ref (kad n (22, 0, 0))), .val (.int (Int32.ofInt 0)), .val (.int v2), .val (.int v3), .val (.int (v4 + Int32.ofInt 1))] [] (khp n L σ (g)) cl r) : ZR 142 36 [.val (.ref (kad n (22, 0, 0))), .val (.int v1), .val (.int v2), .val (.int v3), .val (.int v4)] [] (khp n L σ g) cl r := by
  have hM : zmi[142]? = some _ := rfl
  have l5 := (zix_some z5).2.2
  have l7 := (zix_some z7).2.2
  refine zr_fr hM rfl rfl rfl ?_
  refine zr_fr hM rfl rfl rfl ?_
  refine zr_icf hM rfl rfl h1 ?_
  refine zr_fr hM rfl rfl rfl ?_
  refine zr_iff hM rfl rfl h2 ?_
  refine zr_fr hM rfl rfl rfl ?_
  refine zr_fr hM rfl rfl rfl ?_
  refine zr_icf hM rfl rfl h3 ?_
  refine zr_fr hM rfl rfl rfl ?_
  refine zr_getf (κ := (22, 0, 0)) hn hM rfl rfl rfl rfl ?_
  refine zr_fr hM rfl rfl rfl ?_
  refine zr_fr hM rfl rfl rfl ?_
  refine zr_stat hM rfl rfl rfl rfl rfl rfl ?_
  refine zgo_ret rfl rfl c4_ ?_
  rw [Bool.and_true]
  refine zr_fr hM rfl rfl rfl ?_
  refine zr_fr hM rfl rfl rfl ?_
  refine zr_fr hM rfl rfl rfl ?_
  refine zr_fr hM rfl rfl rfl ?_
  refine zr_iald (κ := (23, 0, 0)) hn hM rfl rfl rfl z5 ?_
  refine zr_fr hM rfl rfl rfl ?_
  refine zr_getf (κ := (22, 0, 0)) hn hM rfl rfl rfl rfl ?_
  refine zr_fr hM rfl rfl rfl ?_
  refine zr_stat hM rfl rfl rfl rfl rfl rfl ?_
  refine zgo_ret rfl rfl c6_ ?_
  rw [Bool.and_true]
  refine zr_fr hM rfl rfl rfl ?_
  refine zr_fr hM rfl rfl rfl ?_
  refine zr_iald (κ := (23, 0, 0)) hn hM rfl rfl rfl z7 ?_
  refine zr_ict hM rfl rfl h8 ?_
  refine zr_fr hM rfl rfl rfl ?_
  refine zr_fr hM rfl rfl rfl ?_
  refine zr_fr hM rfl rfl rfl ?_
  refine zr_fr hM rfl rfl rfl ?_
  exact k
set_option maxHeartbeats 4000000 in
theorem s142_36_fft {n L : Nat} {σ : Ks} {g : List Nat} {cl : Bool} {r : Zr} {v1 : Int32} {v2 : Int32} {v3 : Int32} {v4 : Int32} (hn : 2 ≤ n ∧ n ≤ 5) (h1 : zcnd .ge v4 (Int32.ofInt 4) = false) (h2 : zcnd .eq v1 0 = false) (h3 : zcnd .eq v3 v2 = true) (k : ZR 142 36 [.val (.ref (kad n (22, 0, 0))), .val (.int (Int32.ofInt 1)), .val (.int v2), .val (.int v3), .val (.int (v4 + Int32.ofInt 1))] [] (khp n L σ (g)) cl r) : ZR 142 36 [.val (.ref (kad n (22, 0, 0))), .val (.int v1), .val (.int v2), .val (.int v3), .val (.int v4)] [] (khp n L σ g) cl r := by
  have hM : zmi[142]? = some _ := rfl
  refine zr_fr hM rfl rfl rfl ?_
  refine zr_fr hM rfl rfl rfl ?_
  refine zr_icf hM rfl rfl h1 ?_
  refine zr_fr hM rfl rfl rfl ?_
  refine zr_iff hM rfl rfl h2 ?_
  refine zr_fr hM rfl rfl rfl ?_
  refine zr_fr hM rfl rfl rfl ?_
  refine zr_ict hM rfl rfl h3 ?_
  refine zr_fr hM rfl rfl rfl ?_
  refine zr_fr hM rfl rfl rfl ?_
  refine zr_fr hM rfl rfl rfl ?_
  refine zr_fr hM rfl rfl rfl ?_
  refine zr_fr hM rfl rfl rfl ?_
  exact k
set_option maxHeartbeats 4000000 in
theorem s142_36_ft {n L : Nat} {σ : Ks} {g : List Nat} {cl : Bool} {r : Zr} {v1 : Int32} {v2 : Int32} {v3 : Int32} {v4 : Int32} (hn : 2 ≤ n ∧ n ≤ 5) (h1 : zcnd .ge v4 (Int32.ofInt 4) = false) (h2 : zcnd .eq v1 0 = true) (k : ZR 142 36 [.val (.ref (kad n (22, 0, 0))), .val (.int (Int32.ofInt 0)), .val (.int v2), .val (.int v3), .val (.int (v4 + Int32.ofInt 1))] [] (khp n L σ (g)) cl r) : ZR 142 36 [.val (.ref (kad n (22, 0, 0))), .val (.int v1), .val (.int v2), .val (.int v3), .val (.int v4)] [] (khp n L σ g) cl r := by
  have hM : zmi[142]? = some _ := rfl
  refine zr_fr hM rfl rfl rfl ?_
  refine zr_fr hM rfl rfl rfl ?_
  refine zr_icf hM rfl rfl h1 ?_
  refine zr_fr hM rfl rfl rfl ?_
  refine zr_ift hM rfl rfl h2 ?_
  refine zr_fr hM rfl rfl rfl ?_
  refine zr_fr hM rfl rfl rfl ?_
  refine zr_fr hM rfl rfl rfl ?_
  refine zr_fr hM rfl rfl rfl ?_
  exact k
set_option maxHeartbeats 4000000 in
theorem s142_36_t {n L : Nat} {σ : Ks} {g : List Nat} {cl : Bool} {r : Zr} {v1 : Int32} {v2 : Int32} {v3 : Int32} {v4 : Int32} (hn : 2 ≤ n ∧ n ≤ 5) (h1 : zcnd .ge v4 (Int32.ofInt 4) = true) (k : ZR 142 25 [.val (.ref (kad n (22, 0, 0))), .val (.int v1), .val (.int v2), .val (.int (v3 + Int32.ofInt 1)), .val (.int v4)] [] (khp n L σ (g)) cl r) : ZR 142 36 [.val (.ref (kad n (22, 0, 0))), .val (.int v1), .val (.int v2), .val (.int v3), .val (.int v4)] [] (khp n L σ g) cl r := by
  have hM : zmi[142]? = some _ := rfl
  refine zr_fr hM rfl rfl rfl ?_
  refine zr_fr hM rfl rfl rfl ?_
  refine zr_ict hM rfl rfl h1 ?_
  refine zr_fr hM rfl rfl rfl ?_
  refine zr_fr hM rfl rfl rfl ?_
  exact k
set_option maxHeartbeats 4000000 in
theorem s143_0_r {n L : Nat} {σ : Ks} {g : List Nat} {cl : Bool} {r : Zr} (hn : 2 ≤ n ∧ n ≤ 5) (k : ZR 143 4 [.val (.ref (kad n (22, 0, 0))), .val (.int (Int32.ofInt 0)), .val (.int (Int32.ofInt 0)), .unset] [] (khp n L σ (g)) cl r) : ZR 143 0 [.val (.ref (kad n (22, 0, 0))), .unset, .unset, .unset] [] (khp n L σ g) cl r := by
  have hM : zmi[143]? = some _ := rfl
  refine zr_fr hM rfl rfl rfl ?_
  refine zr_fr hM rfl rfl rfl ?_
  refine zr_fr hM rfl rfl rfl ?_
  refine zr_fr hM rfl rfl rfl ?_
  exact k
set_option maxHeartbeats 4000000 in
theorem s143_4_f {n L : Nat} {σ : Ks} {g : List Nat} {cl : Bool} {r : Zr} {v1 : Int32} {v2 : Int32} {w3 : Option Int32} (hn : 2 ≤ n ∧ n ≤ 5) (h1 : zcnd .ge v2 (σ 42 1) = false) (k : ZR 143 14 [.val (.ref (kad n (22, 0, 0))), .val (.int v1), .val (.int v2), .val (.int (Int32.ofInt 0))] [] (khp n L σ (g)) cl r) : ZR 143 4 [.val (.ref (kad n (22, 0, 0))), .val (.int v1), .val (.int v2), zop w3] [] (khp n L σ g) cl r := by
  have hM : zmi[143]? = some _ := rfl
  refine zr_fr hM rfl rfl rfl ?_
  refine zr_fr hM rfl rfl rfl ?_
  refine zr_getf (κ := (22, 0, 0)) hn hM rfl rfl rfl rfl ?_
  refine zr_icf hM rfl rfl h1 ?_
  refine zr_fr hM rfl rfl rfl ?_
  refine zr_fr (ls' := [.val (.ref (kad n (22, 0, 0))), .val (.int v1), .val (.int v2), .val (.int (Int32.ofInt 0))]) hM rfl rfl (by cases w3 <;> rfl) ?_
  exact k
set_option maxHeartbeats 4000000 in
theorem s143_4_t {n L : Nat} {σ : Ks} {g : List Nat} {cl : Bool} {v1 : Int32} {v2 : Int32} {w3 : Option Int32} (hn : 2 ≤ n ∧ n ≤ 5) (h1 : zcnd .ge v2 (σ 42 1) = true) : ZR 143 4 [.val (.ref (kad n (22, 0, 0))), .val (.int v1), .val (.int v2), zop w3] [] (khp n L σ g) cl (.inl (some (.int v1)), khp n L σ (g), cl) := by
  have hM : zmi[143]? = some _ := rfl
  refine zr_fr hM rfl rfl rfl ?_
  refine zr_fr hM rfl rfl rfl ?_
  refine zr_getf (κ := (22, 0, 0)) hn hM rfl rfl rfl rfl ?_
  refine zr_ict hM rfl rfl h1 ?_
  refine zr_fr hM rfl rfl rfl ?_
  exact zr_iret2 hM rfl rfl rfl
set_option maxHeartbeats 4000000 in
theorem s143_14_f {n L : Nat} {σ : Ks} {g : List Nat} {cl : Bool} {r : Zr} {v1 : Int32} {v2 : Int32} {v3 : Int32} {r2 : Int32} {x3 : Nat} (hn : 2 ≤ n ∧ n ≤ 5) (h1 : zcnd .ge v3 (σ 42 1) = false) (c2_ : ZR 95 0 [.val (.int v2), .val (.int v3)] [] (khp n L σ g) true (.inl (some (.int r2)), khp n L σ g, true)) (z3 : zix (r2 + (Int32.ofInt 1)) 820 = some x3) (k : ZR 143 14 [.val (.ref (kad n (22, 0, 0))), .val (.int (v1 + (σ (20 + x3 / 164) (x3 % 164)))), .val (.int v2), .val (.int (v3 + Int32.ofInt 1))] [] (khp n L σ (g)) cl r) : ZR 143 14 [.val (.ref (kad n (22, 0, 0))), .val (.int v1), .val (.int v2), .val (.int v3)] [] (khp n L σ g) cl r := by
  have hM : zmi[143]? = some _ := rfl
  have l3 := (zix_some z3).2.2
  refine zr_fr hM rfl rfl rfl ?_
  refine zr_fr hM rfl rfl rfl ?_
  refine zr_getf (κ := (22, 0, 0)) hn hM rfl rfl rfl rfl ?_
  refine zr_icf hM rfl rfl h1 ?_
  refine zr_fr hM rfl rfl rfl ?_
  refine zr_fr hM rfl rfl rfl ?_
  refine zr_getf (κ := (22, 0, 0)) hn hM rfl rfl rfl rfl ?_
  refine zr_fr hM rfl rfl rfl ?_
  refine zr_fr hM rfl rfl rfl ?_
  refine zr_stat hM rfl rfl rfl rfl rfl rfl ?_
  refine zgo_ret rfl rfl c2_ ?_
  rw [Bool.and_true]
  refine zr_fr hM rfl rfl rfl ?_
  refine zr_fr hM rfl rfl rfl ?_
  refine zr_iald (κ := (23, 0, 0)) hn hM rfl rfl rfl z3 ?_
  refine zr_fr hM rfl rfl rfl ?_
  refine zr_fr hM rfl rfl rfl ?_
  refine zr_fr hM rfl rfl rfl ?_
  refine zr_fr hM rfl rfl rfl ?_
  exact k
set_option maxHeartbeats 4000000 in
theorem s143_14_t {n L : Nat} {σ : Ks} {g : List Nat} {cl : Bool} {r : Zr} {v1 : Int32} {v2 : Int32} {v3 : Int32} (hn : 2 ≤ n ∧ n ≤ 5) (h1 : zcnd .ge v3 (σ 42 1) = true) (k : ZR 143 4 [.val (.ref (kad n (22, 0, 0))), .val (.int v1), .val (.int (v2 + Int32.ofInt 1)), .val (.int v3)] [] (khp n L σ (g)) cl r) : ZR 143 14 [.val (.ref (kad n (22, 0, 0))), .val (.int v1), .val (.int v2), .val (.int v3)] [] (khp n L σ g) cl r := by
  have hM : zmi[143]? = some _ := rfl
  refine zr_fr hM rfl rfl rfl ?_
  refine zr_fr hM rfl rfl rfl ?_
  refine zr_getf (κ := (22, 0, 0)) hn hM rfl rfl rfl rfl ?_
  refine zr_ict hM rfl rfl h1 ?_
  refine zr_fr hM rfl rfl rfl ?_
  refine zr_fr hM rfl rfl rfl ?_
  exact k
