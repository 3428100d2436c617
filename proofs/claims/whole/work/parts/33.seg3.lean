set_option maxHeartbeats 4000000 in
theorem s113_0_tf {n L : Nat} {σ : Ks} {g : List Nat} {cl : Bool} {p1 : Int32} {p2 : Int32} {r1 : Int32} (hn : 2 ≤ n ∧ n ≤ 5) (c1_ : ZR 114 0 [.val (.int p1)] [] (khp n L σ g) true (.inl (some (.int r1)), khp n L σ g, true)) (h2 : zcnd .eq r1 0 = true) (h3 : zcnd .le ((kup σ 42 0 (Int32.ofInt 1)) 42 0) 0 = false) : ZR 113 0 [.val (.ref (kad n (22, 0, 0))), .val (.int p1), .val (.int p2)] [] (khp n L σ g) cl (.inl (some (.int (Int32.ofInt 0))), khp n L (kup σ 42 0 (Int32.ofInt 1)) (g), false) := by
  have hM : zmi[113]? = some _ := rfl
  refine zr_fr hM rfl rfl rfl ?_
  refine zr_fr hM rfl rfl rfl ?_
  refine zr_stat hM rfl rfl rfl rfl rfl rfl ?_
  refine zgo_ret rfl rfl c1_ ?_
  rw [Bool.and_true]
  refine zr_ift hM rfl rfl h2 ?_
  refine zr_fr hM rfl rfl rfl ?_
  refine zr_fr hM rfl rfl rfl ?_
  refine zr_putf (κ := (22, 0, 0)) hn hM rfl rfl rfl rfl rfl rfl rfl rfl ?_
  refine zr_fr hM rfl rfl rfl ?_
  refine zr_getf (κ := (22, 0, 0)) hn hM rfl rfl rfl rfl ?_
  refine zr_iff hM rfl rfl h3 ?_
  refine zr_fr hM rfl rfl rfl ?_
  exact zr_iret2 hM rfl rfl rfl
set_option maxHeartbeats 4000000 in
theorem s113_0_ttfff {n L : Nat} {σ : Ks} {g : List Nat} {cl : Bool} {p1 : Int32} {p2 : Int32} {r1 : Int32} {x4 : Nat} {x6 : Nat} (hn : 2 ≤ n ∧ n ≤ 5) (c1_ : ZR 114 0 [.val (.int p1)] [] (khp n L σ g) true (.inl (some (.int r1)), khp n L σ g, true)) (h2 : zcnd .eq r1 0 = true) (h3 : zcnd .le ((kup σ 42 0 (Int32.ofInt 1)) 42 0) 0 = true) (z4 : zix (Int32.ofInt 0) 5 = some x4) (h5 : zcnd .ne ((kup σ 42 0 (Int32.ofInt 1)) 40 x4) 0 = false) (z6 : zix (((Int8.ofInt 12).toInt32) + p1) 820 = some x6) (h7 : zcnd .le (((kup σ 42 0 (Int32.ofInt 1)) (20 + x6 / 164) (x6 % 164)) + p2) (Int32.ofNat 100000000) = false) (h8 : zcnd .le ((kup (kup σ 42 0 (Int32.ofInt 1)) 42 0 (Int32.ofInt 2)) 42 0) 0 = false) : ZR 113 0 [.val (.ref (kad n (22, 0, 0))), .val (.int p1), .val (.int p2)] [] (khp n L σ g) cl (.inl (some (.int (Int32.ofInt 0))), khp n L (kup (kup σ 42 0 (Int32.ofInt 1)) 42 0 (Int32.ofInt 2)) (g), false) := by
  have hM : zmi[113]? = some _ := rfl
  have l4 := (zix_some z4).2.2
  have l6 := (zix_some z6).2.2
  refine zr_fr hM rfl rfl rfl ?_
  refine zr_fr hM rfl rfl rfl ?_
  refine zr_stat hM rfl rfl rfl rfl rfl rfl ?_
  refine zgo_ret rfl rfl c1_ ?_
  rw [Bool.and_true]
  refine zr_ift hM rfl rfl h2 ?_
  refine zr_fr hM rfl rfl rfl ?_
  refine zr_fr hM rfl rfl rfl ?_
  refine zr_putf (κ := (22, 0, 0)) hn hM rfl rfl rfl rfl rfl rfl rfl rfl ?_
  refine zr_fr hM rfl rfl rfl ?_
  refine zr_getf (κ := (22, 0, 0)) hn hM rfl rfl rfl rfl ?_
  refine zr_ift hM rfl rfl h3 ?_
  refine zr_fr hM rfl rfl rfl ?_
  refine zr_fr hM rfl rfl rfl ?_
  refine zr_getf (κ := (22, 0, 0)) hn hM rfl rfl rfl rfl ?_
  refine zr_fr hM rfl rfl rfl ?_
  refine zr_bald (κ := (25, 0, 0)) hn hM rfl rfl rfl z4 ?_
  refine zr_iff hM rfl rfl h5 ?_
  refine zr_fr hM rfl rfl rfl ?_
  refine zr_getf (κ := (22, 0, 0)) hn hM rfl rfl rfl rfl ?_
  refine zr_fr hM rfl rfl rfl ?_
  refine zr_fr hM rfl rfl rfl ?_
  refine zr_fr hM rfl rfl rfl ?_
  refine zr_iald (κ := (23, 0, 0)) hn hM rfl rfl rfl z6 ?_
  refine zr_fr hM rfl rfl rfl ?_
  refine zr_fr hM rfl rfl rfl ?_
  refine zr_ldc hM rfl ?_
  refine zr_icf hM rfl rfl h7 ?_
  refine zr_fr hM rfl rfl rfl ?_
  refine zr_fr hM rfl rfl rfl ?_
  refine zr_putf (κ := (22, 0, 0)) hn hM rfl rfl rfl rfl rfl rfl rfl rfl ?_
  refine zr_fr hM rfl rfl rfl ?_
  refine zr_getf (κ := (22, 0, 0)) hn hM rfl rfl rfl rfl ?_
  refine zr_iff hM rfl rfl h8 ?_
  refine zr_fr hM rfl rfl rfl ?_
  exact zr_iret2 hM rfl rfl rfl
set_option maxHeartbeats 4000000 in
theorem s113_0_ttfft {n L : Nat} {σ : Ks} {g : List Nat} {cl : Bool} {p1 : Int32} {p2 : Int32} {r1 : Int32} {x4 : Nat} {x6 : Nat} {x9 : Nat} {σ10 : Ks} {c10 : Bool} (hn : 2 ≤ n ∧ n ≤ 5) (c1_ : ZR 114 0 [.val (.int p1)] [] (khp n L σ g) true (.inl (some (.int r1)), khp n L σ g, true)) (h2 : zcnd .eq r1 0 = true) (h3 : zcnd .le ((kup σ 42 0 (Int32.ofInt 1)) 42 0) 0 = true) (z4 : zix (Int32.ofInt 0) 5 = some x4) (h5 : zcnd .ne ((kup σ 42 0 (Int32.ofInt 1)) 40 x4) 0 = false) (z6 : zix (((Int8.ofInt 12).toInt32) + p1) 820 = some x6) (h7 : zcnd .le (((kup σ 42 0 (Int32.ofInt 1)) (20 + x6 / 164) (x6 % 164)) + p2) (Int32.ofNat 100000000) = false) (h8 : zcnd .le ((kup (kup σ 42 0 (Int32.ofInt 1)) 42 0 (Int32.ofInt 2)) 42 0) 0 = true) (z9 : zix p1 820 = some x9) (c10_ : ZR 96 0 [.val (.ref (kad n (22, 0, 0))), .val (.int (Int32.ofInt 0)), .unset] [] (khp n L (kup (kup (kup (kup σ 42 0 (Int32.ofInt 1)) 42 0 (Int32.ofInt 2)) (20 + x9 / 164) (x9 % 164) (((kup (kup σ 42 0 (Int32.ofInt 1)) 42 0 (Int32.ofInt 2)) (20 + x9 / 164) (x9 % 164)) + p2)) (20 + x6 / 164) (x6 % 164) (((kup (kup (kup σ 42 0 (Int32.ofInt 1)) 42 0 (Int32.ofInt 2)) (20 + x9 / 164) (x9 % 164) (((kup (kup σ 42 0 (Int32.ofInt 1)) 42 0 (Int32.ofInt 2)) (20 + x9 / 164) (x9 % 164)) + p2)) (20 + x6 / 164) (x6 % 164)) + p2)) g) true (.inl (none), khp n L σ10 g, c10)) : ZR 113 0 [.val (.ref (kad n (22, 0, 0))), .val (.int p1), .val (.int p2)] [] (khp n L σ g) cl (.inl (some (.int (σ10 (20 + x9 / 164) (x9 % 164)))), khp n L σ10 (g), false) := by
  have hM : zmi[113]? = some _ := rfl
  have l4 := (zix_some z4).2.2
  have l6 := (zix_some z6).2.2
  have l9 := (zix_some z9).2.2
  refine zr_fr hM rfl rfl rfl ?_
  refine zr_fr hM rfl rfl rfl ?_
  refine zr_stat hM rfl rfl rfl rfl rfl rfl ?_
  refine zgo_ret rfl rfl c1_ ?_
  rw [Bool.and_true]
  refine zr_ift hM rfl rfl h2 ?_
  refine zr_fr hM rfl rfl rfl ?_
  refine zr_fr hM rfl rfl rfl ?_
  refine zr_putf (κ := (22, 0, 0)) hn hM rfl rfl rfl rfl rfl rfl rfl rfl ?_
  refine zr_fr hM rfl rfl rfl ?_
  refine zr_getf (κ := (22, 0, 0)) hn hM rfl rfl rfl rfl ?_
  refine zr_ift hM rfl rfl h3 ?_
  refine zr_fr hM rfl rfl rfl ?_
  refine zr_fr hM rfl rfl rfl ?_
  refine zr_getf (κ := (22, 0, 0)) hn hM rfl rfl rfl rfl ?_
  refine zr_fr hM rfl rfl rfl ?_
  refine zr_bald (κ := (25, 0, 0)) hn hM rfl rfl rfl z4 ?_
  refine zr_iff hM rfl rfl h5 ?_
  refine zr_fr hM rfl rfl rfl ?_
  refine zr_getf (κ := (22, 0, 0)) hn hM rfl rfl rfl rfl ?_
  refine zr_fr hM rfl rfl rfl ?_
  refine zr_fr hM rfl rfl rfl ?_
  refine zr_fr hM rfl rfl rfl ?_
  refine zr_iald (κ := (23, 0, 0)) hn hM rfl rfl rfl z6 ?_
  refine zr_fr hM rfl rfl rfl ?_
  refine zr_fr hM rfl rfl rfl ?_
  refine zr_ldc hM rfl ?_
  refine zr_icf hM rfl rfl h7 ?_
  refine zr_fr hM rfl rfl rfl ?_
  refine zr_fr hM rfl rfl rfl ?_
  refine zr_putf (κ := (22, 0, 0)) hn hM rfl rfl rfl rfl rfl rfl rfl rfl ?_
  refine zr_fr hM rfl rfl rfl ?_
  refine zr_getf (κ := (22, 0, 0)) hn hM rfl rfl rfl rfl ?_
  refine zr_ift hM rfl rfl h8 ?_
  refine zr_fr hM rfl rfl rfl ?_
  refine zr_getf (κ := (22, 0, 0)) hn hM rfl rfl rfl rfl ?_
  refine zr_fr hM rfl rfl rfl ?_
  refine zr_fr hM rfl rfl rfl ?_
  refine zr_iald (κ := (23, 0, 0)) hn hM rfl rfl rfl z9 ?_
  refine zr_fr hM rfl rfl rfl ?_
  refine zr_fr hM rfl rfl rfl ?_
  refine zr_iast (κ := (23, 0, 0)) hn hM rfl rfl rfl rfl z9 rfl ?_
  refine zr_fr hM rfl rfl rfl ?_
  refine zr_getf (κ := (22, 0, 0)) hn hM rfl rfl rfl rfl ?_
  refine zr_fr hM rfl rfl rfl ?_
  refine zr_fr hM rfl rfl rfl ?_
  refine zr_fr hM rfl rfl rfl ?_
  refine zr_fr hM rfl rfl rfl ?_
  refine zr_iald (κ := (23, 0, 0)) hn hM rfl rfl rfl z6 ?_
  refine zr_fr hM rfl rfl rfl ?_
  refine zr_fr hM rfl rfl rfl ?_
  refine zr_iast (κ := (23, 0, 0)) hn hM rfl rfl rfl rfl z6 rfl ?_
  refine zr_fr hM rfl rfl rfl ?_
  refine zr_fr hM rfl rfl rfl ?_
  refine zr_virt (κ := (22, 0, 0)) hn hM rfl rfl rfl rfl rfl rfl rfl rfl rfl ?_
  refine zgo_ret rfl rfl c10_ ?_
  rw [Bool.false_and]
  refine zr_fr hM rfl rfl rfl ?_
  refine zr_getf (κ := (22, 0, 0)) hn hM rfl rfl rfl rfl ?_
  refine zr_fr hM rfl rfl rfl ?_
  refine zr_iald (κ := (23, 0, 0)) hn hM rfl rfl rfl z9 ?_
  exact zr_iret2 hM rfl rfl rfl
set_option maxHeartbeats 4000000 in
theorem s113_0_ttftf {n L : Nat} {σ : Ks} {g : List Nat} {cl : Bool} {p1 : Int32} {p2 : Int32} {r1 : Int32} {x4 : Nat} {x6 : Nat} (hn : 2 ≤ n ∧ n ≤ 5) (c1_ : ZR 114 0 [.val (.int p1)] [] (khp n L σ g) true (.inl (some (.int r1)), khp n L σ g, true)) (h2 : zcnd .eq r1 0 = true) (h3 : zcnd .le ((kup σ 42 0 (Int32.ofInt 1)) 42 0) 0 = true) (z4 : zix (Int32.ofInt 0) 5 = some x4) (h5 : zcnd .ne ((kup σ 42 0 (Int32.ofInt 1)) 40 x4) 0 = false) (z6 : zix (((Int8.ofInt 12).toInt32) + p1) 820 = some x6) (h7 : zcnd .le (((kup σ 42 0 (Int32.ofInt 1)) (20 + x6 / 164) (x6 % 164)) + p2) (Int32.ofNat 100000000) = true) (h8 : zcnd .le ((kup (kup σ 42 0 (Int32.ofInt 1)) 42 0 (Int32.ofInt 0)) 42 0) 0 = false) : ZR 113 0 [.val (.ref (kad n (22, 0, 0))), .val (.int p1), .val (.int p2)] [] (khp n L σ g) cl (.inl (some (.int (Int32.ofInt 0))), khp n L (kup (kup σ 42 0 (Int32.ofInt 1)) 42 0 (Int32.ofInt 0)) (g), false) := by
  have hM : zmi[113]? = some _ := rfl
  have l4 := (zix_some z4).2.2
  have l6 := (zix_some z6).2.2
  refine zr_fr hM rfl rfl rfl ?_
  refine zr_fr hM rfl rfl rfl ?_
  refine zr_stat hM rfl rfl rfl rfl rfl rfl ?_
  refine zgo_ret rfl rfl c1_ ?_
  rw [Bool.and_true]
  refine zr_ift hM rfl rfl h2 ?_
  refine zr_fr hM rfl rfl rfl ?_
  refine zr_fr hM rfl rfl rfl ?_
  refine zr_putf (κ := (22, 0, 0)) hn hM rfl rfl rfl rfl rfl rfl rfl rfl ?_
  refine zr_fr hM rfl rfl rfl ?_
  refine zr_getf (κ := (22, 0, 0)) hn hM rfl rfl rfl rfl ?_
  refine zr_ift hM rfl rfl h3 ?_
  refine zr_fr hM rfl rfl rfl ?_
  refine zr_fr hM rfl rfl rfl ?_
  refine zr_getf (κ := (22, 0, 0)) hn hM rfl rfl rfl rfl ?_
  refine zr_fr hM rfl rfl rfl ?_
  refine zr_bald (κ := (25, 0, 0)) hn hM rfl rfl rfl z4 ?_
  refine zr_iff hM rfl rfl h5 ?_
  refine zr_fr hM rfl rfl rfl ?_
  refine zr_getf (κ := (22, 0, 0)) hn hM rfl rfl rfl rfl ?_
  refine zr_fr hM rfl rfl rfl ?_
  refine zr_fr hM rfl rfl rfl ?_
  refine zr_fr hM rfl rfl rfl ?_
  refine zr_iald (κ := (23, 0, 0)) hn hM rfl rfl rfl z6 ?_
  refine zr_fr hM rfl rfl rfl ?_
  refine zr_fr hM rfl rfl rfl ?_
  refine zr_ldc hM rfl ?_
  refine zr_ict hM rfl rfl h7 ?_
  refine zr_fr hM rfl rfl rfl ?_
  refine zr_putf (κ := (22, 0, 0)) hn hM rfl rfl rfl rfl rfl rfl rfl rfl ?_
  refine zr_fr hM rfl rfl rfl ?_
  refine zr_getf (κ := (22, 0, 0)) hn hM rfl rfl rfl rfl ?_
  refine zr_iff hM rfl rfl h8 ?_
  refine zr_fr hM rfl rfl rfl ?_
  exact zr_iret2 hM rfl rfl rfl
set_option maxHeartbeats 4000000 in
theorem s113_0_ttftt {n L : Nat} {σ : Ks} {g : List Nat} {cl : Bool} {p1 : Int32} {p2 : Int32} {r1 : Int32} {x4 : Nat} {x6 : Nat} {x9 : Nat} {σ10 : Ks} {c10 : Bool} (hn : 2 ≤ n ∧ n ≤ 5) (c1_ : ZR 114 0 [.val (.int p1)] [] (khp n L σ g) true (.inl (some (.int r1)), khp n L σ g, true)) (h2 : zcnd .eq r1 0 = true) (h3 : zcnd .le ((kup σ 42 0 (Int32.ofInt 1)) 42 0) 0 = true) (z4 : zix (Int32.ofInt 0) 5 = some x4) (h5 : zcnd .ne ((kup σ 42 0 (Int32.ofInt 1)) 40 x4) 0 = false) (z6 : zix (((Int8.ofInt 12).toInt32) + p1) 820 = some x6) (h7 : zcnd .le (((kup σ 42 0 (Int32.ofInt 1)) (20 + x6 / 164) (x6 % 164)) + p2) (Int32.ofNat 100000000) = true) (h8 : zcnd .le ((kup (kup σ 42 0 (Int32.ofInt 1)) 42 0 (Int32.ofInt 0)) 42 0) 0 = true) (z9 : zix p1 820 = some x9) (c10_ : ZR 96 0 [.val (.ref (kad n (22, 0, 0))), .val (.int (Int32.ofInt 0)), .unset] [] (khp n L (kup (kup (kup (kup σ 42 0 (Int32.ofInt 1)) 42 0 (Int32.ofInt 0)) (20 + x9 / 164) (x9 % 164) (((kup (kup σ 42 0 (Int32.ofInt 1)) 42 0 (Int32.ofInt 0)) (20 + x9 / 164) (x9 % 164)) + p2)) (20 + x6 / 164) (x6 % 164) (((kup (kup (kup σ 42 0 (Int32.ofInt 1)) 42 0 (Int32.ofInt 0)) (20 + x9 / 164) (x9 % 164) (((kup (kup σ 42 0 (Int32.ofInt 1)) 42 0 (Int32.ofInt 0)) (20 + x9 / 164) (x9 % 164)) + p2)) (20 + x6 / 164) (x6 % 164)) + p2)) g) true (.inl (none), khp n L σ10 g, c10)) : ZR 113 0 [.val (.ref (kad n (22, 0, 0))), .val (.int p1), .val (.int p2)] [] (khp n L σ g) cl (.inl (some (.int (σ10 (20 + x9 / 164) (x9 % 164)))), khp n L σ10 (g), false) := by
  have hM : zmi[113]? = some _ := rfl
  have l4 := (zix_some z4).2.2
  have l6 := (zix_some z6).2.2
  have l9 := (zix_some z9).2.2
  refine zr_fr hM rfl rfl rfl ?_
  refine zr_fr hM rfl rfl rfl ?_
  refine zr_stat hM rfl rfl rfl rfl rfl rfl ?_
  refine zgo_ret rfl rfl c1_ ?_
  rw [Bool.and_true]
  refine zr_ift hM rfl rfl h2 ?_
  refine zr_fr hM rfl rfl rfl ?_
  refine zr_fr hM rfl rfl rfl ?_
  refine zr_putf (κ := (22, 0, 0)) hn hM rfl rfl rfl rfl rfl rfl rfl rfl ?_
  refine zr_fr hM rfl rfl rfl ?_
  refine zr_getf (κ := (22, 0, 0)) hn hM rfl rfl rfl rfl ?_
  refine zr_ift hM rfl rfl h3 ?_
  refine zr_fr hM rfl rfl rfl ?_
  refine zr_fr hM rfl rfl rfl ?_
  refine zr_getf (κ := (22, 0, 0)) hn hM rfl rfl rfl rfl ?_
  refine zr_fr hM rfl rfl rfl ?_
  refine zr_bald (κ := (25, 0, 0)) hn hM rfl rfl rfl z4 ?_
  refine zr_iff hM rfl rfl h5 ?_
  refine zr_fr hM rfl rfl rfl ?_
  refine zr_getf (κ := (22, 0, 0)) hn hM rfl rfl rfl rfl ?_
  refine zr_fr hM rfl rfl rfl ?_
  refine zr_fr hM rfl rfl rfl ?_
  refine zr_fr hM rfl rfl rfl ?_
  refine zr_iald (κ := (23, 0, 0)) hn hM rfl rfl rfl z6 ?_
  refine zr_fr hM rfl rfl rfl ?_
  refine zr_fr hM rfl rfl rfl ?_
  refine zr_ldc hM rfl ?_
  refine zr_ict hM rfl rfl h7 ?_
  refine zr_fr hM rfl rfl rfl ?_
  refine zr_putf (κ := (22, 0, 0)) hn hM rfl rfl rfl rfl rfl rfl rfl rfl ?_
  refine zr_fr hM rfl rfl rfl ?_
  refine zr_getf (κ := (22, 0, 0)) hn hM rfl rfl rfl rfl ?_
  refine zr_ift hM rfl rfl h8 ?_
  refine zr_fr hM rfl rfl rfl ?_
  refine zr_getf (κ := (22, 0, 0)) hn hM rfl rfl rfl rfl ?_
  refine zr_fr hM rfl rfl rfl ?_
  refine zr_fr hM rfl rfl rfl ?_
  refine zr_iald (κ := (23, 0, 0)) hn hM rfl rfl rfl z9 ?_
  refine zr_fr hM rfl rfl rfl ?_
  refine zr_fr hM rfl rfl rfl ?_
  refine zr_iast (κ := (23, 0, 0)) hn hM rfl rfl rfl rfl z9 rfl ?_
  refine zr_fr hM rfl rfl rfl ?_
  refine zr_getf (κ := (22, 0, 0)) hn hM rfl rfl rfl rfl ?_
  refine zr_fr hM rfl rfl rfl ?_
  refine zr_fr hM rfl rfl rfl ?_
  refine zr_fr hM rfl rfl rfl ?_
  refine zr_fr hM rfl rfl rfl ?_
  refine zr_iald (κ := (23, 0, 0)) hn hM rfl rfl rfl z6 ?_
  refine zr_fr hM rfl rfl rfl ?_
  refine zr_fr hM rfl rfl rfl ?_
  refine zr_iast (κ := (23, 0, 0)) hn hM rfl rfl rfl rfl z6 rfl ?_
  refine zr_fr hM rfl rfl rfl ?_
  refine zr_fr hM rfl rfl rfl ?_
  refine zr_virt (κ := (22, 0, 0)) hn hM rfl rfl rfl rfl rfl rfl rfl rfl rfl ?_
  refine zgo_ret rfl rfl c10_ ?_
  rw [Bool.false_and]
  refine zr_fr hM rfl rfl rfl ?_
  refine zr_getf (κ := (22, 0, 0)) hn hM rfl rfl rfl rfl ?_
  refine zr_fr hM rfl rfl rfl ?_
  refine zr_iald (κ := (23, 0, 0)) hn hM rfl rfl rfl z9 ?_
  exact zr_iret2 hM rfl rfl rfl
set_option maxHeartbeats 4000000 in
theorem s113_0_tttf {n L : Nat} {σ : Ks} {g : List Nat} {cl : Bool} {p1 : Int32} {p2 : Int32} {r1 : Int32} {x4 : Nat} (hn : 2 ≤ n ∧ n ≤ 5) (c1_ : ZR 114 0 [.val (.int p1)] [] (khp n L σ g) true (.inl (some (.int r1)), khp n L σ g, true)) (h2 : zcnd .eq r1 0 = true) (h3 : zcnd .le ((kup σ 42 0 (Int32.ofInt 1)) 42 0) 0 = true) (z4 : zix (Int32.ofInt 0) 5 = some x4) (h5 : zcnd .ne ((kup σ 42 0 (Int32.ofInt 1)) 40 x4) 0 = true) (h6 : zcnd .le ((kup (kup σ 42 0 (Int32.ofInt 1)) 42 0 (Int32.ofInt 2)) 42 0) 0 = false) : ZR 113 0 [.val (.ref (kad n (22, 0, 0))), .val (.int p1), .val (.int p2)] [] (khp n L σ g) cl (.inl (some (.int (Int32.ofInt 0))), khp n L (kup (kup σ 42 0 (Int32.ofInt 1)) 42 0 (Int32.ofInt 2)) (g), false) := by
  have hM : zmi[113]? = some _ := rfl
  have l4 := (zix_some z4).2.2
  refine zr_fr hM rfl rfl rfl ?_
  refine zr_fr hM rfl rfl rfl ?_
  refine zr_stat hM rfl rfl rfl rfl rfl rfl ?_
  refine zgo_ret rfl rfl c1_ ?_
  rw [Bool.and_true]
  refine zr_ift hM rfl rfl h2 ?_
  refine zr_fr hM rfl rfl rfl ?_
  refine zr_fr hM rfl rfl rfl ?_
  refine zr_putf (κ := (22, 0, 0)) hn hM rfl rfl rfl rfl rfl rfl rfl rfl ?_
  refine zr_fr hM rfl rfl rfl ?_
  refine zr_getf (κ := (22, 0, 0)) hn hM rfl rfl rfl rfl ?_
  refine zr_ift hM rfl rfl h3 ?_
  refine zr_fr hM rfl rfl rfl ?_
  refine zr_fr hM rfl rfl rfl ?_
  refine zr_getf (κ := (22, 0, 0)) hn hM rfl rfl rfl rfl ?_
  refine zr_fr hM rfl rfl rfl ?_
  refine zr_bald (κ := (25, 0, 0)) hn hM rfl rfl rfl z4 ?_
  refine zr_ift hM rfl rfl h5 ?_
  refine zr_fr hM rfl rfl rfl ?_
  refine zr_fr hM rfl rfl rfl ?_
  refine zr_putf (κ := (22, 0, 0)) hn hM rfl rfl rfl rfl rfl rfl rfl rfl ?_
  refine zr_fr hM rfl rfl rfl ?_
  refine zr_getf (κ := (22, 0, 0)) hn hM rfl rfl rfl rfl ?_
  refine zr_iff hM rfl rfl h6 ?_
  refine zr_fr hM rfl rfl rfl ?_
  exact zr_iret2 hM rfl rfl rfl
set_option maxHeartbeats 4000000 in
theorem s113_0_tttt {n L : Nat} {σ : Ks} {g : List Nat} {cl : Bool} {p1 : Int32} {p2 : Int32} {r1 : Int32} {x4 : Nat} {x7 : Nat} {x8 : Nat} {σ9 : Ks} {c9 : Bool} (hn : 2 ≤ n ∧ n ≤ 5) (c1_ : ZR 114 0 [.val (.int p1)] [] (khp n L σ g) true (.inl (some (.int r1)), khp n L σ g, true)) (h2 : zcnd .eq r1 0 = true) (h3 : zcnd .le ((kup σ 42 0 (Int32.ofInt 1)) 42 0) 0 = true) (z4 : zix (Int32.ofInt 0) 5 = some x4) (h5 : zcnd .ne ((kup σ 42 0 (Int32.ofInt 1)) 40 x4) 0 = true) (h6 : zcnd .le ((kup (kup σ 42 0 (Int32.ofInt 1)) 42 0 (Int32.ofInt 2)) 42 0) 0 = true) (z7 : zix p1 820 = some x7) (z8 : zix (((Int8.ofInt 12).toInt32) + p1) 820 = some x8) (c9_ : ZR 96 0 [.val (.ref (kad n (22, 0, 0))), .val (.int (Int32.ofInt 0)), .unset] [] (khp n L (kup (kup (kup (kup σ 42 0 (Int32.ofInt 1)) 42 0 (Int32.ofInt 2)) (20 + x7 / 164) (x7 % 164) (((kup (kup σ 42 0 (Int32.ofInt 1)) 42 0 (Int32.ofInt 2)) (20 + x7 / 164) (x7 % 164)) + p2)) (20 + x8 / 164) (x8 % 164) (((kup (kup (kup σ 42 0 (Int32.ofInt 1)) 42 0 (Int32.ofInt 2)) (20 + x7 / 164) (x7 % 164) (((kup (kup σ 42 0 (Int32.ofInt 1)) 42 0 (Int32.ofInt 2)) (20 + x7 / 164) (x7 % 164)) + p2)) (20 + x8 / 164) (x8 % 164)) + p2)) g) true (.inl (none), khp n L σ9 g, c9)) : ZR 113 0 [.val (.ref (kad n (22, 0, 0))), .val (.int p1), .val (.int p2)] [] (khp n L σ g) cl (.inl (some (.int (σ9 (20 + x7 / 164) (x7 % 164)))), khp n L σ9 (g), false) := by
  have hM : zmi[113]? = some _ := rfl
  have l4 := (zix_some z4).2.2
  have l7 := (zix_some z7).2.2
  have l8 := (zix_some z8).2.2
  refine zr_fr hM rfl rfl rfl ?_
  refine zr_fr hM rfl rfl rfl ?_
  refine zr_stat hM rfl rfl rfl rfl rfl rfl ?_
  refine zgo_ret rfl rfl c1_ ?_
  rw [Bool.and_true]
  refine zr_ift hM rfl rfl h2 ?_
  refine zr_fr hM rfl rfl rfl ?_
  refine zr_fr hM rfl rfl rfl ?_
  refine zr_putf (κ := (22, 0, 0)) hn hM rfl rfl rfl rfl rfl rfl rfl rfl ?_
  refine zr_fr hM rfl rfl rfl ?_
  refine zr_getf (κ := (22, 0, 0)) hn hM rfl rfl rfl rfl ?_
  refine zr_ift hM rfl rfl h3 ?_
  refine zr_fr hM rfl rfl rfl ?_
  refine zr_fr hM rfl rfl rfl ?_
  refine zr_getf (κ := (22, 0, 0)) hn hM rfl rfl rfl rfl ?_
  refine zr_fr hM rfl rfl rfl ?_
  refine zr_bald (κ := (25, 0, 0)) hn hM rfl rfl rfl z4 ?_
  refine zr_ift hM rfl rfl h5 ?_
  refine zr_fr hM rfl rfl rfl ?_
  refine zr_fr hM rfl rfl rfl ?_
  refine zr_putf (κ := (22, 0, 0)) hn hM rfl rfl rfl rfl rfl rfl rfl rfl ?_
  refine zr_fr hM rfl rfl rfl ?_
  refine zr_getf (κ := (22, 0, 0)) hn hM rfl rfl rfl rfl ?_
  refine zr_ift hM rfl rfl h6 ?_
  refine zr_fr hM rfl rfl rfl ?_
  refine zr_getf (κ := (22, 0, 0)) hn hM rfl rfl rfl rfl ?_
  refine zr_fr hM rfl rfl rfl ?_
  refine zr_fr hM rfl rfl rfl ?_
  refine zr_iald (κ := (23, 0, 0)) hn hM rfl rfl rfl z7 ?_
  refine zr_fr hM rfl rfl rfl ?_
  refine zr_fr hM rfl rfl rfl ?_
  refine zr_iast (κ := (23, 0, 0)) hn hM rfl rfl rfl rfl z7 rfl ?_
  refine zr_fr hM rfl rfl rfl ?_
  refine zr_getf (κ := (22, 0, 0)) hn hM rfl rfl rfl rfl ?_
  refine zr_fr hM rfl rfl rfl ?_
  refine zr_fr hM rfl rfl rfl ?_
  refine zr_fr hM rfl rfl rfl ?_
  refine zr_fr hM rfl rfl rfl ?_
  refine zr_iald (κ := (23, 0, 0)) hn hM rfl rfl rfl z8 ?_
  refine zr_fr hM rfl rfl rfl ?_
  refine zr_fr hM rfl rfl rfl ?_
  refine zr_iast (κ := (23, 0, 0)) hn hM rfl rfl rfl rfl z8 rfl ?_
  refine zr_fr hM rfl rfl rfl ?_
  refine zr_fr hM rfl rfl rfl ?_
  refine zr_virt (κ := (22, 0, 0)) hn hM rfl rfl rfl rfl rfl rfl rfl rfl rfl ?_
  refine zgo_ret rfl rfl c9_ ?_
  rw [Bool.false_and]
  refine zr_fr hM rfl rfl rfl ?_
  refine zr_getf (κ := (22, 0, 0)) hn hM rfl rfl rfl rfl ?_
  refine zr_fr hM rfl rfl rfl ?_
  refine zr_iald (κ := (23, 0, 0)) hn hM rfl rfl rfl z7 ?_
  exact zr_iret2 hM rfl rfl rfl
set_option maxHeartbeats 4000000 in
theorem s114_0_ff {n L : Nat} {σ : Ks} {g : List Nat} {cl : Bool} {p1 : Int32} (hn : 2 ≤ n ∧ n ≤ 5) (h1 : zcnd .lt p1 0 = false) (h2 : zcnd .ge p1 (Int32.ofInt 4) = false) : ZR 114 0 [.val (.int p1)] [] (khp n L σ g) cl (.inl (some (.int (Int32.ofInt 1))), khp n L σ (g), cl) := by
  have hM : zmi[114]? = some _ := rfl
  refine zr_fr hM rfl rfl rfl ?_
  refine zr_iff hM rfl rfl h1 ?_
  refine zr_fr hM rfl rfl rfl ?_
  refine zr_fr hM rfl rfl rfl ?_
  refine zr_icf hM rfl rfl h2 ?_
  refine zr_fr hM rfl rfl rfl ?_
  refine zr_fr hM rfl rfl rfl ?_
  exact zr_zret2 hM rfl rfl (by decide) rfl
set_option maxHeartbeats 4000000 in
theorem s114_0_ft {n L : Nat} {σ : Ks} {g : List Nat} {cl : Bool} {p1 : Int32} (hn : 2 ≤ n ∧ n ≤ 5) (h1 : zcnd .lt p1 0 = false) (h2 : zcnd .ge p1 (Int32.ofInt 4) = true) : ZR 114 0 [.val (.int p1)] [] (khp n L σ g) cl (.inl (some (.int (Int32.ofInt 0))), khp n L σ (g), cl) := by
  have hM : zmi[114]? = some _ := rfl
  refine zr_fr hM rfl rfl rfl ?_
  refine zr_iff hM rfl rfl h1 ?_
  refine zr_fr hM rfl rfl rfl ?_
  refine zr_fr hM rfl rfl rfl ?_
  refine zr_ict hM rfl rfl h2 ?_
  refine zr_fr hM rfl rfl rfl ?_
  exact zr_zret2 hM rfl rfl (by decide) rfl
set_option maxHeartbeats 4000000 in
theorem s114_0_t {n L : Nat} {σ : Ks} {g : List Nat} {cl : Bool} {p1 : Int32} (hn : 2 ≤ n ∧ n ≤ 5) (h1 : zcnd .lt p1 0 = true) : ZR 114 0 [.val (.int p1)] [] (khp n L σ g) cl (.inl (some (.int (Int32.ofInt 0))), khp n L σ (g), cl) := by
  have hM : zmi[114]? = some _ := rfl
  refine zr_fr hM rfl rfl rfl ?_
  refine zr_ift hM rfl rfl h1 ?_
  refine zr_fr hM rfl rfl rfl ?_
  exact zr_zret2 hM rfl rfl (by decide) rfl
set_option maxHeartbeats 4000000 in
theorem s115_0_ff {n L : Nat} {σ : Ks} {g : List Nat} {cl : Bool} {p1 : Int32} (hn : 2 ≤ n ∧ n ≤ 5) (h1 : zcnd .lt p1 (Int32.ofInt 1) = false) (h2 : zcnd .gt p1 (Int32.ofNat 1000000) = false) : ZR 115 0 [.val (.int p1)] [] (khp n L σ g) cl (.inl (some (.int (Int32.ofInt 1))), khp n L σ (g), cl) := by
  have hM : zmi[115]? = some _ := rfl
  refine zr_fr hM rfl rfl rfl ?_
  refine zr_fr hM rfl rfl rfl ?_
  refine zr_icf hM rfl rfl h1 ?_
  refine zr_fr hM rfl rfl rfl ?_
  refine zr_ldc hM rfl ?_
  refine zr_icf hM rfl rfl h2 ?_
  refine zr_fr hM rfl rfl rfl ?_
  refine zr_fr hM rfl rfl rfl ?_
  exact zr_zret2 hM rfl rfl (by decide) rfl
set_option maxHeartbeats 4000000 in
theorem s115_0_ft {n L : Nat} {σ : Ks} {g : List Nat} {cl : Bool} {p1 : Int32} (hn : 2 ≤ n ∧ n ≤ 5) (h1 : zcnd .lt p1 (Int32.ofInt 1) = false) (h2 : zcnd .gt p1 (Int32.ofNat 1000000) = true) : ZR 115 0 [.val (.int p1)] [] (khp n L σ g) cl (.inl (some (.int (Int32.ofInt 0))), khp n L σ (g), cl) := by
  have hM : zmi[115]? = some _ := rfl
  refine zr_fr hM rfl rfl rfl ?_
  refine zr_fr hM rfl rfl rfl ?_
  refine zr_icf hM rfl rfl h1 ?_
  refine zr_fr hM rfl rfl rfl ?_
  refine zr_ldc hM rfl ?_
  refine zr_ict hM rfl rfl h2 ?_
  refine zr_fr hM rfl rfl rfl ?_
  exact zr_zret2 hM rfl rfl (by decide) rfl
set_option maxHeartbeats 4000000 in
theorem s115_0_t {n L : Nat} {σ : Ks} {g : List Nat} {cl : Bool} {p1 : Int32} (hn : 2 ≤ n ∧ n ≤ 5) (h1 : zcnd .lt p1 (Int32.ofInt 1) = true) : ZR 115 0 [.val (.int p1)] [] (khp n L σ g) cl (.inl (some (.int (Int32.ofInt 0))), khp n L σ (g), cl) := by
  have hM : zmi[115]? = some _ := rfl
  refine zr_fr hM rfl rfl rfl ?_
  refine zr_fr hM rfl rfl rfl ?_
  refine zr_ict hM rfl rfl h1 ?_
  refine zr_fr hM rfl rfl rfl ?_
  exact zr_zret2 hM rfl rfl (by decide) rfl
set_option maxHeartbeats 4000000 in
theorem s116_0_f {n L : Nat} {σ : Ks} {g : List Nat} {cl : Bool} {p1 : Int32} {p2 : Int32} {p3 : Int32} {σ1 : Ks} {c1 : Bool} {r1 : Int32} {σ3 : Ks} {c3 : Bool} {r3 : Int32} (hn : 2 ≤ n ∧ n ≤ 5) (c1_ : ZR 117 0 [.val (.ref (kad n (22, 0, 0))), .val (.int p1), .val (.int p2), .val (.int p3)] [] (khp n L σ g) true (.inl (some (.int r1)), khp n L σ1 g, c1)) (h2 : zcnd .eq r1 0 = false) (c3_ : ZR 120 0 [.val (.ref (kad n (22, 0, 0))), .val (.int p1), .val (.int p2), .val (.int p3), .val (.int (Int32.ofInt 4))] [] (khp n L σ1 g) true (.inl (some (.int r3)), khp n L σ3 g, c3)) : ZR 116 0 [.val (.ref (kad n (22, 0, 0))), .val (.int p1), .val (.int p2), .val (.int p3)] [] (khp n L σ g) cl (.inl (some (.int r3)), khp n L σ3 (g), cl && c1 && c3) := by
  have hM : zmi[116]? = some _ := rfl
  refine zr_fr hM rfl rfl rfl ?_
  refine zr_fr hM rfl rfl rfl ?_
  refine zr_fr hM rfl rfl rfl ?_
  refine zr_fr hM rfl rfl rfl ?_
  refine zr_virt (κ := (22, 0, 0)) hn hM rfl rfl rfl rfl rfl rfl rfl rfl rfl ?_
  refine zgo_ret rfl rfl c1_ ?_
  refine zr_iff hM rfl rfl h2 ?_
  refine zr_fr hM rfl rfl rfl ?_
  refine zr_fr hM rfl rfl rfl ?_
  refine zr_fr hM rfl rfl rfl ?_
  refine zr_fr hM rfl rfl rfl ?_
  refine zr_fr hM rfl rfl rfl ?_
  refine zr_virt (κ := (22, 0, 0)) hn hM rfl rfl rfl rfl rfl rfl rfl rfl rfl ?_
  refine zgo_ret rfl rfl c3_ ?_
  refine zr_fr hM rfl rfl rfl ?_
  exact zr_iret2 hM rfl rfl rfl
set_option maxHeartbeats 4000000 in
theorem s116_0_t {n L : Nat} {σ : Ks} {g : List Nat} {cl : Bool} {p1 : Int32} {p2 : Int32} {p3 : Int32} {σ1 : Ks} {c1 : Bool} {r1 : Int32} (hn : 2 ≤ n ∧ n ≤ 5) (c1_ : ZR 117 0 [.val (.ref (kad n (22, 0, 0))), .val (.int p1), .val (.int p2), .val (.int p3)] [] (khp n L σ g) true (.inl (some (.int r1)), khp n L σ1 g, c1)) (h2 : zcnd .eq r1 0 = true) : ZR 116 0 [.val (.ref (kad n (22, 0, 0))), .val (.int p1), .val (.int p2), .val (.int p3)] [] (khp n L σ g) cl (.inl (some (.int (Int32.ofInt 0))), khp n L σ1 (g), cl && c1) := by
  have hM : zmi[116]? = some _ := rfl
  refine zr_fr hM rfl rfl rfl ?_
  refine zr_fr hM rfl rfl rfl ?_
  refine zr_fr hM rfl rfl rfl ?_
  refine zr_fr hM rfl rfl rfl ?_
  refine zr_virt (κ := (22, 0, 0)) hn hM rfl rfl rfl rfl rfl rfl rfl rfl rfl ?_
  refine zgo_ret rfl rfl c1_ ?_
  refine zr_ift hM rfl rfl h2 ?_
  refine zr_fr hM rfl rfl rfl ?_
  exact zr_iret2 hM rfl rfl rfl
set_option maxHeartbeats 4000000 in
theorem s117_0_fffff {n L : Nat} {σ : Ks} {g : List Nat} {cl : Bool} {p1 : Int32} {p2 : Int32} {p3 : Int32} {r1 : Int32} {x4 : Nat} {r6 : Int32} {x7 : Nat} (hn : 2 ≤ n ∧ n ≤ 5) (c1_ : ZR 118 0 [.val (.ref (kad n (22, 0, 0))), .val (.int p1), .val (.int p2), .val (.int p3)] [] (khp n L σ g) true (.inl (some (.int r1)), khp n L σ g, true)) (h2 : zcnd .eq r1 0 = false) (h3 : zcnd .ne ((kup σ 42 0 (Int32.ofInt 0)) 42 0) 0 = false) (z4 : zix p1 5 = some x4) (h5 : zcnd .ne ((kup σ 42 0 (Int32.ofInt 0)) 40 x4) 0 = false) (c6_ : ZR 97 0 [.val (.int p1)] [] (khp n L (kup σ 42 0 (Int32.ofInt 0)) g) true (.inl (some (.int r6)), khp n L (kup σ 42 0 (Int32.ofInt 0)) g, true)) (z7 : zix (r6 + p2) 820 = some x7) (h8 : zcnd .ge ((kup σ 42 0 (Int32.ofInt 0)) (20 + x7 / 164) (x7 % 164)) p3 = false) (h9 : zcnd .ne ((kup (kup σ 42 0 (Int32.ofInt 0)) 42 0 (Int32.ofInt 2)) 42 0) 0 = false) : ZR 117 0 [.val (.ref (kad n (22, 0, 0))), .val (.int p1), .val (.int p2), .val (.int p3)] [] (khp n L σ g) cl (.inl (some (.int (Int32.ofInt 1))), khp n L (kup (kup σ 42 0 (Int32.ofInt 0)) 42 0 (Int32.ofInt 2)) (g), false) := by
  have hM : zmi[117]? = some _ := rfl
  have l4 := (zix_some z4).2.2
  have l7 := (zix_some z7).2.2
  refine zr_fr hM rfl rfl rfl ?_
  refine zr_fr hM rfl rfl rfl ?_
  refine zr_fr hM rfl rfl rfl ?_
  refine zr_fr hM rfl rfl rfl ?_
  refine zr_fr hM rfl rfl rfl ?_
  refine zr_virt (κ := (22, 0, 0)) hn hM rfl rfl rfl rfl rfl rfl rfl rfl rfl ?_
  refine zgo_ret rfl rfl c1_ ?_
  rw [Bool.and_true]
  refine zr_iff hM rfl rfl h2 ?_
  refine zr_fr hM rfl rfl rfl ?_
  refine zr_fr hM rfl rfl rfl ?_
  refine zr_putf (κ := (22, 0, 0)) hn hM rfl rfl rfl rfl rfl rfl rfl rfl ?_
  refine zr_fr hM rfl rfl rfl ?_
  refine zr_getf (κ := (22, 0, 0)) hn hM rfl rfl rfl rfl ?_
  refine zr_iff hM rfl rfl h3 ?_
  refine zr_fr hM rfl rfl rfl ?_
  refine zr_fr hM rfl rfl rfl ?_
  refine zr_getf (κ := (22, 0, 0)) hn hM rfl rfl rfl rfl ?_
  refine zr_fr hM rfl rfl rfl ?_
  refine zr_bald (κ := (25, 0, 0)) hn hM rfl rfl rfl z4 ?_
  refine zr_iff hM rfl rfl h5 ?_
  refine zr_fr hM rfl rfl rfl ?_
  refine zr_getf (κ := (22, 0, 0)) hn hM rfl rfl rfl rfl ?_
  refine zr_fr hM rfl rfl rfl ?_
  refine zr_stat hM rfl rfl rfl rfl rfl rfl ?_
  refine zgo_ret rfl rfl c6_ ?_
  rw [Bool.and_true]
  refine zr_fr hM rfl rfl rfl ?_
  refine zr_fr hM rfl rfl rfl ?_
  refine zr_iald (κ := (23, 0, 0)) hn hM rfl rfl rfl z7 ?_
  refine zr_fr hM rfl rfl rfl ?_
  refine zr_icf hM rfl rfl h8 ?_
  refine zr_fr hM rfl rfl rfl ?_
  refine zr_fr hM rfl rfl rfl ?_
  refine zr_putf (κ := (22, 0, 0)) hn hM rfl rfl rfl rfl rfl rfl rfl rfl ?_
  refine zr_fr hM rfl rfl rfl ?_
  refine zr_getf (κ := (22, 0, 0)) hn hM rfl rfl rfl rfl ?_
  refine zr_iff hM rfl rfl h9 ?_
  refine zr_fr hM rfl rfl rfl ?_
  refine zr_fr hM rfl rfl rfl ?_
  exact zr_zret2 hM rfl rfl (by decide) rfl
set_option maxHeartbeats 4000000 in
theorem s117_0_fffft {n L : Nat} {σ : Ks} {g : List Nat} {cl : Bool} {p1 : Int32} {p2 : Int32} {p3 : Int32} {r1 : Int32} {x4 : Nat} {r6 : Int32} {x7 : Nat} (hn : 2 ≤ n ∧ n ≤ 5) (c1_ : ZR 118 0 [.val (.ref (kad n (22, 0, 0))), .val (.int p1), .val (.int p2), .val (.int p3)] [] (khp n L σ g) true (.inl (some (.int r1)), khp n L σ g, true)) (h2 : zcnd .eq r1 0 = false) (h3 : zcnd .ne ((kup σ 42 0 (Int32.ofInt 0)) 42 0) 0 = false) (z4 : zix p1 5 = some x4) (h5 : zcnd .ne ((kup σ 42 0 (Int32.ofInt 0)) 40 x4) 0 = false) (c6_ : ZR 97 0 [.val (.int p1)] [] (khp n L (kup σ 42 0 (Int32.ofInt 0)) g) true (.inl (some (.int r6)), khp n L (kup σ 42 0 (Int32.ofInt 0)) g, true)) (z7 : zix (r6 + p2) 820 = some x7) (h8 : zcnd .ge ((kup σ 42 0 (Int32.ofInt 0)) (20 + x7 / 164) (x7 % 164)) p3 = false) (h9 : zcnd .ne ((kup (kup σ 42 0 (Int32.ofInt 0)) 42 0 (Int32.ofInt 2)) 42 0) 0 = true) : ZR 117 0 [.val (.ref (kad n (22, 0, 0))), .val (.int p1), .val (.int p2), .val (.int p3)] [] (khp n L σ g) cl (.inl (some (.int (Int32.ofInt 0))), khp n L (kup (kup σ 42 0 (Int32.ofInt 0)) 42 0 (Int32.ofInt 2)) (g), false) := by
  have hM : zmi[117]? = some _ := rfl
  have l4 := (zix_some z4).2.2
  have l7 := (zix_some z7).2.2
  refine zr_fr hM rfl rfl rfl ?_
  refine zr_fr hM rfl rfl rfl ?_
  refine zr_fr hM rfl rfl rfl ?_
  refine zr_fr hM rfl rfl rfl ?_
  refine zr_fr hM rfl rfl rfl ?_
  refine zr_virt (κ := (22, 0, 0)) hn hM rfl rfl rfl rfl rfl rfl rfl rfl rfl ?_
  refine zgo_ret rfl rfl c1_ ?_
  rw [Bool.and_true]
  refine zr_iff hM rfl rfl h2 ?_
  refine zr_fr hM rfl rfl rfl ?_
  refine zr_fr hM rfl rfl rfl ?_
  refine zr_putf (κ := (22, 0, 0)) hn hM rfl rfl rfl rfl rfl rfl rfl rfl ?_
  refine zr_fr hM rfl rfl rfl ?_
  refine zr_getf (κ := (22, 0, 0)) hn hM rfl rfl rfl rfl ?_
  refine zr_iff hM rfl rfl h3 ?_
  refine zr_fr hM rfl rfl rfl ?_
  refine zr_fr hM rfl rfl rfl ?_
  refine zr_getf (κ := (22, 0, 0)) hn hM rfl rfl rfl rfl ?_
  refine zr_fr hM rfl rfl rfl ?_
  refine zr_bald (κ := (25, 0, 0)) hn hM rfl rfl rfl z4 ?_
  refine zr_iff hM rfl rfl h5 ?_
  refine zr_fr hM rfl rfl rfl ?_
  refine zr_getf (κ := (22, 0, 0)) hn hM rfl rfl rfl rfl ?_
  refine zr_fr hM rfl rfl rfl ?_
  refine zr_stat hM rfl rfl rfl rfl rfl rfl ?_
  refine zgo_ret rfl rfl c6_ ?_
  rw [Bool.and_true]
  refine zr_fr hM rfl rfl rfl ?_
  refine zr_fr hM rfl rfl rfl ?_
  refine zr_iald (κ := (23, 0, 0)) hn hM rfl rfl rfl z7 ?_
  refine zr_fr hM rfl rfl rfl ?_
  refine zr_icf hM rfl rfl h8 ?_
  refine zr_fr hM rfl rfl rfl ?_
  refine zr_fr hM rfl rfl rfl ?_
  refine zr_putf (κ := (22, 0, 0)) hn hM rfl rfl rfl rfl rfl rfl rfl rfl ?_
  refine zr_fr hM rfl rfl rfl ?_
  refine zr_getf (κ := (22, 0, 0)) hn hM rfl rfl rfl rfl ?_
  refine zr_ift hM rfl rfl h9 ?_
  refine zr_fr hM rfl rfl rfl ?_
  exact zr_zret2 hM rfl rfl (by decide) rfl
set_option maxHeartbeats 4000000 in
theorem s117_0_ffftf {n L : Nat} {σ : Ks} {g : List Nat} {cl : Bool} {p1 : Int32} {p2 : Int32} {p3 : Int32} {r1 : Int32} {x4 : Nat} {r6 : Int32} {x7 : Nat} (hn : 2 ≤ n ∧ n ≤ 5) (c1_ : ZR 118 0 [.val (.ref (kad n (22, 0, 0))), .val (.int p1), .val (.int p2), .val (.int p3)] [] (khp n L σ g) true (.inl (some (.int r1)), khp n L σ g, true)) (h2 : zcnd .eq r1 0 = false) (h3 : zcnd .ne ((kup σ 42 0 (Int32.ofInt 0)) 42 0) 0 = false) (z4 : zix p1 5 = some x4) (h5 : zcnd .ne ((kup σ 42 0 (Int32.ofInt 0)) 40 x4) 0 = false) (c6_ : ZR 97 0 [.val (.int p1)] [] (khp n L (kup σ 42 0 (Int32.ofInt 0)) g) true (.inl (some (.int r6)), khp n L (kup σ 42 0 (Int32.ofInt 0)) g, true)) (z7 : zix (r6 + p2) 820 = some x7) (h8 : zcnd .ge ((kup σ 42 0 (Int32.ofInt 0)) (20 + x7 / 164) (x7 % 164)) p3 = true) (h9 : zcnd .ne ((kup (kup σ 42 0 (Int32.ofInt 0)) 42 0 (Int32.ofInt 0)) 42 0) 0 = false) : ZR 117 0 [.val (.ref (kad n (22, 0, 0))), .val (.int p1), .val (.int p2), .val (.int p3)] [] (khp n L σ g) cl (.inl (some (.int (Int32.ofInt 1))), khp n L (kup (kup σ 42 0 (Int32.ofInt 0)) 42 0 (Int32.ofInt 0)) (g), false) := by
  have hM : zmi[117]? = some _ := rfl
  have l4 := (zix_some z4).2.2
  have l7 := (zix_some z7).2.2
  refine zr_fr hM rfl rfl rfl ?_
  refine zr_fr hM rfl rfl rfl ?_
  refine zr_fr hM rfl rfl rfl ?_
  refine zr_fr hM rfl rfl rfl ?_
  refine zr_fr hM rfl rfl rfl ?_
  refine zr_virt (κ := (22, 0, 0)) hn hM rfl rfl rfl rfl rfl rfl rfl rfl rfl ?_
  refine zgo_ret rfl rfl c1_ ?_
  rw [Bool.and_true]
  refine zr_iff hM rfl rfl h2 ?_
  refine zr_fr hM rfl rfl rfl ?_
  refine zr_fr hM rfl rfl rfl ?_
  refine zr_putf (κ := (22, 0, 0)) hn hM rfl rfl rfl rfl rfl rfl rfl rfl ?_
  refine zr_fr hM rfl rfl rfl ?_
  refine zr_getf (κ := (22, 0, 0)) hn hM rfl rfl rfl rfl ?_
  refine zr_iff hM rfl rfl h3 ?_
  refine zr_fr hM rfl rfl rfl ?_
  refine zr_fr hM rfl rfl rfl ?_
  refine zr_getf (κ := (22, 0, 0)) hn hM rfl rfl rfl rfl ?_
  refine zr_fr hM rfl rfl rfl ?_
  refine zr_bald (κ := (25, 0, 0)) hn hM rfl rfl rfl z4 ?_
  refine zr_iff hM rfl rfl h5 ?_
  refine zr_fr hM rfl rfl rfl ?_
  refine zr_getf (κ := (22, 0, 0)) hn hM rfl rfl rfl rfl ?_
  refine zr_fr hM rfl rfl rfl ?_
  refine zr_stat hM rfl rfl rfl rfl rfl rfl ?_
  refine zgo_ret rfl rfl c6_ ?_
  rw [Bool.and_true]
  refine zr_fr hM rfl rfl rfl ?_
  refine zr_fr hM rfl rfl rfl ?_
  refine zr_iald (κ := (23, 0, 0)) hn hM rfl rfl rfl z7 ?_
  refine zr_fr hM rfl rfl rfl ?_
  refine zr_ict hM rfl rfl h8 ?_
  refine zr_fr hM rfl rfl rfl ?_
  refine zr_putf (κ := (22, 0, 0)) hn hM rfl rfl rfl rfl rfl rfl rfl rfl ?_
  refine zr_fr hM rfl rfl rfl ?_
  refine zr_getf (κ := (22, 0, 0)) hn hM rfl rfl rfl rfl ?_
  refine zr_iff hM rfl rfl h9 ?_
  refine zr_fr hM rfl rfl rfl ?_
  refine zr_fr hM rfl rfl rfl ?_
  exact zr_zret2 hM rfl rfl (by decide) rfl
set_option maxHeartbeats 4000000 in
theorem s117_0_ffftt {n L : Nat} {σ : Ks} {g : List Nat} {cl : Bool} {p1 : Int32} {p2 : Int32} {p3 : Int32} {r1 : Int32} {x4 : Nat} {r6 : Int32} {x7 : Nat} (hn : 2 ≤ n ∧ n ≤ 5) (c1_ : ZR 118 0 [.val (.ref (kad n (22, 0, 0))), .val (.int p1), .val (.int p2), .val (.int p3)] [] (khp n L σ g) true (.inl (some (.int r1)), khp n L σ g, true)) (h2 : zcnd .eq r1 0 = false) (h3 : zcnd .ne ((kup σ 42 0 (Int32.ofInt 0)) 42 0) 0 = false) (z4 : zix p1 5 = some x4) (h5 : zcnd .ne ((kup σ 42 0 (Int32.ofInt 0)) 40 x4) 0 = false) (c6_ : ZR 97 0 [.val (.int p1)] [] (khp n L (kup σ 42 0 (Int32.ofInt 0)) g) true (.inl (some (.int r6)), khp n L (kup σ 42 0 (Int32.ofInt 0)) g, true)) (z7 : zix (r6 + p2) 820 = some x7) (h8 : zcnd .ge ((kup σ 42 0 (Int32.ofInt 0)) (20 + x7 / 164) (x7 % 164)) p3 = true) (h9 : zcnd .ne ((kup (kup σ 42 0 (Int32.ofInt 0)) 42 0 (Int32.ofInt 0)) 42 0) 0 = true) : ZR 117 0 [.val (.ref (kad n (22, 0, 0))), .val (.int p1), .val (.int p2), .val (.int p3)] [] (khp n L σ g) cl (.inl (some (.int (Int32.ofInt 0))), khp n L (kup (kup σ 42 0 (Int32.ofInt 0)) 42 0 (Int32.ofInt 0)) (g), false) := by
  have hM : zmi[117]? = some _ := rfl
  have l4 := (zix_some z4).2.2
  have l7 := (zix_some z7).2.2
  refine zr_fr hM rfl rfl rfl ?_
  refine zr_fr hM rfl rfl rfl ?_
  refine zr_fr hM rfl rfl rfl ?_
  refine zr_fr hM rfl rfl rfl ?_
  refine zr_fr hM rfl rfl rfl ?_
  refine zr_virt (κ := (22, 0, 0)) hn hM rfl rfl rfl rfl rfl rfl rfl rfl rfl ?_
  refine zgo_ret rfl rfl c1_ ?_
  rw [Bool.and_true]
  refine zr_iff hM rfl rfl h2 ?_
  refine zr_fr hM rfl rfl rfl ?_
  refine zr_fr hM rfl rfl rfl ?_
  refine zr_putf (κ := (22, 0, 0)) hn hM rfl rfl rfl rfl rfl rfl rfl rfl ?_
  refine zr_fr hM rfl rfl rfl ?_
  refine zr_getf (κ := (22, 0, 0)) hn hM rfl rfl rfl rfl ?_
  refine zr_iff hM rfl rfl h3 ?_
  refine zr_fr hM rfl rfl rfl ?_
  refine zr_fr hM rfl rfl rfl ?_
  refine zr_getf (κ := (22, 0, 0)) hn hM rfl rfl rfl rfl ?_
  refine zr_fr hM rfl rfl rfl ?_
  refine zr_bald (κ := (25, 0, 0)) hn hM rfl rfl rfl z4 ?_
  refine zr_iff hM rfl rfl h5 ?_
  refine zr_fr hM rfl rfl rfl ?_
  refine zr_getf (κ := (22, 0, 0)) hn hM rfl rfl rfl rfl ?_
  refine zr_fr hM rfl rfl rfl ?_
  refine zr_stat hM rfl rfl rfl rfl rfl rfl ?_
  refine zgo_ret rfl rfl c6_ ?_
  rw [Bool.and_true]
  refine zr_fr hM rfl rfl rfl ?_
  refine zr_fr hM rfl rfl rfl ?_
  refine zr_iald (κ := (23, 0, 0)) hn hM rfl rfl rfl z7 ?_
  refine zr_fr hM rfl rfl rfl ?_
  refine zr_ict hM rfl rfl h8 ?_
  refine zr_fr hM rfl rfl rfl ?_
  refine zr_putf (κ := (22, 0, 0)) hn hM rfl rfl rfl rfl rfl rfl rfl rfl ?_
  refine zr_fr hM rfl rfl rfl ?_
  refine zr_getf (κ := (22, 0, 0)) hn hM rfl rfl rfl rfl ?_
  refine zr_ift hM rfl rfl h9 ?_
  refine zr_fr hM rfl rfl rfl ?_
  exact zr_zret2 hM rfl rfl (by decide) rfl
set_option maxHeartbeats 4000000 in
theorem s117_0_fftf {n L : Nat} {σ : Ks} {g : List Nat} {cl : Bool} {p1 : Int32} {p2 : Int32} {p3 : Int32} {r1 : Int32} {x4 : Nat} (hn : 2 ≤ n ∧ n ≤ 5) (c1_ : ZR 118 0 [.val (.ref (kad n (22, 0, 0))), .val (.int p1), .val (.int p2), .val (.int p3)] [] (khp n L σ g) true (.inl (some (.int r1)), khp n L σ g, true)) (h2 : zcnd .eq r1 0 = false) (h3 : zcnd .ne ((kup σ 42 0 (Int32.ofInt 0)) 42 0) 0 = false) (z4 : zix p1 5 = some x4) (h5 : zcnd .ne ((kup σ 42 0 (Int32.ofInt 0)) 40 x4) 0 = true) (h6 : zcnd .ne ((kup (kup σ 42 0 (Int32.ofInt 0)) 42 0 (Int32.ofInt 2)) 42 0) 0 = false) : ZR 117 0 [.val (.ref (kad n (22, 0, 0))), .val (.int p1), .val (.int p2), .val (.int p3)] [] (khp n L σ g) cl (.inl (some (.int (Int32.ofInt 1))), khp n L (kup (kup σ 42 0 (Int32.ofInt 0)) 42 0 (Int32.ofInt 2)) (g), false) := by
  have hM : zmi[117]? = some _ := rfl
  have l4 := (zix_some z4).2.2
  refine zr_fr hM rfl rfl rfl ?_
  refine zr_fr hM rfl rfl rfl ?_
  refine zr_fr hM rfl rfl rfl ?_
  refine zr_fr hM rfl rfl rfl ?_
  refine zr_fr hM rfl rfl rfl ?_
  refine zr_virt (κ := (22, 0, 0)) hn hM rfl rfl rfl rfl rfl rfl rfl rfl rfl ?_
  refine zgo_ret rfl rfl c1_ ?_
  rw [Bool.and_true]
  refine zr_iff hM rfl rfl h2 ?_
  refine zr_fr hM rfl rfl rfl ?_
  refine zr_fr hM rfl rfl rfl ?_
  refine zr_putf (κ := (22, 0, 0)) hn hM rfl rfl rfl rfl rfl rfl rfl rfl ?_
  refine zr_fr hM rfl rfl rfl ?_
  refine zr_getf (κ := (22, 0, 0)) hn hM rfl rfl rfl rfl ?_
  refine zr_iff hM rfl rfl h3 ?_
  refine zr_fr hM rfl rfl rfl ?_
  refine zr_fr hM rfl rfl rfl ?_
  refine zr_getf (κ := (22, 0, 0)) hn hM rfl rfl rfl rfl ?_
  refine zr_fr hM rfl rfl rfl ?_
  refine zr_bald (κ := (25, 0, 0)) hn hM rfl rfl rfl z4 ?_
  refine zr_ift hM rfl rfl h5 ?_
  refine zr_fr hM rfl rfl rfl ?_
  refine zr_fr hM rfl rfl rfl ?_
  refine zr_putf (κ := (22, 0, 0)) hn hM rfl rfl rfl rfl rfl rfl rfl rfl ?_
  refine zr_fr hM rfl rfl rfl ?_
  refine zr_getf (κ := (22, 0, 0)) hn hM rfl rfl rfl rfl ?_
  refine zr_iff hM rfl rfl h6 ?_
  refine zr_fr hM rfl rfl rfl ?_
  refine zr_fr hM rfl rfl rfl ?_
  exact zr_zret2 hM rfl rfl (by decide) rfl
set_option maxHeartbeats 4000000 in
theorem s117_0_fftt {n L : Nat} {σ : Ks} {g : List Nat} {cl : Bool} {p1 : Int32} {p2 : Int32} {p3 : Int32} {r1 : Int32} {x4 : Nat} (hn : 2 ≤ n ∧ n ≤ 5) (c1_ : ZR 118 0 [.val (.ref (kad n (22, 0, 0))), .val (.int p1), .val (.int p2), .val (.int p3)] [] (khp n L σ g) true (.inl (some (.int r1)), khp n L σ g, true)) (h2 : zcnd .eq r1 0 = false) (h3 : zcnd .ne ((kup σ 42 0 (Int32.ofInt 0)) 42 0) 0 = false) (z4 : zix p1 5 = some x4) (h5 : zcnd .ne ((kup σ 42 0 (Int32.ofInt 0)) 40 x4) 0 = true) (h6 : zcnd .ne ((kup (kup σ 42 0 (Int32.ofInt 0)) 42 0 (Int32.ofInt 2)) 42 0) 0 = true) : ZR 117 0 [.val (.ref (kad n (22, 0, 0))), .val (.int p1), .val (.int p2), .val (.int p3)] [] (khp n L σ g) cl (.inl (some (.int (Int32.ofInt 0))), khp n L (kup (kup σ 42 0 (Int32.ofInt 0)) 42 0 (Int32.ofInt 2)) (g), false) := by
  have hM : zmi[117]? = some _ := rfl
  have l4 := (zix_some z4).2.2
  refine zr_fr hM rfl rfl rfl ?_
  refine zr_fr hM rfl rfl rfl ?_
  refine zr_fr hM rfl rfl rfl ?_
  refine zr_fr hM rfl rfl rfl ?_
  refine zr_fr hM rfl rfl rfl ?_
  refine zr_virt (κ := (22, 0, 0)) hn hM rfl rfl rfl rfl rfl rfl rfl rfl rfl ?_
  refine zgo_ret rfl rfl c1_ ?_
  rw [Bool.and_true]
  refine zr_iff hM rfl rfl h2 ?_
  refine zr_fr hM rfl rfl rfl ?_
  refine zr_fr hM rfl rfl rfl ?_
  refine zr_putf (κ := (22, 0, 0)) hn hM rfl rfl rfl rfl rfl rfl rfl rfl ?_
  refine zr_fr hM rfl rfl rfl ?_
  refine zr_getf (κ := (22, 0, 0)) hn hM rfl rfl rfl rfl ?_
  refine zr_iff hM rfl rfl h3 ?_
  refine zr_fr hM rfl rfl rfl ?_
  refine zr_fr hM rfl rfl rfl ?_
  refine zr_getf (κ := (22, 0, 0)) hn hM rfl rfl rfl rfl ?_
  refine zr_fr hM rfl rfl rfl ?_
  refine zr_bald (κ := (25, 0, 0)) hn hM rfl rfl rfl z4 ?_
  refine zr_ift hM rfl rfl h5 ?_
  refine zr_fr hM rfl rfl rfl ?_
  refine zr_fr hM rfl rfl rfl ?_
  refine zr_putf (κ := (22, 0, 0)) hn hM rfl rfl rfl rfl rfl rfl rfl rfl ?_
  refine zr_fr hM rfl rfl rfl ?_
  refine zr_getf (κ := (22, 0, 0)) hn hM rfl rfl rfl rfl ?_
  refine zr_ift hM rfl rfl h6 ?_
  refine zr_fr hM rfl rfl rfl ?_
  exact zr_zret2 hM rfl rfl (by decide) rfl
set_option maxHeartbeats 4000000 in
theorem s117_0_ftf {n L : Nat} {σ : Ks} {g : List Nat} {cl : Bool} {p1 : Int32} {p2 : Int32} {p3 : Int32} {r1 : Int32} (hn : 2 ≤ n ∧ n ≤ 5) (c1_ : ZR 118 0 [.val (.ref (kad n (22, 0, 0))), .val (.int p1), .val (.int p2), .val (.int p3)] [] (khp n L σ g) true (.inl (some (.int r1)), khp n L σ g, true)) (h2 : zcnd .eq r1 0 = false) (h3 : zcnd .ne ((kup σ 42 0 (Int32.ofInt 0)) 42 0) 0 = true) (h4 : zcnd .ne ((kup σ 42 0 (Int32.ofInt 0)) 42 0) 0 = false) : ZR 117 0 [.val (.ref (kad n (22, 0, 0))), .val (.int p1), .val (.int p2), .val (.int p3)] [] (khp n L σ g) cl (.inl (some (.int (Int32.ofInt 1))), khp n L (kup σ 42 0 (Int32.ofInt 0)) (g), false) := by
  have hM : zmi[117]? = some _ := rfl
  refine zr_fr hM rfl rfl rfl ?_
  refine zr_fr hM rfl rfl rfl ?_
  refine zr_fr hM rfl rfl rfl ?_
  refine zr_fr hM rfl rfl rfl ?_
  refine zr_fr hM rfl rfl rfl ?_
  refine zr_virt (κ := (22, 0, 0)) hn hM rfl rfl rfl rfl rfl rfl rfl rfl rfl ?_
  refine zgo_ret rfl rfl c1_ ?_
  rw [Bool.and_true]
  refine zr_iff hM rfl rfl h2 ?_
  refine zr_fr hM rfl rfl rfl ?_
  refine zr_fr hM rfl rfl rfl ?_
  refine zr_putf (κ := (22, 0, 0)) hn hM rfl rfl rfl rfl rfl rfl rfl rfl ?_
  refine zr_fr hM rfl rfl rfl ?_
  refine zr_getf (κ := (22, 0, 0)) hn hM rfl rfl rfl rfl ?_
  refine zr_ift hM rfl rfl h3 ?_
  refine zr_fr hM rfl rfl rfl ?_
  refine zr_getf (κ := (22, 0, 0)) hn hM rfl rfl rfl rfl ?_
  refine zr_iff hM rfl rfl h4 ?_
  refine zr_fr hM rfl rfl rfl ?_
  refine zr_fr hM rfl rfl rfl ?_
  exact zr_zret2 hM rfl rfl (by decide) rfl
set_option maxHeartbeats 4000000 in
theorem s117_0_ftt {n L : Nat} {σ : Ks} {g : List Nat} {cl : Bool} {p1 : Int32} {p2 : Int32} {p3 : Int32} {r1 : Int32} (hn : 2 ≤ n ∧ n ≤ 5) (c1_ : ZR 118 0 [.val (.ref (kad n (22, 0, 0))), .val (.int p1), .val (.int p2), .val (.int p3)] [] (khp n L σ g) true (.inl (some (.int r1)), khp n L σ g, true)) (h2 : zcnd .eq r1 0 = false) (h3 : zcnd .ne ((kup σ 42 0 (Int32.ofInt 0)) 42 0) 0 = true) (h4 : zcnd .ne ((kup σ 42 0 (Int32.ofInt 0)) 42 0) 0 = true) : ZR 117 0 [.val (.ref (kad n (22, 0, 0))), .val (.int p1), .val (.int p2), .val (.int p3)] [] (khp n L σ g) cl (.inl (some (.int (Int32.ofInt 0))), khp n L (kup σ 42 0 (Int32.ofInt 0)) (g), false) := by
  have hM : zmi[117]? = some _ := rfl
  refine zr_fr hM rfl rfl rfl ?_
  refine zr_fr hM rfl rfl rfl ?_
  refine zr_fr hM rfl rfl rfl ?_
  refine zr_fr hM rfl rfl rfl ?_
  refine zr_fr hM rfl rfl rfl ?_
  refine zr_virt (κ := (22, 0, 0)) hn hM rfl rfl rfl rfl rfl rfl rfl rfl rfl ?_
  refine zgo_ret rfl rfl c1_ ?_
  rw [Bool.and_true]
  refine zr_iff hM rfl rfl h2 ?_
  refine zr_fr hM rfl rfl rfl ?_
  refine zr_fr hM rfl rfl rfl ?_
  refine zr_putf (κ := (22, 0, 0)) hn hM rfl rfl rfl rfl rfl rfl rfl rfl ?_
  refine zr_fr hM rfl rfl rfl ?_
  refine zr_getf (κ := (22, 0, 0)) hn hM rfl rfl rfl rfl ?_
  refine zr_ift hM rfl rfl h3 ?_
  refine zr_fr hM rfl rfl rfl ?_
  refine zr_getf (κ := (22, 0, 0)) hn hM rfl rfl rfl rfl ?_
  refine zr_ift hM rfl rfl h4 ?_
  refine zr_fr hM rfl rfl rfl ?_
  exact zr_zret2 hM rfl rfl (by decide) rfl
set_option maxHeartbeats 4000000 in
theorem s117_0_tffff {n L : Nat} {σ : Ks} {g : List Nat} {cl : Bool} {p1 : Int32} {p2 : Int32} {p3 : Int32} {r1 : Int32} {x4 : Nat} {r6 : Int32} {x7 : Nat} (hn : 2 ≤ n ∧ n ≤ 5) (c1_ : ZR 118 0 [.val (.ref (kad n (22, 0, 0))), .val (.int p1), .val (.int p2), .val (.int p3)] [] (khp n L σ g) true (.inl (some (.int r1)), khp n L σ g, true)) (h2 : zcnd .eq r1 0 = true) (h3 : zcnd .ne ((kup σ 42 0 (Int32.ofInt 1)) 42 0) 0 = false) (z4 : zix p1 5 = some x4) (h5 : zcnd .ne ((kup σ 42 0 (Int32.ofInt 1)) 40 x4) 0 = false) (c6_ : ZR 97 0 [.val (.int p1)] [] (khp n L (kup σ 42 0 (Int32.ofInt 1)) g) true (.inl (some (.int r6)), khp n L (kup σ 42 0 (Int32.ofInt 1)) g, true)) (z7 : zix (r6 + p2) 820 = some x7) (h8 : zcnd .ge ((kup σ 42 0 (Int32.ofInt 1)) (20 + x7 / 164) (x7 % 164)) p3 = false) (h9 : zcnd .ne ((kup (kup σ 42 0 (Int32.ofInt 1)) 42 0 (Int32.ofInt 2)) 42 0) 0 = false) : ZR 117 0 [.val (.ref (kad n (22, 0, 0))), .val (.int p1), .val (.int p2), .val (.int p3)] [] (khp n L σ g) cl (.inl (some (.int (Int32.ofInt 1))), khp n L (kup (kup σ 42 0 (Int32.ofInt 1)) 42 0 (Int32.ofInt 2)) (g), false) := by
  have hM : zmi[117]? = some _ := rfl
  have l4 := (zix_some z4).2.2
  have l7 := (zix_some z7).2.2
  refine zr_fr hM rfl rfl rfl ?_
  refine zr_fr hM rfl rfl rfl ?_
  refine zr_fr hM rfl rfl rfl ?_
  refine zr_fr hM rfl rfl rfl ?_
  refine zr_fr hM rfl rfl rfl ?_
  refine zr_virt (κ := (22, 0, 0)) hn hM rfl rfl rfl rfl rfl rfl rfl rfl rfl ?_
  refine zgo_ret rfl rfl c1_ ?_
  rw [Bool.and_true]
  refine zr_ift hM rfl rfl h2 ?_
  refine zr_fr hM rfl rfl rfl ?_
  refine zr_putf (κ := (22, 0, 0)) hn hM rfl rfl rfl rfl rfl rfl rfl rfl ?_
  refine zr_fr hM rfl rfl rfl ?_
  refine zr_getf (κ := (22, 0, 0)) hn hM rfl rfl rfl rfl ?_
  refine zr_iff hM rfl rfl h3 ?_
  refine zr_fr hM rfl rfl rfl ?_
  refine zr_fr hM rfl rfl rfl ?_
  refine zr_getf (κ := (22, 0, 0)) hn hM rfl rfl rfl rfl ?_
  refine zr_fr hM rfl rfl rfl ?_
  refine zr_bald (κ := (25, 0, 0)) hn hM rfl rfl rfl z4 ?_
  refine zr_iff hM rfl rfl h5 ?_
  refine zr_fr hM rfl rfl rfl ?_
  refine zr_getf (κ := (22, 0, 0)) hn hM rfl rfl rfl rfl ?_
  refine zr_fr hM rfl rfl rfl ?_
  refine zr_stat hM rfl rfl rfl rfl rfl rfl ?_
  refine zgo_ret rfl rfl c6_ ?_
  rw [Bool.and_true]
  refine zr_fr hM rfl rfl rfl ?_
  refine zr_fr hM rfl rfl rfl ?_
  refine zr_iald (κ := (23, 0, 0)) hn hM rfl rfl rfl z7 ?_
  refine zr_fr hM rfl rfl rfl ?_
  refine zr_icf hM rfl rfl h8 ?_
  refine zr_fr hM rfl rfl rfl ?_
  refine zr_fr hM rfl rfl rfl ?_
  refine zr_putf (κ := (22, 0, 0)) hn hM rfl rfl rfl rfl rfl rfl rfl rfl ?_
  refine zr_fr hM rfl rfl rfl ?_
  refine zr_getf (κ := (22, 0, 0)) hn hM rfl rfl rfl rfl ?_
  refine zr_iff hM rfl rfl h9 ?_
  refine zr_fr hM rfl rfl rfl ?_
  refine zr_fr hM rfl rfl rfl ?_
  exact zr_zret2 hM rfl rfl (by decide) rfl
set_option maxHeartbeats 4000000 in
theorem s117_0_tffft {n L : Nat} {σ : Ks} {g : List Nat} {cl : Bool} {p1 : Int32} {p2 : Int32} {p3 : Int32} {r1 : Int32} {x4 : Nat} {r6 : Int32} {x7 : Nat} (hn : 2 ≤ n ∧ n ≤ 5) (c1_ : ZR 118 0 [.val (.ref (kad n (22, 0, 0))), .val (.int p1), .val (.int p2), .val (.int p3)] [] (khp n L σ g) true (.inl (some (.int r1)), khp n L σ g, true)) (h2 : zcnd .eq r1 0 = true) (h3 : zcnd .ne ((kup σ 42 0 (Int32.ofInt 1)) 42 0) 0 = false) (z4 : zix p1 5 = some x4) (h5 : zcnd .ne ((kup σ 42 0 (Int32.ofInt 1)) 40 x4) 0 = false) (c6_ : ZR 97 0 [.val (.int p1)] [] (khp n L (kup σ 42 0 (Int32.ofInt 1)) g) true (.inl (some (.int r6)), khp n L (kup σ 42 0 (Int32.ofInt 1)) g, true)) (z7 : zix (r6 + p2) 820 = some x7) (h8 : zcnd .ge ((kup σ 42 0 (Int32.ofInt 1)) (20 + x7 / 164) (x7 % 164)) p3 = false) (h9 : zcnd .ne ((kup (kup σ 42 0 (Int32.ofInt 1)) 42 0 (Int32.ofInt 2)) 42 0) 0 = true) : ZR 117 0 [.val (.ref (kad n (22, 0, 0))), .val (.int p1), .val (.int p2), .val (.int p3)] [] (khp n L σ g) cl (.inl (some (.int (Int32.ofInt 0))), khp n L (kup (kup σ 42 0 (Int32.ofInt 1)) 42 0 (Int32.ofInt 2)) (g), false) := by
  have hM : zmi[117]? = some _ := rfl
  have l4 := (zix_some z4).2.2
  have l7 := (zix_some z7).2.2
  refine zr_fr hM rfl rfl rfl ?_
  refine zr_fr hM rfl rfl rfl ?_
  refine zr_fr hM rfl rfl rfl ?_
  refine zr_fr hM rfl rfl rfl ?_
  refine zr_fr hM rfl rfl rfl ?_
  refine zr_virt (κ := (22, 0, 0)) hn hM rfl rfl rfl rfl rfl rfl rfl rfl rfl ?_
  refine zgo_ret rfl rfl c1_ ?_
  rw [Bool.and_true]
  refine zr_ift hM rfl rfl h2 ?_
  refine zr_fr hM rfl rfl rfl ?_
  refine zr_putf (κ := (22, 0, 0)) hn hM rfl rfl rfl rfl rfl rfl rfl rfl ?_
  refine zr_fr hM rfl rfl rfl ?_
  refine zr_getf (κ := (22, 0, 0)) hn hM rfl rfl rfl rfl ?_
  refine zr_iff hM rfl rfl h3 ?_
  refine zr_fr hM rfl rfl rfl ?_
  refine zr_fr hM rfl rfl rfl ?_
  refine zr_getf (κ := (22, 0, 0)) hn hM rfl rfl rfl rfl ?_
  refine zr_fr hM rfl rfl rfl ?_
  refine zr_bald (κ := (25, 0, 0)) hn hM rfl rfl rfl z4 ?_
  refine zr_iff hM rfl rfl h5 ?_
  refine zr_fr hM rfl rfl rfl ?_
  refine zr_getf (κ := (22, 0, 0)) hn hM rfl rfl rfl rfl ?_
  refine zr_fr hM rfl rfl rfl ?_
  refine zr_stat hM rfl rfl rfl rfl rfl rfl ?_
  refine zgo_ret rfl rfl c6_ ?_
  rw [Bool.and_true]
  refine zr_fr hM rfl rfl rfl ?_
  refine zr_fr hM rfl rfl rfl ?_
  refine zr_iald (κ := (23, 0, 0)) hn hM rfl rfl rfl z7 ?_
  refine zr_fr hM rfl rfl rfl ?_
  refine zr_icf hM rfl rfl h8 ?_
  refine zr_fr hM rfl rfl rfl ?_
  refine zr_fr hM rfl rfl rfl ?_
  refine zr_putf (κ := (22, 0, 0)) hn hM rfl rfl rfl rfl rfl rfl rfl rfl ?_
  refine zr_fr hM rfl rfl rfl ?_
  refine zr_getf (κ := (22, 0, 0)) hn hM rfl rfl rfl rfl ?_
  refine zr_ift hM rfl rfl h9 ?_
  refine zr_fr hM rfl rfl rfl ?_
  exact zr_zret2 hM rfl rfl (by decide) rfl
set_option maxHeartbeats 4000000 in
theorem s117_0_tfftf {n L : Nat} {σ : Ks} {g : List Nat} {cl : Bool} {p1 : Int32} {p2 : Int32} {p3 : Int32} {r1 : Int32} {x4 : Nat} {r6 : Int32} {x7 : Nat} (hn : 2 ≤ n ∧ n ≤ 5) (c1_ : ZR 118 0 [.val (.ref (kad n (22, 0, 0))), .val (.int p1), .val (.int p2), .val (.int p3)] [] (khp n L σ g) true (.inl (some (.int r1)), khp n L σ g, true)) (h2 : zcnd .eq r1 0 = true) (h3 : zcnd .ne ((kup σ 42 0 (Int32.ofInt 1)) 42 0) 0 = false) (z4 : zix p1 5 = some x4) (h5 : zcnd .ne ((kup σ 42 0 (Int32.ofInt 1)) 40 x4) 0 = false) (c6_ : ZR 97 0 [.val (.int p1)] [] (khp n L (kup σ 42 0 (Int32.ofInt 1)) g) true (.inl (some (.int r6)), khp n L (kup σ 42 0 (Int32.ofInt 1)) g, true)) (z7 : zix (r6 + p2) 820 = some x7) (h8 : zcnd .ge ((kup σ 42 0 (Int32.ofInt 1)) (20 + x7 / 164) (x7 % 164)) p3 = true) (h9 : zcnd .ne ((kup (kup σ 42 0 (Int32.ofInt 1)) 42 0 (Int32.ofInt 0)) 42 0) 0 = false) : ZR 117 0 [.val (.ref (kad n (22, 0, 0))), .val (.int p1), .val (.int p2), .val (.int p3)] [] (khp n L σ g) cl (.inl (some (.int (Int32.ofInt 1))), khp n L (kup (kup σ 42 0 (Int32.ofInt 1)) 42 0 (Int32.ofInt 0)) (g), false) := by
  have hM : zmi[117]? = some _ := rfl
  have l4 := (zix_some z4).2.2
  have l7 := (zix_some z7).2.2
  refine zr_fr hM rfl rfl rfl ?_
  refine zr_fr hM rfl rfl rfl ?_
  refine zr_fr hM rfl rfl rfl ?_
  refine zr_fr hM rfl rfl rfl ?_
  refine zr_fr hM rfl rfl rfl ?_
  refine zr_virt (κ := (22, 0, 0)) hn hM rfl rfl rfl rfl rfl rfl rfl rfl rfl ?_
  refine zgo_ret rfl rfl c1_ ?_
  rw [Bool.and_true]
  refine zr_ift hM rfl rfl h2 ?_
  refine zr_fr hM rfl rfl rfl ?_
  refine zr_putf (κ := (22, 0, 0)) hn hM rfl rfl rfl rfl rfl rfl rfl rfl ?_
  refine zr_fr hM rfl rfl rfl ?_
  refine zr_getf (κ := (22, 0, 0)) hn hM rfl rfl rfl rfl ?_
  refine zr_iff hM rfl rfl h3 ?_
  refine zr_fr hM rfl rfl rfl ?_
  refine zr_fr hM rfl rfl rfl ?_
  refine zr_getf (κ := (22, 0, 0)) hn hM rfl rfl rfl rfl ?_
  refine zr_fr hM rfl rfl rfl ?_
  refine zr_bald (κ := (25, 0, 0)) hn hM rfl rfl rfl z4 ?_
  refine zr_iff hM rfl rfl h5 ?_
  refine zr_fr hM rfl rfl rfl ?_
  refine zr_getf (κ := (22, 0, 0)) hn hM rfl rfl rfl rfl ?_
  refine zr_fr hM rfl rfl rfl ?_
  refine zr_stat hM rfl rfl rfl rfl rfl rfl ?_
  refine zgo_ret rfl rfl c6_ ?_
  rw [Bool.and_true]
  refine zr_fr hM rfl rfl rfl ?_
  refine zr_fr hM rfl rfl rfl ?_
  refine zr_iald (κ := (23, 0, 0)) hn hM rfl rfl rfl z7 ?_
  refine zr_fr hM rfl rfl rfl ?_
  refine zr_ict hM rfl rfl h8 ?_
  refine zr_fr hM rfl rfl rfl ?_
  refine zr_putf (κ := (22, 0, 0)) hn hM rfl rfl rfl rfl rfl rfl rfl rfl ?_
  refine zr_fr hM rfl rfl rfl ?_
  refine zr_getf (κ := (22, 0, 0)) hn hM rfl rfl rfl rfl ?_
  refine zr_iff hM rfl rfl h9 ?_
  refine zr_fr hM rfl rfl rfl ?_
  refine zr_fr hM rfl rfl rfl ?_
  exact zr_zret2 hM rfl rfl (by decide) rfl
set_option maxHeartbeats 4000000 in
theorem s117_0_tfftt {n L : Nat} {σ : Ks} {g : List Nat} {cl : Bool} {p1 : Int32} {p2 : Int32} {p3 : Int32} {r1 : Int32} {x4 : Nat} {r6 : Int32} {x7 : Nat} (hn : 2 ≤ n ∧ n ≤ 5) (c1_ : ZR 118 0 [.val (.ref (kad n (22, 0, 0))), .val (.int p1), .val (.int p2), .val (.int p3)] [] (khp n L σ g) true (.inl (some (.int r1)), khp n L σ g, true)) (h2 : zcnd .eq r1 0 = true) (h3 : zcnd .ne ((kup σ 42 0 (Int32.ofInt 1)) 42 0) 0 = false) (z4 : zix p1 5 = some x4) (h5 : zcnd .ne ((kup σ 42 0 (Int32.ofInt 1)) 40 x4) 0 = false) (c6_ : ZR 97 0 [.val (.int p1)] [] (khp n L (kup σ 42 0 (Int32.ofInt 1)) g) true (.inl (some (.int r6)), khp n L (kup σ 42 0 (Int32.ofInt 1)) g, true)) (z7 : zix (r6 + p2) 820 = some x7) (h8 : zcnd .ge ((kup σ 42 0 (Int32.ofInt 1)) (20 + x7 / 164) (x7 % 164)) p3 = true) (h9 : zcnd .ne ((kup (kup σ 42 0 (Int32.ofInt 1)) 42 0 (Int32.ofInt 0)) 42 0) 0 = true) : ZR 117 0 [.val (.ref (kad n (22, 0, 0))), .val (.int p1), .val (.int p2), .val (.int p3)] [] (khp n L σ g) cl (.inl (some (.int (Int32.ofInt 0))), khp n L (kup (kup σ 42 0 (Int32.ofInt 1)) 42 0 (Int32.ofInt 0)) (g), false) := by
  have hM : zmi[117]? = some _ := rfl
  have l4 := (zix_some z4).2.2
  have l7 := (zix_some z7).2.2
  refine zr_fr hM rfl rfl rfl ?_
  refine zr_fr hM rfl rfl rfl ?_
  refine zr_fr hM rfl rfl rfl ?_
  refine zr_fr hM rfl rfl rfl ?_
  refine zr_fr hM rfl rfl rfl ?_
  refine zr_virt (κ := (22, 0, 0)) hn hM rfl rfl rfl rfl rfl rfl rfl rfl rfl ?_
  refine zgo_ret rfl rfl c1_ ?_
  rw [Bool.and_true]
  refine zr_ift hM rfl rfl h2 ?_
  refine zr_fr hM rfl rfl rfl ?_
  refine zr_putf (κ := (22, 0, 0)) hn hM rfl rfl rfl rfl rfl rfl rfl rfl ?_
  refine zr_fr hM rfl rfl rfl ?_
  refine zr_getf (κ := (22, 0, 0)) hn hM rfl rfl rfl rfl ?_
  refine zr_iff hM rfl rfl h3 ?_
  refine zr_fr hM rfl rfl rfl ?_
  refine zr_fr hM rfl rfl rfl ?_
  refine zr_getf (κ := (22, 0, 0)) hn hM rfl rfl rfl rfl ?_
  refine zr_fr hM rfl rfl rfl ?_
  refine zr_bald (κ := (25, 0, 0)) hn hM rfl rfl rfl z4 ?_
  refine zr_iff hM rfl rfl h5 ?_
  refine zr_fr hM rfl rfl rfl ?_
  refine zr_getf (κ := (22, 0, 0)) hn hM rfl rfl rfl rfl ?_
  refine zr_fr hM rfl rfl rfl ?_
  refine zr_stat hM rfl rfl rfl rfl rfl rfl ?_
  refine zgo_ret rfl rfl c6_ ?_
  rw [Bool.and_true]
  refine zr_fr hM rfl rfl rfl ?_
  refine zr_fr hM rfl rfl rfl ?_
  refine zr_iald (κ := (23, 0, 0)) hn hM rfl rfl rfl z7 ?_
  refine zr_fr hM rfl rfl rfl ?_
  refine zr_ict hM rfl rfl h8 ?_
  refine zr_fr hM rfl rfl rfl ?_
  refine zr_putf (κ := (22, 0, 0)) hn hM rfl rfl rfl rfl rfl rfl rfl rfl ?_
  refine zr_fr hM rfl rfl rfl ?_
  refine zr_getf (κ := (22, 0, 0)) hn hM rfl rfl rfl rfl ?_
  refine zr_ift hM rfl rfl h9 ?_
  refine zr_fr hM rfl rfl rfl ?_
  exact zr_zret2 hM rfl rfl (by decide) rfl
set_option maxHeartbeats 4000000 in
theorem s117_0_tftf {n L : Nat} {σ : Ks} {g : List Nat} {cl : Bool} {p1 : Int32} {p2 : Int32} {p3 : Int32} {r1 : Int32} {x4 : Nat} (hn : 2 ≤ n ∧ n ≤ 5) (c1_ : ZR 118 0 [.val (.ref (kad n (22, 0, 0))), .val (.int p1), .val (.int p2), .val (.int p3)] [] (khp n L σ g) true (.inl (some (.int r1)), khp n L σ g, true)) (h2 : zcnd .eq r1 0 = true) (h3 : zcnd .ne ((kup σ 42 0 (Int32.ofInt 1)) 42 0) 0 = false) (z4 : zix p1 5 = some x4) (h5 : zcnd .ne ((kup σ 42 0 (Int32.ofInt 1)) 40 x4) 0 = true) (h6 : zcnd .ne ((kup (kup σ 42 0 (Int32.ofInt 1)) 42 0 (Int32.ofInt 2)) 42 0) 0 = false) : ZR 117 0 [.val (.ref (kad n (22, 0, 0))), .val (.int p1), .val (.int p2), .val (.int p3)] [] (khp n L σ g) cl (.inl (some (.int (Int32.ofInt 1))), khp n L (kup (kup σ 42 0 (Int32.ofInt 1)) 42 0 (Int32.ofInt 2)) (g), false) := by
  have hM : zmi[117]? = some _ := rfl
  have l4 := (zix_some z4).2.2
  refine zr_fr hM rfl rfl rfl ?_
  refine zr_fr hM rfl rfl rfl ?_
  refine zr_fr hM rfl rfl rfl ?_
  refine zr_fr hM rfl rfl rfl ?_
  refine zr_fr hM rfl rfl rfl ?_
  refine zr_virt (κ := (22, 0, 0)) hn hM rfl rfl rfl rfl rfl rfl rfl rfl rfl ?_
  refine zgo_ret rfl rfl c1_ ?_
  rw [Bool.and_true]
  refine zr_ift hM rfl rfl h2 ?_
  refine zr_fr hM rfl rfl rfl ?_
  refine zr_putf (κ := (22, 0, 0)) hn hM rfl rfl rfl rfl rfl rfl rfl rfl ?_
  refine zr_fr hM rfl rfl rfl ?_
  refine zr_getf (κ := (22, 0, 0)) hn hM rfl rfl rfl rfl ?_
  refine zr_iff hM rfl rfl h3 ?_
  refine zr_fr hM rfl rfl rfl ?_
  refine zr_fr hM rfl rfl rfl ?_
  refine zr_getf (κ := (22, 0, 0)) hn hM rfl rfl rfl rfl ?_
  refine zr_fr hM rfl rfl rfl ?_
  refine zr_bald (κ := (25, 0, 0)) hn hM rfl rfl rfl z4 ?_
  refine zr_ift hM rfl rfl h5 ?_
  refine zr_fr hM rfl rfl rfl ?_
  refine zr_fr hM rfl rfl rfl ?_
  refine zr_putf (κ := (22, 0, 0)) hn hM rfl rfl rfl rfl rfl rfl rfl rfl ?_
  refine zr_fr hM rfl rfl rfl ?_
  refine zr_getf (κ := (22, 0, 0)) hn hM rfl rfl rfl rfl ?_
  refine zr_iff hM rfl rfl h6 ?_
  refine zr_fr hM rfl rfl rfl ?_
  refine zr_fr hM rfl rfl rfl ?_
  exact zr_zret2 hM rfl rfl (by decide) rfl
set_option maxHeartbeats 4000000 in
theorem s117_0_tftt {n L : Nat} {σ : Ks} {g : List Nat} {cl : Bool} {p1 : Int32} {p2 : Int32} {p3 : Int32} {r1 : Int32} {x4 : Nat} (hn : 2 ≤ n ∧ n ≤ 5) (c1_ : ZR 118 0 [.val (.ref (kad n (22, 0, 0))), .val (.int p1), .val (.int p2), .val (.int p3)] [] (khp n L σ g) true (.inl (some (.int r1)), khp n L σ g, true)) (h2 : zcnd .eq r1 0 = true) (h3 : zcnd .ne ((kup σ 42 0 (Int32.ofInt 1)) 42 0) 0 = false) (z4 : zix p1 5 = some x4) (h5 : zcnd .ne ((kup σ 42 0 (Int32.ofInt 1)) 40 x4) 0 = true) (h6 : zcnd .ne ((kup (kup σ 42 0 (Int32.ofInt 1)) 42 0 (Int32.ofInt 2)) 42 0) 0 = true) : ZR 117 0 [.val (.ref (kad n (22, 0, 0))), .val (.int p1), .val (.int p2), .val (.int p3)] [] (khp n L σ g) cl (.inl (some (.int (Int32.ofInt 0))), khp n L (kup (kup σ 42 0 (Int32.ofInt 1)) 42 0 (Int32.ofInt 2)) (g), false) := by
  have hM : zmi[117]? = some _ := rfl
  have l4 := (zix_some z4).2.2
  refine zr_fr hM rfl rfl rfl ?_
  refine zr_fr hM rfl rfl rfl ?_
  refine zr_fr hM rfl rfl rfl ?_
  refine zr_fr hM rfl rfl rfl ?_
  refine zr_fr hM rfl rfl rfl ?_
  refine zr_virt (κ := (22, 0, 0)) hn hM rfl rfl rfl rfl rfl rfl rfl rfl rfl ?_
  refine zgo_ret rfl rfl c1_ ?_
  rw [Bool.and_true]
  refine zr_ift hM rfl rfl h2 ?_
  refine zr_fr hM rfl rfl rfl ?_
  refine zr_putf (κ := (22, 0, 0)) hn hM rfl rfl rfl rfl rfl rfl rfl rfl ?_
  refine zr_fr hM rfl rfl rfl ?_
  refine zr_getf (κ := (22, 0, 0)) hn hM rfl rfl rfl rfl ?_
  refine zr_iff hM rfl rfl h3 ?_
  refine zr_fr hM rfl rfl rfl ?_
  refine zr_fr hM rfl rfl rfl ?_
  refine zr_getf (κ := (22, 0, 0)) hn hM rfl rfl rfl rfl ?_
  refine zr_fr hM rfl rfl rfl ?_
  refine zr_bald (κ := (25, 0, 0)) hn hM rfl rfl rfl z4 ?_
  refine zr_ift hM rfl rfl h5 ?_
  refine zr_fr hM rfl rfl rfl ?_
  refine zr_fr hM rfl rfl rfl ?_
  refine zr_putf (κ := (22, 0, 0)) hn hM rfl rfl rfl rfl rfl rfl rfl rfl ?_
  refine zr_fr hM rfl rfl rfl ?_
  refine zr_getf (κ := (22, 0, 0)) hn hM rfl rfl rfl rfl ?_
  refine zr_ift hM rfl rfl h6 ?_
  refine zr_fr hM rfl rfl rfl ?_
  exact zr_zret2 hM rfl rfl (by decide) rfl
set_option maxHeartbeats 4000000 in
theorem s117_0_ttf {n L : Nat} {σ : Ks} {g : List Nat} {cl : Bool} {p1 : Int32} {p2 : Int32} {p3 : Int32} {r1 : Int32} (hn : 2 ≤ n ∧ n ≤ 5) (c1_ : ZR 118 0 [.val (.ref (kad n (22, 0, 0))), .val (.int p1), .val (.int p2), .val (.int p3)] [] (khp n L σ g) true (.inl (some (.int r1)), khp n L σ g, true)) (h2 : zcnd .eq r1 0 = true) (h3 : zcnd .ne ((kup σ 42 0 (Int32.ofInt 1)) 42 0) 0 = true) (h4 : zcnd .ne ((kup σ 42 0 (Int32.ofInt 1)) 42 0) 0 = false) : ZR 117 0 [.val (.ref (kad n (22, 0, 0))), .val (.int p1), .val (.int p2), .val (.int p3)] [] (khp n L σ g) cl (.inl (some (.int (Int32.ofInt 1))), khp n L (kup σ 42 0 (Int32.ofInt 1)) (g), false) := by
  have hM : zmi[117]? = some _ := rfl
  refine zr_fr hM rfl rfl rfl ?_
  refine zr_fr hM rfl rfl rfl ?_
  refine zr_fr hM rfl rfl rfl ?_
  refine zr_fr hM rfl rfl rfl ?_
  refine zr_fr hM rfl rfl rfl ?_
  refine zr_virt (κ := (22, 0, 0)) hn hM rfl rfl rfl rfl rfl rfl rfl rfl rfl ?_
  refine zgo_ret rfl rfl c1_ ?_
  rw [Bool.and_true]
  refine zr_ift hM rfl rfl h2 ?_
  refine zr_fr hM rfl rfl rfl ?_
  refine zr_putf (κ := (22, 0, 0)) hn hM rfl rfl rfl rfl rfl rfl rfl rfl ?_
  refine zr_fr hM rfl rfl rfl ?_
  refine zr_getf (κ := (22, 0, 0)) hn hM rfl rfl rfl rfl ?_
  refine zr_ift hM rfl rfl h3 ?_
  refine zr_fr hM rfl rfl rfl ?_
  refine zr_getf (κ := (22, 0, 0)) hn hM rfl rfl rfl rfl ?_
  refine zr_iff hM rfl rfl h4 ?_
  refine zr_fr hM rfl rfl rfl ?_
  refine zr_fr hM rfl rfl rfl ?_
  exact zr_zret2 hM rfl rfl (by decide) rfl
set_option maxHeartbeats 4000000 in
theorem s117_0_ttt {n L : Nat} {σ : Ks} {g : List Nat} {cl : Bool} {p1 : Int32} {p2 : Int32} {p3 : Int32} {r1 : Int32} (hn : 2 ≤ n ∧ n ≤ 5) (c1_ : ZR 118 0 [.val (.ref (kad n (22, 0, 0))), .val (.int p1), .val (.int p2), .val (.int p3)] [] (khp n L σ g) true (.inl (some (.int r1)), khp n L σ g, true)) (h2 : zcnd .eq r1 0 = true) (h3 : zcnd .ne ((kup σ 42 0 (Int32.ofInt 1)) 42 0) 0 = true) (h4 : zcnd .ne ((kup σ 42 0 (Int32.ofInt 1)) 42 0) 0 = true) : ZR 117 0 [.val (.ref (kad n (22, 0, 0))), .val (.int p1), .val (.int p2), .val (.int p3)] [] (khp n L σ g) cl (.inl (some (.int (Int32.ofInt 0))), khp n L (kup σ 42 0 (Int32.ofInt 1)) (g), false) := by
  have hM : zmi[117]? = some _ := rfl
  refine zr_fr hM rfl rfl rfl ?_
  refine zr_fr hM rfl rfl rfl ?_
  refine zr_fr hM rfl rfl rfl ?_
  refine zr_fr hM rfl rfl rfl ?_
  refine zr_fr hM rfl rfl rfl ?_
  refine zr_virt (κ := (22, 0, 0)) hn hM rfl rfl rfl rfl rfl rfl rfl rfl rfl ?_
  refine zgo_ret rfl rfl c1_ ?_
  rw [Bool.and_true]
  refine zr_ift hM rfl rfl h2 ?_
  refine zr_fr hM rfl rfl rfl ?_
  refine zr_putf (κ := (22, 0, 0)) hn hM rfl rfl rfl rfl rfl rfl rfl rfl ?_
  refine zr_fr hM rfl rfl rfl ?_
  refine zr_getf (κ := (22, 0, 0)) hn hM rfl rfl rfl rfl ?_
  refine zr_ift hM rfl rfl h3 ?_
  refine zr_fr hM rfl rfl rfl ?_
  refine zr_getf (κ := (22, 0, 0)) hn hM rfl rfl rfl rfl ?_
  refine zr_ift hM rfl rfl h4 ?_
  refine zr_fr hM rfl rfl rfl ?_
  exact zr_zret2 hM rfl rfl (by decide) rfl
set_option maxHeartbeats 4000000 in
theorem s118_0_fff {n L : Nat} {σ : Ks} {g : List Nat} {cl : Bool} {p1 : Int32} {p2 : Int32} {p3 : Int32} {r1 : Int32} {r3 : Int32} {r5 : Int32} (hn : 2 ≤ n ∧ n ≤ 5) (c1_ : ZR 119 0 [.val (.ref (kad n (22, 0, 0))), .val (.int p1)] [] (khp n L σ g) true (.inl (some (.int r1)), khp n L σ g, true)) (h2 : zcnd .eq r1 0 = false) (c3_ : ZR 114 0 [.val (.int p2)] [] (khp n L σ g) true (.inl (some (.int r3)), khp n L σ g, true)) (h4 : zcnd .eq r3 0 = false) (c5_ : ZR 115 0 [.val (.int p3)] [] (khp n L σ g) true (.inl (some (.int r5)), khp n L σ g, true)) (h6 : zcnd .eq r5 0 = false) : ZR 118 0 [.val (.ref (kad n (22, 0, 0))), .val (.int p1), .val (.int p2), .val (.int p3)] [] (khp n L σ g) cl (.inl (some (.int (Int32.ofInt 1))), khp n L σ (g), cl) := by
  have hM : zmi[118]? = some _ := rfl
  refine zr_fr hM rfl rfl rfl ?_
  refine zr_fr hM rfl rfl rfl ?_
  refine zr_virt (κ := (22, 0, 0)) hn hM rfl rfl rfl rfl rfl rfl rfl rfl rfl ?_
  refine zgo_ret rfl rfl c1_ ?_
  rw [Bool.and_true]
  refine zr_iff hM rfl rfl h2 ?_
  refine zr_fr hM rfl rfl rfl ?_
  refine zr_stat hM rfl rfl rfl rfl rfl rfl ?_
  refine zgo_ret rfl rfl c3_ ?_
  rw [Bool.and_true]
  refine zr_iff hM rfl rfl h4 ?_
  refine zr_fr hM rfl rfl rfl ?_
  refine zr_stat hM rfl rfl rfl rfl rfl rfl ?_
  refine zgo_ret rfl rfl c5_ ?_
  rw [Bool.and_true]
  refine zr_iff hM rfl rfl h6 ?_
  refine zr_fr hM rfl rfl rfl ?_
  refine zr_fr hM rfl rfl rfl ?_
  exact zr_zret2 hM rfl rfl (by decide) rfl
set_option maxHeartbeats 4000000 in
theorem s118_0_fft {n L : Nat} {σ : Ks} {g : List Nat} {cl : Bool} {p1 : Int32} {p2 : Int32} {p3 : Int32} {r1 : Int32} {r3 : Int32} {r5 : Int32} (hn : 2 ≤ n ∧ n ≤ 5) (c1_ : ZR 119 0 [.val (.ref (kad n (22, 0, 0))), .val (.int p1)] [] (khp n L σ g) true (.inl (some (.int r1)), khp n L σ g, true)) (h2 : zcnd .eq r1 0 = false) (c3_ : ZR 114 0 [.val (.int p2)] [] (khp n L σ g) true (.inl (some (.int r3)), khp n L σ g, true)) (h4 : zcnd .eq r3 0 = false) (c5_ : ZR 115 0 [.val (.int p3)] [] (khp n L σ g) true (.inl (some (.int r5)), khp n L σ g, true)) (h6 : zcnd .eq r5 0 = true) : ZR 118 0 [.val (.ref (kad n (22, 0, 0))), .val (.int p1), .val (.int p2), .val (.int p3)] [] (khp n L σ g) cl (.inl (some (.int (Int32.ofInt 0))), khp n L σ (g), cl) := by
  have hM : zmi[118]? = some _ := rfl
  refine zr_fr hM rfl rfl rfl ?_
  refine zr_fr hM rfl rfl rfl ?_
  refine zr_virt (κ := (22, 0, 0)) hn hM rfl rfl rfl rfl rfl rfl rfl rfl rfl ?_
  refine zgo_ret rfl rfl c1_ ?_
  rw [Bool.and_true]
  refine zr_iff hM rfl rfl h2 ?_
  refine zr_fr hM rfl rfl rfl ?_
  refine zr_stat hM rfl rfl rfl rfl rfl rfl ?_
  refine zgo_ret rfl rfl c3_ ?_
  rw [Bool.and_true]
  refine zr_iff hM rfl rfl h4 ?_
  refine zr_fr hM rfl rfl rfl ?_
  refine zr_stat hM rfl rfl rfl rfl rfl rfl ?_
  refine zgo_ret rfl rfl c5_ ?_
  rw [Bool.and_true]
  refine zr_ift hM rfl rfl h6 ?_
  refine zr_fr hM rfl rfl rfl ?_
  exact zr_zret2 hM rfl rfl (by decide) rfl
set_option maxHeartbeats 4000000 in
theorem s118_0_ft {n L : Nat} {σ : Ks} {g : List Nat} {cl : Bool} {p1 : Int32} {p2 : Int32} {p3 : Int32} {r1 : Int32} {r3 : Int32} (hn : 2 ≤ n ∧ n ≤ 5) (c1_ : ZR 119 0 [.val (.ref (kad n (22, 0, 0))), .val (.int p1)] [] (khp n L σ g) true (.inl (some (.int r1)), khp n L σ g, true)) (h2 : zcnd .eq r1 0 = false) (c3_ : ZR 114 0 [.val (.int p2)] [] (khp n L σ g) true (.inl (some (.int r3)), khp n L σ g, true)) (h4 : zcnd .eq r3 0 = true) : ZR 118 0 [.val (.ref (kad n (22, 0, 0))), .val (.int p1), .val (.int p2), .val (.int p3)] [] (khp n L σ g) cl (.inl (some (.int (Int32.ofInt 0))), khp n L σ (g), cl) := by
  have hM : zmi[118]? = some _ := rfl
  refine zr_fr hM rfl rfl rfl ?_
  refine zr_fr hM rfl rfl rfl ?_
  refine zr_virt (κ := (22, 0, 0)) hn hM rfl rfl rfl rfl rfl rfl rfl rfl rfl ?_
  refine zgo_ret rfl rfl c1_ ?_
  rw [Bool.and_true]
  refine zr_iff hM rfl rfl h2 ?_
  refine zr_fr hM rfl rfl rfl ?_
  refine zr_stat hM rfl rfl rfl rfl rfl rfl ?_
  refine zgo_ret rfl rfl c3_ ?_
  rw [Bool.and_true]
  refine zr_ift hM rfl rfl h4 ?_
  refine zr_fr hM rfl rfl rfl ?_
  exact zr_zret2 hM rfl rfl (by decide) rfl
set_option maxHeartbeats 4000000 in
theorem s118_0_t {n L : Nat} {σ : Ks} {g : List Nat} {cl : Bool} {p1 : Int32} {p2 : Int32} {p3 : Int32} {r1 : Int32} (hn : 2 ≤ n ∧ n ≤ 5) (c1_ : ZR 119 0 [.val (.ref (kad n (22, 0, 0))), .val (.int p1)] [] (khp n L σ g) true (.inl (some (.int r1)), khp n L σ g, true)) (h2 : zcnd .eq r1 0 = true) : ZR 118 0 [.val (.ref (kad n (22, 0, 0))), .val (.int p1), .val (.int p2), .val (.int p3)] [] (khp n L σ g) cl (.inl (some (.int (Int32.ofInt 0))), khp n L σ (g), cl) := by
  have hM : zmi[118]? = some _ := rfl
  refine zr_fr hM rfl rfl rfl ?_
  refine zr_fr hM rfl rfl rfl ?_
  refine zr_virt (κ := (22, 0, 0)) hn hM rfl rfl rfl rfl rfl rfl rfl rfl rfl ?_
  refine zgo_ret rfl rfl c1_ ?_
  rw [Bool.and_true]
  refine zr_ift hM rfl rfl h2 ?_
  refine zr_fr hM rfl rfl rfl ?_
  exact zr_zret2 hM rfl rfl (by decide) rfl
set_option maxHeartbeats 4000000 in
theorem s119_0_ff {n L : Nat} {σ : Ks} {g : List Nat} {cl : Bool} {p1 : Int32} (hn : 2 ≤ n ∧ n ≤ 5) (h1 : zcnd .lt p1 0 = false) (h2 : zcnd .ge p1 (σ 42 1) = false) : ZR 119 0 [.val (.ref (kad n (22, 0, 0))), .val (.int p1)] [] (khp n L σ g) cl (.inl (some (.int (Int32.ofInt 1))), khp n L σ (g), cl) := by
  have hM : zmi[119]? = some _ := rfl
  refine zr_fr hM rfl rfl rfl ?_
  refine zr_iff hM rfl rfl h1 ?_
  refine zr_fr hM rfl rfl rfl ?_
  refine zr_fr hM rfl rfl rfl ?_
  refine zr_getf (κ := (22, 0, 0)) hn hM rfl rfl rfl rfl ?_
  refine zr_icf hM rfl rfl h2 ?_
  refine zr_fr hM rfl rfl rfl ?_
  refine zr_fr hM rfl rfl rfl ?_
  exact zr_zret2 hM rfl rfl (by decide) rfl
set_option maxHeartbeats 4000000 in
theorem s119_0_ft {n L : Nat} {σ : Ks} {g : List Nat} {cl : Bool} {p1 : Int32} (hn : 2 ≤ n ∧ n ≤ 5) (h1 : zcnd .lt p1 0 = false) (h2 : zcnd .ge p1 (σ 42 1) = true) : ZR 119 0 [.val (.ref (kad n (22, 0, 0))), .val (.int p1)] [] (khp n L σ g) cl (.inl (some (.int (Int32.ofInt 0))), khp n L σ (g), cl) := by
  have hM : zmi[119]? = some _ := rfl
  refine zr_fr hM rfl rfl rfl ?_
  refine zr_iff hM rfl rfl h1 ?_
  refine zr_fr hM rfl rfl rfl ?_
  refine zr_fr hM rfl rfl rfl ?_
  refine zr_getf (κ := (22, 0, 0)) hn hM rfl rfl rfl rfl ?_
  refine zr_ict hM rfl rfl h2 ?_
  refine zr_fr hM rfl rfl rfl ?_
  exact zr_zret2 hM rfl rfl (by decide) rfl
set_option maxHeartbeats 4000000 in
theorem s119_0_t {n L : Nat} {σ : Ks} {g : List Nat} {cl : Bool} {p1 : Int32} (hn : 2 ≤ n ∧ n ≤ 5) (h1 : zcnd .lt p1 0 = true) : ZR 119 0 [.val (.ref (kad n (22, 0, 0))), .val (.int p1)] [] (khp n L σ g) cl (.inl (some (.int (Int32.ofInt 0))), khp n L σ (g), cl) := by
  have hM : zmi[119]? = some _ := rfl
  refine zr_fr hM rfl rfl rfl ?_
  refine zr_ift hM rfl rfl h1 ?_
  refine zr_fr hM rfl rfl rfl ?_
  exact zr_zret2 hM rfl rfl (by decide) rfl
set_option maxHeartbeats 4000000 in
theorem s120_0_r {n L : Nat} {σ : Ks} {g : List Nat} {cl : Bool} {p1 : Int32} {p2 : Int32} {p3 : Int32} {p4 : Int32} {r1 : Int32} {x2 : Nat} {r3 : Int32} {x4 : Nat} {r5 : Int32} {x6 : Nat} (hn : 2 ≤ n ∧ n ≤ 5) (c1_ : ZR 97 0 [.val (.int p1)] [] (khp n L σ g) true (.inl (some (.int r1)), khp n L σ g, true)) (z2 : zix (r1 + p2) 820 = some x2) (c3_ : ZR 97 0 [.val (.int p1)] [] (khp n L (kup σ (20 + x2 / 164) (x2 % 164) ((σ (20 + x2 / 164) (x2 % 164)) - p3)) g) true (.inl (some (.int r3)), khp n L (kup σ (20 + x2 / 164) (x2 % 164) ((σ (20 + x2 / 164) (x2 % 164)) - p3)) g, true)) (z4 : zix ((r3 + p4) + p2) 820 = some x4) (c5_ : ZR 97 0 [.val (.int p1)] [] (khp n L (kup (kup σ (20 + x2 / 164) (x2 % 164) ((σ (20 + x2 / 164) (x2 % 164)) - p3)) (20 + x4 / 164) (x4 % 164) (((kup σ (20 + x2 / 164) (x2 % 164) ((σ (20 + x2 / 164) (x2 % 164)) - p3)) (20 + x4 / 164) (x4 % 164)) + p3)) g) true (.inl (some (.int r5)), khp n L (kup (kup σ (20 + x2 / 164) (x2 % 164) ((σ (20 + x2 / 164) (x2 % 164)) - p3)) (20 + x4 / 164) (x4 % 164) (((kup σ (20 + x2 / 164) (x2 % 164) ((σ (20 + x2 / 164) (x2 % 164)) - p3)) (20 + x4 / 164) (x4 % 164)) + p3)) g, true)) (z6 : zix (r5 + p2) 820 = some x6) : ZR 120 0 [.val (.ref (kad n (22, 0, 0))), .val (.int p1), .val (.int p2), .val (.int p3), .val (.int p4)] [] (khp n L σ g) cl (.inl (some (.int ((kup (kup σ (20 + x2 / 164) (x2 % 164) ((σ (20 + x2 / 164) (x2 % 164)) - p3)) (20 + x4 / 164) (x4 % 164) (((kup σ (20 + x2 / 164) (x2 % 164) ((σ (20 + x2 / 164) (x2 % 164)) - p3)) (20 + x4 / 164) (x4 % 164)) + p3)) (20 + x6 / 164) (x6 % 164)))), khp n L (kup (kup σ (20 + x2 / 164) (x2 % 164) ((σ (20 + x2 / 164) (x2 % 164)) - p3)) (20 + x4 / 164) (x4 % 164) (((kup σ (20 + x2 / 164) (x2 % 164) ((σ (20 + x2 / 164) (x2 % 164)) - p3)) (20 + x4 / 164) (x4 % 164)) + p3)) (g), false) := by
  have hM : zmi[120]? = some _ := rfl
  have l2 := (zix_some z2).2.2
  have l4 := (zix_some z4).2.2
  have l6 := (zix_some z6).2.2
  refine zr_fr hM rfl rfl rfl ?_
  refine zr_getf (κ := (22, 0, 0)) hn hM rfl rfl rfl rfl ?_
  refine zr_fr hM rfl rfl rfl ?_
  refine zr_stat hM rfl rfl rfl rfl rfl rfl ?_
  refine zgo_ret rfl rfl c1_ ?_
  rw [Bool.and_true]
  refine zr_fr hM rfl rfl rfl ?_
  refine zr_fr hM rfl rfl rfl ?_
  refine zr_fr hM rfl rfl rfl ?_
  refine zr_iald (κ := (23, 0, 0)) hn hM rfl rfl rfl z2 ?_
  refine zr_fr hM rfl rfl rfl ?_
  refine zr_fr hM rfl rfl rfl ?_
  refine zr_iast (κ := (23, 0, 0)) hn hM rfl rfl rfl rfl z2 rfl ?_
  refine zr_fr hM rfl rfl rfl ?_
  refine zr_getf (κ := (22, 0, 0)) hn hM rfl rfl rfl rfl ?_
  refine zr_fr hM rfl rfl rfl ?_
  refine zr_stat hM rfl rfl rfl rfl rfl rfl ?_
  refine zgo_ret rfl rfl c3_ ?_
  rw [Bool.and_true]
  refine zr_fr hM rfl rfl rfl ?_
  refine zr_fr hM rfl rfl rfl ?_
  refine zr_fr hM rfl rfl rfl ?_
  refine zr_fr hM rfl rfl rfl ?_
  refine zr_fr hM rfl rfl rfl ?_
  refine zr_iald (κ := (23, 0, 0)) hn hM rfl rfl rfl z4 ?_
  refine zr_fr hM rfl rfl rfl ?_
  refine zr_fr hM rfl rfl rfl ?_
  refine zr_iast (κ := (23, 0, 0)) hn hM rfl rfl rfl rfl z4 rfl ?_
  refine zr_fr hM rfl rfl rfl ?_
  refine zr_getf (κ := (22, 0, 0)) hn hM rfl rfl rfl rfl ?_
  refine zr_fr hM rfl rfl rfl ?_
  refine zr_stat hM rfl rfl rfl rfl rfl rfl ?_
  refine zgo_ret rfl rfl c5_ ?_
  rw [Bool.and_true]
  refine zr_fr hM rfl rfl rfl ?_
  refine zr_fr hM rfl rfl rfl ?_
  refine zr_iald (κ := (23, 0, 0)) hn hM rfl rfl rfl z6 ?_
  exact zr_iret2 hM rfl rfl rfl
set_option maxHeartbeats 4000000 in
theorem s121_0_f {n L : Nat} {σ : Ks} {g : List Nat} {cl : Bool} {p1 : Int32} {p2 : Int32} {p3 : Int32} {σ1 : Ks} {c1 : Bool} {r1 : Int32} {σ3 : Ks} {c3 : Bool} {r3 : Int32} (hn : 2 ≤ n ∧ n ≤ 5) (c1_ : ZR 117 0 [.val (.ref (kad n (22, 0, 0))), .val (.int p1), .val (.int p2), .val (.int p3)] [] (khp n L σ g) true (.inl (some (.int r1)), khp n L σ1 g, c1)) (h2 : zcnd .eq r1 0 = false) (c3_ : ZR 120 0 [.val (.ref (kad n (22, 0, 0))), .val (.int p1), .val (.int p2), .val (.int p3), .val (.int ((Int8.ofInt 8).toInt32))] [] (khp n L σ1 g) true (.inl (some (.int r3)), khp n L σ3 g, c3)) : ZR 121 0 [.val (.ref (kad n (22, 0, 0))), .val (.int p1), .val (.int p2), .val (.int p3)] [] (khp n L σ g) cl (.inl (some (.int r3)), khp n L σ3 (g), cl && c1 && c3) := by
  have hM : zmi[121]? = some _ := rfl
  refine zr_fr hM rfl rfl rfl ?_
  refine zr_fr hM rfl rfl rfl ?_
  refine zr_fr hM rfl rfl rfl ?_
  refine zr_fr hM rfl rfl rfl ?_
  refine zr_virt (κ := (22, 0, 0)) hn hM rfl rfl rfl rfl rfl rfl rfl rfl rfl ?_
  refine zgo_ret rfl rfl c1_ ?_
  refine zr_iff hM rfl rfl h2 ?_
  refine zr_fr hM rfl rfl rfl ?_
  refine zr_fr hM rfl rfl rfl ?_
  refine zr_fr hM rfl rfl rfl ?_
  refine zr_fr hM rfl rfl rfl ?_
  refine zr_fr hM rfl rfl rfl ?_
  refine zr_virt (κ := (22, 0, 0)) hn hM rfl rfl rfl rfl rfl rfl rfl rfl rfl ?_
  refine zgo_ret rfl rfl c3_ ?_
  refine zr_fr hM rfl rfl rfl ?_
  exact zr_iret2 hM rfl rfl rfl
set_option maxHeartbeats 4000000 in
theorem s121_0_t {n L : Nat} {σ : Ks} {g : List Nat} {cl : Bool} {p1 : Int32} {p2 : Int32} {p3 : Int32} {σ1 : Ks} {c1 : Bool} {r1 : Int32} (hn : 2 ≤ n ∧ n ≤ 5) (c1_ : ZR 117 0 [.val (.ref (kad n (22, 0, 0))), .val (.int p1), .val (.int p2), .val (.int p3)] [] (khp n L σ g) true (.inl (some (.int r1)), khp n L σ1 g, c1)) (h2 : zcnd .eq r1 0 = true) : ZR 121 0 [.val (.ref (kad n (22, 0, 0))), .val (.int p1), .val (.int p2), .val (.int p3)] [] (khp n L σ g) cl (.inl (some (.int (Int32.ofInt 0))), khp n L σ1 (g), cl && c1) := by
  have hM : zmi[121]? = some _ := rfl
  refine zr_fr hM rfl rfl rfl ?_
  refine zr_fr hM rfl rfl rfl ?_
  refine zr_fr hM rfl rfl rfl ?_
  refine zr_fr hM rfl rfl rfl ?_
  refine zr_virt (κ := (22, 0, 0)) hn hM rfl rfl rfl rfl rfl rfl rfl rfl rfl ?_
  refine zgo_ret rfl rfl c1_ ?_
  refine zr_ift hM rfl rfl h2 ?_
  refine zr_fr hM rfl rfl rfl ?_
  exact zr_iret2 hM rfl rfl rfl
set_option maxHeartbeats 4000000 in
theorem s122_0_ff {n L : Nat} {σ : Ks} {g : List Nat} {cl : Bool} {p1 : Int32} {p2 : Int32} {p3 : Int32} {r1 : Int32} (hn : 2 ≤ n ∧ n ≤ 5) (c1_ : ZR 118 0 [.val (.ref (kad n (22, 0, 0))), .val (.int p1), .val (.int p2), .val (.int p3)] [] (khp n L σ g) true (.inl (some (.int r1)), khp n L σ g, true)) (h2 : zcnd .eq r1 0 = false) (h3 : zcnd .le ((kup σ 42 0 (Int32.ofInt 0)) 42 0) 0 = false) : ZR 122 0 [.val (.ref (kad n (22, 0, 0))), .val (.int p1), .val (.int p2), .val (.int p3)] [] (khp n L σ g) cl (.inl (some (.int (Int32.ofInt 0))), khp n L (kup σ 42 0 (Int32.ofInt 0)) (g), false) := by
  have hM : zmi[122]? = some _ := rfl
  refine zr_fr hM rfl rfl rfl ?_
  refine zr_fr hM rfl rfl rfl ?_
  refine zr_fr hM rfl rfl rfl ?_
  refine zr_fr hM rfl rfl rfl ?_
  refine zr_fr hM rfl rfl rfl ?_
  refine zr_virt (κ := (22, 0, 0)) hn hM rfl rfl rfl rfl rfl rfl rfl rfl rfl ?_
  refine zgo_ret rfl rfl c1_ ?_
  rw [Bool.and_true]
  refine zr_iff hM rfl rfl h2 ?_
  refine zr_fr hM rfl rfl rfl ?_
  refine zr_fr hM rfl rfl rfl ?_
  refine zr_putf (κ := (22, 0, 0)) hn hM rfl rfl rfl rfl rfl rfl rfl rfl ?_
  refine zr_fr hM rfl rfl rfl ?_
  refine zr_getf (κ := (22, 0, 0)) hn hM rfl rfl rfl rfl ?_
  refine zr_iff hM rfl rfl h3 ?_
  refine zr_fr hM rfl rfl rfl ?_
  exact zr_iret2 hM rfl rfl rfl
set_option maxHeartbeats 4000000 in
theorem s122_0_ftfff {n L : Nat} {σ : Ks} {g : List Nat} {cl : Bool} {p1 : Int32} {p2 : Int32} {p3 : Int32} {r1 : Int32} {x4 : Nat} {r6 : Int32} {x7 : Nat} (hn : 2 ≤ n ∧ n ≤ 5) (c1_ : ZR 118 0 [.val (.ref (kad n (22, 0, 0))), .val (.int p1), .val (.int p2), .val (.int p3)] [] (khp n L σ g) true (.inl (some (.int r1)), khp n L σ g, true)) (h2 : zcnd .eq r1 0 = false) (h3 : zcnd .le ((kup σ 42 0 (Int32.ofInt 0)) 42 0) 0 = true) (z4 : zix p1 5 = some x4) (h5 : zcnd .ne ((kup σ 42 0 (Int32.ofInt 0)) 40 x4) 0 = false) (c6_ : ZR 97 0 [.val (.int p1)] [] (khp n L (kup σ 42 0 (Int32.ofInt 0)) g) true (.inl (some (.int r6)), khp n L (kup σ 42 0 (Int32.ofInt 0)) g, true)) (z7 : zix (r6 + p2) 820 = some x7) (h8 : zcnd .le (((kup σ 42 0 (Int32.ofInt 0)) (20 + x7 / 164) (x7 % 164)) + p3) (Int32.ofNat 100000000) = false) (h9 : zcnd .le ((kup (kup σ 42 0 (Int32.ofInt 0)) 42 0 (Int32.ofInt 2)) 42 0) 0 = false) : ZR 122 0 [.val (.ref (kad n (22, 0, 0))), .val (.int p1), .val (.int p2), .val (.int p3)] [] (khp n L σ g) cl (.inl (some (.int (Int32.ofInt 0))), khp n L (kup (kup σ 42 0 (Int32.ofInt 0)) 42 0 (Int32.ofInt 2)) (g), false) := by
  have hM : zmi[122]? = some _ := rfl
  have l4 := (zix_some z4).2.2
  have l7 := (zix_some z7).2.2
  refine zr_fr hM rfl rfl rfl ?_
  refine zr_fr hM rfl rfl rfl ?_
  refine zr_fr hM rfl rfl rfl ?_
  refine zr_fr hM rfl rfl rfl ?_
  refine zr_fr hM rfl rfl rfl ?_
  refine zr_virt (κ := (22, 0, 0)) hn hM rfl rfl rfl rfl rfl rfl rfl rfl rfl ?_
  refine zgo_ret rfl rfl c1_ ?_
  rw [Bool.and_true]
  refine zr_iff hM rfl rfl h2 ?_
  refine zr_fr hM rfl rfl rfl ?_
  refine zr_fr hM rfl rfl rfl ?_
  refine zr_putf (κ := (22, 0, 0)) hn hM rfl rfl rfl rfl rfl rfl rfl rfl ?_
  refine zr_fr hM rfl rfl rfl ?_
  refine zr_getf (κ := (22, 0, 0)) hn hM rfl rfl rfl rfl ?_
  refine zr_ift hM rfl rfl h3 ?_
  refine zr_fr hM rfl rfl rfl ?_
  refine zr_fr hM rfl rfl rfl ?_
  refine zr_getf (κ := (22, 0, 0)) hn hM rfl rfl rfl rfl ?_
  refine zr_fr hM rfl rfl rfl ?_
  refine zr_bald (κ := (25, 0, 0)) hn hM rfl rfl rfl z4 ?_
  refine zr_iff hM rfl rfl h5 ?_
  refine zr_fr hM rfl rfl rfl ?_
  refine zr_getf (κ := (22, 0, 0)) hn hM rfl rfl rfl rfl ?_
  refine zr_fr hM rfl rfl rfl ?_
  refine zr_stat hM rfl rfl rfl rfl rfl rfl ?_
  refine zgo_ret rfl rfl c6_ ?_
  rw [Bool.and_true]
  refine zr_fr hM rfl rfl rfl ?_
  refine zr_fr hM rfl rfl rfl ?_
  refine zr_iald (κ := (23, 0, 0)) hn hM rfl rfl rfl z7 ?_
  refine zr_fr hM rfl rfl rfl ?_
  refine zr_fr hM rfl rfl rfl ?_
  refine zr_ldc hM rfl ?_
  refine zr_icf hM rfl rfl h8 ?_
  refine zr_fr hM rfl rfl rfl ?_
  refine zr_fr hM rfl rfl rfl ?_
  refine zr_putf (κ := (22, 0, 0)) hn hM rfl rfl rfl rfl rfl rfl rfl rfl ?_
  refine zr_fr hM rfl rfl rfl ?_
  refine zr_getf (κ := (22, 0, 0)) hn hM rfl rfl rfl rfl ?_
  refine zr_iff hM rfl rfl h9 ?_
  refine zr_fr hM rfl rfl rfl ?_
  refine zr_fr hM rfl rfl rfl ?_
  exact zr_iret2 hM rfl rfl rfl
set_option maxHeartbeats 4000000 in
theorem s122_0_ftfft {n L : Nat} {σ : Ks} {g : List Nat} {cl : Bool} {p1 : Int32} {p2 : Int32} {p3 : Int32} {r1 : Int32} {x4 : Nat} {r6 : Int32} {x7 : Nat} {σ10 : Ks} {c10 : Bool} {r10 : Int32} (hn : 2 ≤ n ∧ n ≤ 5) (c1_ : ZR 118 0 [.val (.ref (kad n (22, 0, 0))), .val (.int p1), .val (.int p2), .val (.int p3)] [] (khp n L σ g) true (.inl (some (.int r1)), khp n L σ g, true)) (h2 : zcnd .eq r1 0 = false) (h3 : zcnd .le ((kup σ 42 0 (Int32.ofInt 0)) 42 0) 0 = true) (z4 : zix p1 5 = some x4) (h5 : zcnd .ne ((kup σ 42 0 (Int32.ofInt 0)) 40 x4) 0 = false) (c6_ : ZR 97 0 [.val (.int p1)] [] (khp n L (kup σ 42 0 (Int32.ofInt 0)) g) true (.inl (some (.int r6)), khp n L (kup σ 42 0 (Int32.ofInt 0)) g, true)) (z7 : zix (r6 + p2) 820 = some x7) (h8 : zcnd .le (((kup σ 42 0 (Int32.ofInt 0)) (20 + x7 / 164) (x7 % 164)) + p3) (Int32.ofNat 100000000) = false) (h9 : zcnd .le ((kup (kup σ 42 0 (Int32.ofInt 0)) 42 0 (Int32.ofInt 2)) 42 0) 0 = true) (c10_ : ZR 120 0 [.val (.ref (kad n (22, 0, 0))), .val (.int p1), .val (.int p2), .val (.int (-p3)), .val (.int (Int32.ofInt 4))] [] (khp n L (kup (kup σ 42 0 (Int32.ofInt 0)) 42 0 (Int32.ofInt 2)) g) true (.inl (some (.int r10)), khp n L σ10 g, c10)) : ZR 122 0 [.val (.ref (kad n (22, 0, 0))), .val (.int p1), .val (.int p2), .val (.int p3)] [] (khp n L σ g) cl (.inl (some (.int r10)), khp n L σ10 (g), false) := by
  have hM : zmi[122]? = some _ := rfl
  have l4 := (zix_some z4).2.2
  have l7 := (zix_some z7).2.2
  refine zr_fr hM rfl rfl rfl ?_
  refine zr_fr hM rfl rfl rfl ?_
  refine zr_fr hM rfl rfl rfl ?_
  refine zr_fr hM rfl rfl rfl ?_
  refine zr_fr hM rfl rfl rfl ?_
  refine zr_virt (κ := (22, 0, 0)) hn hM rfl rfl rfl rfl rfl rfl rfl rfl rfl ?_
  refine zgo_ret rfl rfl c1_ ?_
  rw [Bool.and_true]
  refine zr_iff hM rfl rfl h2 ?_
  refine zr_fr hM rfl rfl rfl ?_
  refine zr_fr hM rfl rfl rfl ?_
  refine zr_putf (κ := (22, 0, 0)) hn hM rfl rfl rfl rfl rfl rfl rfl rfl ?_
  refine zr_fr hM rfl rfl rfl ?_
  refine zr_getf (κ := (22, 0, 0)) hn hM rfl rfl rfl rfl ?_
  refine zr_ift hM rfl rfl h3 ?_
  refine zr_fr hM rfl rfl rfl ?_
  refine zr_fr hM rfl rfl rfl ?_
  refine zr_getf (κ := (22, 0, 0)) hn hM rfl rfl rfl rfl ?_
  refine zr_fr hM rfl rfl rfl ?_
  refine zr_bald (κ := (25, 0, 0)) hn hM rfl rfl rfl z4 ?_
  refine zr_iff hM rfl rfl h5 ?_
  refine zr_fr hM rfl rfl rfl ?_
  refine zr_getf (κ := (22, 0, 0)) hn hM rfl rfl rfl rfl ?_
  refine zr_fr hM rfl rfl rfl ?_
  refine zr_stat hM rfl rfl rfl rfl rfl rfl ?_
  refine zgo_ret rfl rfl c6_ ?_
  rw [Bool.and_true]
  refine zr_fr hM rfl rfl rfl ?_
  refine zr_fr hM rfl rfl rfl ?_
  refine zr_iald (κ := (23, 0, 0)) hn hM rfl rfl rfl z7 ?_
  refine zr_fr hM rfl rfl rfl ?_
  refine zr_fr hM rfl rfl rfl ?_
  refine zr_ldc hM rfl ?_
  refine zr_icf hM rfl rfl h8 ?_
  refine zr_fr hM rfl rfl rfl ?_
  refine zr_fr hM rfl rfl rfl ?_
  refine zr_putf (κ := (22, 0, 0)) hn hM rfl rfl rfl rfl rfl rfl rfl rfl ?_
  refine zr_fr hM rfl rfl rfl ?_
  refine zr_getf (κ := (22, 0, 0)) hn hM rfl rfl rfl rfl ?_
  refine zr_ift hM rfl rfl h9 ?_
  refine zr_fr hM rfl rfl rfl ?_
  refine zr_fr hM rfl rfl rfl ?_
  refine zr_fr hM rfl rfl rfl ?_
  refine zr_fr hM rfl rfl rfl ?_
  refine zr_fr hM rfl rfl rfl ?_
  refine zr_fr hM rfl rfl rfl ?_
  refine zr_virt (κ := (22, 0, 0)) hn hM rfl rfl rfl rfl rfl rfl rfl rfl rfl ?_
  refine zgo_ret rfl rfl c10_ ?_
  rw [Bool.false_and]
  exact zr_iret2 hM rfl rfl rfl
set_option maxHeartbeats 4000000 in
theorem s122_0_ftftf {n L : Nat} {σ : Ks} {g : List Nat} {cl : Bool} {p1 : Int32} {p2 : Int32} {p3 : Int32} {r1 : Int32} {x4 : Nat} {r6 : Int32} {x7 : Nat} (hn : 2 ≤ n ∧ n ≤ 5) (c1_ : ZR 118 0 [.val (.ref (kad n (22, 0, 0))), .val (.int p1), .val (.int p2), .val (.int p3)] [] (khp n L σ g) true (.inl (some (.int r1)), khp n L σ g, true)) (h2 : zcnd .eq r1 0 = false) (h3 : zcnd .le ((kup σ 42 0 (Int32.ofInt 0)) 42 0) 0 = true) (z4 : zix p1 5 = some x4) (h5 : zcnd .ne ((kup σ 42 0 (Int32.ofInt 0)) 40 x4) 0 = false) (c6_ : ZR 97 0 [.val (.int p1)] [] (khp n L (kup σ 42 0 (Int32.ofInt 0)) g) true (.inl (some (.int r6)), khp n L (kup σ 42 0 (Int32.ofInt 0)) g, true)) (z7 : zix (r6 + p2) 820 = some x7) (h8 : zcnd .le (((kup σ 42 0 (Int32.ofInt 0)) (20 + x7 / 164) (x7 % 164)) + p3) (Int32.ofNat 100000000) = true) (h9 : zcnd .le ((kup (kup σ 42 0 (Int32.ofInt 0)) 42 0 (Int32.ofInt 0)) 42 0) 0 = false) : ZR 122 0 [.val (.ref (kad n (22, 0, 0))), .val (.int p1), .val (.int p2), .val (.int p3)] [] (khp n L σ g) cl (.inl (some (.int (Int32.ofInt 0))), khp n L (kup (kup σ 42 0 (Int32.ofInt 0)) 42 0 (Int32.ofInt 0)) (g), false) := by
  have hM : zmi[122]? = some _ := rfl
  have l4 := (zix_some z4).2.2
  have l7 := (zix_some z7).2.2
  refine zr_fr hM rfl rfl rfl ?_
  refine zr_fr hM rfl rfl rfl ?_
  refine zr_fr hM rfl rfl rfl ?_
  refine zr_fr hM rfl rfl rfl ?_
  refine zr_fr hM rfl rfl rfl ?_
  refine zr_virt (κ := (22, 0, 0)) hn hM rfl rfl rfl rfl rfl rfl rfl rfl rfl ?_
  refine zgo_ret rfl rfl c1_ ?_
  rw [Bool.and_true]
  refine zr_iff hM rfl rfl h2 ?_
  refine zr_fr hM rfl rfl rfl ?_
  refine zr_fr hM rfl rfl rfl ?_
  refine zr_putf (κ := (22, 0, 0)) hn hM rfl rfl rfl rfl rfl rfl rfl rfl ?_
  refine zr_fr hM rfl rfl rfl ?_
  refine zr_getf (κ := (22, 0, 0)) hn hM rfl rfl rfl rfl ?_
  refine zr_ift hM rfl rfl h3 ?_
  refine zr_fr hM rfl rfl rfl ?_
  refine zr_fr hM rfl rfl rfl ?_
  refine zr_getf (κ := (22, 0, 0)) hn hM rfl rfl rfl rfl ?_
  refine zr_fr hM rfl rfl rfl ?_
  refine zr_bald (κ := (25, 0, 0)) hn hM rfl rfl rfl z4 ?_
  refine zr_iff hM rfl rfl h5 ?_
  refine zr_fr hM rfl rfl rfl ?_
  refine zr_getf (κ := (22, 0, 0)) hn hM rfl rfl rfl rfl ?_
  refine zr_fr hM rfl rfl rfl ?_
  refine zr_stat hM rfl rfl rfl rfl rfl rfl ?_
  refine zgo_ret rfl rfl c6_ ?_
  rw [Bool.and_true]
  refine zr_fr hM rfl rfl rfl ?_
  refine zr_fr hM rfl rfl rfl ?_
  refine zr_iald (κ := (23, 0, 0)) hn hM rfl rfl rfl z7 ?_
  refine zr_fr hM rfl rfl rfl ?_
  refine zr_fr hM rfl rfl rfl ?_
  refine zr_ldc hM rfl ?_
  refine zr_ict hM rfl rfl h8 ?_
  refine zr_fr hM rfl rfl rfl ?_
  refine zr_putf (κ := (22, 0, 0)) hn hM rfl rfl rfl rfl rfl rfl rfl rfl ?_
  refine zr_fr hM rfl rfl rfl ?_
  refine zr_getf (κ := (22, 0, 0)) hn hM rfl rfl rfl rfl ?_
  refine zr_iff hM rfl rfl h9 ?_
  refine zr_fr hM rfl rfl rfl ?_
  refine zr_fr hM rfl rfl rfl ?_
  exact zr_iret2 hM rfl rfl rfl
set_option maxHeartbeats 4000000 in
theorem s122_0_ftftt {n L : Nat} {σ : Ks} {g : List Nat} {cl : Bool} {p1 : Int32} {p2 : Int32} {p3 : Int32} {r1 : Int32} {x4 : Nat} {r6 : Int32} {x7 : Nat} {σ10 : Ks} {c10 : Bool} {r10 : Int32} (hn : 2 ≤ n ∧ n ≤ 5) (c1_ : ZR 118 0 [.val (.ref (kad n (22, 0, 0))), .val (.int p1), .val (.int p2), .val (.int p3)] [] (khp n L σ g) true (.inl (some (.int r1)), khp n L σ g, true)) (h2 : zcnd .eq r1 0 = false) (h3 : zcnd .le ((kup σ 42 0 (Int32.ofInt 0)) 42 0) 0 = true) (z4 : zix p1 5 = some x4) (h5 : zcnd .ne ((kup σ 42 0 (Int32.ofInt 0)) 40 x4) 0 = false) (c6_ : ZR 97 0 [.val (.int p1)] [] (khp n L (kup σ 42 0 (Int32.ofInt 0)) g) true (.inl (some (.int r6)), khp n L (kup σ 42 0 (Int32.ofInt 0)) g, true)) (z7 : zix (r6 + p2) 820 = some x7) (h8 : zcnd .le (((kup σ 42 0 (Int32.ofInt 0)) (20 + x7 / 164) (x7 % 164)) + p3) (Int32.ofNat 100000000) = true) (h9 : zcnd .le ((kup (kup σ 42 0 (Int32.ofInt 0)) 42 0 (Int32.ofInt 0)) 42 0) 0 = true) (c10_ : ZR 120 0 [.val (.ref (kad n (22, 0, 0))), .val (.int p1), .val (.int p2), .val (.int (-p3)), .val (.int (Int32.ofInt 4))] [] (khp n L (kup (kup σ 42 0 (Int32.ofInt 0)) 42 0 (Int32.ofInt 0)) g) true (.inl (some (.int r10)), khp n L σ10 g, c10)) : ZR 122 0 [.val (.ref (kad n (22, 0, 0))), .val (.int p1), .val (.int p2), .val (.int p3)] [] (khp n L σ g) cl (.inl (some (.int r10)), khp n L σ10 (g), false) := by
  have hM : zmi[122]? = some _ := rfl
  have l4 := (zix_some z4).2.2
  have l7 := (zix_some z7).2.2
  refine zr_fr hM rfl rfl rfl ?_
  refine zr_fr hM rfl rfl rfl ?_
  refine zr_fr hM rfl rfl rfl ?_
  refine zr_fr hM rfl rfl rfl ?_
  refine zr_fr hM rfl rfl rfl ?_
  refine zr_virt (κ := (22, 0, 0)) hn hM rfl rfl rfl rfl rfl rfl rfl rfl rfl ?_
  refine zgo_ret rfl rfl c1_ ?_
  rw [Bool.and_true]
  refine zr_iff hM rfl rfl h2 ?_
  refine zr_fr hM rfl rfl rfl ?_
  refine zr_fr hM rfl rfl rfl ?_
  refine zr_putf (κ := (22, 0, 0)) hn hM rfl rfl rfl rfl rfl rfl rfl rfl ?_
  refine zr_fr hM rfl rfl rfl ?_
  refine zr_getf (κ := (22, 0, 0)) hn hM rfl rfl rfl rfl ?_
  refine zr_ift hM rfl rfl h3 ?_
  refine zr_fr hM rfl rfl rfl ?_
  refine zr_fr hM rfl rfl rfl ?_
  refine zr_getf (κ := (22, 0, 0)) hn hM rfl rfl rfl rfl ?_
  refine zr_fr hM rfl rfl rfl ?_
  refine zr_bald (κ := (25, 0, 0)) hn hM rfl rfl rfl z4 ?_
  refine zr_iff hM rfl rfl h5 ?_
  refine zr_fr hM rfl rfl rfl ?_
  refine zr_getf (κ := (22, 0, 0)) hn hM rfl rfl rfl rfl ?_
  refine zr_fr hM rfl rfl rfl ?_
  refine zr_stat hM rfl rfl rfl rfl rfl rfl ?_
  refine zgo_ret rfl rfl c6_ ?_
  rw [Bool.and_true]
  refine zr_fr hM rfl rfl rfl ?_
  refine zr_fr hM rfl rfl rfl ?_
  refine zr_iald (κ := (23, 0, 0)) hn hM rfl rfl rfl z7 ?_
  refine zr_fr hM rfl rfl rfl ?_
  refine zr_fr hM rfl rfl rfl ?_
  refine zr_ldc hM rfl ?_
  refine zr_ict hM rfl rfl h8 ?_
  refine zr_fr hM rfl rfl rfl ?_
  refine zr_putf (κ := (22, 0, 0)) hn hM rfl rfl rfl rfl rfl rfl rfl rfl ?_
  refine zr_fr hM rfl rfl rfl ?_
  refine zr_getf (κ := (22, 0, 0)) hn hM rfl rfl rfl rfl ?_
  refine zr_ift hM rfl rfl h9 ?_
  refine zr_fr hM rfl rfl rfl ?_
  refine zr_fr hM rfl rfl rfl ?_
  refine zr_fr hM rfl rfl rfl ?_
  refine zr_fr hM rfl rfl rfl ?_
  refine zr_fr hM rfl rfl rfl ?_
  refine zr_fr hM rfl rfl rfl ?_
  refine zr_virt (κ := (22, 0, 0)) hn hM rfl rfl rfl rfl rfl rfl rfl rfl rfl ?_
  refine zgo_ret rfl rfl c10_ ?_
  rw [Bool.false_and]
  exact zr_iret2 hM rfl rfl rfl
set_option maxHeartbeats 4000000 in
theorem s122_0_fttf {n L : Nat} {σ : Ks} {g : List Nat} {cl : Bool} {p1 : Int32} {p2 : Int32} {p3 : Int32} {r1 : Int32} {x4 : Nat} (hn : 2 ≤ n ∧ n ≤ 5) (c1_ : ZR 118 0 [.val (.ref (kad n (22, 0, 0))), .val (.int p1), .val (.int p2), .val (.int p3)] [] (khp n L σ g) true (.inl (some (.int r1)), khp n L σ g, true)) (h2 : zcnd .eq r1 0 = false) (h3 : zcnd .le ((kup σ 42 0 (Int32.ofInt 0)) 42 0) 0 = true) (z4 : zix p1 5 = some x4) (h5 : zcnd .ne ((kup σ 42 0 (Int32.ofInt 0)) 40 x4) 0 = true) (h6 : zcnd .le ((kup (kup σ 42 0 (Int32.ofInt 0)) 42 0 (Int32.ofInt 2)) 42 0) 0 = false) : ZR 122 0 [.val (.ref (kad n (22, 0, 0))), .val (.int p1), .val (.int p2), .val (.int p3)] [] (khp n L σ g) cl (.inl (some (.int (Int32.ofInt 0))), khp n L (kup (kup σ 42 0 (Int32.ofInt 0)) 42 0 (Int32.ofInt 2)) (g), false) := by
  have hM : zmi[122]? = some _ := rfl
  have l4 := (zix_some z4).2.2
  refine zr_fr hM rfl rfl rfl ?_
  refine zr_fr hM rfl rfl rfl ?_
  refine zr_fr hM rfl rfl rfl ?_
  refine zr_fr hM rfl rfl rfl ?_
  refine zr_fr hM rfl rfl rfl ?_
  refine zr_virt (κ := (22, 0, 0)) hn hM rfl rfl rfl rfl rfl rfl rfl rfl rfl ?_
  refine zgo_ret rfl rfl c1_ ?_
  rw [Bool.and_true]
  refine zr_iff hM rfl rfl h2 ?_
  refine zr_fr hM rfl rfl rfl ?_
  refine zr_fr hM rfl rfl rfl ?_
  refine zr_putf (κ := (22, 0, 0)) hn hM rfl rfl rfl rfl rfl rfl rfl rfl ?_
  refine zr_fr hM rfl rfl rfl ?_
  refine zr_getf (κ := (22, 0, 0)) hn hM rfl rfl rfl rfl ?_
  refine zr_ift hM rfl rfl h3 ?_
  refine zr_fr hM rfl rfl rfl ?_
  refine zr_fr hM rfl rfl rfl ?_
  refine zr_getf (κ := (22, 0, 0)) hn hM rfl rfl rfl rfl ?_
  refine zr_fr hM rfl rfl rfl ?_
  refine zr_bald (κ := (25, 0, 0)) hn hM rfl rfl rfl z4 ?_
  refine zr_ift hM rfl rfl h5 ?_
  refine zr_fr hM rfl rfl rfl ?_
  refine zr_fr hM rfl rfl rfl ?_
  refine zr_putf (κ := (22, 0, 0)) hn hM rfl rfl rfl rfl rfl rfl rfl rfl ?_
  refine zr_fr hM rfl rfl rfl ?_
  refine zr_getf (κ := (22, 0, 0)) hn hM rfl rfl rfl rfl ?_
  refine zr_iff hM rfl rfl h6 ?_
  refine zr_fr hM rfl rfl rfl ?_
  refine zr_fr hM rfl rfl rfl ?_
  exact zr_iret2 hM rfl rfl rfl
set_option maxHeartbeats 4000000 in
theorem s122_0_fttt {n L : Nat} {σ : Ks} {g : List Nat} {cl : Bool} {p1 : Int32} {p2 : Int32} {p3 : Int32} {r1 : Int32} {x4 : Nat} {σ7 : Ks} {c7 : Bool} {r7 : Int32} (hn : 2 ≤ n ∧ n ≤ 5) (c1_ : ZR 118 0 [.val (.ref (kad n (22, 0, 0))), .val (.int p1), .val (.int p2), .val (.int p3)] [] (khp n L σ g) true (.inl (some (.int r1)), khp n L σ g, true)) (h2 : zcnd .eq r1 0 = false) (h3 : zcnd .le ((kup σ 42 0 (Int32.ofInt 0)) 42 0) 0 = true) (z4 : zix p1 5 = some x4) (h5 : zcnd .ne ((kup σ 42 0 (Int32.ofInt 0)) 40 x4) 0 = true) (h6 : zcnd .le ((kup (kup σ 42 0 (Int32.ofInt 0)) 42 0 (Int32.ofInt 2)) 42 0) 0 = true) (c7_ : ZR 120 0 [.val (.ref (kad n (22, 0, 0))), .val (.int p1), .val (.int p2), .val (.int (-p3)), .val (.int (Int32.ofInt 4))] [] (khp n L (kup (kup σ 42 0 (Int32.ofInt 0)) 42 0 (Int32.ofInt 2)) g) true (.inl (some (.int r7)), khp n L σ7 g, c7)) : ZR 122 0 [.val (.ref (kad n (22, 0, 0))), .val (.int p1), .val (.int p2), .val (.int p3)] [] (khp n L σ g) cl (.inl (some (.int r7)), khp n L σ7 (g), false) := by
  have hM : zmi[122]? = some _ := rfl
  have l4 := (zix_some z4).2.2
  refine zr_fr hM rfl rfl rfl ?_
  refine zr_fr hM rfl rfl rfl ?_
  refine zr_fr hM rfl rfl rfl ?_
  refine zr_fr hM rfl rfl rfl ?_
  refine zr_fr hM rfl rfl rfl ?_
  refine zr_virt (κ := (22, 0, 0)) hn hM rfl rfl rfl rfl rfl rfl rfl rfl rfl ?_
  refine zgo_ret rfl rfl c1_ ?_
  rw [Bool.and_true]
  refine zr_iff hM rfl rfl h2 ?_
  refine zr_fr hM rfl rfl rfl ?_
  refine zr_fr hM rfl rfl rfl ?_
  refine zr_putf (κ := (22, 0, 0)) hn hM rfl rfl rfl rfl rfl rfl rfl rfl ?_
  refine zr_fr hM rfl rfl rfl ?_
  refine zr_getf (κ := (22, 0, 0)) hn hM rfl rfl rfl rfl ?_
  refine zr_ift hM rfl rfl h3 ?_
  refine zr_fr hM rfl rfl rfl ?_
  refine zr_fr hM rfl rfl rfl ?_
  refine zr_getf (κ := (22, 0, 0)) hn hM rfl rfl rfl rfl ?_
  refine zr_fr hM rfl rfl rfl ?_
  refine zr_bald (κ := (25, 0, 0)) hn hM rfl rfl rfl z4 ?_
  refine zr_ift hM rfl rfl h5 ?_
  refine zr_fr hM rfl rfl rfl ?_
  refine zr_fr hM rfl rfl rfl ?_
  refine zr_putf (κ := (22, 0, 0)) hn hM rfl rfl rfl rfl rfl rfl rfl rfl ?_
  refine zr_fr hM rfl rfl rfl ?_
  refine zr_getf (κ := (22, 0, 0)) hn hM rfl rfl rfl rfl ?_
  refine zr_ift hM rfl rfl h6 ?_
  refine zr_fr hM rfl rfl rfl ?_
  refine zr_fr hM rfl rfl rfl ?_
  refine zr_fr hM rfl rfl rfl ?_
  refine zr_fr hM rfl rfl rfl ?_
  refine zr_fr hM rfl rfl rfl ?_
  refine zr_fr hM rfl rfl rfl ?_
  refine zr_virt (κ := (22, 0, 0)) hn hM rfl rfl rfl rfl rfl rfl rfl rfl rfl ?_
  refine zgo_ret rfl rfl c7_ ?_
  rw [Bool.false_and]
  exact zr_iret2 hM rfl rfl rfl
set_option maxHeartbeats 4000000 in
theorem s122_0_tf {n L : Nat} {σ : Ks} {g : List Nat} {cl : Bool} {p1 : Int32} {p2 : Int32} {p3 : Int32} {r1 : Int32} (hn : 2 ≤ n ∧ n ≤ 5) (c1_ : ZR 118 0 [.val (.ref (kad n (22, 0, 0))), .val (.int p1), .val (.int p2), .val (.int p3)] [] (khp n L σ g) true (.inl (some (.int r1)), khp n L σ g, true)) (h2 : zcnd .eq r1 0 = true) (h3 : zcnd .le ((kup σ 42 0 (Int32.ofInt 1)) 42 0) 0 = false) : ZR 122 0 [.val (.ref (kad n (22, 0, 0))), .val (.int p1), .val (.int p2), .val (.int p3)] [] (khp n L σ g) cl (.inl (some (.int (Int32.ofInt 0))), khp n L (kup σ 42 0 (Int32.ofInt 1)) (g), false) := by
  have hM : zmi[122]? = some _ := rfl
  refine zr_fr hM rfl rfl rfl ?_
  refine zr_fr hM rfl rfl rfl ?_
  refine zr_fr hM rfl rfl rfl ?_
  refine zr_fr hM rfl rfl rfl ?_
  refine zr_fr hM rfl rfl rfl ?_
  refine zr_virt (κ := (22, 0, 0)) hn hM rfl rfl rfl rfl rfl rfl rfl rfl rfl ?_
  refine zgo_ret rfl rfl c1_ ?_
  rw [Bool.and_true]
  refine zr_ift hM rfl rfl h2 ?_
  refine zr_fr hM rfl rfl rfl ?_
  refine zr_putf (κ := (22, 0, 0)) hn hM rfl rfl rfl rfl rfl rfl rfl rfl ?_
  refine zr_fr hM rfl rfl rfl ?_
  refine zr_getf (κ := (22, 0, 0)) hn hM rfl rfl rfl rfl ?_
  refine zr_iff hM rfl rfl h3 ?_
  refine zr_fr hM rfl rfl rfl ?_
  exact zr_iret2 hM rfl rfl rfl
set_option maxHeartbeats 4000000 in
theorem s122_0_ttfff {n L : Nat} {σ : Ks} {g : List Nat} {cl : Bool} {p1 : Int32} {p2 : Int32} {p3 : Int32} {r1 : Int32} {x4 : Nat} {r6 : Int32} {x7 : Nat} (hn : 2 ≤ n ∧ n ≤ 5) (c1_ : ZR 118 0 [.val (.ref (kad n (22, 0, 0))), .val (.int p1), .val (.int p2), .val (.int p3)] [] (khp n L σ g) true (.inl (some (.int r1)), khp n L σ g, true)) (h2 : zcnd .eq r1 0 = true) (h3 : zcnd .le ((kup σ 42 0 (Int32.ofInt 1)) 42 0) 0 = true) (z4 : zix p1 5 = some x4) (h5 : zcnd .ne ((kup σ 42 0 (Int32.ofInt 1)) 40 x4) 0 = false) (c6_ : ZR 97 0 [.val (.int p1)] [] (khp n L (kup σ 42 0 (Int32.ofInt 1)) g) true (.inl (some (.int r6)), khp n L (kup σ 42 0 (Int32.ofInt 1)) g, true)) (z7 : zix (r6 + p2) 820 = some x7) (h8 : zcnd .le (((kup σ 42 0 (Int32.ofInt 1)) (20 + x7 / 164) (x7 % 164)) + p3) (Int32.ofNat 100000000) = false) (h9 : zcnd .le ((kup (kup σ 42 0 (Int32.ofInt 1)) 42 0 (Int32.ofInt 2)) 42 0) 0 = false) : ZR 122 0 [.val (.ref (kad n (22, 0, 0))), .val (.int p1), .val (.int p2), .val (.int p3)] [] (khp n L σ g) cl (.inl (some (.int (Int32.ofInt 0))), khp n L (kup (kup σ 42 0 (Int32.ofInt 1)) 42 0 (Int32.ofInt 2)) (g), false) := by
  have hM : zmi[122]? = some _ := rfl
  have l4 := (zix_some z4).2.2
  have l7 := (zix_some z7).2.2
  refine zr_fr hM rfl rfl rfl ?_
  refine zr_fr hM rfl rfl rfl ?_
  refine zr_fr hM rfl rfl rfl ?_
  refine zr_fr hM rfl rfl rfl ?_
  refine zr_fr hM rfl rfl rfl ?_
  refine zr_virt (κ := (22, 0, 0)) hn hM rfl rfl rfl rfl rfl rfl rfl rfl rfl ?_
  refine zgo_ret rfl rfl c1_ ?_
  rw [Bool.and_true]
  refine zr_ift hM rfl rfl h2 ?_
  refine zr_fr hM rfl rfl rfl ?_
  refine zr_putf (κ := (22, 0, 0)) hn hM rfl rfl rfl rfl rfl rfl rfl rfl ?_
  refine zr_fr hM rfl rfl rfl ?_
  refine zr_getf (κ := (22, 0, 0)) hn hM rfl rfl rfl rfl ?_
  refine zr_ift hM rfl rfl h3 ?_
  refine zr_fr hM rfl rfl rfl ?_
  refine zr_fr hM rfl rfl rfl ?_
  refine zr_getf (κ := (22, 0, 0)) hn hM rfl rfl rfl rfl ?_
  refine zr_fr hM rfl rfl rfl ?_
  refine zr_bald (κ := (25, 0, 0)) hn hM rfl rfl rfl z4 ?_
  refine zr_iff hM rfl rfl h5 ?_
  refine zr_fr hM rfl rfl rfl ?_
  refine zr_getf (κ := (22, 0, 0)) hn hM rfl rfl rfl rfl ?_
  refine zr_fr hM rfl rfl rfl ?_
  refine zr_stat hM rfl rfl rfl rfl rfl rfl ?_
  refine zgo_ret rfl rfl c6_ ?_
  rw [Bool.and_true]
  refine zr_fr hM rfl rfl rfl ?_
  refine zr_fr hM rfl rfl rfl ?_
  refine zr_iald (κ := (23, 0, 0)) hn hM rfl rfl rfl z7 ?_
  refine zr_fr hM rfl rfl rfl ?_
  refine zr_fr hM rfl rfl rfl ?_
  refine zr_ldc hM rfl ?_
  refine zr_icf hM rfl rfl h8 ?_
  refine zr_fr hM rfl rfl rfl ?_
  refine zr_fr hM rfl rfl rfl ?_
  refine zr_putf (κ := (22, 0, 0)) hn hM rfl rfl rfl rfl rfl rfl rfl rfl ?_
  refine zr_fr hM rfl rfl rfl ?_
  refine zr_getf (κ := (22, 0, 0)) hn hM rfl rfl rfl rfl ?_
  refine zr_iff hM rfl rfl h9 ?_
  refine zr_fr hM rfl rfl rfl ?_
  refine zr_fr hM rfl rfl rfl ?_
  exact zr_iret2 hM rfl rfl rfl
set_option maxHeartbeats 4000000 in
theorem s122_0_ttfft {n L : Nat} {σ : Ks} {g : List Nat} {cl : Bool} {p1 : Int32} {p2 : Int32} {p3 : Int32} {r1 : Int32} {x4 : Nat} {r6 : Int32} {x7 : Nat} {σ10 : Ks} {c10 : Bool} {r10 : Int32} (hn : 2 ≤ n ∧ n ≤ 5) (c1_ : ZR 118 0 [.val (.ref (kad n (22, 0, 0))), .val (.int p1), .val (.int p2), .val (.int p3)] [] (khp n L σ g) true (.inl (some (.int r1)), khp n L σ g, true)) (h2 : zcnd .eq r1 0 = true) (h3 : zcnd .le ((kup σ 42 0 (Int32.ofInt 1)) 42 0) 0 = true) (z4 : zix p1 5 = some x4) (h5 : zcnd .ne ((kup σ 42 0 (Int32.ofInt 1)) 40 x4) 0 = false) (c6_ : ZR 97 0 [.val (.int p1)] [] (khp n L (kup σ 42 0 (Int32.ofInt 1)) g) true (.inl (some (.int r6)), khp n L (kup σ 42 0 (Int32.ofInt 1)) g, true)) (z7 : zix (r6 + p2) 820 = some x7) (h8 : zcnd .le (((kup σ 42 0 (Int32.ofInt 1)) (20 + x7 / 164) (x7 % 164)) + p3) (Int32.ofNat 100000000) = false) (h9 : zcnd .le ((kup (kup σ 42 0 (Int32.ofInt 1)) 42 0 (Int32.ofInt 2)) 42 0) 0 = true) (c10_ : ZR 120 0 [.val (.ref (kad n (22, 0, 0))), .val (.int p1), .val (.int p2), .val (.int (-p3)), .val (.int (Int32.ofInt 4))] [] (khp n L (kup (kup σ 42 0 (Int32.ofInt 1)) 42 0 (Int32.ofInt 2)) g) true (.inl (some (.int r10)), khp n L σ10 g, c10)) : ZR 122 0 [.val (.ref (kad n (22, 0, 0))), .val (.int p1), .val (.int p2), .val (.int p3)] [] (khp n L σ g) cl (.inl (some (.int r10)), khp n L σ10 (g), false) := by
  have hM : zmi[122]? = some _ := rfl
  have l4 := (zix_some z4).2.2
  have l7 := (zix_some z7).2.2
  refine zr_fr hM rfl rfl rfl ?_
  refine zr_fr hM rfl rfl rfl ?_
  refine zr_fr hM rfl rfl rfl ?_
  refine zr_fr hM rfl rfl rfl ?_
  refine zr_fr hM rfl rfl rfl ?_
  refine zr_virt (κ := (22, 0, 0)) hn hM rfl rfl rfl rfl rfl rfl rfl rfl rfl ?_
  refine zgo_ret rfl rfl c1_ ?_
  rw [Bool.and_true]
  refine zr_ift hM rfl rfl h2 ?_
  refine zr_fr hM rfl rfl rfl ?_
  refine zr_putf (κ := (22, 0, 0)) hn hM rfl rfl rfl rfl rfl rfl rfl rfl ?_
  refine zr_fr hM rfl rfl rfl ?_
  refine zr_getf (κ := (22, 0, 0)) hn hM rfl rfl rfl rfl ?_
  refine zr_ift hM rfl rfl h3 ?_
  refine zr_fr hM rfl rfl rfl ?_
  refine zr_fr hM rfl rfl rfl ?_
  refine zr_getf (κ := (22, 0, 0)) hn hM rfl rfl rfl rfl ?_
  refine zr_fr hM rfl rfl rfl ?_
  refine zr_bald (κ := (25, 0, 0)) hn hM rfl rfl rfl z4 ?_
  refine zr_iff hM rfl rfl h5 ?_
  refine zr_fr hM rfl rfl rfl ?_
  refine zr_getf (κ := (22, 0, 0)) hn hM rfl rfl rfl rfl ?_
  refine zr_fr hM rfl rfl rfl ?_
  refine zr_stat hM rfl rfl rfl rfl rfl rfl ?_
  refine zgo_ret rfl rfl c6_ ?_
  rw [Bool.and_true]
  refine zr_fr hM rfl rfl rfl ?_
  refine zr_fr hM rfl rfl rfl ?_
  refine zr_iald (κ := (23, 0, 0)) hn hM rfl rfl rfl z7 ?_
  refine zr_fr hM rfl rfl rfl ?_
  refine zr_fr hM rfl rfl rfl ?_
  refine zr_ldc hM rfl ?_
  refine zr_icf hM rfl rfl h8 ?_
  refine zr_fr hM rfl rfl rfl ?_
  refine zr_fr hM rfl rfl rfl ?_
  refine zr_putf (κ := (22, 0, 0)) hn hM rfl rfl rfl rfl rfl rfl rfl rfl ?_
  refine zr_fr hM rfl rfl rfl ?_
  refine zr_getf (κ := (22, 0, 0)) hn hM rfl rfl rfl rfl ?_
  refine zr_ift hM rfl rfl h9 ?_
  refine zr_fr hM rfl rfl rfl ?_
  refine zr_fr hM rfl rfl rfl ?_
  refine zr_fr hM rfl rfl rfl ?_
  refine zr_fr hM rfl rfl rfl ?_
  refine zr_fr hM rfl rfl rfl ?_
  refine zr_fr hM rfl rfl rfl ?_
  refine zr_virt (κ := (22, 0, 0)) hn hM rfl rfl rfl rfl rfl rfl rfl rfl rfl ?_
  refine zgo_ret rfl rfl c10_ ?_
  rw [Bool.false_and]
  exact zr_iret2 hM rfl rfl rfl
set_option maxHeartbeats 4000000 in
theorem s122_0_ttftf {n L : Nat} {σ : Ks} {g : List Nat} {cl : Bool} {p1 : Int32} {p2 : Int32} {p3 : Int32} {r1 : Int32} {x4 : Nat} {r6 : Int32} {x7 : Nat} (hn : 2 ≤ n ∧ n ≤ 5) (c1_ : ZR 118 0 [.val (.ref (kad n (22, 0, 0))), .val (.int p1), .val (.int p2), .val (.int p3)] [] (khp n L σ g) true (.inl (some (.int r1)), khp n L σ g, true)) (h2 : zcnd .eq r1 0 = true) (h3 : zcnd .le ((kup σ 42 0 (Int32.ofInt 1)) 42 0) 0 = true) (z4 : zix p1 5 = some x4) (h5 : zcnd .ne ((kup σ 42 0 (Int32.ofInt 1)) 40 x4) 0 = false) (c6_ : ZR 97 0 [.val (.int p1)] [] (khp n L (kup σ 42 0 (Int32.ofInt 1)) g) true (.inl (some (.int r6)), khp n L (kup σ 42 0 (Int32.ofInt 1)) g, true)) (z7 : zix (r6 + p2) 820 = some x7) (h8 : zcnd .le (((kup σ 42 0 (Int32.ofInt 1)) (20 + x7 / 164) (x7 % 164)) + p3) (Int32.ofNat 100000000) = true) (h9 : zcnd .le ((kup (kup σ 42 0 (Int32.ofInt 1)) 42 0 (Int32.ofInt 0)) 42 0) 0 = false) : ZR 122 0 [.val (.ref (kad n (22, 0, 0))), .val (.int p1), .val (.int p2), .val (.int p3)] [] (khp n L σ g) cl (.inl (some (.int (Int32.ofInt 0))), khp n L (kup (kup σ 42 0 (Int32.ofInt 1)) 42 0 (Int32.ofInt 0)) (g), false) := by
  have hM : zmi[122]? = some _ := rfl
  have l4 := (zix_some z4).2.2
  have l7 := (zix_some z7).2.2
  refine zr_fr hM rfl rfl rfl ?_
  refine zr_fr hM rfl rfl rfl ?_
  refine zr_fr hM rfl rfl rfl ?_
  refine zr_fr hM rfl rfl rfl ?_
  refine zr_fr hM rfl rfl rfl ?_
  refine zr_virt (κ := (22, 0, 0)) hn hM rfl rfl rfl rfl rfl rfl rfl rfl rfl ?_
  refine zgo_ret rfl rfl c1_ ?_
  rw [Bool.and_true]
  refine zr_ift hM rfl rfl h2 ?_
  refine zr_fr hM rfl rfl rfl ?_
  refine zr_putf (κ := (22, 0, 0)) hn hM rfl rfl rfl rfl rfl rfl rfl rfl ?_
  refine zr_fr hM rfl rfl rfl ?_
  refine zr_getf (κ := (22, 0, 0)) hn hM rfl rfl rfl rfl ?_
  refine zr_ift hM rfl rfl h3 ?_
  refine zr_fr hM rfl rfl rfl ?_
  refine zr_fr hM rfl rfl rfl ?_
  refine zr_getf (κ := (22, 0, 0)) hn hM rfl rfl rfl rfl ?_
  refine zr_fr hM rfl rfl rfl ?_
  refine zr_bald (κ := (25, 0, 0)) hn hM rfl rfl rfl z4 ?_
  refine zr_iff hM rfl rfl h5 ?_
  refine zr_fr hM rfl rfl rfl ?_
  refine zr_getf (κ := (22, 0, 0)) hn hM rfl rfl rfl rfl ?_
  refine zr_fr hM rfl rfl rfl ?_
  refine zr_stat hM rfl rfl rfl rfl rfl rfl ?_
  refine zgo_ret rfl rfl c6_ ?_
  rw [Bool.and_true]
  refine zr_fr hM rfl rfl rfl ?_
  refine zr_fr hM rfl rfl rfl ?_
  refine zr_iald (κ := (23, 0, 0)) hn hM rfl rfl rfl z7 ?_
  refine zr_fr hM rfl rfl rfl ?_
  refine zr_fr hM rfl rfl rfl ?_
  refine zr_ldc hM rfl ?_
  refine zr_ict hM rfl rfl h8 ?_
  refine zr_fr hM rfl rfl rfl ?_
  refine zr_putf (κ := (22, 0, 0)) hn hM rfl rfl rfl rfl rfl rfl rfl rfl ?_
  refine zr_fr hM rfl rfl rfl ?_
  refine zr_getf (κ := (22, 0, 0)) hn hM rfl rfl rfl rfl ?_
  refine zr_iff hM rfl rfl h9 ?_
  refine zr_fr hM rfl rfl rfl ?_
  refine zr_fr hM rfl rfl rfl ?_
  exact zr_iret2 hM rfl rfl rfl
set_option maxHeartbeats 4000000 in
theorem s122_0_ttftt {n L : Nat} {σ : Ks} {g : List Nat} {cl : Bool} {p1 : Int32} {p2 : Int32} {p3 : Int32} {r1 : Int32} {x4 : Nat} {r6 : Int32} {x7 : Nat} {σ10 : Ks} {c10 : Bool} {r10 : Int32} (hn : 2 ≤ n ∧ n ≤ 5) (c1_ : ZR 118 0 [.val (.ref (kad n (22, 0, 0))), .val (.int p1), .val (.int p2), .val (.int p3)] [] (khp n L σ g) true (.inl (some (.int r1)), khp n L σ g, true)) (h2 : zcnd .eq r1 0 = true) (h3 : zcnd .le ((kup σ 42 0 (Int32.ofInt 1)) 42 0) 0 = true) (z4 : zix p1 5 = some x4) (h5 : zcnd .ne ((kup σ 42 0 (Int32.ofInt 1)) 40 x4) 0 = false) (c6_ : ZR 97 0 [.val (.int p1)] [] (khp n L (kup σ 42 0 (Int32.ofInt 1)) g) true (.inl (some (.int r6)), khp n L (kup σ 42 0 (Int32.ofInt 1)) g, true)) (z7 : zix (r6 + p2) 820 = some x7) (h8 : zcnd .le (((kup σ 42 0 (Int32.ofInt 1)) (20 + x7 / 164) (x7 % 164)) + p3) (Int32.ofNat 100000000) = true) (h9 : zcnd .le ((kup (kup σ 42 0 (Int32.ofInt 1)) 42 0 (Int32.ofInt 0)) 42 0) 0 = true) (c10_ : ZR 120 0 [.val (.ref (kad n (22, 0, 0))), .val (.int p1), .val (.int p2), .val (.int (-p3)), .val (.int (Int32.ofInt 4))] [] (khp n L (kup (kup σ 42 0 (Int32.ofInt 1)) 42 0 (Int32.ofInt 0)) g) true (.inl (some (.int r10)), khp n L σ10 g, c10)) : ZR 122 0 [.val (.ref (kad n (22, 0, 0))), .val (.int p1), .val (.int p2), .val (.int p3)] [] (khp n L σ g) cl (.inl (some (.int r10)), khp n L σ10 (g), false) := by
  have hM : zmi[122]? = some _ := rfl
  have l4 := (zix_some z4).2.2
  have l7 := (zix_some z7).2.2
  refine zr_fr hM rfl rfl rfl ?_
  refine zr_fr hM rfl rfl rfl ?_
  refine zr_fr hM rfl rfl rfl ?_
  refine zr_fr hM rfl rfl rfl ?_
  refine zr_fr hM rfl rfl rfl ?_
  refine zr_virt (κ := (22, 0, 0)) hn hM rfl rfl rfl rfl rfl rfl rfl rfl rfl ?_
  refine zgo_ret rfl rfl c1_ ?_
  rw [Bool.and_true]
  refine zr_ift hM rfl rfl h2 ?_
  refine zr_fr hM rfl rfl rfl ?_
  refine zr_putf (κ := (22, 0, 0)) hn hM rfl rfl rfl rfl rfl rfl rfl rfl ?_
  refine zr_fr hM rfl rfl rfl ?_
  refine zr_getf (κ := (22, 0, 0)) hn hM rfl rfl rfl rfl ?_
  refine zr_ift hM rfl rfl h3 ?_
  refine zr_fr hM rfl rfl rfl ?_
  refine zr_fr hM rfl rfl rfl ?_
  refine zr_getf (κ := (22, 0, 0)) hn hM rfl rfl rfl rfl ?_
  refine zr_fr hM rfl rfl rfl ?_
  refine zr_bald (κ := (25, 0, 0)) hn hM rfl rfl rfl z4 ?_
  refine zr_iff hM rfl rfl h5 ?_
  refine zr_fr hM rfl rfl rfl ?_
  refine zr_getf (κ := (22, 0, 0)) hn hM rfl rfl rfl rfl ?_
  refine zr_fr hM rfl rfl rfl ?_
  refine zr_stat hM rfl rfl rfl rfl rfl rfl ?_
  refine zgo_ret rfl rfl c6_ ?_
  rw [Bool.and_true]
  refine zr_fr hM rfl rfl rfl ?_
  refine zr_fr hM rfl rfl rfl ?_
  refine zr_iald (κ := (23, 0, 0)) hn hM rfl rfl rfl z7 ?_
  refine zr_fr hM rfl rfl rfl ?_
  refine zr_fr hM rfl rfl rfl ?_
  refine zr_ldc hM rfl ?_
  refine zr_ict hM rfl rfl h8 ?_
  refine zr_fr hM rfl rfl rfl ?_
  refine zr_putf (κ := (22, 0, 0)) hn hM rfl rfl rfl rfl rfl rfl rfl rfl ?_
  refine zr_fr hM rfl rfl rfl ?_
  refine zr_getf (κ := (22, 0, 0)) hn hM rfl rfl rfl rfl ?_
  refine zr_ift hM rfl rfl h9 ?_
  refine zr_fr hM rfl rfl rfl ?_
  refine zr_fr hM rfl rfl rfl ?_
  refine zr_fr hM rfl rfl rfl ?_
  refine zr_fr hM rfl rfl rfl ?_
  refine zr_fr hM rfl rfl rfl ?_
  refine zr_fr hM rfl rfl rfl ?_
  refine zr_virt (κ := (22, 0, 0)) hn hM rfl rfl rfl rfl rfl rfl rfl rfl rfl ?_
  refine zgo_ret rfl rfl c10_ ?_
  rw [Bool.false_and]
  exact zr_iret2 hM rfl rfl rfl
set_option maxHeartbeats 4000000 in
theorem s122_0_tttf {n L : Nat} {σ : Ks} {g : List Nat} {cl : Bool} {p1 : Int32} {p2 : Int32} {p3 : Int32} {r1 : Int32} {x4 : Nat} (hn : 2 ≤ n ∧ n ≤ 5) (c1_ : ZR 118 0 [.val (.ref (kad n (22, 0, 0))), .val (.int p1), .val (.int p2), .val (.int p3)] [] (khp n L σ g) true (.inl (some (.int r1)), khp n L σ g, true)) (h2 : zcnd .eq r1 0 = true) (h3 : zcnd .le ((kup σ 42 0 (Int32.ofInt 1)) 42 0) 0 = true) (z4 : zix p1 5 = some x4) (h5 : zcnd .ne ((kup σ 42 0 (Int32.ofInt 1)) 40 x4) 0 = true) (h6 : zcnd .le ((kup (kup σ 42 0 (Int32.ofInt 1)) 42 0 (Int32.ofInt 2)) 42 0) 0 = false) : ZR 122 0 [.val (.ref (kad n (22, 0, 0))), .val (.int p1), .val (.int p2), .val (.int p3)] [] (khp n L σ g) cl (.inl (some (.int (Int32.ofInt 0))), khp n L (kup (kup σ 42 0 (Int32.ofInt 1)) 42 0 (Int32.ofInt 2)) (g), false) := by
  have hM : zmi[122]? = some _ := rfl
  have l4 := (zix_some z4).2.2
  refine zr_fr hM rfl rfl rfl ?_
  refine zr_fr hM rfl rfl rfl ?_
  refine zr_fr hM rfl rfl rfl ?_
  refine zr_fr hM rfl rfl rfl ?_
  refine zr_fr hM rfl rfl rfl ?_
  refine zr_virt (κ := (22, 0, 0)) hn hM rfl rfl rfl rfl rfl rfl rfl rfl rfl ?_
  refine zgo_ret rfl rfl c1_ ?_
  rw [Bool.and_true]
  refine zr_ift hM rfl rfl h2 ?_
  refine zr_fr hM rfl rfl rfl ?_
  refine zr_putf (κ := (22, 0, 0)) hn hM rfl rfl rfl rfl rfl rfl rfl rfl ?_
  refine zr_fr hM rfl rfl rfl ?_
  refine zr_getf (κ := (22, 0, 0)) hn hM rfl rfl rfl rfl ?_
  refine zr_ift hM rfl rfl h3 ?_
  refine zr_fr hM rfl rfl rfl ?_
  refine zr_fr hM rfl rfl rfl ?_
  refine zr_getf (κ := (22, 0, 0)) hn hM rfl rfl rfl rfl ?_
  refine zr_fr hM rfl rfl rfl ?_
  refine zr_bald (κ := (25, 0, 0)) hn hM rfl rfl rfl z4 ?_
  refine zr_ift hM rfl rfl h5 ?_
  refine zr_fr hM rfl rfl rfl ?_
  refine zr_fr hM rfl rfl rfl ?_
  refine zr_putf (κ := (22, 0, 0)) hn hM rfl rfl rfl rfl rfl rfl rfl rfl ?_
  refine zr_fr hM rfl rfl rfl ?_
  refine zr_getf (κ := (22, 0, 0)) hn hM rfl rfl rfl rfl ?_
  refine zr_iff hM rfl rfl h6 ?_
  refine zr_fr hM rfl rfl rfl ?_
  refine zr_fr hM rfl rfl rfl ?_
  exact zr_iret2 hM rfl rfl rfl
set_option maxHeartbeats 4000000 in
theorem s122_0_tttt {n L : Nat} {σ : Ks} {g : List Nat} {cl : Bool} {p1 : Int32} {p2 : Int32} {p3 : Int32} {r1 : Int32} {x4 : Nat} {σ7 : Ks} {c7 : Bool} {r7 : Int32} (hn : 2 ≤ n ∧ n ≤ 5) (c1_ : ZR 118 0 [.val (.ref (kad n (22, 0, 0))), .val (.int p1), .val (.int p2), .val (.int p3)] [] (khp n L σ g) true (.inl (some (.int r1)), khp n L σ g, true)) (h2 : zcnd .eq r1 0 = true) (h3 : zcnd .le ((kup σ 42 0 (Int32.ofInt 1)) 42 0) 0 = true) (z4 : zix p1 5 = some x4) (h5 : zcnd .ne ((kup σ 42 0 (Int32.ofInt 1)) 40 x4) 0 = true) (h6 : zcnd .le ((kup (kup σ 42 0 (Int32.ofInt 1)) 42 0 (Int32.ofInt 2)) 42 0) 0 = true) (c7_ : ZR 120 0 [.val (.ref (kad n (22, 0, 0))), .val (.int p1), .val (.int p2), .val (.int (-p3)), .val (.int (Int32.ofInt 4))] [] (khp n L (kup (kup σ 42 0 (Int32.ofInt 1)) 42 0 (Int32.ofInt 2)) g) true (.inl (some (.int r7)), khp n L σ7 g, c7)) : ZR 122 0 [.val (.ref (kad n (22, 0, 0))), .val (.int p1), .val (.int p2), .val (.int p3)] [] (khp n L σ g) cl (.inl (some (.int r7)), khp n L σ7 (g), false) := by
  have hM : zmi[122]? = some _ := rfl
  have l4 := (zix_some z4).2.2
  refine zr_fr hM rfl rfl rfl ?_
  refine zr_fr hM rfl rfl rfl ?_
  refine zr_fr hM rfl rfl rfl ?_
  refine zr_fr hM rfl rfl rfl ?_
  refine zr_fr hM rfl rfl rfl ?_
  refine zr_virt (κ := (22, 0, 0)) hn hM rfl rfl rfl rfl rfl rfl rfl rfl rfl ?_
  refine zgo_ret rfl rfl c1_ ?_
  rw [Bool.and_true]
  refine zr_ift hM rfl rfl h2 ?_
  refine zr_fr hM rfl rfl rfl ?_
  refine zr_putf (κ := (22, 0, 0)) hn hM rfl rfl rfl rfl rfl rfl rfl rfl ?_
  refine zr_fr hM rfl rfl rfl ?_
  refine zr_getf (κ := (22, 0, 0)) hn hM rfl rfl rfl rfl ?_
  refine zr_ift hM rfl rfl h3 ?_
  refine zr_fr hM rfl rfl rfl ?_
  refine zr_fr hM rfl rfl rfl ?_
  refine zr_getf (κ := (22, 0, 0)) hn hM rfl rfl rfl rfl ?_
  refine zr_fr hM rfl rfl rfl ?_
  refine zr_bald (κ := (25, 0, 0)) hn hM rfl rfl rfl z4 ?_
  refine zr_ift hM rfl rfl h5 ?_
  refine zr_fr hM rfl rfl rfl ?_
  refine zr_fr hM rfl rfl rfl ?_
  refine zr_putf (κ := (22, 0, 0)) hn hM rfl rfl rfl rfl rfl rfl rfl rfl ?_
  refine zr_fr hM rfl rfl rfl ?_
  refine zr_getf (κ := (22, 0, 0)) hn hM rfl rfl rfl rfl ?_
  refine zr_ift hM rfl rfl h6 ?_
  refine zr_fr hM rfl rfl rfl ?_
  refine zr_fr hM rfl rfl rfl ?_
  refine zr_fr hM rfl rfl rfl ?_
  refine zr_fr hM rfl rfl rfl ?_
  refine zr_fr hM rfl rfl rfl ?_
  refine zr_fr hM rfl rfl rfl ?_
  refine zr_virt (κ := (22, 0, 0)) hn hM rfl rfl rfl rfl rfl rfl rfl rfl rfl ?_
  refine zgo_ret rfl rfl c7_ ?_
  rw [Bool.false_and]
  exact zr_iret2 hM rfl rfl rfl
set_option maxHeartbeats 4000000 in
theorem s123_0_ffff {n L : Nat} {σ : Ks} {g : List Nat} {cl : Bool} {p1 : Int32} {p2 : Int32} {p3 : Int32} {p4 : Int32} {r1 : Int32} (hn : 2 ≤ n ∧ n ≤ 5) (c1_ : ZR 118 0 [.val (.ref (kad n (22, 0, 0))), .val (.int p1), .val (.int p2), .val (.int p3)] [] (khp n L σ g) true (.inl (some (.int r1)), khp n L σ g, true)) (h2 : zcnd .eq r1 0 = false) (h3 : zcnd .lt p4 (Int32.ofInt 1) = false) (h4 : zcnd .gt p4 ((Int8.ofInt 100).toInt32) = false) (h5 : zcnd .le ((kup σ 42 0 (Int32.ofInt 0)) 42 0) 0 = false) : ZR 123 0 [.val (.ref (kad n (22, 0, 0))), .val (.int p1), .val (.int p2), .val (.int p3), .val (.int p4), .unset, .unset] [] (khp n L σ g) cl (.inl (some (.int (Int32.ofInt 0))), khp n L (kup σ 42 0 (Int32.ofInt 0)) (g), false) := by
  have hM : zmi[123]? = some _ := rfl
  refine zr_fr hM rfl rfl rfl ?_
  refine zr_fr hM rfl rfl rfl ?_
  refine zr_fr hM rfl rfl rfl ?_
  refine zr_fr hM rfl rfl rfl ?_
  refine zr_fr hM rfl rfl rfl ?_
  refine zr_virt (κ := (22, 0, 0)) hn hM rfl rfl rfl rfl rfl rfl rfl rfl rfl ?_
  refine zgo_ret rfl rfl c1_ ?_
  rw [Bool.and_true]
  refine zr_iff hM rfl rfl h2 ?_
  refine zr_fr hM rfl rfl rfl ?_
  refine zr_fr hM rfl rfl rfl ?_
  refine zr_icf hM rfl rfl h3 ?_
  refine zr_fr hM rfl rfl rfl ?_
  refine zr_fr hM rfl rfl rfl ?_
  refine zr_icf hM rfl rfl h4 ?_
  refine zr_fr hM rfl rfl rfl ?_
  refine zr_fr hM rfl rfl rfl ?_
  refine zr_putf (κ := (22, 0, 0)) hn hM rfl rfl rfl rfl rfl rfl rfl rfl ?_
  refine zr_fr hM rfl rfl rfl ?_
  refine zr_getf (κ := (22, 0, 0)) hn hM rfl rfl rfl rfl ?_
  refine zr_iff hM rfl rfl h5 ?_
  refine zr_fr hM rfl rfl rfl ?_
  exact zr_iret2 hM rfl rfl rfl
set_option maxHeartbeats 4000000 in
theorem s123_0_ffftffff {n L : Nat} {σ : Ks} {g : List Nat} {cl : Bool} {p1 : Int32} {p2 : Int32} {p3 : Int32} {p4 : Int32} {r1 : Int32} {r6 : Int32} {x7 : Nat} {x9 : Nat} {x11 : Nat} (hn : 2 ≤ n ∧ n ≤ 5) (c1_ : ZR 118 0 [.val (.ref (kad n (22, 0, 0))), .val (.int p1), .val (.int p2), .val (.int p3)] [] (khp n L σ g) true (.inl (some (.int r1)), khp n L σ g, true)) (h2 : zcnd .eq r1 0 = false) (h3 : zcnd .lt p4 (Int32.ofInt 1) = false) (h4 : zcnd .gt p4 ((Int8.ofInt 100).toInt32) = false) (h5 : zcnd .le ((kup σ 42 0 (Int32.ofInt 0)) 42 0) 0 = true) (c6_ : ZR 97 0 [.val (.int p1)] [] (khp n L (kup σ 42 0 (Int32.ofInt 0)) g) true (.inl (some (.int r6)), khp n L (kup σ 42 0 (Int32.ofInt 0)) g, true)) (z7 : zix p1 5 = some x7) (h8 : zcnd .ne ((kup σ 42 0 (Int32.ofInt 0)) 40 x7) 0 = false) (z9 : zix (r6 + p2) 820 = some x9) (h10 : zcnd .lt ((kup σ 42 0 (Int32.ofInt 0)) (20 + x9 / 164) (x9 % 164)) p3 = false) (z11 : zix (r6 + ((Int8.ofInt 19).toInt32)) 820 = some x11) (h12 : zcnd .ne ((kup σ 42 0 (Int32.ofInt 0)) (20 + x11 / 164) (x11 % 164)) ((Int8.ofInt 6).toInt32) = false) (h13 : zcnd .le ((kup (kup σ 42 0 (Int32.ofInt 0)) 42 0 (Int32.ofInt 2)) 42 0) 0 = false) : ZR 123 0 [.val (.ref (kad n (22, 0, 0))), .val (.int p1), .val (.int p2), .val (.int p3), .val (.int p4), .unset, .unset] [] (khp n L σ g) cl (.inl (some (.int (Int32.ofInt 0))), khp n L (kup (kup σ 42 0 (Int32.ofInt 0)) 42 0 (Int32.ofInt 2)) (g), false) := by
  have hM : zmi[123]? = some _ := rfl
  have l7 := (zix_some z7).2.2
  have l9 := (zix_some z9).2.2
  have l11 := (zix_some z11).2.2
  refine zr_fr hM rfl rfl rfl ?_
  refine zr_fr hM rfl rfl rfl ?_
  refine zr_fr hM rfl rfl rfl ?_
  refine zr_fr hM rfl rfl rfl ?_
  refine zr_fr hM rfl rfl rfl ?_
  refine zr_virt (κ := (22, 0, 0)) hn hM rfl rfl rfl rfl rfl rfl rfl rfl rfl ?_
  refine zgo_ret rfl rfl c1_ ?_
  rw [Bool.and_true]
  refine zr_iff hM rfl rfl h2 ?_
  refine zr_fr hM rfl rfl rfl ?_
  refine zr_fr hM rfl rfl rfl ?_
  refine zr_icf hM rfl rfl h3 ?_
  refine zr_fr hM rfl rfl rfl ?_
  refine zr_fr hM rfl rfl rfl ?_
  refine zr_icf hM rfl rfl h4 ?_
  refine zr_fr hM rfl rfl rfl ?_
  refine zr_fr hM rfl rfl rfl ?_
  refine zr_putf (κ := (22, 0, 0)) hn hM rfl rfl rfl rfl rfl rfl rfl rfl ?_
  refine zr_fr hM rfl rfl rfl ?_
  refine zr_getf (κ := (22, 0, 0)) hn hM rfl rfl rfl rfl ?_
  refine zr_ift hM rfl rfl h5 ?_
  refine zr_fr hM rfl rfl rfl ?_
  refine zr_stat hM rfl rfl rfl rfl rfl rfl ?_
  refine zgo_ret rfl rfl c6_ ?_
  rw [Bool.and_true]
  refine zr_fr hM rfl rfl rfl ?_
  refine zr_fr hM rfl rfl rfl ?_
  refine zr_fr hM rfl rfl rfl ?_
  refine zr_getf (κ := (22, 0, 0)) hn hM rfl rfl rfl rfl ?_
  refine zr_fr hM rfl rfl rfl ?_
  refine zr_bald (κ := (25, 0, 0)) hn hM rfl rfl rfl z7 ?_
  refine zr_iff hM rfl rfl h8 ?_
  refine zr_fr hM rfl rfl rfl ?_
  refine zr_getf (κ := (22, 0, 0)) hn hM rfl rfl rfl rfl ?_
  refine zr_fr hM rfl rfl rfl ?_
  refine zr_fr hM rfl rfl rfl ?_
  refine zr_fr hM rfl rfl rfl ?_
  refine zr_iald (κ := (23, 0, 0)) hn hM rfl rfl rfl z9 ?_
  refine zr_fr hM rfl rfl rfl ?_
  refine zr_icf hM rfl rfl h10 ?_
  refine zr_fr hM rfl rfl rfl ?_
  refine zr_getf (κ := (22, 0, 0)) hn hM rfl rfl rfl rfl ?_
  refine zr_fr hM rfl rfl rfl ?_
  refine zr_fr hM rfl rfl rfl ?_
  refine zr_fr hM rfl rfl rfl ?_
  refine zr_iald (κ := (23, 0, 0)) hn hM rfl rfl rfl z11 ?_
  refine zr_fr hM rfl rfl rfl ?_
  refine zr_icf hM rfl rfl h12 ?_
  refine zr_fr hM rfl rfl rfl ?_
  refine zr_fr hM rfl rfl rfl ?_
  refine zr_putf (κ := (22, 0, 0)) hn hM rfl rfl rfl rfl rfl rfl rfl rfl ?_
  refine zr_fr hM rfl rfl rfl ?_
  refine zr_getf (κ := (22, 0, 0)) hn hM rfl rfl rfl rfl ?_
  refine zr_iff hM rfl rfl h13 ?_
  refine zr_fr hM rfl rfl rfl ?_
  exact zr_iret2 hM rfl rfl rfl
set_option maxHeartbeats 4000000 in
theorem s123_0_ffftffft {n L : Nat} {σ : Ks} {g : List Nat} {cl : Bool} {p1 : Int32} {p2 : Int32} {p3 : Int32} {p4 : Int32} {r1 : Int32} {r6 : Int32} {x7 : Nat} {x9 : Nat} {x11 : Nat} {x14 : Nat} {x15 : Nat} {x16 : Nat} {x17 : Nat} {x18 : Nat} {x19 : Nat} (hn : 2 ≤ n ∧ n ≤ 5) (c1_ : ZR 118 0 [.val (.ref (kad n (22, 0, 0))), .val (.int p1), .val (.int p2), .val (.int p3)] [] (khp n L σ g) true (.inl (some (.int r1)), khp n L σ g, true)) (h2 : zcnd .eq r1 0 = false) (h3 : zcnd .lt p4 (Int32.ofInt 1) = false) (h4 : zcnd .gt p4 ((Int8.ofInt 100).toInt32) = false) (h5 : zcnd .le ((kup σ 42 0 (Int32.ofInt 0)) 42 0) 0 = true) (c6_ : ZR 97 0 [.val (.int p1)] [] (khp n L (kup σ 42 0 (Int32.ofInt 0)) g) true (.inl (some (.int r6)), khp n L (kup σ 42 0 (Int32.ofInt 0)) g, true)) (z7 : zix p1 5 = some x7) (h8 : zcnd .ne ((kup σ 42 0 (Int32.ofInt 0)) 40 x7) 0 = false) (z9 : zix (r6 + p2) 820 = some x9) (h10 : zcnd .lt ((kup σ 42 0 (Int32.ofInt 0)) (20 + x9 / 164) (x9 % 164)) p3 = false) (z11 : zix (r6 + ((Int8.ofInt 19).toInt32)) 820 = some x11) (h12 : zcnd .ne ((kup σ 42 0 (Int32.ofInt 0)) (20 + x11 / 164) (x11 % 164)) ((Int8.ofInt 6).toInt32) = false) (h13 : zcnd .le ((kup (kup σ 42 0 (Int32.ofInt 0)) 42 0 (Int32.ofInt 2)) 42 0) 0 = true) (z14 : zix (r6 + ((Int8.ofInt 17).toInt32)) 820 = some x14) (z15 : zix ((r6 + ((Int8.ofInt 20).toInt32)) + ((Int32.ofInt 4) * ((kup (kup σ 42 0 (Int32.ofInt 0)) 42 0 (Int32.ofInt 2)) (20 + x11 / 164) (x11 % 164)))) 820 = some x15) (z16 : zix (((r6 + ((Int8.ofInt 20).toInt32)) + ((Int32.ofInt 4) * ((kup (kup σ 42 0 (Int32.ofInt 0)) 42 0 (Int32.ofInt 2)) (20 + x11 / 164) (x11 % 164)))) + (Int32.ofInt 1)) 820 = some x16) (z17 : zix (((r6 + ((Int8.ofInt 20).toInt32)) + ((Int32.ofInt 4) * ((kup (kup σ 42 0 (Int32.ofInt 0)) 42 0 (Int32.ofInt 2)) (20 + x11 / 164) (x11 % 164)))) + (Int32.ofInt 2)) 820 = some x17) (z18 : zix (r6 + ((Int8.ofInt 16).toInt32)) 820 = some x18) (z19 : zix (((r6 + ((Int8.ofInt 20).toInt32)) + ((Int32.ofInt 4) * ((kup (kup σ 42 0 (Int32.ofInt 0)) 42 0 (Int32.ofInt 2)) (20 + x11 / 164) (x11 % 164)))) + (Int32.ofInt 3)) 820 = some x19) : ZR 123 0 [.val (.ref (kad n (22, 0, 0))), .val (.int p1), .val (.int p2), .val (.int p3), .val (.int p4), .unset, .unset] [] (khp n L σ g) cl (.inl (some (.int ((kup (kup (kup (kup (kup (kup (kup (kup (kup σ 42 0 (Int32.ofInt 0)) 42 0 (Int32.ofInt 2)) (20 + x15 / 164) (x15 % 164) ((kup (kup σ 42 0 (Int32.ofInt 0)) 42 0 (Int32.ofInt 2)) (20 + x14 / 164) (x14 % 164))) (20 + x16 / 164) (x16 % 164) p2) (20 + x17 / 164) (x17 % 164) p3) (20 + x19 / 164) (x19 % 164) (((kup (kup (kup (kup (kup σ 42 0 (Int32.ofInt 0)) 42 0 (Int32.ofInt 2)) (20 + x15 / 164) (x15 % 164) ((kup (kup σ 42 0 (Int32.ofInt 0)) 42 0 (Int32.ofInt 2)) (20 + x14 / 164) (x14 % 164))) (20 + x16 / 164) (x16 % 164) p2) (20 + x17 / 164) (x17 % 164) p3) (20 + x18 / 164) (x18 % 164)) + p4)) (20 + x9 / 164) (x9 % 164) (((kup (kup (kup (kup (kup (kup σ 42 0 (Int32.ofInt 0)) 42 0 (Int32.ofInt 2)) (20 + x15 / 164) (x15 % 164) ((kup (kup σ 42 0 (Int32.ofInt 0)) 42 0 (Int32.ofInt 2)) (20 + x14 / 164) (x14 % 164))) (20 + x16 / 164) (x16 % 164) p2) (20 + x17 / 164) (x17 % 164) p3) (20 + x19 / 164) (x19 % 164) (((kup (kup (kup (kup (kup σ 42 0 (Int32.ofInt 0)) 42 0 (Int32.ofInt 2)) (20 + x15 / 164) (x15 % 164) ((kup (kup σ 42 0 (Int32.ofInt 0)) 42 0 (Int32.ofInt 2)) (20 + x14 / 164) (x14 % 164))) (20 + x16 / 164) (x16 % 164) p2) (20 + x17 / 164) (x17 % 164) p3) (20 + x18 / 164) (x18 % 164)) + p4)) (20 + x9 / 164) (x9 % 164)) - p3)) (20 + x11 / 164) (x11 % 164) (((kup (kup (kup (kup (kup (kup (kup σ 42 0 (Int32.ofInt 0)) 42 0 (Int32.ofInt 2)) (20 + x15 / 164) (x15 % 164) ((kup (kup σ 42 0 (Int32.ofInt 0)) 42 0 (Int32.ofInt 2)) (20 + x14 / 164) (x14 % 164))) (20 + x16 / 164) (x16 % 164) p2) (20 + x17 / 164) (x17 % 164) p3) (20 + x19 / 164) (x19 % 164) (((kup (kup (kup (kup (kup σ 42 0 (Int32.ofInt 0)) 42 0 (Int32.ofInt 2)) (20 + x15 / 164) (x15 % 164) ((kup (kup σ 42 0 (Int32.ofInt 0)) 42 0 (Int32.ofInt 2)) (20 + x14 / 164) (x14 % 164))) (20 + x16 / 164) (x16 % 164) p2) (20 + x17 / 164) (x17 % 164) p3) (20 + x18 / 164) (x18 % 164)) + p4)) (20 + x9 / 164) (x9 % 164) (((kup (kup (kup (kup (kup (kup σ 42 0 (Int32.ofInt 0)) 42 0 (Int32.ofInt 2)) (20 + x15 / 164) (x15 % 164) ((kup (kup σ 42 0 (Int32.ofInt 0)) 42 0 (Int32.ofInt 2)) (20 + x14 / 164) (x14 % 164))) (20 + x16 / 164) (x16 % 164) p2) (20 + x17 / 164) (x17 % 164) p3) (20 + x19 / 164) (x19 % 164) (((kup (kup (kup (kup (kup σ 42 0 (Int32.ofInt 0)) 42 0 (Int32.ofInt 2)) (20 + x15 / 164) (x15 % 164) ((kup (kup σ 42 0 (Int32.ofInt 0)) 42 0 (Int32.ofInt 2)) (20 + x14 / 164) (x14 % 164))) (20 + x16 / 164) (x16 % 164) p2) (20 + x17 / 164) (x17 % 164) p3) (20 + x18 / 164) (x18 % 164)) + p4)) (20 + x9 / 164) (x9 % 164)) - p3)) (20 + x11 / 164) (x11 % 164)) + (Int32.ofInt 1))) (20 + x14 / 164) (x14 % 164) (((kup (kup (kup (kup (kup (kup (kup (kup σ 42 0 (Int32.ofInt 0)) 42 0 (Int32.ofInt 2)) (20 + x15 / 164) (x15 % 164) ((kup (kup σ 42 0 (Int32.ofInt 0)) 42 0 (Int32.ofInt 2)) (20 + x14 / 164) (x14 % 164))) (20 + x16 / 164) (x16 % 164) p2) (20 + x17 / 164) (x17 % 164) p3) (20 + x19 / 164) (x19 % 164) (((kup (kup (kup (kup (kup σ 42 0 (Int32.ofInt 0)) 42 0 (Int32.ofInt 2)) (20 + x15 / 164) (x15 % 164) ((kup (kup σ 42 0 (Int32.ofInt 0)) 42 0 (Int32.ofInt 2)) (20 + x14 / 164) (x14 % 164))) (20 + x16 / 164) (x16 % 164) p2) (20 + x17 / 164) (x17 % 164) p3) (20 + x18 / 164) (x18 % 164)) + p4)) (20 + x9 / 164) (x9 % 164) (((kup (kup (kup (kup (kup (kup σ 42 0 (Int32.ofInt 0)) 42 0 (Int32.ofInt 2)) (20 + x15 / 164) (x15 % 164) ((kup (kup σ 42 0 (Int32.ofInt 0)) 42 0 (Int32.ofInt 2)) (20 + x14 / 164) (x14 % 164))) (20 + x16 / 164) (x16 % 164) p2) (20 + x17 / 164) (x17 % 164) p3) (20 + x19 / 164) (x19 % 164) (((kup (kup (kup (kup (kup σ 42 0 (Int32.ofInt 0)) 42 0 (Int32.ofInt 2)) (20 + x15 / 164) (x15 % 164) ((kup (kup σ 42 0 (Int32.ofInt 0)) 42 0 (Int32.ofInt 2)) (20 + x14 / 164) (x14 % 164))) (20 + x16 / 164) (x16 % 164) p2) (20 + x17 / 164) (x17 % 164) p3) (20 + x18 / 164) (x18 % 164)) + p4)) (20 + x9 / 164) (x9 % 164)) - p3)) (20 + x11 / 164) (x11 % 164) (((kup (kup (kup (kup (kup (kup (kup σ 42 0 (Int32.ofInt 0)) 42 0 (Int32.ofInt 2)) (20 + x15 / 164) (x15 % 164) ((kup (kup σ 42 0 (Int32.ofInt 0)) 42 0 (Int32.ofInt 2)) (20 + x14 / 164) (x14 % 164))) (20 + x16 / 164) (x16 % 164) p2) (20 + x17 / 164) (x17 % 164) p3) (20 + x19 / 164) (x19 % 164) (((kup (kup (kup (kup (kup σ 42 0 (Int32.ofInt 0)) 42 0 (Int32.ofInt 2)) (20 + x15 / 164) (x15 % 164) ((kup (kup σ 42 0 (Int32.ofInt 0)) 42 0 (Int32.ofInt 2)) (20 + x14 / 164) (x14 % 164))) (20 + x16 / 164) (x16 % 164) p2) (20 + x17 / 164) (x17 % 164) p3) (20 + x18 / 164) (x18 % 164)) + p4)) (20 + x9 / 164) (x9 % 164) (((kup (kup (kup (kup (kup (kup σ 42 0 (Int32.ofInt 0)) 42 0 (Int32.ofInt 2)) (20 + x15 / 164) (x15 % 164) ((kup (kup σ 42 0 (Int32.ofInt 0)) 42 0 (Int32.ofInt 2)) (20 + x14 / 164) (x14 % 164))) (20 + x16 / 164) (x16 % 164) p2) (20 + x17 / 164) (x17 % 164) p3) (20 + x19 / 164) (x19 % 164) (((kup (kup (kup (kup (kup σ 42 0 (Int32.ofInt 0)) 42 0 (Int32.ofInt 2)) (20 + x15 / 164) (x15 % 164) ((kup (kup σ 42 0 (Int32.ofInt 0)) 42 0 (Int32.ofInt 2)) (20 + x14 / 164) (x14 % 164))) (20 + x16 / 164) (x16 % 164) p2) (20 + x17 / 164) (x17 % 164) p3) (20 + x18 / 164) (x18 % 164)) + p4)) (20 + x9 / 164) (x9 % 164)) - p3)) (20 + x11 / 164) (x11 % 164)) + (Int32.ofInt 1))) (20 + x14 / 164) (x14 % 164)) + (Int32.ofInt 1))) (20 + x15 / 164) (x15 % 164)))), khp n L (kup (kup (kup (kup (kup (kup (kup (kup (kup σ 42 0 (Int32.ofInt 0)) 42 0 (Int32.ofInt 2)) (20 + x15 / 164) (x15 % 164) ((kup (kup σ 42 0 (Int32.ofInt 0)) 42 0 (Int32.ofInt 2)) (20 + x14 / 164) (x14 % 164))) (20 + x16 / 164) (x16 % 164) p2) (20 + x17 / 164) (x17 % 164) p3) (20 + x19 / 164) (x19 % 164) (((kup (kup (kup (kup (kup σ 42 0 (Int32.ofInt 0)) 42 0 (Int32.ofInt 2)) (20 + x15 / 164) (x15 % 164) ((kup (kup σ 42 0 (Int32.ofInt 0)) 42 0 (Int32.ofInt 2)) (20 + x14 / 164) (x14 % 164))) (20 + x16 / 164) (x16 % 164) p2) (20 + x17 / 164) (x17 % 164) p3) (20 + x18 / 164) (x18 % 164)) + p4)) (20 + x9 / 164) (x9 % 164) (((kup (kup (kup (kup (kup (kup σ 42 0 (Int32.ofInt 0)) 42 0 (Int32.ofInt 2)) (20 + x15 / 164) (x15 % 164) ((kup (kup σ 42 0 (Int32.ofInt 0)) 42 0 (Int32.ofInt 2)) (20 + x14 / 164) (x14 % 164))) (20 + x16 / 164) (x16 % 164) p2) (20 + x17 / 164) (x17 % 164) p3) (20 + x19 / 164) (x19 % 164) (((kup (kup (kup (kup (kup σ 42 0 (Int32.ofInt 0)) 42 0 (Int32.ofInt 2)) (20 + x15 / 164) (x15 % 164) ((kup (kup σ 42 0 (Int32.ofInt 0)) 42 0 (Int32.ofInt 2)) (20 + x14 / 164) (x14 % 164))) (20 + x16 / 164) (x16 % 164) p2) (20 + x17 / 164) (x17 % 164) p3) (20 + x18 / 164) (x18 % 164)) + p4)) (20 + x9 / 164) (x9 % 164)) - p3)) (20 + x11 / 164) (x11 % 164) (((kup (kup (kup (kup (kup (kup (kup σ 42 0 (Int32.ofInt 0)) 42 0 (Int32.ofInt 2)) (20 + x15 / 164) (x15 % 164) ((kup (kup σ 42 0 (Int32.ofInt 0)) 42 0 (Int32.ofInt 2)) (20 + x14 / 164) (x14 % 164))) (20 + x16 / 164) (x16 % 164) p2) (20 + x17 / 164) (x17 % 164) p3) (20 + x19 / 164) (x19 % 164) (((kup (kup (kup (kup (kup σ 42 0 (Int32.ofInt 0)) 42 0 (Int32.ofInt 2)) (20 + x15 / 164) (x15 % 164) ((kup (kup σ 42 0 (Int32.ofInt 0)) 42 0 (Int32.ofInt 2)) (20 + x14 / 164) (x14 % 164))) (20 + x16 / 164) (x16 % 164) p2) (20 + x17 / 164) (x17 % 164) p3) (20 + x18 / 164) (x18 % 164)) + p4)) (20 + x9 / 164) (x9 % 164) (((kup (kup (kup (kup (kup (kup σ 42 0 (Int32.ofInt 0)) 42 0 (Int32.ofInt 2)) (20 + x15 / 164) (x15 % 164) ((kup (kup σ 42 0 (Int32.ofInt 0)) 42 0 (Int32.ofInt 2)) (20 + x14 / 164) (x14 % 164))) (20 + x16 / 164) (x16 % 164) p2) (20 + x17 / 164) (x17 % 164) p3) (20 + x19 / 164) (x19 % 164) (((kup (kup (kup (kup (kup σ 42 0 (Int32.ofInt 0)) 42 0 (Int32.ofInt 2)) (20 + x15 / 164) (x15 % 164) ((kup (kup σ 42 0 (Int32.ofInt 0)) 42 0 (Int32.ofInt 2)) (20 + x14 / 164) (x14 % 164))) (20 + x16 / 164) (x16 % 164) p2) (20 + x17 / 164) (x17 % 164) p3) (20 + x18 / 164) (x18 % 164)) + p4)) (20 + x9 / 164) (x9 % 164)) - p3)) (20 + x11 / 164) (x11 % 164)) + (Int32.ofInt 1))) (20 + x14 / 164) (x14 % 164) (((kup (kup (kup (kup (kup (kup (kup (kup σ 42 0 (Int32.ofInt 0)) 42 0 (Int32.ofInt 2)) (20 + x15 / 164) (x15 % 164) ((kup (kup σ 42 0 (Int32.ofInt 0)) 42 0 (Int32.ofInt 2)) (20 + x14 / 164) (x14 % 164))) (20 + x16 / 164) (x16 % 164) p2) (20 + x17 / 164) (x17 % 164) p3) (20 + x19 / 164) (x19 % 164) (((kup (kup (kup (kup (kup σ 42 0 (Int32.ofInt 0)) 42 0 (Int32.ofInt 2)) (20 + x15 / 164) (x15 % 164) ((kup (kup σ 42 0 (Int32.ofInt 0)) 42 0 (Int32.ofInt 2)) (20 + x14 / 164) (x14 % 164))) (20 + x16 / 164) (x16 % 164) p2) (20 + x17 / 164) (x17 % 164) p3) (20 + x18 / 164) (x18 % 164)) + p4)) (20 + x9 / 164) (x9 % 164) (((kup (kup (kup (kup (kup (kup σ 42 0 (Int32.ofInt 0)) 42 0 (Int32.ofInt 2)) (20 + x15 / 164) (x15 % 164) ((kup (kup σ 42 0 (Int32.ofInt 0)) 42 0 (Int32.ofInt 2)) (20 + x14 / 164) (x14 % 164))) (20 + x16 / 164) (x16 % 164) p2) (20 + x17 / 164) (x17 % 164) p3) (20 + x19 / 164) (x19 % 164) (((kup (kup (kup (kup (kup σ 42 0 (Int32.ofInt 0)) 42 0 (Int32.ofInt 2)) (20 + x15 / 164) (x15 % 164) ((kup (kup σ 42 0 (Int32.ofInt 0)) 42 0 (Int32.ofInt 2)) (20 + x14 / 164) (x14 % 164))) (20 + x16 / 164) (x16 % 164) p2) (20 + x17 / 164) (x17 % 164) p3) (20 + x18 / 164) (x18 % 164)) + p4)) (20 + x9 / 164) (x9 % 164)) - p3)) (20 + x11 / 164) (x11 % 164) (((kup (kup (kup (kup (kup (kup (kup σ 42 0 (Int32.ofInt 0)) 42 0 (Int32.ofInt 2)) (20 + x15 / 164) (x15 % 164) ((kup (kup σ 42 0 (Int32.ofInt 0)) 42 0 (Int32.ofInt 2)) (20 + x14 / 164) (x14 % 164))) (20 + x16 / 164) (x16 % 164) p2) (20 + x17 / 164) (x17 % 164) p3) (20 + x19 / 164) (x19 % 164) (((kup (kup (kup (kup (kup σ 42 0 (Int32.ofInt 0)) 42 0 (Int32.ofInt 2)) (20 + x15 / 164) (x15 % 164) ((kup (kup σ 42 0 (Int32.ofInt 0)) 42 0 (Int32.ofInt 2)) (20 + x14 / 164) (x14 % 164))) (20 + x16 / 164) (x16 % 164) p2) (20 + x17 / 164) (x17 % 164) p3) (20 + x18 / 164) (x18 % 164)) + p4)) (20 + x9 / 164) (x9 % 164) (((kup (kup (kup (kup (kup (kup σ 42 0 (Int32.ofInt 0)) 42 0 (Int32.ofInt 2)) (20 + x15 / 164) (x15 % 164) ((kup (kup σ 42 0 (Int32.ofInt 0)) 42 0 (Int32.ofInt 2)) (20 + x14 / 164) (x14 % 164))) (20 + x16 / 164) (x16 % 164) p2) (20 + x17 / 164) (x17 % 164) p3) (20 + x19 / 164) (x19 % 164) (((kup (kup (kup (kup (kup σ 42 0 (Int32.ofInt 0)) 42 0 (Int32.ofInt 2)) (20 + x15 / 164) (x15 % 164) ((kup (kup σ 42 0 (Int32.ofInt 0)) 42 0 (Int32.ofInt 2)) (20 + x14 / 164) (x14 % 164))) (20 + x16 / 164) (x16 % 164) p2) (20 + x17 / 164) (x17 % 164) p3) (20 + x18 / 164) (x18 % 164)) + p4)) (20 + x9 / 164) (x9 % 164)) - p3)) (20 + x11 / 164) (x11 % 164)) + (Int32.ofInt 1))) (20 + x14 / 164) (x14 % 164)) + (Int32.ofInt 1))) (g), false) := by
  have hM : zmi[123]? = some _ := rfl
  have l7 := (zix_some z7).2.2
  have l9 := (zix_some z9).2.2
  have l11 := (zix_some z11).2.2
  have l14 := (zix_some z14).2.2
  have l15 := (zix_some z15).2.2
  have l16 := (zix_some z16).2.2
  have l17 := (zix_some z17).2.2
  have l18 := (zix_some z18).2.2
  have l19 := (zix_some z19).2.2
  refine zr_fr hM rfl rfl rfl ?_
  refine zr_fr hM rfl rfl rfl ?_
  refine zr_fr hM rfl rfl rfl ?_
  refine zr_fr hM rfl rfl rfl ?_
  refine zr_fr hM rfl rfl rfl ?_
  refine zr_virt (κ := (22, 0, 0)) hn hM rfl rfl rfl rfl rfl rfl rfl rfl rfl ?_
  refine zgo_ret rfl rfl c1_ ?_
  rw [Bool.and_true]
  refine zr_iff hM rfl rfl h2 ?_
  refine zr_fr hM rfl rfl rfl ?_
  refine zr_fr hM rfl rfl rfl ?_
  refine zr_icf hM rfl rfl h3 ?_
  refine zr_fr hM rfl rfl rfl ?_
  refine zr_fr hM rfl rfl rfl ?_
  refine zr_icf hM rfl rfl h4 ?_
  refine zr_fr hM rfl rfl rfl ?_
  refine zr_fr hM rfl rfl rfl ?_
  refine zr_putf (κ := (22, 0, 0)) hn hM rfl rfl rfl rfl rfl rfl rfl rfl ?_
  refine zr_fr hM rfl rfl rfl ?_
  refine zr_getf (κ := (22, 0, 0)) hn hM rfl rfl rfl rfl ?_
  refine zr_ift hM rfl rfl h5 ?_
  refine zr_fr hM rfl rfl rfl ?_
  refine zr_stat hM rfl rfl rfl rfl rfl rfl ?_
  refine zgo_ret rfl rfl c6_ ?_
  rw [Bool.and_true]
  refine zr_fr hM rfl rfl rfl ?_
  refine zr_fr hM rfl rfl rfl ?_
  refine zr_fr hM rfl rfl rfl ?_
  refine zr_getf (κ := (22, 0, 0)) hn hM rfl rfl rfl rfl ?_
  refine zr_fr hM rfl rfl rfl ?_
  refine zr_bald (κ := (25, 0, 0)) hn hM rfl rfl rfl z7 ?_
  refine zr_iff hM rfl rfl h8 ?_
  refine zr_fr hM rfl rfl rfl ?_
  refine zr_getf (κ := (22, 0, 0)) hn hM rfl rfl rfl rfl ?_
  refine zr_fr hM rfl rfl rfl ?_
  refine zr_fr hM rfl rfl rfl ?_
  refine zr_fr hM rfl rfl rfl ?_
  refine zr_iald (κ := (23, 0, 0)) hn hM rfl rfl rfl z9 ?_
  refine zr_fr hM rfl rfl rfl ?_
  refine zr_icf hM rfl rfl h10 ?_
  refine zr_fr hM rfl rfl rfl ?_
  refine zr_getf (κ := (22, 0, 0)) hn hM rfl rfl rfl rfl ?_
  refine zr_fr hM rfl rfl rfl ?_
  refine zr_fr hM rfl rfl rfl ?_
  refine zr_fr hM rfl rfl rfl ?_
  refine zr_iald (κ := (23, 0, 0)) hn hM rfl rfl rfl z11 ?_
  refine zr_fr hM rfl rfl rfl ?_
  refine zr_icf hM rfl rfl h12 ?_
  refine zr_fr hM rfl rfl rfl ?_
  refine zr_fr hM rfl rfl rfl ?_
  refine zr_putf (κ := (22, 0, 0)) hn hM rfl rfl rfl rfl rfl rfl rfl rfl ?_
  refine zr_fr hM rfl rfl rfl ?_
  refine zr_getf (κ := (22, 0, 0)) hn hM rfl rfl rfl rfl ?_
  refine zr_ift hM rfl rfl h13 ?_
  refine zr_fr hM rfl rfl rfl ?_
  refine zr_fr hM rfl rfl rfl ?_
  refine zr_fr hM rfl rfl rfl ?_
  refine zr_fr hM rfl rfl rfl ?_
  refine zr_fr hM rfl rfl rfl ?_
  refine zr_getf (κ := (22, 0, 0)) hn hM rfl rfl rfl rfl ?_
  refine zr_fr hM rfl rfl rfl ?_
  refine zr_fr hM rfl rfl rfl ?_
  refine zr_fr hM rfl rfl rfl ?_
  refine zr_iald (κ := (23, 0, 0)) hn hM rfl rfl rfl z11 ?_
  refine zr_fr hM rfl rfl rfl ?_
  refine zr_fr hM rfl rfl rfl ?_
  refine zr_fr hM rfl rfl rfl ?_
  refine zr_fr hM rfl rfl rfl ?_
  refine zr_getf (κ := (22, 0, 0)) hn hM rfl rfl rfl rfl ?_
  refine zr_fr hM rfl rfl rfl ?_
  refine zr_fr hM rfl rfl rfl ?_
  refine zr_getf (κ := (22, 0, 0)) hn hM rfl rfl rfl rfl ?_
  refine zr_fr hM rfl rfl rfl ?_
  refine zr_fr hM rfl rfl rfl ?_
  refine zr_fr hM rfl rfl rfl ?_
  refine zr_iald (κ := (23, 0, 0)) hn hM rfl rfl rfl z14 ?_
  refine zr_iast (κ := (23, 0, 0)) hn hM rfl rfl rfl rfl z15 rfl ?_
  refine zr_fr hM rfl rfl rfl ?_
  refine zr_getf (κ := (22, 0, 0)) hn hM rfl rfl rfl rfl ?_
  refine zr_fr hM rfl rfl rfl ?_
  refine zr_fr hM rfl rfl rfl ?_
  refine zr_fr hM rfl rfl rfl ?_
  refine zr_fr hM rfl rfl rfl ?_
  refine zr_iast (κ := (23, 0, 0)) hn hM rfl rfl rfl rfl z16 rfl ?_
  refine zr_fr hM rfl rfl rfl ?_
  refine zr_getf (κ := (22, 0, 0)) hn hM rfl rfl rfl rfl ?_
  refine zr_fr hM rfl rfl rfl ?_
  refine zr_fr hM rfl rfl rfl ?_
  refine zr_fr hM rfl rfl rfl ?_
  refine zr_fr hM rfl rfl rfl ?_
  refine zr_iast (κ := (23, 0, 0)) hn hM rfl rfl rfl rfl z17 rfl ?_
  refine zr_fr hM rfl rfl rfl ?_
  refine zr_getf (κ := (22, 0, 0)) hn hM rfl rfl rfl rfl ?_
  refine zr_fr hM rfl rfl rfl ?_
  refine zr_fr hM rfl rfl rfl ?_
  refine zr_fr hM rfl rfl rfl ?_
  refine zr_fr hM rfl rfl rfl ?_
  refine zr_getf (κ := (22, 0, 0)) hn hM rfl rfl rfl rfl ?_
  refine zr_fr hM rfl rfl rfl ?_
  refine zr_fr hM rfl rfl rfl ?_
  refine zr_fr hM rfl rfl rfl ?_
  refine zr_iald (κ := (23, 0, 0)) hn hM rfl rfl rfl z18 ?_
  refine zr_fr hM rfl rfl rfl ?_
  refine zr_fr hM rfl rfl rfl ?_
  refine zr_iast (κ := (23, 0, 0)) hn hM rfl rfl rfl rfl z19 rfl ?_
  refine zr_fr hM rfl rfl rfl ?_
  refine zr_getf (κ := (22, 0, 0)) hn hM rfl rfl rfl rfl ?_
  refine zr_fr hM rfl rfl rfl ?_
  refine zr_fr hM rfl rfl rfl ?_
  refine zr_fr hM rfl rfl rfl ?_
  refine zr_fr hM rfl rfl rfl ?_
  refine zr_iald (κ := (23, 0, 0)) hn hM rfl rfl rfl z9 ?_
  refine zr_fr hM rfl rfl rfl ?_
  refine zr_fr hM rfl rfl rfl ?_
  refine zr_iast (κ := (23, 0, 0)) hn hM rfl rfl rfl rfl z9 rfl ?_
  refine zr_fr hM rfl rfl rfl ?_
  refine zr_getf (κ := (22, 0, 0)) hn hM rfl rfl rfl rfl ?_
  refine zr_fr hM rfl rfl rfl ?_
  refine zr_fr hM rfl rfl rfl ?_
  refine zr_fr hM rfl rfl rfl ?_
  refine zr_fr hM rfl rfl rfl ?_
  refine zr_iald (κ := (23, 0, 0)) hn hM rfl rfl rfl z11 ?_
  refine zr_fr hM rfl rfl rfl ?_
  refine zr_fr hM rfl rfl rfl ?_
  refine zr_iast (κ := (23, 0, 0)) hn hM rfl rfl rfl rfl z11 rfl ?_
  refine zr_fr hM rfl rfl rfl ?_
  refine zr_getf (κ := (22, 0, 0)) hn hM rfl rfl rfl rfl ?_
  refine zr_fr hM rfl rfl rfl ?_
  refine zr_fr hM rfl rfl rfl ?_
  refine zr_fr hM rfl rfl rfl ?_
  refine zr_fr hM rfl rfl rfl ?_
  refine zr_iald (κ := (23, 0, 0)) hn hM rfl rfl rfl z14 ?_
  refine zr_fr hM rfl rfl rfl ?_
  refine zr_fr hM rfl rfl rfl ?_
  refine zr_iast (κ := (23, 0, 0)) hn hM rfl rfl rfl rfl z14 rfl ?_
  refine zr_fr hM rfl rfl rfl ?_
  refine zr_getf (κ := (22, 0, 0)) hn hM rfl rfl rfl rfl ?_
  refine zr_fr hM rfl rfl rfl ?_
  refine zr_iald (κ := (23, 0, 0)) hn hM rfl rfl rfl z15 ?_
  exact zr_iret2 hM rfl rfl rfl
set_option maxHeartbeats 4000000 in
theorem s123_0_ffftfftf {n L : Nat} {σ : Ks} {g : List Nat} {cl : Bool} {p1 : Int32} {p2 : Int32} {p3 : Int32} {p4 : Int32} {r1 : Int32} {r6 : Int32} {x7 : Nat} {x9 : Nat} {x11 : Nat} (hn : 2 ≤ n ∧ n ≤ 5) (c1_ : ZR 118 0 [.val (.ref (kad n (22, 0, 0))), .val (.int p1), .val (.int p2), .val (.int p3)] [] (khp n L σ g) true (.inl (some (.int r1)), khp n L σ g, true)) (h2 : zcnd .eq r1 0 = false) (h3 : zcnd .lt p4 (Int32.ofInt 1) = false) (h4 : zcnd .gt p4 ((Int8.ofInt 100).toInt32) = false) (h5 : zcnd .le ((kup σ 42 0 (Int32.ofInt 0)) 42 0) 0 = true) (c6_ : ZR 97 0 [.val (.int p1)] [] (khp n L (kup σ 42 0 (Int32.ofInt 0)) g) true (.inl (some (.int r6)), khp n L (kup σ 42 0 (Int32.ofInt 0)) g, true)) (z7 : zix p1 5 = some x7) (h8 : zcnd .ne ((kup σ 42 0 (Int32.ofInt 0)) 40 x7) 0 = false) (z9 : zix (r6 + p2) 820 = some x9) (h10 : zcnd .lt ((kup σ 42 0 (Int32.ofInt 0)) (20 + x9 / 164) (x9 % 164)) p3 = false) (z11 : zix (r6 + ((Int8.ofInt 19).toInt32)) 820 = some x11) (h12 : zcnd .ne ((kup σ 42 0 (Int32.ofInt 0)) (20 + x11 / 164) (x11 % 164)) ((Int8.ofInt 6).toInt32) = true) (h13 : zcnd .le ((kup (kup σ 42 0 (Int32.ofInt 0)) 42 0 (Int32.ofInt 0)) 42 0) 0 = false) : ZR 123 0 [.val (.ref (kad n (22, 0, 0))), .val (.int p1), .val (.int p2), .val (.int p3), .val (.int p4), .unset, .unset] [] (khp n L σ g) cl (.inl (some (.int (Int32.ofInt 0))), khp n L (kup (kup σ 42 0 (Int32.ofInt 0)) 42 0 (Int32.ofInt 0)) (g), false) := by
  have hM : zmi[123]? = some _ := rfl
  have l7 := (zix_some z7).2.2
  have l9 := (zix_some z9).2.2
  have l11 := (zix_some z11).2.2
  refine zr_fr hM rfl rfl rfl ?_
  refine zr_fr hM rfl rfl rfl ?_
  refine zr_fr hM rfl rfl rfl ?_
  refine zr_fr hM rfl rfl rfl ?_
  refine zr_fr hM rfl rfl rfl ?_
  refine zr_virt (κ := (22, 0, 0)) hn hM rfl rfl rfl rfl rfl rfl rfl rfl rfl ?_
  refine zgo_ret rfl rfl c1_ ?_
  rw [Bool.and_true]
  refine zr_iff hM rfl rfl h2 ?_
  refine zr_fr hM rfl rfl rfl ?_
  refine zr_fr hM rfl rfl rfl ?_
  refine zr_icf hM rfl rfl h3 ?_
  refine zr_fr hM rfl rfl rfl ?_
  refine zr_fr hM rfl rfl rfl ?_
  refine zr_icf hM rfl rfl h4 ?_
  refine zr_fr hM rfl rfl rfl ?_
  refine zr_fr hM rfl rfl rfl ?_
  refine zr_putf (κ := (22, 0, 0)) hn hM rfl rfl rfl rfl rfl rfl rfl rfl ?_
  refine zr_fr hM rfl rfl rfl ?_
  refine zr_getf (κ := (22, 0, 0)) hn hM rfl rfl rfl rfl ?_
  refine zr_ift hM rfl rfl h5 ?_
  refine zr_fr hM rfl rfl rfl ?_
  refine zr_stat hM rfl rfl rfl rfl rfl rfl ?_
  refine zgo_ret rfl rfl c6_ ?_
  rw [Bool.and_true]
  refine zr_fr hM rfl rfl rfl ?_
  refine zr_fr hM rfl rfl rfl ?_
  refine zr_fr hM rfl rfl rfl ?_
  refine zr_getf (κ := (22, 0, 0)) hn hM rfl rfl rfl rfl ?_
  refine zr_fr hM rfl rfl rfl ?_
  refine zr_bald (κ := (25, 0, 0)) hn hM rfl rfl rfl z7 ?_
  refine zr_iff hM rfl rfl h8 ?_
  refine zr_fr hM rfl rfl rfl ?_
  refine zr_getf (κ := (22, 0, 0)) hn hM rfl rfl rfl rfl ?_
  refine zr_fr hM rfl rfl rfl ?_
  refine zr_fr hM rfl rfl rfl ?_
  refine zr_fr hM rfl rfl rfl ?_
  refine zr_iald (κ := (23, 0, 0)) hn hM rfl rfl rfl z9 ?_
  refine zr_fr hM rfl rfl rfl ?_
  refine zr_icf hM rfl rfl h10 ?_
  refine zr_fr hM rfl rfl rfl ?_
  refine zr_getf (κ := (22, 0, 0)) hn hM rfl rfl rfl rfl ?_
  refine zr_fr hM rfl rfl rfl ?_
  refine zr_fr hM rfl rfl rfl ?_
  refine zr_fr hM rfl rfl rfl ?_
  refine zr_iald (κ := (23, 0, 0)) hn hM rfl rfl rfl z11 ?_
  refine zr_fr hM rfl rfl rfl ?_
  refine zr_ict hM rfl rfl h12 ?_
  refine zr_fr hM rfl rfl rfl ?_
  refine zr_putf (κ := (22, 0, 0)) hn hM rfl rfl rfl rfl rfl rfl rfl rfl ?_
  refine zr_fr hM rfl rfl rfl ?_
  refine zr_getf (κ := (22, 0, 0)) hn hM rfl rfl rfl rfl ?_
  refine zr_iff hM rfl rfl h13 ?_
  refine zr_fr hM rfl rfl rfl ?_
  exact zr_iret2 hM rfl rfl rfl
set_option maxHeartbeats 4000000 in
theorem s123_0_ffftfftt {n L : Nat} {σ : Ks} {g : List Nat} {cl : Bool} {p1 : Int32} {p2 : Int32} {p3 : Int32} {p4 : Int32} {r1 : Int32} {r6 : Int32} {x7 : Nat} {x9 : Nat} {x11 : Nat} {x14 : Nat} {x15 : Nat} {x16 : Nat} {x17 : Nat} {x18 : Nat} {x19 : Nat} (hn : 2 ≤ n ∧ n ≤ 5) (c1_ : ZR 118 0 [.val (.ref (kad n (22, 0, 0))), .val (.int p1), .val (.int p2), .val (.int p3)] [] (khp n L σ g) true (.inl (some (.int r1)), khp n L σ g, true)) (h2 : zcnd .eq r1 0 = false) (h3 : zcnd .lt p4 (Int32.ofInt 1) = false) (h4 : zcnd .gt p4 ((Int8.ofInt 100).toInt32) = false) (h5 : zcnd .le ((kup σ 42 0 (Int32.ofInt 0)) 42 0) 0 = true) (c6_ : ZR 97 0 [.val (.int p1)] [] (khp n L (kup σ 42 0 (Int32.ofInt 0)) g) true (.inl (some (.int r6)), khp n L (kup σ 42 0 (Int32.ofInt 0)) g, true)) (z7 : zix p1 5 = some x7) (h8 : zcnd .ne ((kup σ 42 0 (Int32.ofInt 0)) 40 x7) 0 = false) (z9 : zix (r6 + p2) 820 = some x9) (h10 : zcnd .lt ((kup σ 42 0 (Int32.ofInt 0)) (20 + x9 / 164) (x9 % 164)) p3 = false) (z11 : zix (r6 + ((Int8.ofInt 19).toInt32)) 820 = some x11) (h12 : zcnd .ne ((kup σ 42 0 (Int32.ofInt 0)) (20 + x11 / 164) (x11 % 164)) ((Int8.ofInt 6).toInt32) = true) (h13 : zcnd .le ((kup (kup σ 42 0 (Int32.ofInt 0)) 42 0 (Int32.ofInt 0)) 42 0) 0 = true) (z14 : zix (r6 + ((Int8.ofInt 17).toInt32)) 820 = some x14) (z15 : zix ((r6 + ((Int8.ofInt 20).toInt32)) + ((Int32.ofInt 4) * ((kup (kup σ 42 0 (Int32.ofInt 0)) 42 0 (Int32.ofInt 0)) (20 + x11 / 164) (x11 % 164)))) 820 = some x15) (z16 : zix (((r6 + ((Int8.ofInt 20).toInt32)) + ((Int32.ofInt 4) * ((kup (kup σ 42 0 (Int32.ofInt 0)) 42 0 (Int32.ofInt 0)) (20 + x11 / 164) (x11 % 164)))) + (Int32.ofInt 1)) 820 = some x16) (z17 : zix (((r6 + ((Int8.ofInt 20).toInt32)) + ((Int32.ofInt 4) * ((kup (kup σ 42 0 (Int32.ofInt 0)) 42 0 (Int32.ofInt 0)) (20 + x11 / 164) (x11 % 164)))) + (Int32.ofInt 2)) 820 = some x17) (z18 : zix (r6 + ((Int8.ofInt 16).toInt32)) 820 = some x18) (z19 : zix (((r6 + ((Int8.ofInt 20).toInt32)) + ((Int32.ofInt 4) * ((kup (kup σ 42 0 (Int32.ofInt 0)) 42 0 (Int32.ofInt 0)) (20 + x11 / 164) (x11 % 164)))) + (Int32.ofInt 3)) 820 = some x19) : ZR 123 0 [.val (.ref (kad n (22, 0, 0))), .val (.int p1), .val (.int p2), .val (.int p3), .val (.int p4), .unset, .unset] [] (khp n L σ g) cl (.inl (some (.int ((kup (kup (kup (kup (kup (kup (kup (kup (kup σ 42 0 (Int32.ofInt 0)) 42 0 (Int32.ofInt 0)) (20 + x15 / 164) (x15 % 164) ((kup (kup σ 42 0 (Int32.ofInt 0)) 42 0 (Int32.ofInt 0)) (20 + x14 / 164) (x14 % 164))) (20 + x16 / 164) (x16 % 164) p2) (20 + x17 / 164) (x17 % 164) p3) (20 + x19 / 164) (x19 % 164) (((kup (kup (kup (kup (kup σ 42 0 (Int32.ofInt 0)) 42 0 (Int32.ofInt 0)) (20 + x15 / 164) (x15 % 164) ((kup (kup σ 42 0 (Int32.ofInt 0)) 42 0 (Int32.ofInt 0)) (20 + x14 / 164) (x14 % 164))) (20 + x16 / 164) (x16 % 164) p2) (20 + x17 / 164) (x17 % 164) p3) (20 + x18 / 164) (x18 % 164)) + p4)) (20 + x9 / 164) (x9 % 164) (((kup (kup (kup (kup (kup (kup σ 42 0 (Int32.ofInt 0)) 42 0 (Int32.ofInt 0)) (20 + x15 / 164) (x15 % 164) ((kup (kup σ 42 0 (Int32.ofInt 0)) 42 0 (Int32.ofInt 0)) (20 + x14 / 164) (x14 % 164))) (20 + x16 / 164) (x16 % 164) p2) (20 + x17 / 164) (x17 % 164) p3) (20 + x19 / 164) (x19 % 164) (((kup (kup (kup (kup (kup σ 42 0 (Int32.ofInt 0)) 42 0 (Int32.ofInt 0)) (20 + x15 / 164) (x15 % 164) ((kup (kup σ 42 0 (Int32.ofInt 0)) 42 0 (Int32.ofInt 0)) (20 + x14 / 164) (x14 % 164))) (20 + x16 / 164) (x16 % 164) p2) (20 + x17 / 164) (x17 % 164) p3) (20 + x18 / 164) (x18 % 164)) + p4)) (20 + x9 / 164) (x9 % 164)) - p3)) (20 + x11 / 164) (x11 % 164) (((kup (kup (kup (kup (kup (kup (kup σ 42 0 (Int32.ofInt 0)) 42 0 (Int32.ofInt 0)) (20 + x15 / 164) (x15 % 164) ((kup (kup σ 42 0 (Int32.ofInt 0)) 42 0 (Int32.ofInt 0)) (20 + x14 / 164) (x14 % 164))) (20 + x16 / 164) (x16 % 164) p2) (20 + x17 / 164) (x17 % 164) p3) (20 + x19 / 164) (x19 % 164) (((kup (kup (kup (kup (kup σ 42 0 (Int32.ofInt 0)) 42 0 (Int32.ofInt 0)) (20 + x15 / 164) (x15 % 164) ((kup (kup σ 42 0 (Int32.ofInt 0)) 42 0 (Int32.ofInt 0)) (20 + x14 / 164) (x14 % 164))) (20 + x16 / 164) (x16 % 164) p2) (20 + x17 / 164) (x17 % 164) p3) (20 + x18 / 164) (x18 % 164)) + p4)) (20 + x9 / 164) (x9 % 164) (((kup (kup (kup (kup (kup (kup σ 42 0 (Int32.ofInt 0)) 42 0 (Int32.ofInt 0)) (20 + x15 / 164) (x15 % 164) ((kup (kup σ 42 0 (Int32.ofInt 0)) 42 0 (Int32.ofInt 0)) (20 + x14 / 164) (x14 % 164))) (20 + x16 / 164) (x16 % 164) p2) (20 + x17 / 164) (x17 % 164) p3) (20 + x19 / 164) (x19 % 164) (((kup (kup (kup (kup (kup σ 42 0 (Int32.ofInt 0)) 42 0 (Int32.ofInt 0)) (20 + x15 / 164) (x15 % 164) ((kup (kup σ 42 0 (Int32.ofInt 0)) 42 0 (Int32.ofInt 0)) (20 + x14 / 164) (x14 % 164))) (20 + x16 / 164) (x16 % 164) p2) (20 + x17 / 164) (x17 % 164) p3) (20 + x18 / 164) (x18 % 164)) + p4)) (20 + x9 / 164) (x9 % 164)) - p3)) (20 + x11 / 164) (x11 % 164)) + (Int32.ofInt 1))) (20 + x14 / 164) (x14 % 164) (((kup (kup (kup (kup (kup (kup (kup (kup σ 42 0 (Int32.ofInt 0)) 42 0 (Int32.ofInt 0)) (20 + x15 / 164) (x15 % 164) ((kup (kup σ 42 0 (Int32.ofInt 0)) 42 0 (Int32.ofInt 0)) (20 + x14 / 164) (x14 % 164))) (20 + x16 / 164) (x16 % 164) p2) (20 + x17 / 164) (x17 % 164) p3) (20 + x19 / 164) (x19 % 164) (((kup (kup (kup (kup (kup σ 42 0 (Int32.ofInt 0)) 42 0 (Int32.ofInt 0)) (20 + x15 / 164) (x15 % 164) ((kup (kup σ 42 0 (Int32.ofInt 0)) 42 0 (Int32.ofInt 0)) (20 + x14 / 164) (x14 % 164))) (20 + x16 / 164) (x16 % 164) p2) (20 + x17 / 164) (x17 % 164) p3) (20 + x18 / 164) (x18 % 164)) + p4)) (20 + x9 / 164) (x9 % 164) (((kup (kup (kup (kup (kup (kup σ 42 0 (Int32.ofInt 0)) 42 0 (Int32.ofInt 0)) (20 + x15 / 164) (x15 % 164) ((kup (kup σ 42 0 (Int32.ofInt 0)) 42 0 (Int32.ofInt 0)) (20 + x14 / 164) (x14 % 164))) (20 + x16 / 164) (x16 % 164) p2) (20 + x17 / 164) (x17 % 164) p3) (20 + x19 / 164) (x19 % 164) (((kup (kup (kup (kup (kup σ 42 0 (Int32.ofInt 0)) 42 0 (Int32.ofInt 0)) (20 + x15 / 164) (x15 % 164) ((kup (kup σ 42 0 (Int32.ofInt 0)) 42 0 (Int32.ofInt 0)) (20 + x14 / 164) (x14 % 164))) (20 + x16 / 164) (x16 % 164) p2) (20 + x17 / 164) (x17 % 164) p3) (20 + x18 / 164) (x18 % 164)) + p4)) (20 + x9 / 164) (x9 % 164)) - p3)) (20 + x11 / 164) (x11 % 164) (((kup (kup (kup (kup (kup (kup (kup σ 42 0 (Int32.ofInt 0)) 42 0 (Int32.ofInt 0)) (20 + x15 / 164) (x15 % 164) ((kup (kup σ 42 0 (Int32.ofInt 0)) 42 0 (Int32.ofInt 0)) (20 + x14 / 164) (x14 % 164))) (20 + x16 / 164) (x16 % 164) p2) (20 + x17 / 164) (x17 % 164) p3) (20 + x19 / 164) (x19 % 164) (((kup (kup (kup (kup (kup σ 42 0 (Int32.ofInt 0)) 42 0 (Int32.ofInt 0)) (20 + x15 / 164) (x15 % 164) ((kup (kup σ 42 0 (Int32.ofInt 0)) 42 0 (Int32.ofInt 0)) (20 + x14 / 164) (x14 % 164))) (20 + x16 / 164) (x16 % 164) p2) (20 + x17 / 164) (x17 % 164) p3) (20 + x18 / 164) (x18 % 164)) + p4)) (20 + x9 / 164) (x9 % 164) (((kup (kup (kup (kup (kup (kup σ 42 0 (Int32.ofInt 0)) 42 0 (Int32.ofInt 0)) (20 + x15 / 164) (x15 % 164) ((kup (kup σ 42 0 (Int32.ofInt 0)) 42 0 (Int32.ofInt 0)) (20 + x14 / 164) (x14 % 164))) (20 + x16 / 164) (x16 % 164) p2) (20 + x17 / 164) (x17 % 164) p3) (20 + x19 / 164) (x19 % 164) (((kup (kup (kup (kup (kup σ 42 0 (Int32.ofInt 0)) 42 0 (Int32.ofInt 0)) (20 + x15 / 164) (x15 % 164) ((kup (kup σ 42 0 (Int32.ofInt 0)) 42 0 (Int32.ofInt 0)) (20 + x14 / 164) (x14 % 164))) (20 + x16 / 164) (x16 % 164) p2) (20 + x17 / 164) (x17 % 164) p3) (20 + x18 / 164) (x18 % 164)) + p4)) (20 + x9 / 164) (x9 % 164)) - p3)) (20 + x11 / 164) (x11 % 164)) + (Int32.ofInt 1))) (20 + x14 / 164) (x14 % 164)) + (Int32.ofInt 1))) (20 + x15 / 164) (x15 % 164)))), khp n L (kup (kup (kup (kup (kup (kup (kup (kup (kup σ 42 0 (Int32.ofInt 0)) 42 0 (Int32.ofInt 0)) (20 + x15 / 164) (x15 % 164) ((kup (kup σ 42 0 (Int32.ofInt 0)) 42 0 (Int32.ofInt 0)) (20 + x14 / 164) (x14 % 164))) (20 + x16 / 164) (x16 % 164) p2) (20 + x17 / 164) (x17 % 164) p3) (20 + x19 / 164) (x19 % 164) (((kup (kup (kup (kup (kup σ 42 0 (Int32.ofInt 0)) 42 0 (Int32.ofInt 0)) (20 + x15 / 164) (x15 % 164) ((kup (kup σ 42 0 (Int32.ofInt 0)) 42 0 (Int32.ofInt 0)) (20 + x14 / 164) (x14 % 164))) (20 + x16 / 164) (x16 % 164) p2) (20 + x17 / 164) (x17 % 164) p3) (20 + x18 / 164) (x18 % 164)) + p4)) (20 + x9 / 164) (x9 % 164) (((kup (kup (kup (kup (kup (kup σ 42 0 (Int32.ofInt 0)) 42 0 (Int32.ofInt 0)) (20 + x15 / 164) (x15 % 164) ((kup (kup σ 42 0 (Int32.ofInt 0)) 42 0 (Int32.ofInt 0)) (20 + x14 / 164) (x14 % 164))) (20 + x16 / 164) (x16 % 164) p2) (20 + x17 / 164) (x17 % 164) p3) (20 + x19 / 164) (x19 % 164) (((kup (kup (kup (kup (kup σ 42 0 (Int32.ofInt 0)) 42 0 (Int32.ofInt 0)) (20 + x15 / 164) (x15 % 164) ((kup (kup σ 42 0 (Int32.ofInt 0)) 42 0 (Int32.ofInt 0)) (20 + x14 / 164) (x14 % 164))) (20 + x16 / 164) (x16 % 164) p2) (20 + x17 / 164) (x17 % 164) p3) (20 + x18 / 164) (x18 % 164)) + p4)) (20 + x9 / 164) (x9 % 164)) - p3)) (20 + x11 / 164) (x11 % 164) (((kup (kup (kup (kup (kup (kup (kup σ 42 0 (Int32.ofInt 0)) 42 0 (Int32.ofInt 0)) (20 + x15 / 164) (x15 % 164) ((kup (kup σ 42 0 (Int32.ofInt 0)) 42 0 (Int32.ofInt 0)) (20 + x14 / 164) (x14 % 164))) (20 + x16 / 164) (x16 % 164) p2) (20 + x17 / 164) (x17 % 164) p3) (20 + x19 / 164) (x19 % 164) (((kup (kup (kup (kup (kup σ 42 0 (Int32.ofInt 0)) 42 0 (Int32.ofInt 0)) (20 + x15 / 164) (x15 % 164) ((kup (kup σ 42 0 (Int32.ofInt 0)) 42 0 (Int32.ofInt 0)) (20 + x14 / 164) (x14 % 164))) (20 + x16 / 164) (x16 % 164) p2) (20 + x17 / 164) (x17 % 164) p3) (20 + x18 / 164) (x18 % 164)) + p4)) (20 + x9 / 164) (x9 % 164) (((kup (kup (kup (kup (kup (kup σ 42 0 (Int32.ofInt 0)) 42 0 (Int32.ofInt 0)) (20 + x15 / 164) (x15 % 164) ((kup (kup σ 42 0 (Int32.ofInt 0)) 42 0 (Int32.ofInt 0)) (20 + x14 / 164) (x14 % 164))) (20 + x16 / 164) (x16 % 164) p2) (20 + x17 / 164) (x17 % 164) p3) (20 + x19 / 164) (x19 % 164) (((kup (kup (kup (kup (kup σ 42 0 (Int32.ofInt 0)) 42 0 (Int32.ofInt 0)) (20 + x15 / 164) (x15 % 164) ((kup (kup σ 42 0 (Int32.ofInt 0)) 42 0 (Int32.ofInt 0)) (20 + x14 / 164) (x14 % 164))) (20 + x16 / 164) (x16 % 164) p2) (20 + x17 / 164) (x17 % 164) p3) (20 + x18 / 164) (x18 % 164)) + p4)) (20 + x9 / 164) (x9 % 164)) - p3)) (20 + x11 / 164) (x11 % 164)) + (Int32.ofInt 1))) (20 + x14 / 164) (x14 % 164) (((kup (kup (kup (kup (kup (kup (kup (kup σ 42 0 (Int32.ofInt 0)) 42 0 (Int32.ofInt 0)) (20 + x15 / 164) (x15 % 164) ((kup (kup σ 42 0 (Int32.ofInt 0)) 42 0 (Int32.ofInt 0)) (20 + x14 / 164) (x14 % 164))) (20 + x16 / 164) (x16 % 164) p2) (20 + x17 / 164) (x17 % 164) p3) (20 + x19 / 164) (x19 % 164) (((kup (kup (kup (kup (kup σ 42 0 (Int32.ofInt 0)) 42 0 (Int32.ofInt 0)) (20 + x15 / 164) (x15 % 164) ((kup (kup σ 42 0 (Int32.ofInt 0)) 42 0 (Int32.ofInt 0)) (20 + x14 / 164) (x14 % 164))) (20 + x16 / 164) (x16 % 164) p2) (20 + x17 / 164) (x17 % 164) p3) (20 + x18 / 164) (x18 % 164)) + p4)) (20 + x9 / 164) (x9 % 164) (((kup (kup (kup (kup (kup (kup σ 42 0 (Int32.ofInt 0)) 42 0 (Int32.ofInt 0)) (20 + x15 / 164) (x15 % 164) ((kup (kup σ 42 0 (Int32.ofInt 0)) 42 0 (Int32.ofInt 0)) (20 + x14 / 164) (x14 % 164))) (20 + x16 / 164) (x16 % 164) p2) (20 + x17 / 164) (x17 % 164) p3) (20 + x19 / 164) (x19 % 164) (((kup (kup (kup (kup (kup σ 42 0 (Int32.ofInt 0)) 42 0 (Int32.ofInt 0)) (20 + x15 / 164) (x15 % 164) ((kup (kup σ 42 0 (Int32.ofInt 0)) 42 0 (Int32.ofInt 0)) (20 + x14 / 164) (x14 % 164))) (20 + x16 / 164) (x16 % 164) p2) (20 + x17 / 164) (x17 % 164) p3) (20 + x18 / 164) (x18 % 164)) + p4)) (20 + x9 / 164) (x9 % 164)) - p3)) (20 + x11 / 164) (x11 % 164) (((kup (kup (kup (kup (kup (kup (kup σ 42 0 (Int32.ofInt 0)) 42 0 (Int32.ofInt 0)) (20 + x15 / 164) (x15 % 164) ((kup (kup σ 42 0 (Int32.ofInt 0)) 42 0 (Int32.ofInt 0)) (20 + x14 / 164) (x14 % 164))) (20 + x16 / 164) (x16 % 164) p2) (20 + x17 / 164) (x17 % 164) p3) (20 + x19 / 164) (x19 % 164) (((kup (kup (kup (kup (kup σ 42 0 (Int32.ofInt 0)) 42 0 (Int32.ofInt 0)) (20 + x15 / 164) (x15 % 164) ((kup (kup σ 42 0 (Int32.ofInt 0)) 42 0 (Int32.ofInt 0)) (20 + x14 / 164) (x14 % 164))) (20 + x16 / 164) (x16 % 164) p2) (20 + x17 / 164) (x17 % 164) p3) (20 + x18 / 164) (x18 % 164)) + p4)) (20 + x9 / 164) (x9 % 164) (((kup (kup (kup (kup (kup (kup σ 42 0 (Int32.ofInt 0)) 42 0 (Int32.ofInt 0)) (20 + x15 / 164) (x15 % 164) ((kup (kup σ 42 0 (Int32.ofInt 0)) 42 0 (Int32.ofInt 0)) (20 + x14 / 164) (x14 % 164))) (20 + x16 / 164) (x16 % 164) p2) (20 + x17 / 164) (x17 % 164) p3) (20 + x19 / 164) (x19 % 164) (((kup (kup (kup (kup (kup σ 42 0 (Int32.ofInt 0)) 42 0 (Int32.ofInt 0)) (20 + x15 / 164) (x15 % 164) ((kup (kup σ 42 0 (Int32.ofInt 0)) 42 0 (Int32.ofInt 0)) (20 + x14 / 164) (x14 % 164))) (20 + x16 / 164) (x16 % 164) p2) (20 + x17 / 164) (x17 % 164) p3) (20 + x18 / 164) (x18 % 164)) + p4)) (20 + x9 / 164) (x9 % 164)) - p3)) (20 + x11 / 164) (x11 % 164)) + (Int32.ofInt 1))) (20 + x14 / 164) (x14 % 164)) + (Int32.ofInt 1))) (g), false) := by
  have hM : zmi[123]? = some _ := rfl
  have l7 := (zix_some z7).2.2
  have l9 := (zix_some z9).2.2
  have l11 := (zix_some z11).2.2
  have l14 := (zix_some z14).2.2
  have l15 := (zix_some z15).2.2
  have l16 := (zix_some z16).2.2
  have l17 := (zix_some z17).2.2
  have l18 := (zix_some z18).2.2
  have l19 := (zix_some z19).2.2
  refine zr_fr hM rfl rfl rfl ?_
  refine zr_fr hM rfl rfl rfl ?_
  refine zr_fr hM rfl rfl rfl ?_
  refine zr_fr hM rfl rfl rfl ?_
  refine zr_fr hM rfl rfl rfl ?_
  refine zr_virt (κ := (22, 0, 0)) hn hM rfl rfl rfl rfl rfl rfl rfl rfl rfl ?_
  refine zgo_ret rfl rfl c1_ ?_
  rw [Bool.and_true]
  refine zr_iff hM rfl rfl h2 ?_
  refine zr_fr hM rfl rfl rfl ?_
  refine zr_fr hM rfl rfl rfl ?_
  refine zr_icf hM rfl rfl h3 ?_
  refine zr_fr hM rfl rfl rfl ?_
  refine zr_fr hM rfl rfl rfl ?_
  refine zr_icf hM rfl rfl h4 ?_
  refine zr_fr hM rfl rfl rfl ?_
  refine zr_fr hM rfl rfl rfl ?_
  refine zr_putf (κ := (22, 0, 0)) hn hM rfl rfl rfl rfl rfl rfl rfl rfl ?_
  refine zr_fr hM rfl rfl rfl ?_
  refine zr_getf (κ := (22, 0, 0)) hn hM rfl rfl rfl rfl ?_
  refine zr_ift hM rfl rfl h5 ?_
  refine zr_fr hM rfl rfl rfl ?_
  refine zr_stat hM rfl rfl rfl rfl rfl rfl ?_
  refine zgo_ret rfl rfl c6_ ?_
  rw [Bool.and_true]
  refine zr_fr hM rfl rfl rfl ?_
  refine zr_fr hM rfl rfl rfl ?_
  refine zr_fr hM rfl rfl rfl ?_
  refine zr_getf (κ := (22, 0, 0)) hn hM rfl rfl rfl rfl ?_
  refine zr_fr hM rfl rfl rfl ?_
  refine zr_bald (κ := (25, 0, 0)) hn hM rfl rfl rfl z7 ?_
  refine zr_iff hM rfl rfl h8 ?_
  refine zr_fr hM rfl rfl rfl ?_
  refine zr_getf (κ := (22, 0, 0)) hn hM rfl rfl rfl rfl ?_
  refine zr_fr hM rfl rfl rfl ?_
  refine zr_fr hM rfl rfl rfl ?_
  refine zr_fr hM rfl rfl rfl ?_
  refine zr_iald (κ := (23, 0, 0)) hn hM rfl rfl rfl z9 ?_
  refine zr_fr hM rfl rfl rfl ?_
  refine zr_icf hM rfl rfl h10 ?_
  refine zr_fr hM rfl rfl rfl ?_
  refine zr_getf (κ := (22, 0, 0)) hn hM rfl rfl rfl rfl ?_
  refine zr_fr hM rfl rfl rfl ?_
  refine zr_fr hM rfl rfl rfl ?_
  refine zr_fr hM rfl rfl rfl ?_
  refine zr_iald (κ := (23, 0, 0)) hn hM rfl rfl rfl z11 ?_
  refine zr_fr hM rfl rfl rfl ?_
  refine zr_ict hM rfl rfl h12 ?_
  refine zr_fr hM rfl rfl rfl ?_
  refine zr_putf (κ := (22, 0, 0)) hn hM rfl rfl rfl rfl rfl rfl rfl rfl ?_
  refine zr_fr hM rfl rfl rfl ?_
  refine zr_getf (κ := (22, 0, 0)) hn hM rfl rfl rfl rfl ?_
  refine zr_ift hM rfl rfl h13 ?_
  refine zr_fr hM rfl rfl rfl ?_
  refine zr_fr hM rfl rfl rfl ?_
  refine zr_fr hM rfl rfl rfl ?_
  refine zr_fr hM rfl rfl rfl ?_
  refine zr_fr hM rfl rfl rfl ?_
  refine zr_getf (κ := (22, 0, 0)) hn hM rfl rfl rfl rfl ?_
  refine zr_fr hM rfl rfl rfl ?_
  refine zr_fr hM rfl rfl rfl ?_
  refine zr_fr hM rfl rfl rfl ?_
  refine zr_iald (κ := (23, 0, 0)) hn hM rfl rfl rfl z11 ?_
  refine zr_fr hM rfl rfl rfl ?_
  refine zr_fr hM rfl rfl rfl ?_
  refine zr_fr hM rfl rfl rfl ?_
  refine zr_fr hM rfl rfl rfl ?_
  refine zr_getf (κ := (22, 0, 0)) hn hM rfl rfl rfl rfl ?_
  refine zr_fr hM rfl rfl rfl ?_
  refine zr_fr hM rfl rfl rfl ?_
  refine zr_getf (κ := (22, 0, 0)) hn hM rfl rfl rfl rfl ?_
  refine zr_fr hM rfl rfl rfl ?_
  refine zr_fr hM rfl rfl rfl ?_
  refine zr_fr hM rfl rfl rfl ?_
  refine zr_iald (κ := (23, 0, 0)) hn hM rfl rfl rfl z14 ?_
  refine zr_iast (κ := (23, 0, 0)) hn hM rfl rfl rfl rfl z15 rfl ?_
  refine zr_fr hM rfl rfl rfl ?_
  refine zr_getf (κ := (22, 0, 0)) hn hM rfl rfl rfl rfl ?_
  refine zr_fr hM rfl rfl rfl ?_
  refine zr_fr hM rfl rfl rfl ?_
  refine zr_fr hM rfl rfl rfl ?_
  refine zr_fr hM rfl rfl rfl ?_
  refine zr_iast (κ := (23, 0, 0)) hn hM rfl rfl rfl rfl z16 rfl ?_
  refine zr_fr hM rfl rfl rfl ?_
  refine zr_getf (κ := (22, 0, 0)) hn hM rfl rfl rfl rfl ?_
  refine zr_fr hM rfl rfl rfl ?_
  refine zr_fr hM rfl rfl rfl ?_
  refine zr_fr hM rfl rfl rfl ?_
  refine zr_fr hM rfl rfl rfl ?_
  refine zr_iast (κ := (23, 0, 0)) hn hM rfl rfl rfl rfl z17 rfl ?_
  refine zr_fr hM rfl rfl rfl ?_
  refine zr_getf (κ := (22, 0, 0)) hn hM rfl rfl rfl rfl ?_
  refine zr_fr hM rfl rfl rfl ?_
  refine zr_fr hM rfl rfl rfl ?_
  refine zr_fr hM rfl rfl rfl ?_
  refine zr_fr hM rfl rfl rfl ?_
  refine zr_getf (κ := (22, 0, 0)) hn hM rfl rfl rfl rfl ?_
  refine zr_fr hM rfl rfl rfl ?_
  refine zr_fr hM rfl rfl rfl ?_
  refine zr_fr hM rfl rfl rfl ?_
  refine zr_iald (κ := (23, 0, 0)) hn hM rfl rfl rfl z18 ?_
  refine zr_fr hM rfl rfl rfl ?_
  refine zr_fr hM rfl rfl rfl ?_
  refine zr_iast (κ := (23, 0, 0)) hn hM rfl rfl rfl rfl z19 rfl ?_
  refine zr_fr hM rfl rfl rfl ?_
  refine zr_getf (κ := (22, 0, 0)) hn hM rfl rfl rfl rfl ?_
  refine zr_fr hM rfl rfl rfl ?_
  refine zr_fr hM rfl rfl rfl ?_
  refine zr_fr hM rfl rfl rfl ?_
  refine zr_fr hM rfl rfl rfl ?_
  refine zr_iald (κ := (23, 0, 0)) hn hM rfl rfl rfl z9 ?_
  refine zr_fr hM rfl rfl rfl ?_
  refine zr_fr hM rfl rfl rfl ?_
  refine zr_iast (κ := (23, 0, 0)) hn hM rfl rfl rfl rfl z9 rfl ?_
  refine zr_fr hM rfl rfl rfl ?_
  refine zr_getf (κ := (22, 0, 0)) hn hM rfl rfl rfl rfl ?_
  refine zr_fr hM rfl rfl rfl ?_
  refine zr_fr hM rfl rfl rfl ?_
  refine zr_fr hM rfl rfl rfl ?_
  refine zr_fr hM rfl rfl rfl ?_
  refine zr_iald (κ := (23, 0, 0)) hn hM rfl rfl rfl z11 ?_
  refine zr_fr hM rfl rfl rfl ?_
  refine zr_fr hM rfl rfl rfl ?_
  refine zr_iast (κ := (23, 0, 0)) hn hM rfl rfl rfl rfl z11 rfl ?_
  refine zr_fr hM rfl rfl rfl ?_
  refine zr_getf (κ := (22, 0, 0)) hn hM rfl rfl rfl rfl ?_
  refine zr_fr hM rfl rfl rfl ?_
  refine zr_fr hM rfl rfl rfl ?_
  refine zr_fr hM rfl rfl rfl ?_
  refine zr_fr hM rfl rfl rfl ?_
  refine zr_iald (κ := (23, 0, 0)) hn hM rfl rfl rfl z14 ?_
  refine zr_fr hM rfl rfl rfl ?_
  refine zr_fr hM rfl rfl rfl ?_
  refine zr_iast (κ := (23, 0, 0)) hn hM rfl rfl rfl rfl z14 rfl ?_
  refine zr_fr hM rfl rfl rfl ?_
  refine zr_getf (κ := (22, 0, 0)) hn hM rfl rfl rfl rfl ?_
  refine zr_fr hM rfl rfl rfl ?_
  refine zr_iald (κ := (23, 0, 0)) hn hM rfl rfl rfl z15 ?_
  exact zr_iret2 hM rfl rfl rfl
set_option maxHeartbeats 4000000 in
theorem s123_0_ffftftf {n L : Nat} {σ : Ks} {g : List Nat} {cl : Bool} {p1 : Int32} {p2 : Int32} {p3 : Int32} {p4 : Int32} {r1 : Int32} {r6 : Int32} {x7 : Nat} {x9 : Nat} (hn : 2 ≤ n ∧ n ≤ 5) (c1_ : ZR 118 0 [.val (.ref (kad n (22, 0, 0))), .val (.int p1), .val (.int p2), .val (.int p3)] [] (khp n L σ g) true (.inl (some (.int r1)), khp n L σ g, true)) (h2 : zcnd .eq r1 0 = false) (h3 : zcnd .lt p4 (Int32.ofInt 1) = false) (h4 : zcnd .gt p4 ((Int8.ofInt 100).toInt32) = false) (h5 : zcnd .le ((kup σ 42 0 (Int32.ofInt 0)) 42 0) 0 = true) (c6_ : ZR 97 0 [.val (.int p1)] [] (khp n L (kup σ 42 0 (Int32.ofInt 0)) g) true (.inl (some (.int r6)), khp n L (kup σ 42 0 (Int32.ofInt 0)) g, true)) (z7 : zix p1 5 = some x7) (h8 : zcnd .ne ((kup σ 42 0 (Int32.ofInt 0)) 40 x7) 0 = false) (z9 : zix (r6 + p2) 820 = some x9) (h10 : zcnd .lt ((kup σ 42 0 (Int32.ofInt 0)) (20 + x9 / 164) (x9 % 164)) p3 = true) (h11 : zcnd .le ((kup (kup σ 42 0 (Int32.ofInt 0)) 42 0 (Int32.ofInt 2)) 42 0) 0 = false) : ZR 123 0 [.val (.ref (kad n (22, 0, 0))), .val (.int p1), .val (.int p2), .val (.int p3), .val (.int p4), .unset, .unset] [] (khp n L σ g) cl (.inl (some (.int (Int32.ofInt 0))), khp n L (kup (kup σ 42 0 (Int32.ofInt 0)) 42 0 (Int32.ofInt 2)) (g), false) := by
  have hM : zmi[123]? = some _ := rfl
  have l7 := (zix_some z7).2.2
  have l9 := (zix_some z9).2.2
  refine zr_fr hM rfl rfl rfl ?_
  refine zr_fr hM rfl rfl rfl ?_
  refine zr_fr hM rfl rfl rfl ?_
  refine zr_fr hM rfl rfl rfl ?_
  refine zr_fr hM rfl rfl rfl ?_
  refine zr_virt (κ := (22, 0, 0)) hn hM rfl rfl rfl rfl rfl rfl rfl rfl rfl ?_
  refine zgo_ret rfl rfl c1_ ?_
  rw [Bool.and_true]
  refine zr_iff hM rfl rfl h2 ?_
  refine zr_fr hM rfl rfl rfl ?_
  refine zr_fr hM rfl rfl rfl ?_
  refine zr_icf hM rfl rfl h3 ?_
  refine zr_fr hM rfl rfl rfl ?_
  refine zr_fr hM rfl rfl rfl ?_
  refine zr_icf hM rfl rfl h4 ?_
  refine zr_fr hM rfl rfl rfl ?_
  refine zr_fr hM rfl rfl rfl ?_
  refine zr_putf (κ := (22, 0, 0)) hn hM rfl rfl rfl rfl rfl rfl rfl rfl ?_
  refine zr_fr hM rfl rfl rfl ?_
  refine zr_getf (κ := (22, 0, 0)) hn hM rfl rfl rfl rfl ?_
  refine zr_ift hM rfl rfl h5 ?_
  refine zr_fr hM rfl rfl rfl ?_
  refine zr_stat hM rfl rfl rfl rfl rfl rfl ?_
  refine zgo_ret rfl rfl c6_ ?_
  rw [Bool.and_true]
  refine zr_fr hM rfl rfl rfl ?_
  refine zr_fr hM rfl rfl rfl ?_
  refine zr_fr hM rfl rfl rfl ?_
  refine zr_getf (κ := (22, 0, 0)) hn hM rfl rfl rfl rfl ?_
  refine zr_fr hM rfl rfl rfl ?_
  refine zr_bald (κ := (25, 0, 0)) hn hM rfl rfl rfl z7 ?_
  refine zr_iff hM rfl rfl h8 ?_
  refine zr_fr hM rfl rfl rfl ?_
  refine zr_getf (κ := (22, 0, 0)) hn hM rfl rfl rfl rfl ?_
  refine zr_fr hM rfl rfl rfl ?_
  refine zr_fr hM rfl rfl rfl ?_
  refine zr_fr hM rfl rfl rfl ?_
  refine zr_iald (κ := (23, 0, 0)) hn hM rfl rfl rfl z9 ?_
  refine zr_fr hM rfl rfl rfl ?_
  refine zr_ict hM rfl rfl h10 ?_
  refine zr_fr hM rfl rfl rfl ?_
  refine zr_fr hM rfl rfl rfl ?_
  refine zr_putf (κ := (22, 0, 0)) hn hM rfl rfl rfl rfl rfl rfl rfl rfl ?_
  refine zr_fr hM rfl rfl rfl ?_
  refine zr_getf (κ := (22, 0, 0)) hn hM rfl rfl rfl rfl ?_
  refine zr_iff hM rfl rfl h11 ?_
  refine zr_fr hM rfl rfl rfl ?_
  exact zr_iret2 hM rfl rfl rfl
set_option maxHeartbeats 4000000 in
theorem s123_0_ffftftt {n L : Nat} {σ : Ks} {g : List Nat} {cl : Bool} {p1 : Int32} {p2 : Int32} {p3 : Int32} {p4 : Int32} {r1 : Int32} {r6 : Int32} {x7 : Nat} {x9 : Nat} {x12 : Nat} {x13 : Nat} {x14 : Nat} {x15 : Nat} {x16 : Nat} {x17 : Nat} {x18 : Nat} (hn : 2 ≤ n ∧ n ≤ 5) (c1_ : ZR 118 0 [.val (.ref (kad n (22, 0, 0))), .val (.int p1), .val (.int p2), .val (.int p3)] [] (khp n L σ g) true (.inl (some (.int r1)), khp n L σ g, true)) (h2 : zcnd .eq r1 0 = false) (h3 : zcnd .lt p4 (Int32.ofInt 1) = false) (h4 : zcnd .gt p4 ((Int8.ofInt 100).toInt32) = false) (h5 : zcnd .le ((kup σ 42 0 (Int32.ofInt 0)) 42 0) 0 = true) (c6_ : ZR 97 0 [.val (.int p1)] [] (khp n L (kup σ 42 0 (Int32.ofInt 0)) g) true (.inl (some (.int r6)), khp n L (kup σ 42 0 (Int32.ofInt 0)) g, true)) (z7 : zix p1 5 = some x7) (h8 : zcnd .ne ((kup σ 42 0 (Int32.ofInt 0)) 40 x7) 0 = false) (z9 : zix (r6 + p2) 820 = some x9) (h10 : zcnd .lt ((kup σ 42 0 (Int32.ofInt 0)) (20 + x9 / 164) (x9 % 164)) p3 = true) (h11 : zcnd .le ((kup (kup σ 42 0 (Int32.ofInt 0)) 42 0 (Int32.ofInt 2)) 42 0) 0 = true) (z12 : zix (r6 + ((Int8.ofInt 19).toInt32)) 820 = some x12) (z13 : zix (r6 + ((Int8.ofInt 17).toInt32)) 820 = some x13) (z14 : zix ((r6 + ((Int8.ofInt 20).toInt32)) + ((Int32.ofInt 4) * ((kup (kup σ 42 0 (Int32.ofInt 0)) 42 0 (Int32.ofInt 2)) (20 + x12 / 164) (x12 % 164)))) 820 = some x14) (z15 : zix (((r6 + ((Int8.ofInt 20).toInt32)) + ((Int32.ofInt 4) * ((kup (kup σ 42 0 (Int32.ofInt 0)) 42 0 (Int32.ofInt 2)) (20 + x12 / 164) (x12 % 164)))) + (Int32.ofInt 1)) 820 = some x15) (z16 : zix (((r6 + ((Int8.ofInt 20).toInt32)) + ((Int32.ofInt 4) * ((kup (kup σ 42 0 (Int32.ofInt 0)) 42 0 (Int32.ofInt 2)) (20 + x12 / 164) (x12 % 164)))) + (Int32.ofInt 2)) 820 = some x16) (z17 : zix (r6 + ((Int8.ofInt 16).toInt32)) 820 = some x17) (z18 : zix (((r6 + ((Int8.ofInt 20).toInt32)) + ((Int32.ofInt 4) * ((kup (kup σ 42 0 (Int32.ofInt 0)) 42 0 (Int32.ofInt 2)) (20 + x12 / 164) (x12 % 164)))) + (Int32.ofInt 3)) 820 = some x18) : ZR 123 0 [.val (.ref (kad n (22, 0, 0))), .val (.int p1), .val (.int p2), .val (.int p3), .val (.int p4), .unset, .unset] [] (khp n L σ g) cl (.inl (some (.int ((kup (kup (kup (kup (kup (kup (kup (kup (kup σ 42 0 (Int32.ofInt 0)) 42 0 (Int32.ofInt 2)) (20 + x14 / 164) (x14 % 164) ((kup (kup σ 42 0 (Int32.ofInt 0)) 42 0 (Int32.ofInt 2)) (20 + x13 / 164) (x13 % 164))) (20 + x15 / 164) (x15 % 164) p2) (20 + x16 / 164) (x16 % 164) p3) (20 + x18 / 164) (x18 % 164) (((kup (kup (kup (kup (kup σ 42 0 (Int32.ofInt 0)) 42 0 (Int32.ofInt 2)) (20 + x14 / 164) (x14 % 164) ((kup (kup σ 42 0 (Int32.ofInt 0)) 42 0 (Int32.ofInt 2)) (20 + x13 / 164) (x13 % 164))) (20 + x15 / 164) (x15 % 164) p2) (20 + x16 / 164) (x16 % 164) p3) (20 + x17 / 164) (x17 % 164)) + p4)) (20 + x9 / 164) (x9 % 164) (((kup (kup (kup (kup (kup (kup σ 42 0 (Int32.ofInt 0)) 42 0 (Int32.ofInt 2)) (20 + x14 / 164) (x14 % 164) ((kup (kup σ 42 0 (Int32.ofInt 0)) 42 0 (Int32.ofInt 2)) (20 + x13 / 164) (x13 % 164))) (20 + x15 / 164) (x15 % 164) p2) (20 + x16 / 164) (x16 % 164) p3) (20 + x18 / 164) (x18 % 164) (((kup (kup (kup (kup (kup σ 42 0 (Int32.ofInt 0)) 42 0 (Int32.ofInt 2)) (20 + x14 / 164) (x14 % 164) ((kup (kup σ 42 0 (Int32.ofInt 0)) 42 0 (Int32.ofInt 2)) (20 + x13 / 164) (x13 % 164))) (20 + x15 / 164) (x15 % 164) p2) (20 + x16 / 164) (x16 % 164) p3) (20 + x17 / 164) (x17 % 164)) + p4)) (20 + x9 / 164) (x9 % 164)) - p3)) (20 + x12 / 164) (x12 % 164) (((kup (kup (kup (kup (kup (kup (kup σ 42 0 (Int32.ofInt 0)) 42 0 (Int32.ofInt 2)) (20 + x14 / 164) (x14 % 164) ((kup (kup σ 42 0 (Int32.ofInt 0)) 42 0 (Int32.ofInt 2)) (20 + x13 / 164) (x13 % 164))) (20 + x15 / 164) (x15 % 164) p2) (20 + x16 / 164) (x16 % 164) p3) (20 + x18 / 164) (x18 % 164) (((kup (kup (kup (kup (kup σ 42 0 (Int32.ofInt 0)) 42 0 (Int32.ofInt 2)) (20 + x14 / 164) (x14 % 164) ((kup (kup σ 42 0 (Int32.ofInt 0)) 42 0 (Int32.ofInt 2)) (20 + x13 / 164) (x13 % 164))) (20 + x15 / 164) (x15 % 164) p2) (20 + x16 / 164) (x16 % 164) p3) (20 + x17 / 164) (x17 % 164)) + p4)) (20 + x9 / 164) (x9 % 164) (((kup (kup (kup (kup (kup (kup σ 42 0 (Int32.ofInt 0)) 42 0 (Int32.ofInt 2)) (20 + x14 / 164) (x14 % 164) ((kup (kup σ 42 0 (Int32.ofInt 0)) 42 0 (Int32.ofInt 2)) (20 + x13 / 164) (x13 % 164))) (20 + x15 / 164) (x15 % 164) p2) (20 + x16 / 164) (x16 % 164) p3) (20 + x18 / 164) (x18 % 164) (((kup (kup (kup (kup (kup σ 42 0 (Int32.ofInt 0)) 42 0 (Int32.ofInt 2)) (20 + x14 / 164) (x14 % 164) ((kup (kup σ 42 0 (Int32.ofInt 0)) 42 0 (Int32.ofInt 2)) (20 + x13 / 164) (x13 % 164))) (20 + x15 / 164) (x15 % 164) p2) (20 + x16 / 164) (x16 % 164) p3) (20 + x17 / 164) (x17 % 164)) + p4)) (20 + x9 / 164) (x9 % 164)) - p3)) (20 + x12 / 164) (x12 % 164)) + (Int32.ofInt 1))) (20 + x13 / 164) (x13 % 164) (((kup (kup (kup (kup (kup (kup (kup (kup σ 42 0 (Int32.ofInt 0)) 42 0 (Int32.ofInt 2)) (20 + x14 / 164) (x14 % 164) ((kup (kup σ 42 0 (Int32.ofInt 0)) 42 0 (Int32.ofInt 2)) (20 + x13 / 164) (x13 % 164))) (20 + x15 / 164) (x15 % 164) p2) (20 + x16 / 164) (x16 % 164) p3) (20 + x18 / 164) (x18 % 164) (((kup (kup (kup (kup (kup σ 42 0 (Int32.ofInt 0)) 42 0 (Int32.ofInt 2)) (20 + x14 / 164) (x14 % 164) ((kup (kup σ 42 0 (Int32.ofInt 0)) 42 0 (Int32.ofInt 2)) (20 + x13 / 164) (x13 % 164))) (20 + x15 / 164) (x15 % 164) p2) (20 + x16 / 164) (x16 % 164) p3) (20 + x17 / 164) (x17 % 164)) + p4)) (20 + x9 / 164) (x9 % 164) (((kup (kup (kup (kup (kup (kup σ 42 0 (Int32.ofInt 0)) 42 0 (Int32.ofInt 2)) (20 + x14 / 164) (x14 % 164) ((kup (kup σ 42 0 (Int32.ofInt 0)) 42 0 (Int32.ofInt 2)) (20 + x13 / 164) (x13 % 164))) (20 + x15 / 164) (x15 % 164) p2) (20 + x16 / 164) (x16 % 164) p3) (20 + x18 / 164) (x18 % 164) (((kup (kup (kup (kup (kup σ 42 0 (Int32.ofInt 0)) 42 0 (Int32.ofInt 2)) (20 + x14 / 164) (x14 % 164) ((kup (kup σ 42 0 (Int32.ofInt 0)) 42 0 (Int32.ofInt 2)) (20 + x13 / 164) (x13 % 164))) (20 + x15 / 164) (x15 % 164) p2) (20 + x16 / 164) (x16 % 164) p3) (20 + x17 / 164) (x17 % 164)) + p4)) (20 + x9 / 164) (x9 % 164)) - p3)) (20 + x12 / 164) (x12 % 164) (((kup (kup (kup (kup (kup (kup (kup σ 42 0 (Int32.ofInt 0)) 42 0 (Int32.ofInt 2)) (20 + x14 / 164) (x14 % 164) ((kup (kup σ 42 0 (Int32.ofInt 0)) 42 0 (Int32.ofInt 2)) (20 + x13 / 164) (x13 % 164))) (20 + x15 / 164) (x15 % 164) p2) (20 + x16 / 164) (x16 % 164) p3) (20 + x18 / 164) (x18 % 164) (((kup (kup (kup (kup (kup σ 42 0 (Int32.ofInt 0)) 42 0 (Int32.ofInt 2)) (20 + x14 / 164) (x14 % 164) ((kup (kup σ 42 0 (Int32.ofInt 0)) 42 0 (Int32.ofInt 2)) (20 + x13 / 164) (x13 % 164))) (20 + x15 / 164) (x15 % 164) p2) (20 + x16 / 164) (x16 % 164) p3) (20 + x17 / 164) (x17 % 164)) + p4)) (20 + x9 / 164) (x9 % 164) (((kup (kup (kup (kup (kup (kup σ 42 0 (Int32.ofInt 0)) 42 0 (Int32.ofInt 2)) (20 + x14 / 164) (x14 % 164) ((kup (kup σ 42 0 (Int32.ofInt 0)) 42 0 (Int32.ofInt 2)) (20 + x13 / 164) (x13 % 164))) (20 + x15 / 164) (x15 % 164) p2) (20 + x16 / 164) (x16 % 164) p3) (20 + x18 / 164) (x18 % 164) (((kup (kup (kup (kup (kup σ 42 0 (Int32.ofInt 0)) 42 0 (Int32.ofInt 2)) (20 + x14 / 164) (x14 % 164) ((kup (kup σ 42 0 (Int32.ofInt 0)) 42 0 (Int32.ofInt 2)) (20 + x13 / 164) (x13 % 164))) (20 + x15 / 164) (x15 % 164) p2) (20 + x16 / 164) (x16 % 164) p3) (20 + x17 / 164) (x17 % 164)) + p4)) (20 + x9 / 164) (x9 % 164)) - p3)) (20 + x12 / 164) (x12 % 164)) + (Int32.ofInt 1))) (20 + x13 / 164) (x13 % 164)) + (Int32.ofInt 1))) (20 + x14 / 164) (x14 % 164)))), khp n L (kup (kup (kup (kup (kup (kup (kup (kup (kup σ 42 0 (Int32.ofInt 0)) 42 0 (Int32.ofInt 2)) (20 + x14 / 164) (x14 % 164) ((kup (kup σ 42 0 (Int32.ofInt 0)) 42 0 (Int32.ofInt 2)) (20 + x13 / 164) (x13 % 164))) (20 + x15 / 164) (x15 % 164) p2) (20 + x16 / 164) (x16 % 164) p3) (20 + x18 / 164) (x18 % 164) (((kup (kup (kup (kup (kup σ 42 0 (Int32.ofInt 0)) 42 0 (Int32.ofInt 2)) (20 + x14 / 164) (x14 % 164) ((kup (kup σ 42 0 (Int32.ofInt 0)) 42 0 (Int32.ofInt 2)) (20 + x13 / 164) (x13 % 164))) (20 + x15 / 164) (x15 % 164) p2) (20 + x16 / 164) (x16 % 164) p3) (20 + x17 / 164) (x17 % 164)) + p4)) (20 + x9 / 164) (x9 % 164) (((kup (kup (kup (kup (kup (kup σ 42 0 (Int32.ofInt 0)) 42 0 (Int32.ofInt 2)) (20 + x14 / 164) (x14 % 164) ((kup (kup σ 42 0 (Int32.ofInt 0)) 42 0 (Int32.ofInt 2)) (20 + x13 / 164) (x13 % 164))) (20 + x15 / 164) (x15 % 164) p2) (20 + x16 / 164) (x16 % 164) p3) (20 + x18 / 164) (x18 % 164) (((kup (kup (kup (kup (kup σ 42 0 (Int32.ofInt 0)) 42 0 (Int32.ofInt 2)) (20 + x14 / 164) (x14 % 164) ((kup (kup σ 42 0 (Int32.ofInt 0)) 42 0 (Int32.ofInt 2)) (20 + x13 / 164) (x13 % 164))) (20 + x15 / 164) (x15 % 164) p2) (20 + x16 / 164) (x16 % 164) p3) (20 + x17 / 164) (x17 % 164)) + p4)) (20 + x9 / 164) (x9 % 164)) - p3)) (20 + x12 / 164) (x12 % 164) (((kup (kup (kup (kup (kup (kup (kup σ 42 0 (Int32.ofInt 0)) 42 0 (Int32.ofInt 2)) (20 + x14 / 164) (x14 % 164) ((kup (kup σ 42 0 (Int32.ofInt 0)) 42 0 (Int32.ofInt 2)) (20 + x13 / 164) (x13 % 164))) (20 + x15 / 164) (x15 % 164) p2) (20 + x16 / 164) (x16 % 164) p3) (20 + x18 / 164) (x18 % 164) (((kup (kup (kup (kup (kup σ 42 0 (Int32.ofInt 0)) 42 0 (Int32.ofInt 2)) (20 + x14 / 164) (x14 % 164) ((kup (kup σ 42 0 (Int32.ofInt 0)) 42 0 (Int32.ofInt 2)) (20 + x13 / 164) (x13 % 164))) (20 + x15 / 164) (x15 % 164) p2) (20 + x16 / 164) (x16 % 164) p3) (20 + x17 / 164) (x17 % 164)) + p4)) (20 + x9 / 164) (x9 % 164) (((kup (kup (kup (kup (kup (kup σ 42 0 (Int32.ofInt 0)) 42 0 (Int32.ofInt 2)) (20 + x14 / 164) (x14 % 164) ((kup (kup σ 42 0 (Int32.ofInt 0)) 42 0 (Int32.ofInt 2)) (20 + x13 / 164) (x13 % 164))) (20 + x15 / 164) (x15 % 164) p2) (20 + x16 / 164) (x16 % 164) p3) (20 + x18 / 164) (x18 % 164) (((kup (kup (kup (kup (kup σ 42 0 (Int32.ofInt 0)) 42 0 (Int32.ofInt 2)) (20 + x14 / 164) (x14 % 164) ((kup (kup σ 42 0 (Int32.ofInt 0)) 42 0 (Int32.ofInt 2)) (20 + x13 / 164) (x13 % 164))) (20 + x15 / 164) (x15 % 164) p2) (20 + x16 / 164) (x16 % 164) p3) (20 + x17 / 164) (x17 % 164)) + p4)) (20 + x9 / 164) (x9 % 164)) - p3)) (20 + x12 / 164) (x12 % 164)) + (Int32.ofInt 1))) (20 + x13 / 164) (x13 % 164) (((kup (kup (kup (kup (kup (kup (kup (kup σ 42 0 (Int32.ofInt 0)) 42 0 (Int32.ofInt 2)) (20 + x14 / 164) (x14 % 164) ((kup (kup σ 42 0 (Int32.ofInt 0)) 42 0 (Int32.ofInt 2)) (20 + x13 / 164) (x13 % 164))) (20 + x15 / 164) (x15 % 164) p2) (20 + x16 / 164) (x16 % 164) p3) (20 + x18 / 164) (x18 % 164) (((kup (kup (kup (kup (kup σ 42 0 (Int32.ofInt 0)) 42 0 (Int32.ofInt 2)) (20 + x14 / 164) (x14 % 164) ((kup (kup σ 42 0 (Int32.ofInt 0)) 42 0 (Int32.ofInt 2)) (20 + x13 / 164) (x13 % 164))) (20 + x15 / 164) (x15 % 164) p2) (20 + x16 / 164) (x16 % 164) p3) (20 + x17 / 164) (x17 % 164)) + p4)) (20 + x9 / 164) (x9 % 164) (((kup (kup (kup (kup (kup (kup σ 42 0 (Int32.ofInt 0)) 42 0 (Int32.ofInt 2)) (20 + x14 / 164) (x14 % 164) ((kup (kup σ 42 0 (Int32.ofInt 0)) 42 0 (Int32.ofInt 2)) (20 + x13 / 164) (x13 % 164))) (20 + x15 / 164) (x15 % 164) p2) (20 + x16 / 164) (x16 % 164) p3) (20 + x18 / 164) (x18 % 164) (((kup (kup (kup (kup (kup σ 42 0 (Int32.ofInt 0)) 42 0 (Int32.ofInt 2)) (20 + x14 / 164) (x14 % 164) ((kup (kup σ 42 0 (Int32.ofInt 0)) 42 0 (Int32.ofInt 2)) (20 + x13 / 164) (x13 % 164))) (20 + x15 / 164) (x15 % 164) p2) (20 + x16 / 164) (x16 % 164) p3) (20 + x17 / 164) (x17 % 164)) + p4)) (20 + x9 / 164) (x9 % 164)) - p3)) (20 + x12 / 164) (x12 % 164) (((kup (kup (kup (kup (kup (kup (kup σ 42 0 (Int32.ofInt 0)) 42 0 (Int32.ofInt 2)) (20 + x14 / 164) (x14 % 164) ((kup (kup σ 42 0 (Int32.ofInt 0)) 42 0 (Int32.ofInt 2)) (20 + x13 / 164) (x13 % 164))) (20 + x15 / 164) (x15 % 164) p2) (20 + x16 / 164) (x16 % 164) p3) (20 + x18 / 164) (x18 % 164) (((kup (kup (kup (kup (kup σ 42 0 (Int32.ofInt 0)) 42 0 (Int32.ofInt 2)) (20 + x14 / 164) (x14 % 164) ((kup (kup σ 42 0 (Int32.ofInt 0)) 42 0 (Int32.ofInt 2)) (20 + x13 / 164) (x13 % 164))) (20 + x15 / 164) (x15 % 164) p2) (20 + x16 / 164) (x16 % 164) p3) (20 + x17 / 164) (x17 % 164)) + p4)) (20 + x9 / 164) (x9 % 164) (((kup (kup (kup (kup (kup (kup σ 42 0 (Int32.ofInt 0)) 42 0 (Int32.ofInt 2)) (20 + x14 / 164) (x14 % 164) ((kup (kup σ 42 0 (Int32.ofInt 0)) 42 0 (Int32.ofInt 2)) (20 + x13 / 164) (x13 % 164))) (20 + x15 / 164) (x15 % 164) p2) (20 + x16 / 164) (x16 % 164) p3) (20 + x18 / 164) (x18 % 164) (((kup (kup (kup (kup (kup σ 42 0 (Int32.ofInt 0)) 42 0 (Int32.ofInt 2)) (20 + x14 / 164) (x14 % 164) ((kup (kup σ 42 0 (Int32.ofInt 0)) 42 0 (Int32.ofInt 2)) (20 + x13 / 164) (x13 % 164))) (20 + x15 / 164) (x15 % 164) p2) (20 + x16 / 164) (x16 % 164) p3) (20 + x17 / 164) (x17 % 164)) + p4)) (20 + x9 / 164) (x9 % 164)) - p3)) (20 + x12 / 164) (x12 % 164)) + (Int32.ofInt 1))) (20 + x13 / 164) (x13 % 164)) + (Int32.ofInt 1))) (g), false) := by
  have hM : zmi[123]? = some _ := rfl
  have l7 := (zix_some z7).2.2
  have l9 := (zix_some z9).2.2
  have l12 := (zix_some z12).2.2
  have l13 := (zix_some z13).2.2
  have l14 := (zix_some z14).2.2
  have l15 := (zix_some z15).2.2
  have l16 := (zix_some z16).2.2
  have l17 := (zix_some z17).2.2
  have l18 := (zix_some z18).2.2
  refine zr_fr hM rfl rfl rfl ?_
  refine zr_fr hM rfl rfl rfl ?_
  refine zr_fr hM rfl rfl rfl ?_
  refine zr_fr hM rfl rfl rfl ?_
  refine zr_fr hM rfl rfl rfl ?_
  refine zr_virt (κ := (22, 0, 0)) hn hM rfl rfl rfl rfl rfl rfl rfl rfl rfl ?_
  refine zgo_ret rfl rfl c1_ ?_
  rw [Bool.and_true]
  refine zr_iff hM rfl rfl h2 ?_
  refine zr_fr hM rfl rfl rfl ?_
  refine zr_fr hM rfl rfl rfl ?_
  refine zr_icf hM rfl rfl h3 ?_
  refine zr_fr hM rfl rfl rfl ?_
  refine zr_fr hM rfl rfl rfl ?_
  refine zr_icf hM rfl rfl h4 ?_
  refine zr_fr hM rfl rfl rfl ?_
  refine zr_fr hM rfl rfl rfl ?_
  refine zr_putf (κ := (22, 0, 0)) hn hM rfl rfl rfl rfl rfl rfl rfl rfl ?_
  refine zr_fr hM rfl rfl rfl ?_
  refine zr_getf (κ := (22, 0, 0)) hn hM rfl rfl rfl rfl ?_
  refine zr_ift hM rfl rfl h5 ?_
  refine zr_fr hM rfl rfl rfl ?_
  refine zr_stat hM rfl rfl rfl rfl rfl rfl ?_
  refine zgo_ret rfl rfl c6_ ?_
  rw [Bool.and_true]
  refine zr_fr hM rfl rfl rfl ?_
  refine zr_fr hM rfl rfl rfl ?_
  refine zr_fr hM rfl rfl rfl ?_
  refine zr_getf (κ := (22, 0, 0)) hn hM rfl rfl rfl rfl ?_
  refine zr_fr hM rfl rfl rfl ?_
  refine zr_bald (κ := (25, 0, 0)) hn hM rfl rfl rfl z7 ?_
  refine zr_iff hM rfl rfl h8 ?_
  refine zr_fr hM rfl rfl rfl ?_
  refine zr_getf (κ := (22, 0, 0)) hn hM rfl rfl rfl rfl ?_
  refine zr_fr hM rfl rfl rfl ?_
  refine zr_fr hM rfl rfl rfl ?_
  refine zr_fr hM rfl rfl rfl ?_
  refine zr_iald (κ := (23, 0, 0)) hn hM rfl rfl rfl z9 ?_
  refine zr_fr hM rfl rfl rfl ?_
  refine zr_ict hM rfl rfl h10 ?_
  refine zr_fr hM rfl rfl rfl ?_
  refine zr_fr hM rfl rfl rfl ?_
  refine zr_putf (κ := (22, 0, 0)) hn hM rfl rfl rfl rfl rfl rfl rfl rfl ?_
  refine zr_fr hM rfl rfl rfl ?_
  refine zr_getf (κ := (22, 0, 0)) hn hM rfl rfl rfl rfl ?_
  refine zr_ift hM rfl rfl h11 ?_
  refine zr_fr hM rfl rfl rfl ?_
  refine zr_fr hM rfl rfl rfl ?_
  refine zr_fr hM rfl rfl rfl ?_
  refine zr_fr hM rfl rfl rfl ?_
  refine zr_fr hM rfl rfl rfl ?_
  refine zr_getf (κ := (22, 0, 0)) hn hM rfl rfl rfl rfl ?_
  refine zr_fr hM rfl rfl rfl ?_
  refine zr_fr hM rfl rfl rfl ?_
  refine zr_fr hM rfl rfl rfl ?_
  refine zr_iald (κ := (23, 0, 0)) hn hM rfl rfl rfl z12 ?_
  refine zr_fr hM rfl rfl rfl ?_
  refine zr_fr hM rfl rfl rfl ?_
  refine zr_fr hM rfl rfl rfl ?_
  refine zr_fr hM rfl rfl rfl ?_
  refine zr_getf (κ := (22, 0, 0)) hn hM rfl rfl rfl rfl ?_
  refine zr_fr hM rfl rfl rfl ?_
  refine zr_fr hM rfl rfl rfl ?_
  refine zr_getf (κ := (22, 0, 0)) hn hM rfl rfl rfl rfl ?_
  refine zr_fr hM rfl rfl rfl ?_
  refine zr_fr hM rfl rfl rfl ?_
  refine zr_fr hM rfl rfl rfl ?_
  refine zr_iald (κ := (23, 0, 0)) hn hM rfl rfl rfl z13 ?_
  refine zr_iast (κ := (23, 0, 0)) hn hM rfl rfl rfl rfl z14 rfl ?_
  refine zr_fr hM rfl rfl rfl ?_
  refine zr_getf (κ := (22, 0, 0)) hn hM rfl rfl rfl rfl ?_
  refine zr_fr hM rfl rfl rfl ?_
  refine zr_fr hM rfl rfl rfl ?_
  refine zr_fr hM rfl rfl rfl ?_
  refine zr_fr hM rfl rfl rfl ?_
  refine zr_iast (κ := (23, 0, 0)) hn hM rfl rfl rfl rfl z15 rfl ?_
  refine zr_fr hM rfl rfl rfl ?_
  refine zr_getf (κ := (22, 0, 0)) hn hM rfl rfl rfl rfl ?_
  refine zr_fr hM rfl rfl rfl ?_
  refine zr_fr hM rfl rfl rfl ?_
  refine zr_fr hM rfl rfl rfl ?_
  refine zr_fr hM rfl rfl rfl ?_
  refine zr_iast (κ := (23, 0, 0)) hn hM rfl rfl rfl rfl z16 rfl ?_
  refine zr_fr hM rfl rfl rfl ?_
  refine zr_getf (κ := (22, 0, 0)) hn hM rfl rfl rfl rfl ?_
  refine zr_fr hM rfl rfl rfl ?_
  refine zr_fr hM rfl rfl rfl ?_
  refine zr_fr hM rfl rfl rfl ?_
  refine zr_fr hM rfl rfl rfl ?_
  refine zr_getf (κ := (22, 0, 0)) hn hM rfl rfl rfl rfl ?_
  refine zr_fr hM rfl rfl rfl ?_
  refine zr_fr hM rfl rfl rfl ?_
  refine zr_fr hM rfl rfl rfl ?_
  refine zr_iald (κ := (23, 0, 0)) hn hM rfl rfl rfl z17 ?_
  refine zr_fr hM rfl rfl rfl ?_
  refine zr_fr hM rfl rfl rfl ?_
  refine zr_iast (κ := (23, 0, 0)) hn hM rfl rfl rfl rfl z18 rfl ?_
  refine zr_fr hM rfl rfl rfl ?_
  refine zr_getf (κ := (22, 0, 0)) hn hM rfl rfl rfl rfl ?_
  refine zr_fr hM rfl rfl rfl ?_
  refine zr_fr hM rfl rfl rfl ?_
  refine zr_fr hM rfl rfl rfl ?_
  refine zr_fr hM rfl rfl rfl ?_
  refine zr_iald (κ := (23, 0, 0)) hn hM rfl rfl rfl z9 ?_
  refine zr_fr hM rfl rfl rfl ?_
  refine zr_fr hM rfl rfl rfl ?_
  refine zr_iast (κ := (23, 0, 0)) hn hM rfl rfl rfl rfl z9 rfl ?_
  refine zr_fr hM rfl rfl rfl ?_
  refine zr_getf (κ := (22, 0, 0)) hn hM rfl rfl rfl rfl ?_
  refine zr_fr hM rfl rfl rfl ?_
  refine zr_fr hM rfl rfl rfl ?_
  refine zr_fr hM rfl rfl rfl ?_
  refine zr_fr hM rfl rfl rfl ?_
  refine zr_iald (κ := (23, 0, 0)) hn hM rfl rfl rfl z12 ?_
  refine zr_fr hM rfl rfl rfl ?_
  refine zr_fr hM rfl rfl rfl ?_
  refine zr_iast (κ := (23, 0, 0)) hn hM rfl rfl rfl rfl z12 rfl ?_
  refine zr_fr hM rfl rfl rfl ?_
  refine zr_getf (κ := (22, 0, 0)) hn hM rfl rfl rfl rfl ?_
  refine zr_fr hM rfl rfl rfl ?_
  refine zr_fr hM rfl rfl rfl ?_
  refine zr_fr hM rfl rfl rfl ?_
  refine zr_fr hM rfl rfl rfl ?_
  refine zr_iald (κ := (23, 0, 0)) hn hM rfl rfl rfl z13 ?_
  refine zr_fr hM rfl rfl rfl ?_
  refine zr_fr hM rfl rfl rfl ?_
  refine zr_iast (κ := (23, 0, 0)) hn hM rfl rfl rfl rfl z13 rfl ?_
  refine zr_fr hM rfl rfl rfl ?_
  refine zr_getf (κ := (22, 0, 0)) hn hM rfl rfl rfl rfl ?_
  refine zr_fr hM rfl rfl rfl ?_
  refine zr_iald (κ := (23, 0, 0)) hn hM rfl rfl rfl z14 ?_
  exact zr_iret2 hM rfl rfl rfl
set_option maxHeartbeats 4000000 in
theorem s123_0_fffttf {n L : Nat} {σ : Ks} {g : List Nat} {cl : Bool} {p1 : Int32} {p2 : Int32} {p3 : Int32} {p4 : Int32} {r1 : Int32} {r6 : Int32} {x7 : Nat} (hn : 2 ≤ n ∧ n ≤ 5) (c1_ : ZR 118 0 [.val (.ref (kad n (22, 0, 0))), .val (.int p1), .val (.int p2), .val (.int p3)] [] (khp n L σ g) true (.inl (some (.int r1)), khp n L σ g, true)) (h2 : zcnd .eq r1 0 = false) (h3 : zcnd .lt p4 (Int32.ofInt 1) = false) (h4 : zcnd .gt p4 ((Int8.ofInt 100).toInt32) = false) (h5 : zcnd .le ((kup σ 42 0 (Int32.ofInt 0)) 42 0) 0 = true) (c6_ : ZR 97 0 [.val (.int p1)] [] (khp n L (kup σ 42 0 (Int32.ofInt 0)) g) true (.inl (some (.int r6)), khp n L (kup σ 42 0 (Int32.ofInt 0)) g, true)) (z7 : zix p1 5 = some x7) (h8 : zcnd .ne ((kup σ 42 0 (Int32.ofInt 0)) 40 x7) 0 = true) (h9 : zcnd .le ((kup (kup σ 42 0 (Int32.ofInt 0)) 42 0 (Int32.ofInt 2)) 42 0) 0 = false) : ZR 123 0 [.val (.ref (kad n (22, 0, 0))), .val (.int p1), .val (.int p2), .val (.int p3), .val (.int p4), .unset, .unset] [] (khp n L σ g) cl (.inl (some (.int (Int32.ofInt 0))), khp n L (kup (kup σ 42 0 (Int32.ofInt 0)) 42 0 (Int32.ofInt 2)) (g), false) := by
  have hM : zmi[123]? = some _ := rfl
  have l7 := (zix_some z7).2.2
  refine zr_fr hM rfl rfl rfl ?_
  refine zr_fr hM rfl rfl rfl ?_
  refine zr_fr hM rfl rfl rfl ?_
  refine zr_fr hM rfl rfl rfl ?_
  refine zr_fr hM rfl rfl rfl ?_
  refine zr_virt (κ := (22, 0, 0)) hn hM rfl rfl rfl rfl rfl rfl rfl rfl rfl ?_
  refine zgo_ret rfl rfl c1_ ?_
  rw [Bool.and_true]
  refine zr_iff hM rfl rfl h2 ?_
  refine zr_fr hM rfl rfl rfl ?_
  refine zr_fr hM rfl rfl rfl ?_
  refine zr_icf hM rfl rfl h3 ?_
  refine zr_fr hM rfl rfl rfl ?_
  refine zr_fr hM rfl rfl rfl ?_
  refine zr_icf hM rfl rfl h4 ?_
  refine zr_fr hM rfl rfl rfl ?_
  refine zr_fr hM rfl rfl rfl ?_
  refine zr_putf (κ := (22, 0, 0)) hn hM rfl rfl rfl rfl rfl rfl rfl rfl ?_
  refine zr_fr hM rfl rfl rfl ?_
  refine zr_getf (κ := (22, 0, 0)) hn hM rfl rfl rfl rfl ?_
  refine zr_ift hM rfl rfl h5 ?_
  refine zr_fr hM rfl rfl rfl ?_
  refine zr_stat hM rfl rfl rfl rfl rfl rfl ?_
  refine zgo_ret rfl rfl c6_ ?_
  rw [Bool.and_true]
  refine zr_fr hM rfl rfl rfl ?_
  refine zr_fr hM rfl rfl rfl ?_
  refine zr_fr hM rfl rfl rfl ?_
  refine zr_getf (κ := (22, 0, 0)) hn hM rfl rfl rfl rfl ?_
  refine zr_fr hM rfl rfl rfl ?_
  refine zr_bald (κ := (25, 0, 0)) hn hM rfl rfl rfl z7 ?_
  refine zr_ift hM rfl rfl h8 ?_
  refine zr_fr hM rfl rfl rfl ?_
  refine zr_fr hM rfl rfl rfl ?_
  refine zr_putf (κ := (22, 0, 0)) hn hM rfl rfl rfl rfl rfl rfl rfl rfl ?_
  refine zr_fr hM rfl rfl rfl ?_
  refine zr_getf (κ := (22, 0, 0)) hn hM rfl rfl rfl rfl ?_
  refine zr_iff hM rfl rfl h9 ?_
  refine zr_fr hM rfl rfl rfl ?_
  exact zr_iret2 hM rfl rfl rfl
set_option maxHeartbeats 4000000 in
theorem s123_0_fffttt {n L : Nat} {σ : Ks} {g : List Nat} {cl : Bool} {p1 : Int32} {p2 : Int32} {p3 : Int32} {p4 : Int32} {r1 : Int32} {r6 : Int32} {x7 : Nat} {x10 : Nat} {x11 : Nat} {x12 : Nat} {x13 : Nat} {x14 : Nat} {x15 : Nat} {x16 : Nat} {x17 : Nat} (hn : 2 ≤ n ∧ n ≤ 5) (c1_ : ZR 118 0 [.val (.ref (kad n (22, 0, 0))), .val (.int p1), .val (.int p2), .val (.int p3)] [] (khp n L σ g) true (.inl (some (.int r1)), khp n L σ g, true)) (h2 : zcnd .eq r1 0 = false) (h3 : zcnd .lt p4 (Int32.ofInt 1) = false) (h4 : zcnd .gt p4 ((Int8.ofInt 100).toInt32) = false) (h5 : zcnd .le ((kup σ 42 0 (Int32.ofInt 0)) 42 0) 0 = true) (c6_ : ZR 97 0 [.val (.int p1)] [] (khp n L (kup σ 42 0 (Int32.ofInt 0)) g) true (.inl (some (.int r6)), khp n L (kup σ 42 0 (Int32.ofInt 0)) g, true)) (z7 : zix p1 5 = some x7) (h8 : zcnd .ne ((kup σ 42 0 (Int32.ofInt 0)) 40 x7) 0 = true) (h9 : zcnd .le ((kup (kup σ 42 0 (Int32.ofInt 0)) 42 0 (Int32.ofInt 2)) 42 0) 0 = true) (z10 : zix (r6 + ((Int8.ofInt 19).toInt32)) 820 = some x10) (z11 : zix (r6 + ((Int8.ofInt 17).toInt32)) 820 = some x11) (z12 : zix ((r6 + ((Int8.ofInt 20).toInt32)) + ((Int32.ofInt 4) * ((kup (kup σ 42 0 (Int32.ofInt 0)) 42 0 (Int32.ofInt 2)) (20 + x10 / 164) (x10 % 164)))) 820 = some x12) (z13 : zix (((r6 + ((Int8.ofInt 20).toInt32)) + ((Int32.ofInt 4) * ((kup (kup σ 42 0 (Int32.ofInt 0)) 42 0 (Int32.ofInt 2)) (20 + x10 / 164) (x10 % 164)))) + (Int32.ofInt 1)) 820 = some x13) (z14 : zix (((r6 + ((Int8.ofInt 20).toInt32)) + ((Int32.ofInt 4) * ((kup (kup σ 42 0 (Int32.ofInt 0)) 42 0 (Int32.ofInt 2)) (20 + x10 / 164) (x10 % 164)))) + (Int32.ofInt 2)) 820 = some x14) (z15 : zix (r6 + ((Int8.ofInt 16).toInt32)) 820 = some x15) (z16 : zix (((r6 + ((Int8.ofInt 20).toInt32)) + ((Int32.ofInt 4) * ((kup (kup σ 42 0 (Int32.ofInt 0)) 42 0 (Int32.ofInt 2)) (20 + x10 / 164) (x10 % 164)))) + (Int32.ofInt 3)) 820 = some x16) (z17 : zix (r6 + p2) 820 = some x17) : ZR 123 0 [.val (.ref (kad n (22, 0, 0))), .val (.int p1), .val (.int p2), .val (.int p3), .val (.int p4), .unset, .unset] [] (khp n L σ g) cl (.inl (some (.int ((kup (kup (kup (kup (kup (kup (kup (kup (kup σ 42 0 (Int32.ofInt 0)) 42 0 (Int32.ofInt 2)) (20 + x12 / 164) (x12 % 164) ((kup (kup σ 42 0 (Int32.ofInt 0)) 42 0 (Int32.ofInt 2)) (20 + x11 / 164) (x11 % 164))) (20 + x13 / 164) (x13 % 164) p2) (20 + x14 / 164) (x14 % 164) p3) (20 + x16 / 164) (x16 % 164) (((kup (kup (kup (kup (kup σ 42 0 (Int32.ofInt 0)) 42 0 (Int32.ofInt 2)) (20 + x12 / 164) (x12 % 164) ((kup (kup σ 42 0 (Int32.ofInt 0)) 42 0 (Int32.ofInt 2)) (20 + x11 / 164) (x11 % 164))) (20 + x13 / 164) (x13 % 164) p2) (20 + x14 / 164) (x14 % 164) p3) (20 + x15 / 164) (x15 % 164)) + p4)) (20 + x17 / 164) (x17 % 164) (((kup (kup (kup (kup (kup (kup σ 42 0 (Int32.ofInt 0)) 42 0 (Int32.ofInt 2)) (20 + x12 / 164) (x12 % 164) ((kup (kup σ 42 0 (Int32.ofInt 0)) 42 0 (Int32.ofInt 2)) (20 + x11 / 164) (x11 % 164))) (20 + x13 / 164) (x13 % 164) p2) (20 + x14 / 164) (x14 % 164) p3) (20 + x16 / 164) (x16 % 164) (((kup (kup (kup (kup (kup σ 42 0 (Int32.ofInt 0)) 42 0 (Int32.ofInt 2)) (20 + x12 / 164) (x12 % 164) ((kup (kup σ 42 0 (Int32.ofInt 0)) 42 0 (Int32.ofInt 2)) (20 + x11 / 164) (x11 % 164))) (20 + x13 / 164) (x13 % 164) p2) (20 + x14 / 164) (x14 % 164) p3) (20 + x15 / 164) (x15 % 164)) + p4)) (20 + x17 / 164) (x17 % 164)) - p3)) (20 + x10 / 164) (x10 % 164) (((kup (kup (kup (kup (kup (kup (kup σ 42 0 (Int32.ofInt 0)) 42 0 (Int32.ofInt 2)) (20 + x12 / 164) (x12 % 164) ((kup (kup σ 42 0 (Int32.ofInt 0)) 42 0 (Int32.ofInt 2)) (20 + x11 / 164) (x11 % 164))) (20 + x13 / 164) (x13 % 164) p2) (20 + x14 / 164) (x14 % 164) p3) (20 + x16 / 164) (x16 % 164) (((kup (kup (kup (kup (kup σ 42 0 (Int32.ofInt 0)) 42 0 (Int32.ofInt 2)) (20 + x12 / 164) (x12 % 164) ((kup (kup σ 42 0 (Int32.ofInt 0)) 42 0 (Int32.ofInt 2)) (20 + x11 / 164) (x11 % 164))) (20 + x13 / 164) (x13 % 164) p2) (20 + x14 / 164) (x14 % 164) p3) (20 + x15 / 164) (x15 % 164)) + p4)) (20 + x17 / 164) (x17 % 164) (((kup (kup (kup (kup (kup (kup σ 42 0 (Int32.ofInt 0)) 42 0 (Int32.ofInt 2)) (20 + x12 / 164) (x12 % 164) ((kup (kup σ 42 0 (Int32.ofInt 0)) 42 0 (Int32.ofInt 2)) (20 + x11 / 164) (x11 % 164))) (20 + x13 / 164) (x13 % 164) p2) (20 + x14 / 164) (x14 % 164) p3) (20 + x16 / 164) (x16 % 164) (((kup (kup (kup (kup (kup σ 42 0 (Int32.ofInt 0)) 42 0 (Int32.ofInt 2)) (20 + x12 / 164) (x12 % 164) ((kup (kup σ 42 0 (Int32.ofInt 0)) 42 0 (Int32.ofInt 2)) (20 + x11 / 164) (x11 % 164))) (20 + x13 / 164) (x13 % 164) p2) (20 + x14 / 164) (x14 % 164) p3) (20 + x15 / 164) (x15 % 164)) + p4)) (20 + x17 / 164) (x17 % 164)) - p3)) (20 + x10 / 164) (x10 % 164)) + (Int32.ofInt 1))) (20 + x11 / 164) (x11 % 164) (((kup (kup (kup (kup (kup (kup (kup (kup σ 42 0 (Int32.ofInt 0)) 42 0 (Int32.ofInt 2)) (20 + x12 / 164) (x12 % 164) ((kup (kup σ 42 0 (Int32.ofInt 0)) 42 0 (Int32.ofInt 2)) (20 + x11 / 164) (x11 % 164))) (20 + x13 / 164) (x13 % 164) p2) (20 + x14 / 164) (x14 % 164) p3) (20 + x16 / 164) (x16 % 164) (((kup (kup (kup (kup (kup σ 42 0 (Int32.ofInt 0)) 42 0 (Int32.ofInt 2)) (20 + x12 / 164) (x12 % 164) ((kup (kup σ 42 0 (Int32.ofInt 0)) 42 0 (Int32.ofInt 2)) (20 + x11 / 164) (x11 % 164))) (20 + x13 / 164) (x13 % 164) p2) (20 + x14 / 164) (x14 % 164) p3) (20 + x15 / 164) (x15 % 164)) + p4)) (20 + x17 / 164) (x17 % 164) (((kup (kup (kup (kup (kup (kup σ 42 0 (Int32.ofInt 0)) 42 0 (Int32.ofInt 2)) (20 + x12 / 164) (x12 % 164) ((kup (kup σ 42 0 (Int32.ofInt 0)) 42 0 (Int32.ofInt 2)) (20 + x11 / 164) (x11 % 164))) (20 + x13 / 164) (x13 % 164) p2) (20 + x14 / 164) (x14 % 164) p3) (20 + x16 / 164) (x16 % 164) (((kup (kup (kup (kup (kup σ 42 0 (Int32.ofInt 0)) 42 0 (Int32.ofInt 2)) (20 + x12 / 164) (x12 % 164) ((kup (kup σ 42 0 (Int32.ofInt 0)) 42 0 (Int32.ofInt 2)) (20 + x11 / 164) (x11 % 164))) (20 + x13 / 164) (x13 % 164) p2) (20 + x14 / 164) (x14 % 164) p3) (20 + x15 / 164) (x15 % 164)) + p4)) (20 + x17 / 164) (x17 % 164)) - p3)) (20 + x10 / 164) (x10 % 164) (((kup (kup (kup (kup (kup (kup (kup σ 42 0 (Int32.ofInt 0)) 42 0 (Int32.ofInt 2)) (20 + x12 / 164) (x12 % 164) ((kup (kup σ 42 0 (Int32.ofInt 0)) 42 0 (Int32.ofInt 2)) (20 + x11 / 164) (x11 % 164))) (20 + x13 / 164) (x13 % 164) p2) (20 + x14 / 164) (x14 % 164) p3) (20 + x16 / 164) (x16 % 164) (((kup (kup (kup (kup (kup σ 42 0 (Int32.ofInt 0)) 42 0 (Int32.ofInt 2)) (20 + x12 / 164) (x12 % 164) ((kup (kup σ 42 0 (Int32.ofInt 0)) 42 0 (Int32.ofInt 2)) (20 + x11 / 164) (x11 % 164))) (20 + x13 / 164) (x13 % 164) p2) (20 + x14 / 164) (x14 % 164) p3) (20 + x15 / 164) (x15 % 164)) + p4)) (20 + x17 / 164) (x17 % 164) (((kup (kup (kup (kup (kup (kup σ 42 0 (Int32.ofInt 0)) 42 0 (Int32.ofInt 2)) (20 + x12 / 164) (x12 % 164) ((kup (kup σ 42 0 (Int32.ofInt 0)) 42 0 (Int32.ofInt 2)) (20 + x11 / 164) (x11 % 164))) (20 + x13 / 164) (x13 % 164) p2) (20 + x14 / 164) (x14 % 164) p3) (20 + x16 / 164) (x16 % 164) (((kup (kup (kup (kup (kup σ 42 0 (Int32.ofInt 0)) 42 0 (Int32.ofInt 2)) (20 + x12 / 164) (x12 % 164) ((kup (kup σ 42 0 (Int32.ofInt 0)) 42 0 (Int32.ofInt 2)) (20 + x11 / 164) (x11 % 164))) (20 + x13 / 164) (x13 % 164) p2) (20 + x14 / 164) (x14 % 164) p3) (20 + x15 / 164) (x15 % 164)) + p4)) (20 + x17 / 164) (x17 % 164)) - p3)) (20 + x10 / 164) (x10 % 164)) + (Int32.ofInt 1))) (20 + x11 / 164) (x11 % 164)) + (Int32.ofInt 1))) (20 + x12 / 164) (x12 % 164)))), khp n L (kup (kup (kup (kup (kup (kup (kup (kup (kup σ 42 0 (Int32.ofInt 0)) 42 0 (Int32.ofInt 2)) (20 + x12 / 164) (x12 % 164) ((kup (kup σ 42 0 (Int32.ofInt 0)) 42 0 (Int32.ofInt 2)) (20 + x11 / 164) (x11 % 164))) (20 + x13 / 164) (x13 % 164) p2) (20 + x14 / 164) (x14 % 164) p3) (20 + x16 / 164) (x16 % 164) (((kup (kup (kup (kup (kup σ 42 0 (Int32.ofInt 0)) 42 0 (Int32.ofInt 2)) (20 + x12 / 164) (x12 % 164) ((kup (kup σ 42 0 (Int32.ofInt 0)) 42 0 (Int32.ofInt 2)) (20 + x11 / 164) (x11 % 164))) (20 + x13 / 164) (x13 % 164) p2) (20 + x14 / 164) (x14 % 164) p3) (20 + x15 / 164) (x15 % 164)) + p4)) (20 + x17 / 164) (x17 % 164) (((kup (kup (kup (kup (kup (kup σ 42 0 (Int32.ofInt 0)) 42 0 (Int32.ofInt 2)) (20 + x12 / 164) (x12 % 164) ((kup (kup σ 42 0 (Int32.ofInt 0)) 42 0 (Int32.ofInt 2)) (20 + x11 / 164) (x11 % 164))) (20 + x13 / 164) (x13 % 164) p2) (20 + x14 / 164) (x14 % 164) p3) (20 + x16 / 164) (x16 % 164) (((kup (kup (kup (kup (kup σ 42 0 (Int32.ofInt 0)) 42 0 (Int32.ofInt 2)) (20 + x12 / 164) (x12 % 164) ((kup (kup σ 42 0 (Int32.ofInt 0)) 42 0 (Int32.ofInt 2)) (20 + x11 / 164) (x11 % 164))) (20 + x13 / 164) (x13 % 164) p2) (20 + x14 / 164) (x14 % 164) p3) (20 + x15 / 164) (x15 % 164)) + p4)) (20 + x17 / 164) (x17 % 164)) - p3)) (20 + x10 / 164) (x10 % 164) (((kup (kup (kup (kup (kup (kup (kup σ 42 0 (Int32.ofInt 0)) 42 0 (Int32.ofInt 2)) (20 + x12 / 164) (x12 % 164) ((kup (kup σ 42 0 (Int32.ofInt 0)) 42 0 (Int32.ofInt 2)) (20 + x11 / 164) (x11 % 164))) (20 + x13 / 164) (x13 % 164) p2) (20 + x14 / 164) (x14 % 164) p3) (20 + x16 / 164) (x16 % 164) (((kup (kup (kup (kup (kup σ 42 0 (Int32.ofInt 0)) 42 0 (Int32.ofInt 2)) (20 + x12 / 164) (x12 % 164) ((kup (kup σ 42 0 (Int32.ofInt 0)) 42 0 (Int32.ofInt 2)) (20 + x11 / 164) (x11 % 164))) (20 + x13 / 164) (x13 % 164) p2) (20 + x14 / 164) (x14 % 164) p3) (20 + x15 / 164) (x15 % 164)) + p4)) (20 + x17 / 164) (x17 % 164) (((kup (kup (kup (kup (kup (kup σ 42 0 (Int32.ofInt 0)) 42 0 (Int32.ofInt 2)) (20 + x12 / 164) (x12 % 164) ((kup (kup σ 42 0 (Int32.ofInt 0)) 42 0 (Int32.ofInt 2)) (20 + x11 / 164) (x11 % 164))) (20 + x13 / 164) (x13 % 164) p2) (20 + x14 / 164) (x14 % 164) p3) (20 + x16 / 164) (x16 % 164) (((kup (kup (kup (kup (kup σ 42 0 (Int32.ofInt 0)) 42 0 (Int32.ofInt 2)) (20 + x12 / 164) (x12 % 164) ((kup (kup σ 42 0 (Int32.ofInt 0)) 42 0 (Int32.ofInt 2)) (20 + x11 / 164) (x11 % 164))) (20 + x13 / 164) (x13 % 164) p2) (20 + x14 / 164) (x14 % 164) p3) (20 + x15 / 164) (x15 % 164)) + p4)) (20 + x17 / 164) (x17 % 164)) - p3)) (20 + x10 / 164) (x10 % 164)) + (Int32.ofInt 1))) (20 + x11 / 164) (x11 % 164) (((kup (kup (kup (kup (kup (kup (kup (kup σ 42 0 (Int32.ofInt 0)) 42 0 (Int32.ofInt 2)) (20 + x12 / 164) (x12 % 164) ((kup (kup σ 42 0 (Int32.ofInt 0)) 42 0 (Int32.ofInt 2)) (20 + x11 / 164) (x11 % 164))) (20 + x13 / 164) (x13 % 164) p2) (20 + x14 / 164) (x14 % 164) p3) (20 + x16 / 164) (x16 % 164) (((kup (kup (kup (kup (kup σ 42 0 (Int32.ofInt 0)) 42 0 (Int32.ofInt 2)) (20 + x12 / 164) (x12 % 164) ((kup (kup σ 42 0 (Int32.ofInt 0)) 42 0 (Int32.ofInt 2)) (20 + x11 / 164) (x11 % 164))) (20 + x13 / 164) (x13 % 164) p2) (20 + x14 / 164) (x14 % 164) p3) (20 + x15 / 164) (x15 % 164)) + p4)) (20 + x17 / 164) (x17 % 164) (((kup (kup (kup (kup (kup (kup σ 42 0 (Int32.ofInt 0)) 42 0 (Int32.ofInt 2)) (20 + x12 / 164) (x12 % 164) ((kup (kup σ 42 0 (Int32.ofInt 0)) 42 0 (Int32.ofInt 2)) (20 + x11 / 164) (x11 % 164))) (20 + x13 / 164) (x13 % 164) p2) (20 + x14 / 164) (x14 % 164) p3) (20 + x16 / 164) (x16 % 164) (((kup (kup (kup (kup (kup σ 42 0 (Int32.ofInt 0)) 42 0 (Int32.ofInt 2)) (20 + x12 / 164) (x12 % 164) ((kup (kup σ 42 0 (Int32.ofInt 0)) 42 0 (Int32.ofInt 2)) (20 + x11 / 164) (x11 % 164))) (20 + x13 / 164) (x13 % 164) p2) (20 + x14 / 164) (x14 % 164) p3) (20 + x15 / 164) (x15 % 164)) + p4)) (20 + x17 / 164) (x17 % 164)) - p3)) (20 + x10 / 164) (x10 % 164) (((kup (kup (kup (kup (kup (kup (kup σ 42 0 (Int32.ofInt 0)) 42 0 (Int32.ofInt 2)) (20 + x12 / 164) (x12 % 164) ((kup (kup σ 42 0 (Int32.ofInt 0)) 42 0 (Int32.ofInt 2)) (20 + x11 / 164) (x11 % 164))) (20 + x13 / 164) (x13 % 164) p2) (20 + x14 / 164) (x14 % 164) p3) (20 + x16 / 164) (x16 % 164) (((kup (kup (kup (kup (kup σ 42 0 (Int32.ofInt 0)) 42 0 (Int32.ofInt 2)) (20 + x12 / 164) (x12 % 164) ((kup (kup σ 42 0 (Int32.ofInt 0)) 42 0 (Int32.ofInt 2)) (20 + x11 / 164) (x11 % 164))) (20 + x13 / 164) (x13 % 164) p2) (20 + x14 / 164) (x14 % 164) p3) (20 + x15 / 164) (x15 % 164)) + p4)) (20 + x17 / 164) (x17 % 164) (((kup (kup (kup (kup (kup (kup σ 42 0 (Int32.ofInt 0)) 42 0 (Int32.ofInt 2)) (20 + x12 / 164) (x12 % 164) ((kup (kup σ 42 0 (Int32.ofInt 0)) 42 0 (Int32.ofInt 2)) (20 + x11 / 164) (x11 % 164))) (20 + x13 / 164) (x13 % 164) p2) (20 + x14 / 164) (x14 % 164) p3) (20 + x16 / 164) (x16 % 164) (((kup (kup (kup (kup (kup σ 42 0 (Int32.ofInt 0)) 42 0 (Int32.ofInt 2)) (20 + x12 / 164) (x12 % 164) ((kup (kup σ 42 0 (Int32.ofInt 0)) 42 0 (Int32.ofInt 2)) (20 + x11 / 164) (x11 % 164))) (20 + x13 / 164) (x13 % 164) p2) (20 + x14 / 164) (x14 % 164) p3) (20 + x15 / 164) (x15 % 164)) + p4)) (20 + x17 / 164) (x17 % 164)) - p3)) (20 + x10 / 164) (x10 % 164)) + (Int32.ofInt 1))) (20 + x11 / 164) (x11 % 164)) + (Int32.ofInt 1))) (g), false) := by
  have hM : zmi[123]? = some _ := rfl
  have l7 := (zix_some z7).2.2
  have l10 := (zix_some z10).2.2
  have l11 := (zix_some z11).2.2
  have l12 := (zix_some z12).2.2
  have l13 := (zix_some z13).2.2
  have l14 := (zix_some z14).2.2
  have l15 := (zix_some z15).2.2
  have l16 := (zix_some z16).2.2
  have l17 := (zix_some z17).2.2
  refine zr_fr hM rfl rfl rfl ?_
  refine zr_fr hM rfl rfl rfl ?_
  refine zr_fr hM rfl rfl rfl ?_
  refine zr_fr hM rfl rfl rfl ?_
  refine zr_fr hM rfl rfl rfl ?_
  refine zr_virt (κ := (22, 0, 0)) hn hM rfl rfl rfl rfl rfl rfl rfl rfl rfl ?_
  refine zgo_ret rfl rfl c1_ ?_
  rw [Bool.and_true]
  refine zr_iff hM rfl rfl h2 ?_
  refine zr_fr hM rfl rfl rfl ?_
  refine zr_fr hM rfl rfl rfl ?_
  refine zr_icf hM rfl rfl h3 ?_
  refine zr_fr hM rfl rfl rfl ?_
  refine zr_fr hM rfl rfl rfl ?_
  refine zr_icf hM rfl rfl h4 ?_
  refine zr_fr hM rfl rfl rfl ?_
  refine zr_fr hM rfl rfl rfl ?_
  refine zr_putf (κ := (22, 0, 0)) hn hM rfl rfl rfl rfl rfl rfl rfl rfl ?_
  refine zr_fr hM rfl rfl rfl ?_
  refine zr_getf (κ := (22, 0, 0)) hn hM rfl rfl rfl rfl ?_
  refine zr_ift hM rfl rfl h5 ?_
  refine zr_fr hM rfl rfl rfl ?_
  refine zr_stat hM rfl rfl rfl rfl rfl rfl ?_
  refine zgo_ret rfl rfl c6_ ?_
  rw [Bool.and_true]
  refine zr_fr hM rfl rfl rfl ?_
  refine zr_fr hM rfl rfl rfl ?_
  refine zr_fr hM rfl rfl rfl ?_
  refine zr_getf (κ := (22, 0, 0)) hn hM rfl rfl rfl rfl ?_
  refine zr_fr hM rfl rfl rfl ?_
  refine zr_bald (κ := (25, 0, 0)) hn hM rfl rfl rfl z7 ?_
  refine zr_ift hM rfl rfl h8 ?_
  refine zr_fr hM rfl rfl rfl ?_
  refine zr_fr hM rfl rfl rfl ?_
  refine zr_putf (κ := (22, 0, 0)) hn hM rfl rfl rfl rfl rfl rfl rfl rfl ?_
  refine zr_fr hM rfl rfl rfl ?_
  refine zr_getf (κ := (22, 0, 0)) hn hM rfl rfl rfl rfl ?_
  refine zr_ift hM rfl rfl h9 ?_
  refine zr_fr hM rfl rfl rfl ?_
  refine zr_fr hM rfl rfl rfl ?_
  refine zr_fr hM rfl rfl rfl ?_
  refine zr_fr hM rfl rfl rfl ?_
  refine zr_fr hM rfl rfl rfl ?_
  refine zr_getf (κ := (22, 0, 0)) hn hM rfl rfl rfl rfl ?_
  refine zr_fr hM rfl rfl rfl ?_
  refine zr_fr hM rfl rfl rfl ?_
  refine zr_fr hM rfl rfl rfl ?_
  refine zr_iald (κ := (23, 0, 0)) hn hM rfl rfl rfl z10 ?_
  refine zr_fr hM rfl rfl rfl ?_
  refine zr_fr hM rfl rfl rfl ?_
  refine zr_fr hM rfl rfl rfl ?_
  refine zr_fr hM rfl rfl rfl ?_
  refine zr_getf (κ := (22, 0, 0)) hn hM rfl rfl rfl rfl ?_
  refine zr_fr hM rfl rfl rfl ?_
  refine zr_fr hM rfl rfl rfl ?_
  refine zr_getf (κ := (22, 0, 0)) hn hM rfl rfl rfl rfl ?_
  refine zr_fr hM rfl rfl rfl ?_
  refine zr_fr hM rfl rfl rfl ?_
  refine zr_fr hM rfl rfl rfl ?_
  refine zr_iald (κ := (23, 0, 0)) hn hM rfl rfl rfl z11 ?_
  refine zr_iast (κ := (23, 0, 0)) hn hM rfl rfl rfl rfl z12 rfl ?_
  refine zr_fr hM rfl rfl rfl ?_
  refine zr_getf (κ := (22, 0, 0)) hn hM rfl rfl rfl rfl ?_
  refine zr_fr hM rfl rfl rfl ?_
  refine zr_fr hM rfl rfl rfl ?_
  refine zr_fr hM rfl rfl rfl ?_
  refine zr_fr hM rfl rfl rfl ?_
  refine zr_iast (κ := (23, 0, 0)) hn hM rfl rfl rfl rfl z13 rfl ?_
  refine zr_fr hM rfl rfl rfl ?_
  refine zr_getf (κ := (22, 0, 0)) hn hM rfl rfl rfl rfl ?_
  refine zr_fr hM rfl rfl rfl ?_
  refine zr_fr hM rfl rfl rfl ?_
  refine zr_fr hM rfl rfl rfl ?_
  refine zr_fr hM rfl rfl rfl ?_
  refine zr_iast (κ := (23, 0, 0)) hn hM rfl rfl rfl rfl z14 rfl ?_
  refine zr_fr hM rfl rfl rfl ?_
  refine zr_getf (κ := (22, 0, 0)) hn hM rfl rfl rfl rfl ?_
  refine zr_fr hM rfl rfl rfl ?_
  refine zr_fr hM rfl rfl rfl ?_
  refine zr_fr hM rfl rfl rfl ?_
  refine zr_fr hM rfl rfl rfl ?_
  refine zr_getf (κ := (22, 0, 0)) hn hM rfl rfl rfl rfl ?_
  refine zr_fr hM rfl rfl rfl ?_
  refine zr_fr hM rfl rfl rfl ?_
  refine zr_fr hM rfl rfl rfl ?_
  refine zr_iald (κ := (23, 0, 0)) hn hM rfl rfl rfl z15 ?_
  refine zr_fr hM rfl rfl rfl ?_
  refine zr_fr hM rfl rfl rfl ?_
  refine zr_iast (κ := (23, 0, 0)) hn hM rfl rfl rfl rfl z16 rfl ?_
  refine zr_fr hM rfl rfl rfl ?_
  refine zr_getf (κ := (22, 0, 0)) hn hM rfl rfl rfl rfl ?_
  refine zr_fr hM rfl rfl rfl ?_
  refine zr_fr hM rfl rfl rfl ?_
  refine zr_fr hM rfl rfl rfl ?_
  refine zr_fr hM rfl rfl rfl ?_
  refine zr_iald (κ := (23, 0, 0)) hn hM rfl rfl rfl z17 ?_
  refine zr_fr hM rfl rfl rfl ?_
  refine zr_fr hM rfl rfl rfl ?_
  refine zr_iast (κ := (23, 0, 0)) hn hM rfl rfl rfl rfl z17 rfl ?_
  refine zr_fr hM rfl rfl rfl ?_
  refine zr_getf (κ := (22, 0, 0)) hn hM rfl rfl rfl rfl ?_
  refine zr_fr hM rfl rfl rfl ?_
  refine zr_fr hM rfl rfl rfl ?_
  refine zr_fr hM rfl rfl rfl ?_
  refine zr_fr hM rfl rfl rfl ?_
  refine zr_iald (κ := (23, 0, 0)) hn hM rfl rfl rfl z10 ?_
  refine zr_fr hM rfl rfl rfl ?_
  refine zr_fr hM rfl rfl rfl ?_
  refine zr_iast (κ := (23, 0, 0)) hn hM rfl rfl rfl rfl z10 rfl ?_
  refine zr_fr hM rfl rfl rfl ?_
  refine zr_getf (κ := (22, 0, 0)) hn hM rfl rfl rfl rfl ?_
  refine zr_fr hM rfl rfl rfl ?_
  refine zr_fr hM rfl rfl rfl ?_
  refine zr_fr hM rfl rfl rfl ?_
  refine zr_fr hM rfl rfl rfl ?_
  refine zr_iald (κ := (23, 0, 0)) hn hM rfl rfl rfl z11 ?_
  refine zr_fr hM rfl rfl rfl ?_
  refine zr_fr hM rfl rfl rfl ?_
  refine zr_iast (κ := (23, 0, 0)) hn hM rfl rfl rfl rfl z11 rfl ?_
  refine zr_fr hM rfl rfl rfl ?_
  refine zr_getf (κ := (22, 0, 0)) hn hM rfl rfl rfl rfl ?_
  refine zr_fr hM rfl rfl rfl ?_
  refine zr_iald (κ := (23, 0, 0)) hn hM rfl rfl rfl z12 ?_
  exact zr_iret2 hM rfl rfl rfl
set_option maxHeartbeats 4000000 in
theorem s123_0_fftf {n L : Nat} {σ : Ks} {g : List Nat} {cl : Bool} {p1 : Int32} {p2 : Int32} {p3 : Int32} {p4 : Int32} {r1 : Int32} (hn : 2 ≤ n ∧ n ≤ 5) (c1_ : ZR 118 0 [.val (.ref (kad n (22, 0, 0))), .val (.int p1), .val (.int p2), .val (.int p3)] [] (khp n L σ g) true (.inl (some (.int r1)), khp n L σ g, true)) (h2 : zcnd .eq r1 0 = false) (h3 : zcnd .lt p4 (Int32.ofInt 1) = false) (h4 : zcnd .gt p4 ((Int8.ofInt 100).toInt32) = true) (h5 : zcnd .le ((kup σ 42 0 (Int32.ofInt 1)) 42 0) 0 = false) : ZR 123 0 [.val (.ref (kad n (22, 0, 0))), .val (.int p1), .val (.int p2), .val (.int p3), .val (.int p4), .unset, .unset] [] (khp n L σ g) cl (.inl (some (.int (Int32.ofInt 0))), khp n L (kup σ 42 0 (Int32.ofInt 1)) (g), false) := by
  have hM : zmi[123]? = some _ := rfl
  refine zr_fr hM rfl rfl rfl ?_
  refine zr_fr hM rfl rfl rfl ?_
  refine zr_fr hM rfl rfl rfl ?_
  refine zr_fr hM rfl rfl rfl ?_
  refine zr_fr hM rfl rfl rfl ?_
  refine zr_virt (κ := (22, 0, 0)) hn hM rfl rfl rfl rfl rfl rfl rfl rfl rfl ?_
  refine zgo_ret rfl rfl c1_ ?_
  rw [Bool.and_true]
  refine zr_iff hM rfl rfl h2 ?_
  refine zr_fr hM rfl rfl rfl ?_
  refine zr_fr hM rfl rfl rfl ?_
  refine zr_icf hM rfl rfl h3 ?_
  refine zr_fr hM rfl rfl rfl ?_
  refine zr_fr hM rfl rfl rfl ?_
  refine zr_ict hM rfl rfl h4 ?_
  refine zr_fr hM rfl rfl rfl ?_
  refine zr_putf (κ := (22, 0, 0)) hn hM rfl rfl rfl rfl rfl rfl rfl rfl ?_
  refine zr_fr hM rfl rfl rfl ?_
  refine zr_getf (κ := (22, 0, 0)) hn hM rfl rfl rfl rfl ?_
  refine zr_iff hM rfl rfl h5 ?_
  refine zr_fr hM rfl rfl rfl ?_
  exact zr_iret2 hM rfl rfl rfl
set_option maxHeartbeats 4000000 in
theorem s123_0_ffttffff {n L : Nat} {σ : Ks} {g : List Nat} {cl : Bool} {p1 : Int32} {p2 : Int32} {p3 : Int32} {p4 : Int32} {r1 : Int32} {r6 : Int32} {x7 : Nat} {x9 : Nat} {x11 : Nat} (hn : 2 ≤ n ∧ n ≤ 5) (c1_ : ZR 118 0 [.val (.ref (kad n (22, 0, 0))), .val (.int p1), .val (.int p2), .val (.int p3)] [] (khp n L σ g) true (.inl (some (.int r1)), khp n L σ g, true)) (h2 : zcnd .eq r1 0 = false) (h3 : zcnd .lt p4 (Int32.ofInt 1) = false) (h4 : zcnd .gt p4 ((Int8.ofInt 100).toInt32) = true) (h5 : zcnd .le ((kup σ 42 0 (Int32.ofInt 1)) 42 0) 0 = true) (c6_ : ZR 97 0 [.val (.int p1)] [] (khp n L (kup σ 42 0 (Int32.ofInt 1)) g) true (.inl (some (.int r6)), khp n L (kup σ 42 0 (Int32.ofInt 1)) g, true)) (z7 : zix p1 5 = some x7) (h8 : zcnd .ne ((kup σ 42 0 (Int32.ofInt 1)) 40 x7) 0 = false) (z9 : zix (r6 + p2) 820 = some x9) (h10 : zcnd .lt ((kup σ 42 0 (Int32.ofInt 1)) (20 + x9 / 164) (x9 % 164)) p3 = false) (z11 : zix (r6 + ((Int8.ofInt 19).toInt32)) 820 = some x11) (h12 : zcnd .ne ((kup σ 42 0 (Int32.ofInt 1)) (20 + x11 / 164) (x11 % 164)) ((Int8.ofInt 6).toInt32) = false) (h13 : zcnd .le ((kup (kup σ 42 0 (Int32.ofInt 1)) 42 0 (Int32.ofInt 2)) 42 0) 0 = false) : ZR 123 0 [.val (.ref (kad n (22, 0, 0))), .val (.int p1), .val (.int p2), .val (.int p3), .val (.int p4), .unset, .unset] [] (khp n L σ g) cl (.inl (some (.int (Int32.ofInt 0))), khp n L (kup (kup σ 42 0 (Int32.ofInt 1)) 42 0 (Int32.ofInt 2)) (g), false) := by
  have hM : zmi[123]? = some _ := rfl
  have l7 := (zix_some z7).2.2
  have l9 := (zix_some z9).2.2
  have l11 := (zix_some z11).2.2
  refine zr_fr hM rfl rfl rfl ?_
  refine zr_fr hM rfl rfl rfl ?_
  refine zr_fr hM rfl rfl rfl ?_
  refine zr_fr hM rfl rfl rfl ?_
  refine zr_fr hM rfl rfl rfl ?_
  refine zr_virt (κ := (22, 0, 0)) hn hM rfl rfl rfl rfl rfl rfl rfl rfl rfl ?_
  refine zgo_ret rfl rfl c1_ ?_
  rw [Bool.and_true]
  refine zr_iff hM rfl rfl h2 ?_
  refine zr_fr hM rfl rfl rfl ?_
  refine zr_fr hM rfl rfl rfl ?_
  refine zr_icf hM rfl rfl h3 ?_
  refine zr_fr hM rfl rfl rfl ?_
  refine zr_fr hM rfl rfl rfl ?_
  refine zr_ict hM rfl rfl h4 ?_
  refine zr_fr hM rfl rfl rfl ?_
  refine zr_putf (κ := (22, 0, 0)) hn hM rfl rfl rfl rfl rfl rfl rfl rfl ?_
  refine zr_fr hM rfl rfl rfl ?_
  refine zr_getf (κ := (22, 0, 0)) hn hM rfl rfl rfl rfl ?_
  refine zr_ift hM rfl rfl h5 ?_
  refine zr_fr hM rfl rfl rfl ?_
  refine zr_stat hM rfl rfl rfl rfl rfl rfl ?_
  refine zgo_ret rfl rfl c6_ ?_
  rw [Bool.and_true]
  refine zr_fr hM rfl rfl rfl ?_
  refine zr_fr hM rfl rfl rfl ?_
  refine zr_fr hM rfl rfl rfl ?_
  refine zr_getf (κ := (22, 0, 0)) hn hM rfl rfl rfl rfl ?_
  refine zr_fr hM rfl rfl rfl ?_
  refine zr_bald (κ := (25, 0, 0)) hn hM rfl rfl rfl z7 ?_
  refine zr_iff hM rfl rfl h8 ?_
  refine zr_fr hM rfl rfl rfl ?_
  refine zr_getf (κ := (22, 0, 0)) hn hM rfl rfl rfl rfl ?_
  refine zr_fr hM rfl rfl rfl ?_
  refine zr_fr hM rfl rfl rfl ?_
  refine zr_fr hM rfl rfl rfl ?_
  refine zr_iald (κ := (23, 0, 0)) hn hM rfl rfl rfl z9 ?_
  refine zr_fr hM rfl rfl rfl ?_
  refine zr_icf hM rfl rfl h10 ?_
  refine zr_fr hM rfl rfl rfl ?_
  refine zr_getf (κ := (22, 0, 0)) hn hM rfl rfl rfl rfl ?_
  refine zr_fr hM rfl rfl rfl ?_
  refine zr_fr hM rfl rfl rfl ?_
  refine zr_fr hM rfl rfl rfl ?_
  refine zr_iald (κ := (23, 0, 0)) hn hM rfl rfl rfl z11 ?_
  refine zr_fr hM rfl rfl rfl ?_
  refine zr_icf hM rfl rfl h12 ?_
  refine zr_fr hM rfl rfl rfl ?_
  refine zr_fr hM rfl rfl rfl ?_
  refine zr_putf (κ := (22, 0, 0)) hn hM rfl rfl rfl rfl rfl rfl rfl rfl ?_
  refine zr_fr hM rfl rfl rfl ?_
  refine zr_getf (κ := (22, 0, 0)) hn hM rfl rfl rfl rfl ?_
  refine zr_iff hM rfl rfl h13 ?_
  refine zr_fr hM rfl rfl rfl ?_
  exact zr_iret2 hM rfl rfl rfl
set_option maxHeartbeats 4000000 in
theorem s123_0_ffttffft {n L : Nat} {σ : Ks} {g : List Nat} {cl : Bool} {p1 : Int32} {p2 : Int32} {p3 : Int32} {p4 : Int32} {r1 : Int32} {r6 : Int32} {x7 : Nat} {x9 : Nat} {x11 : Nat} {x14 : Nat} {x15 : Nat} {x16 : Nat} {x17 : Nat} {x18 : Nat} {x19 : Nat} (hn : 2 ≤ n ∧ n ≤ 5) (c1_ : ZR 118 0 [.val (.ref (kad n (22, 0, 0))), .val (.int p1), .val (.int p2), .val (.int p3)] [] (khp n L σ g) true (.inl (some (.int r1)), khp n L σ g, true)) (h2 : zcnd .eq r1 0 = false) (h3 : zcnd .lt p4 (Int32.ofInt 1) = false) (h4 : zcnd .gt p4 ((Int8.ofInt 100).toInt32) = true) (h5 : zcnd .le ((kup σ 42 0 (Int32.ofInt 1)) 42 0) 0 = true) (c6_ : ZR 97 0 [.val (.int p1)] [] (khp n L (kup σ 42 0 (Int32.ofInt 1)) g) true (.inl (some (.int r6)), khp n L (kup σ 42 0 (Int32.ofInt 1)) g, true)) (z7 : zix p1 5 = some x7) (h8 : zcnd .ne ((kup σ 42 0 (Int32.ofInt 1)) 40 x7) 0 = false) (z9 : zix (r6 + p2) 820 = some x9) (h10 : zcnd .lt ((kup σ 42 0 (Int32.ofInt 1)) (20 + x9 / 164) (x9 % 164)) p3 = false) (z11 : zix (r6 + ((Int8.ofInt 19).toInt32)) 820 = some x11) (h12 : zcnd .ne ((kup σ 42 0 (Int32.ofInt 1)) (20 + x11 / 164) (x11 % 164)) ((Int8.ofInt 6).toInt32) = false) (h13 : zcnd .le ((kup (kup σ 42 0 (Int32.ofInt 1)) 42 0 (Int32.ofInt 2)) 42 0) 0 = true) (z14 : zix (r6 + ((Int8.ofInt 17).toInt32)) 820 = some x14) (z15 : zix ((r6 + ((Int8.ofInt 20).toInt32)) + ((Int32.ofInt 4) * ((kup (kup σ 42 0 (Int32.ofInt 1)) 42 0 (Int32.ofInt 2)) (20 + x11 / 164) (x11 % 164)))) 820 = some x15) (z16 : zix (((r6 + ((Int8.ofInt 20).toInt32)) + ((Int32.ofInt 4) * ((kup (kup σ 42 0 (Int32.ofInt 1)) 42 0 (Int32.ofInt 2)) (20 + x11 / 164) (x11 % 164)))) + (Int32.ofInt 1)) 820 = some x16) (z17 : zix (((r6 + ((Int8.ofInt 20).toInt32)) + ((Int32.ofInt 4) * ((kup (kup σ 42 0 (Int32.ofInt 1)) 42 0 (Int32.ofInt 2)) (20 + x11 / 164) (x11 % 164)))) + (Int32.ofInt 2)) 820 = some x17) (z18 : zix (r6 + ((Int8.ofInt 16).toInt32)) 820 = some x18) (z19 : zix (((r6 + ((Int8.ofInt 20).toInt32)) + ((Int32.ofInt 4) * ((kup (kup σ 42 0 (Int32.ofInt 1)) 42 0 (Int32.ofInt 2)) (20 + x11 / 164) (x11 % 164)))) + (Int32.ofInt 3)) 820 = some x19) : ZR 123 0 [.val (.ref (kad n (22, 0, 0))), .val (.int p1), .val (.int p2), .val (.int p3), .val (.int p4), .unset, .unset] [] (khp n L σ g) cl (.inl (some (.int ((kup (kup (kup (kup (kup (kup (kup (kup (kup σ 42 0 (Int32.ofInt 1)) 42 0 (Int32.ofInt 2)) (20 + x15 / 164) (x15 % 164) ((kup (kup σ 42 0 (Int32.ofInt 1)) 42 0 (Int32.ofInt 2)) (20 + x14 / 164) (x14 % 164))) (20 + x16 / 164) (x16 % 164) p2) (20 + x17 / 164) (x17 % 164) p3) (20 + x19 / 164) (x19 % 164) (((kup (kup (kup (kup (kup σ 42 0 (Int32.ofInt 1)) 42 0 (Int32.ofInt 2)) (20 + x15 / 164) (x15 % 164) ((kup (kup σ 42 0 (Int32.ofInt 1)) 42 0 (Int32.ofInt 2)) (20 + x14 / 164) (x14 % 164))) (20 + x16 / 164) (x16 % 164) p2) (20 + x17 / 164) (x17 % 164) p3) (20 + x18 / 164) (x18 % 164)) + p4)) (20 + x9 / 164) (x9 % 164) (((kup (kup (kup (kup (kup (kup σ 42 0 (Int32.ofInt 1)) 42 0 (Int32.ofInt 2)) (20 + x15 / 164) (x15 % 164) ((kup (kup σ 42 0 (Int32.ofInt 1)) 42 0 (Int32.ofInt 2)) (20 + x14 / 164) (x14 % 164))) (20 + x16 / 164) (x16 % 164) p2) (20 + x17 / 164) (x17 % 164) p3) (20 + x19 / 164) (x19 % 164) (((kup (kup (kup (kup (kup σ 42 0 (Int32.ofInt 1)) 42 0 (Int32.ofInt 2)) (20 + x15 / 164) (x15 % 164) ((kup (kup σ 42 0 (Int32.ofInt 1)) 42 0 (Int32.ofInt 2)) (20 + x14 / 164) (x14 % 164))) (20 + x16 / 164) (x16 % 164) p2) (20 + x17 / 164) (x17 % 164) p3) (20 + x18 / 164) (x18 % 164)) + p4)) (20 + x9 / 164) (x9 % 164)) - p3)) (20 + x11 / 164) (x11 % 164) (((kup (kup (kup (kup (kup (kup (kup σ 42 0 (Int32.ofInt 1)) 42 0 (Int32.ofInt 2)) (20 + x15 / 164) (x15 % 164) ((kup (kup σ 42 0 (Int32.ofInt 1)) 42 0 (Int32.ofInt 2)) (20 + x14 / 164) (x14 % 164))) (20 + x16 / 164) (x16 % 164) p2) (20 + x17 / 164) (x17 % 164) p3) (20 + x19 / 164) (x19 % 164) (((kup (kup (kup (kup (kup σ 42 0 (Int32.ofInt 1)) 42 0 (Int32.ofInt 2)) (20 + x15 / 164) (x15 % 164) ((kup (kup σ 42 0 (Int32.ofInt 1)) 42 0 (Int32.ofInt 2)) (20 + x14 / 164) (x14 % 164))) (20 + x16 / 164) (x16 % 164) p2) (20 + x17 / 164) (x17 % 164) p3) (20 + x18 / 164) (x18 % 164)) + p4)) (20 + x9 / 164) (x9 % 164) (((kup (kup (kup (kup (kup (kup σ 42 0 (Int32.ofInt 1)) 42 0 (Int32.ofInt 2)) (20 + x15 / 164) (x15 % 164) ((kup (kup σ 42 0 (Int32.ofInt 1)) 42 0 (Int32.ofInt 2)) (20 + x14 / 164) (x14 % 164))) (20 + x16 / 164) (x16 % 164) p2) (20 + x17 / 164) (x17 % 164) p3) (20 + x19 / 164) (x19 % 164) (((kup (kup (kup (kup (kup σ 42 0 (Int32.ofInt 1)) 42 0 (Int32.ofInt 2)) (20 + x15 / 164) (x15 % 164) ((kup (kup σ 42 0 (Int32.ofInt 1)) 42 0 (Int32.ofInt 2)) (20 + x14 / 164) (x14 % 164))) (20 + x16 / 164) (x16 % 164) p2) (20 + x17 / 164) (x17 % 164) p3) (20 + x18 / 164) (x18 % 164)) + p4)) (20 + x9 / 164) (x9 % 164)) - p3)) (20 + x11 / 164) (x11 % 164)) + (Int32.ofInt 1))) (20 + x14 / 164) (x14 % 164) (((kup (kup (kup (kup (kup (kup (kup (kup σ 42 0 (Int32.ofInt 1)) 42 0 (Int32.ofInt 2)) (20 + x15 / 164) (x15 % 164) ((kup (kup σ 42 0 (Int32.ofInt 1)) 42 0 (Int32.ofInt 2)) (20 + x14 / 164) (x14 % 164))) (20 + x16 / 164) (x16 % 164) p2) (20 + x17 / 164) (x17 % 164) p3) (20 + x19 / 164) (x19 % 164) (((kup (kup (kup (kup (kup σ 42 0 (Int32.ofInt 1)) 42 0 (Int32.ofInt 2)) (20 + x15 / 164) (x15 % 164) ((kup (kup σ 42 0 (Int32.ofInt 1)) 42 0 (Int32.ofInt 2)) (20 + x14 / 164) (x14 % 164))) (20 + x16 / 164) (x16 % 164) p2) (20 + x17 / 164) (x17 % 164) p3) (20 + x18 / 164) (x18 % 164)) + p4)) (20 + x9 / 164) (x9 % 164) (((kup (kup (kup (kup (kup (kup σ 42 0 (Int32.ofInt 1)) 42 0 (Int32.ofInt 2)) (20 + x15 / 164) (x15 % 164) ((kup (kup σ 42 0 (Int32.ofInt 1)) 42 0 (Int32.ofInt 2)) (20 + x14 / 164) (x14 % 164))) (20 + x16 / 164) (x16 % 164) p2) (20 + x17 / 164) (x17 % 164) p3) (20 + x19 / 164) (x19 % 164) (((kup (kup (kup (kup (kup σ 42 0 (Int32.ofInt 1)) 42 0 (Int32.ofInt 2)) (20 + x15 / 164) (x15 % 164) ((kup (kup σ 42 0 (Int32.ofInt 1)) 42 0 (Int32.ofInt 2)) (20 + x14 / 164) (x14 % 164))) (20 + x16 / 164) (x16 % 164) p2) (20 + x17 / 164) (x17 % 164) p3) (20 + x18 / 164) (x18 % 164)) + p4)) (20 + x9 / 164) (x9 % 164)) - p3)) (20 + x11 / 164) (x11 % 164) (((kup (kup (kup (kup (kup (kup (kup σ 42 0 (Int32.ofInt 1)) 42 0 (Int32.ofInt 2)) (20 + x15 / 164) (x15 % 164) ((kup (kup σ 42 0 (Int32.ofInt 1)) 42 0 (Int32.ofInt 2)) (20 + x14 / 164) (x14 % 164))) (20 + x16 / 164) (x16 % 164) p2) (20 + x17 / 164) (x17 % 164) p3) (20 + x19 / 164) (x19 % 164) (((kup (kup (kup (kup (kup σ 42 0 (Int32.ofInt 1)) 42 0 (Int32.ofInt 2)) (20 + x15 / 164) (x15 % 164) ((kup (kup σ 42 0 (Int32.ofInt 1)) 42 0 (Int32.ofInt 2)) (20 + x14 / 164) (x14 % 164))) (20 + x16 / 164) (x16 % 164) p2) (20 + x17 / 164) (x17 % 164) p3) (20 + x18 / 164) (x18 % 164)) + p4)) (20 + x9 / 164) (x9 % 164) (((kup (kup (kup (kup (kup (kup σ 42 0 (Int32.ofInt 1)) 42 0 (Int32.ofInt 2)) (20 + x15 / 164) (x15 % 164) ((kup (kup σ 42 0 (Int32.ofInt 1)) 42 0 (Int32.ofInt 2)) (20 + x14 / 164) (x14 % 164))) (20 + x16 / 164) (x16 % 164) p2) (20 + x17 / 164) (x17 % 164) p3) (20 + x19 / 164) (x19 % 164) (((kup (kup (kup (kup (kup σ 42 0 (Int32.ofInt 1)) 42 0 (Int32.ofInt 2)) (20 + x15 / 164) (x15 % 164) ((kup (kup σ 42 0 (Int32.ofInt 1)) 42 0 (Int32.ofInt 2)) (20 + x14 / 164) (x14 % 164))) (20 + x16 / 164) (x16 % 164) p2) (20 + x17 / 164) (x17 % 164) p3) (20 + x18 / 164) (x18 % 164)) + p4)) (20 + x9 / 164) (x9 % 164)) - p3)) (20 + x11 / 164) (x11 % 164)) + (Int32.ofInt 1))) (20 + x14 / 164) (x14 % 164)) + (Int32.ofInt 1))) (20 + x15 / 164) (x15 % 164)))), khp n L (kup (kup (kup (kup (kup (kup (kup (kup (kup σ 42 0 (Int32.ofInt 1)) 42 0 (Int32.ofInt 2)) (20 + x15 / 164) (x15 % 164) ((kup (kup σ 42 0 (Int32.ofInt 1)) 42 0 (Int32.ofInt 2)) (20 + x14 / 164) (x14 % 164))) (20 + x16 / 164) (x16 % 164) p2) (20 + x17 / 164) (x17 % 164) p3) (20 + x19 / 164) (x19 % 164) (((kup (kup (kup (kup (kup σ 42 0 (Int32.ofInt 1)) 42 0 (Int32.ofInt 2)) (20 + x15 / 164) (x15 % 164) ((kup (kup σ 42 0 (Int32.ofInt 1)) 42 0 (Int32.ofInt 2)) (20 + x14 / 164) (x14 % 164))) (20 + x16 / 164) (x16 % 164) p2) (20 + x17 / 164) (x17 % 164) p3) (20 + x18 / 164) (x18 % 164)) + p4)) (20 + x9 / 164) (x9 % 164) (((kup (kup (kup (kup (kup (kup σ 42 0 (Int32.ofInt 1)) 42 0 (Int32.ofInt 2)) (20 + x15 / 164) (x15 % 164) ((kup (kup σ 42 0 (Int32.ofInt 1)) 42 0 (Int32.ofInt 2)) (20 + x14 / 164) (x14 % 164))) (20 + x16 / 164) (x16 % 164) p2) (20 + x17 / 164) (x17 % 164) p3) (20 + x19 / 164) (x19 % 164) (((kup (kup (kup (kup (kup σ 42 0 (Int32.ofInt 1)) 42 0 (Int32.ofInt 2)) (20 + x15 / 164) (x15 % 164) ((kup (kup σ 42 0 (Int32.ofInt 1)) 42 0 (Int32.ofInt 2)) (20 + x14 / 164) (x14 % 164))) (20 + x16 / 164) (x16 % 164) p2) (20 + x17 / 164) (x17 % 164) p3) (20 + x18 / 164) (x18 % 164)) + p4)) (20 + x9 / 164) (x9 % 164)) - p3)) (20 + x11 / 164) (x11 % 164) (((kup (kup (kup (kup (kup (kup (kup σ 42 0 (Int32.ofInt 1)) 42 0 (Int32.ofInt 2)) (20 + x15 / 164) (x15 % 164) ((kup (kup σ 42 0 (Int32.ofInt 1)) 42 0 (Int32.ofInt 2)) (20 + x14 / 164) (x14 % 164))) (20 + x16 / 164) (x16 % 164) p2) (20 + x17 / 164) (x17 % 164) p3) (20 + x19 / 164) (x19 % 164) (((kup (kup (kup (kup (kup σ 42 0 (Int32.ofInt 1)) 42 0 (Int32.ofInt 2)) (20 + x15 / 164) (x15 % 164) ((kup (kup σ 42 0 (Int32.ofInt 1)) 42 0 (Int32.ofInt 2)) (20 + x14 / 164) (x14 % 164))) (20 + x16 / 164) (x16 % 164) p2) (20 + x17 / 164) (x17 % 164) p3) (20 + x18 / 164) (x18 % 164)) + p4)) (20 + x9 / 164) (x9 % 164) (((kup (kup (kup (kup (kup (kup σ 42 0 (Int32.ofInt 1)) 42 0 (Int32.ofInt 2)) (20 + x15 / 164) (x15 % 164) ((kup (kup σ 42 0 (Int32.ofInt 1)) 42 0 (Int32.ofInt 2)) (20 + x14 / 164) (x14 % 164))) (20 + x16 / 164) (x16 % 164) p2) (20 + x17 / 164) (x17 % 164) p3) (20 + x19 / 164) (x19 % 164) (((kup (kup (kup (kup (kup σ 42 0 (Int32.ofInt 1)) 42 0 (Int32.ofInt 2)) (20 + x15 / 164) (x15 % 164) ((kup (kup σ 42 0 (Int32.ofInt 1)) 42 0 (Int32.ofInt 2)) (20 + x14 / 164) (x14 % 164))) (20 + x16 / 164) (x16 % 164) p2) (20 + x17 / 164) (x17 % 164) p3) (20 + x18 / 164) (x18 % 164)) + p4)) (20 + x9 / 164) (x9 % 164)) - p3)) (20 + x11 / 164) (x11 % 164)) + (Int32.ofInt 1))) (20 + x14 / 164) (x14 % 164) (((kup (kup (kup (kup (kup (kup (kup (kup σ 42 0 (Int32.ofInt 1)) 42 0 (Int32.ofInt 2)) (20 + x15 / 164) (x15 % 164) ((kup (kup σ 42 0 (Int32.ofInt 1)) 42 0 (Int32.ofInt 2)) (20 + x14 / 164) (x14 % 164))) (20 + x16 / 164) (x16 % 164) p2) (20 + x17 / 164) (x17 % 164) p3) (20 + x19 / 164) (x19 % 164) (((kup (kup (kup (kup (kup σ 42 0 (Int32.ofInt 1)) 42 0 (Int32.ofInt 2)) (20 + x15 / 164) (x15 % 164) ((kup (kup σ 42 0 (Int32.ofInt 1)) 42 0 (Int32.ofInt 2)) (20 + x14 / 164) (x14 % 164))) (20 + x16 / 164) (x16 % 164) p2) (20 + x17 / 164) (x17 % 164) p3) (20 + x18 / 164) (x18 % 164)) + p4)) (20 + x9 / 164) (x9 % 164) (((kup (kup (kup (kup (kup (kup σ 42 0 (Int32.ofInt 1)) 42 0 (Int32.ofInt 2)) (20 + x15 / 164) (x15 % 164) ((kup (kup σ 42 0 (Int32.ofInt 1)) 42 0 (Int32.ofInt 2)) (20 + x14 / 164) (x14 % 164))) (20 + x16 / 164) (x16 % 164) p2) (20 + x17 / 164) (x17 % 164) p3) (20 + x19 / 164) (x19 % 164) (((kup (kup (kup (kup (kup σ 42 0 (Int32.ofInt 1)) 42 0 (Int32.ofInt 2)) (20 + x15 / 164) (x15 % 164) ((kup (kup σ 42 0 (Int32.ofInt 1)) 42 0 (Int32.ofInt 2)) (20 + x14 / 164) (x14 % 164))) (20 + x16 / 164) (x16 % 164) p2) (20 + x17 / 164) (x17 % 164) p3) (20 + x18 / 164) (x18 % 164)) + p4)) (20 + x9 / 164) (x9 % 164)) - p3)) (20 + x11 / 164) (x11 % 164) (((kup (kup (kup (kup (kup (kup (kup σ 42 0 (Int32.ofInt 1)) 42 0 (Int32.ofInt 2)) (20 + x15 / 164) (x15 % 164) ((kup (kup σ 42 0 (Int32.ofInt 1)) 42 0 (Int32.ofInt 2)) (20 + x14 / 164) (x14 % 164))) (20 + x16 / 164) (x16 % 164) p2) (20 + x17 / 164) (x17 % 164) p3) (20 + x19 / 164) (x19 % 164) (((kup (kup (kup (kup (kup σ 42 0 (Int32.ofInt 1)) 42 0 (Int32.ofInt 2)) (20 + x15 / 164) (x15 % 164) ((kup (kup σ 42 0 (Int32.ofInt 1)) 42 0 (Int32.ofInt 2)) (20 + x14 / 164) (x14 % 164))) (20 + x16 / 164) (x16 % 164) p2) (20 + x17 / 164) (x17 % 164) p3) (20 + x18 / 164) (x18 % 164)) + p4)) (20 + x9 / 164) (x9 % 164) (((kup (kup (kup (kup (kup (kup σ 42 0 (Int32.ofInt 1)) 42 0 (Int32.ofInt 2)) (20 + x15 / 164) (x15 % 164) ((kup (kup σ 42 0 (Int32.ofInt 1)) 42 0 (Int32.ofInt 2)) (20 + x14 / 164) (x14 % 164))) (20 + x16 / 164) (x16 % 164) p2) (20 + x17 / 164) (x17 % 164) p3) (20 + x19 / 164) (x19 % 164) (((kup (kup (kup (kup (kup σ 42 0 (Int32.ofInt 1)) 42 0 (Int32.ofInt 2)) (20 + x15 / 164) (x15 % 164) ((kup (kup σ 42 0 (Int32.ofInt 1)) 42 0 (Int32.ofInt 2)) (20 + x14 / 164) (x14 % 164))) (20 + x16 / 164) (x16 % 164) p2) (20 + x17 / 164) (x17 % 164) p3) (20 + x18 / 164) (x18 % 164)) + p4)) (20 + x9 / 164) (x9 % 164)) - p3)) (20 + x11 / 164) (x11 % 164)) + (Int32.ofInt 1))) (20 + x14 / 164) (x14 % 164)) + (Int32.ofInt 1))) (g), false) := by
  have hM : zmi[123]? = some _ := rfl
  have l7 := (zix_some z7).2.2
  have l9 := (zix_some z9).2.2
  have l11 := (zix_some z11).2.2
  have l14 := (zix_some z14).2.2
  have l15 := (zix_some z15).2.2
  have l16 := (zix_some z16).2.2
  have l17 := (zix_some z17).2.2
  have l18 := (zix_some z18).2.2
  have l19 := (zix_some z19).2.2
  refine zr_fr hM rfl rfl rfl ?_
  refine zr_fr hM rfl rfl rfl ?_
  refine zr_fr hM rfl rfl rfl ?_
  refine zr_fr hM rfl rfl rfl ?_
  refine zr_fr hM rfl rfl rfl ?_
  refine zr_virt (κ := (22, 0, 0)) hn hM rfl rfl rfl rfl rfl rfl rfl rfl rfl ?_
  refine zgo_ret rfl rfl c1_ ?_
  rw [Bool.and_true]
  refine zr_iff hM rfl rfl h2 ?_
  refine zr_fr hM rfl rfl rfl ?_
  refine zr_fr hM rfl rfl rfl ?_
  refine zr_icf hM rfl rfl h3 ?_
  refine zr_fr hM rfl rfl rfl ?_
  refine zr_fr hM rfl rfl rfl ?_
  refine zr_ict hM rfl rfl h4 ?_
  refine zr_fr hM rfl rfl rfl ?_
  refine zr_putf (κ := (22, 0, 0)) hn hM rfl rfl rfl rfl rfl rfl rfl rfl ?_
  refine zr_fr hM rfl rfl rfl ?_
  refine zr_getf (κ := (22, 0, 0)) hn hM rfl rfl rfl rfl ?_
  refine zr_ift hM rfl rfl h5 ?_
  refine zr_fr hM rfl rfl rfl ?_
  refine zr_stat hM rfl rfl rfl rfl rfl rfl ?_
  refine zgo_ret rfl rfl c6_ ?_
  rw [Bool.and_true]
  refine zr_fr hM rfl rfl rfl ?_
  refine zr_fr hM rfl rfl rfl ?_
  refine zr_fr hM rfl rfl rfl ?_
  refine zr_getf (κ := (22, 0, 0)) hn hM rfl rfl rfl rfl ?_
  refine zr_fr hM rfl rfl rfl ?_
  refine zr_bald (κ := (25, 0, 0)) hn hM rfl rfl rfl z7 ?_
  refine zr_iff hM rfl rfl h8 ?_
  refine zr_fr hM rfl rfl rfl ?_
  refine zr_getf (κ := (22, 0, 0)) hn hM rfl rfl rfl rfl ?_
  refine zr_fr hM rfl rfl rfl ?_
  refine zr_fr hM rfl rfl rfl ?_
  refine zr_fr hM rfl rfl rfl ?_
  refine zr_iald (κ := (23, 0, 0)) hn hM rfl rfl rfl z9 ?_
  refine zr_fr hM rfl rfl rfl ?_
  refine zr_icf hM rfl rfl h10 ?_
  refine zr_fr hM rfl rfl rfl ?_
  refine zr_getf (κ := (22, 0, 0)) hn hM rfl rfl rfl rfl ?_
  refine zr_fr hM rfl rfl rfl ?_
  refine zr_fr hM rfl rfl rfl ?_
  refine zr_fr hM rfl rfl rfl ?_
  refine zr_iald (κ := (23, 0, 0)) hn hM rfl rfl rfl z11 ?_
  refine zr_fr hM rfl rfl rfl ?_
  refine zr_icf hM rfl rfl h12 ?_
  refine zr_fr hM rfl rfl rfl ?_
  refine zr_fr hM rfl rfl rfl ?_
  refine zr_putf (κ := (22, 0, 0)) hn hM rfl rfl rfl rfl rfl rfl rfl rfl ?_
  refine zr_fr hM rfl rfl rfl ?_
  refine zr_getf (κ := (22, 0, 0)) hn hM rfl rfl rfl rfl ?_
  refine zr_ift hM rfl rfl h13 ?_
  refine zr_fr hM rfl rfl rfl ?_
  refine zr_fr hM rfl rfl rfl ?_
  refine zr_fr hM rfl rfl rfl ?_
  refine zr_fr hM rfl rfl rfl ?_
  refine zr_fr hM rfl rfl rfl ?_
  refine zr_getf (κ := (22, 0, 0)) hn hM rfl rfl rfl rfl ?_
  refine zr_fr hM rfl rfl rfl ?_
  refine zr_fr hM rfl rfl rfl ?_
  refine zr_fr hM rfl rfl rfl ?_
  refine zr_iald (κ := (23, 0, 0)) hn hM rfl rfl rfl z11 ?_
  refine zr_fr hM rfl rfl rfl ?_
  refine zr_fr hM rfl rfl rfl ?_
  refine zr_fr hM rfl rfl rfl ?_
  refine zr_fr hM rfl rfl rfl ?_
  refine zr_getf (κ := (22, 0, 0)) hn hM rfl rfl rfl rfl ?_
  refine zr_fr hM rfl rfl rfl ?_
  refine zr_fr hM rfl rfl rfl ?_
  refine zr_getf (κ := (22, 0, 0)) hn hM rfl rfl rfl rfl ?_
  refine zr_fr hM rfl rfl rfl ?_
  refine zr_fr hM rfl rfl rfl ?_
  refine zr_fr hM rfl rfl rfl ?_
  refine zr_iald (κ := (23, 0, 0)) hn hM rfl rfl rfl z14 ?_
  refine zr_iast (κ := (23, 0, 0)) hn hM rfl rfl rfl rfl z15 rfl ?_
  refine zr_fr hM rfl rfl rfl ?_
  refine zr_getf (κ := (22, 0, 0)) hn hM rfl rfl rfl rfl ?_
  refine zr_fr hM rfl rfl rfl ?_
  refine zr_fr hM rfl rfl rfl ?_
  refine zr_fr hM rfl rfl rfl ?_
  refine zr_fr hM rfl rfl rfl ?_
  refine zr_iast (κ := (23, 0, 0)) hn hM rfl rfl rfl rfl z16 rfl ?_
  refine zr_fr hM rfl rfl rfl ?_
  refine zr_getf (κ := (22, 0, 0)) hn hM rfl rfl rfl rfl ?_
  refine zr_fr hM rfl rfl rfl ?_
  refine zr_fr hM rfl rfl rfl ?_
  refine zr_fr hM rfl rfl rfl ?_
  refine zr_fr hM rfl rfl rfl ?_
  refine zr_iast (κ := (23, 0, 0)) hn hM rfl rfl rfl rfl z17 rfl ?_
  refine zr_fr hM rfl rfl rfl ?_
  refine zr_getf (κ := (22, 0, 0)) hn hM rfl rfl rfl rfl ?_
  refine zr_fr hM rfl rfl rfl ?_
  refine zr_fr hM rfl rfl rfl ?_
  refine zr_fr hM rfl rfl rfl ?_
  refine zr_fr hM rfl rfl rfl ?_
  refine zr_getf (κ := (22, 0, 0)) hn hM rfl rfl rfl rfl ?_
  refine zr_fr hM rfl rfl rfl ?_
  refine zr_fr hM rfl rfl rfl ?_
  refine zr_fr hM rfl rfl rfl ?_
  refine zr_iald (κ := (23, 0, 0)) hn hM rfl rfl rfl z18 ?_
  refine zr_fr hM rfl rfl rfl ?_
  refine zr_fr hM rfl rfl rfl ?_
  refine zr_iast (κ := (23, 0, 0)) hn hM rfl rfl rfl rfl z19 rfl ?_
  refine zr_fr hM rfl rfl rfl ?_
  refine zr_getf (κ := (22, 0, 0)) hn hM rfl rfl rfl rfl ?_
  refine zr_fr hM rfl rfl rfl ?_
  refine zr_fr hM rfl rfl rfl ?_
  refine zr_fr hM rfl rfl rfl ?_
  refine zr_fr hM rfl rfl rfl ?_
  refine zr_iald (κ := (23, 0, 0)) hn hM rfl rfl rfl z9 ?_
  refine zr_fr hM rfl rfl rfl ?_
  refine zr_fr hM rfl rfl rfl ?_
  refine zr_iast (κ := (23, 0, 0)) hn hM rfl rfl rfl rfl z9 rfl ?_
  refine zr_fr hM rfl rfl rfl ?_
  refine zr_getf (κ := (22, 0, 0)) hn hM rfl rfl rfl rfl ?_
  refine zr_fr hM rfl rfl rfl ?_
  refine zr_fr hM rfl rfl rfl ?_
  refine zr_fr hM rfl rfl rfl ?_
  refine zr_fr hM rfl rfl rfl ?_
  refine zr_iald (κ := (23, 0, 0)) hn hM rfl rfl rfl z11 ?_
  refine zr_fr hM rfl rfl rfl ?_
  refine zr_fr hM rfl rfl rfl ?_
  refine zr_iast (κ := (23, 0, 0)) hn hM rfl rfl rfl rfl z11 rfl ?_
  refine zr_fr hM rfl rfl rfl ?_
  refine zr_getf (κ := (22, 0, 0)) hn hM rfl rfl rfl rfl ?_
  refine zr_fr hM rfl rfl rfl ?_
  refine zr_fr hM rfl rfl rfl ?_
  refine zr_fr hM rfl rfl rfl ?_
  refine zr_fr hM rfl rfl rfl ?_
  refine zr_iald (κ := (23, 0, 0)) hn hM rfl rfl rfl z14 ?_
  refine zr_fr hM rfl rfl rfl ?_
  refine zr_fr hM rfl rfl rfl ?_
  refine zr_iast (κ := (23, 0, 0)) hn hM rfl rfl rfl rfl z14 rfl ?_
  refine zr_fr hM rfl rfl rfl ?_
  refine zr_getf (κ := (22, 0, 0)) hn hM rfl rfl rfl rfl ?_
  refine zr_fr hM rfl rfl rfl ?_
  refine zr_iald (κ := (23, 0, 0)) hn hM rfl rfl rfl z15 ?_
  exact zr_iret2 hM rfl rfl rfl
set_option maxHeartbeats 4000000 in
theorem s123_0_ffttfftf {n L : Nat} {σ : Ks} {g : List Nat} {cl : Bool} {p1 : Int32} {p2 : Int32} {p3 : Int32} {p4 : Int32} {r1 : Int32} {r6 : Int32} {x7 : Nat} {x9 : Nat} {x11 : Nat} (hn : 2 ≤ n ∧ n ≤ 5) (c1_ : ZR 118 0 [.val (.ref (kad n (22, 0, 0))), .val (.int p1), .val (.int p2), .val (.int p3)] [] (khp n L σ g) true (.inl (some (.int r1)), khp n L σ g, true)) (h2 : zcnd .eq r1 0 = false) (h3 : zcnd .lt p4 (Int32.ofInt 1) = false) (h4 : zcnd .gt p4 ((Int8.ofInt 100).toInt32) = true) (h5 : zcnd .le ((kup σ 42 0 (Int32.ofInt 1)) 42 0) 0 = true) (c6_ : ZR 97 0 [.val (.int p1)] [] (khp n L (kup σ 42 0 (Int32.ofInt 1)) g) true (.inl (some (.int r6)), khp n L (kup σ 42 0 (Int32.ofInt 1)) g, true)) (z7 : zix p1 5 = some x7) (h8 : zcnd .ne ((kup σ 42 0 (Int32.ofInt 1)) 40 x7) 0 = false) (z9 : zix (r6 + p2) 820 = some x9) (h10 : zcnd .lt ((kup σ 42 0 (Int32.ofInt 1)) (20 + x9 / 164) (x9 % 164)) p3 = false) (z11 : zix (r6 + ((Int8.ofInt 19).toInt32)) 820 = some x11) (h12 : zcnd .ne ((kup σ 42 0 (Int32.ofInt 1)) (20 + x11 / 164) (x11 % 164)) ((Int8.ofInt 6).toInt32) = true) (h13 : zcnd .le ((kup (kup σ 42 0 (Int32.ofInt 1)) 42 0 (Int32.ofInt 0)) 42 0) 0 = false) : ZR 123 0 [.val (.ref (kad n (22, 0, 0))), .val (.int p1), .val (.int p2), .val (.int p3), .val (.int p4), .unset, .unset] [] (khp n L σ g) cl (.inl (some (.int (Int32.ofInt 0))), khp n L (kup (kup σ 42 0 (Int32.ofInt 1)) 42 0 (Int32.ofInt 0)) (g), false) := by
  have hM : zmi[123]? = some _ := rfl
  have l7 := (zix_some z7).2.2
  have l9 := (zix_some z9).2.2
  have l11 := (zix_some z11).2.2
  refine zr_fr hM rfl rfl rfl ?_
  refine zr_fr hM rfl rfl rfl ?_
  refine zr_fr hM rfl rfl rfl ?_
  refine zr_fr hM rfl rfl rfl ?_
  refine zr_fr hM rfl rfl rfl ?_
  refine zr_virt (κ := (22, 0, 0)) hn hM rfl rfl rfl rfl rfl rfl rfl rfl rfl ?_
  refine zgo_ret rfl rfl c1_ ?_
  rw [Bool.and_true]
  refine zr_iff hM rfl rfl h2 ?_
  refine zr_fr hM rfl rfl rfl ?_
  refine zr_fr hM rfl rfl rfl ?_
  refine zr_icf hM rfl rfl h3 ?_
  refine zr_fr hM rfl rfl rfl ?_
  refine zr_fr hM rfl rfl rfl ?_
  refine zr_ict hM rfl rfl h4 ?_
  refine zr_fr hM rfl rfl rfl ?_
  refine zr_putf (κ := (22, 0, 0)) hn hM rfl rfl rfl rfl rfl rfl rfl rfl ?_
  refine zr_fr hM rfl rfl rfl ?_
  refine zr_getf (κ := (22, 0, 0)) hn hM rfl rfl rfl rfl ?_
  refine zr_ift hM rfl rfl h5 ?_
  refine zr_fr hM rfl rfl rfl ?_
  refine zr_stat hM rfl rfl rfl rfl rfl rfl ?_
  refine zgo_ret rfl rfl c6_ ?_
  rw [Bool.and_true]
  refine zr_fr hM rfl rfl rfl ?_
  refine zr_fr hM rfl rfl rfl ?_
  refine zr_fr hM rfl rfl rfl ?_
  refine zr_getf (κ := (22, 0, 0)) hn hM rfl rfl rfl rfl ?_
  refine zr_fr hM rfl rfl rfl ?_
  refine zr_bald (κ := (25, 0, 0)) hn hM rfl rfl rfl z7 ?_
  refine zr_iff hM rfl rfl h8 ?_
  refine zr_fr hM rfl rfl rfl ?_
  refine zr_getf (κ := (22, 0, 0)) hn hM rfl rfl rfl rfl ?_
  refine zr_fr hM rfl rfl rfl ?_
  refine zr_fr hM rfl rfl rfl ?_
  refine zr_fr hM rfl rfl rfl ?_
  refine zr_iald (κ := (23, 0, 0)) hn hM rfl rfl rfl z9 ?_
  refine zr_fr hM rfl rfl rfl ?_
  refine zr_icf hM rfl rfl h10 ?_
  refine zr_fr hM rfl rfl rfl ?_
  refine zr_getf (κ := (22, 0, 0)) hn hM rfl rfl rfl rfl ?_
  refine zr_fr hM rfl rfl rfl ?_
  refine zr_fr hM rfl rfl rfl ?_
  refine zr_fr hM rfl rfl rfl ?_
  refine zr_iald (κ := (23, 0, 0)) hn hM rfl rfl rfl z11 ?_
  refine zr_fr hM rfl rfl rfl ?_
  refine zr_ict hM rfl rfl h12 ?_
  refine zr_fr hM rfl rfl rfl ?_
  refine zr_putf (κ := (22, 0, 0)) hn hM rfl rfl rfl rfl rfl rfl rfl rfl ?_
  refine zr_fr hM rfl rfl rfl ?_
  refine zr_getf (κ := (22, 0, 0)) hn hM rfl rfl rfl rfl ?_
  refine zr_iff hM rfl rfl h13 ?_
  refine zr_fr hM rfl rfl rfl ?_
  exact zr_iret2 hM rfl rfl rfl
set_option maxHeartbeats 4000000 in
theorem s123_0_ffttfftt {n L : Nat} {σ : Ks} {g : List Nat} {cl : Bool} {p1 : Int32} {p2 : Int32} {p3 : Int32} {p4 : Int32} {r1 : Int32} {r6 : Int32} {x7 : Nat} {x9 : Nat} {x11 : Nat} {x14 : Nat} {x15 : Nat} {x16 : Nat} {x17 : Nat} {x18 : Nat} {x19 : Nat} (hn : 2 ≤ n ∧ n ≤ 5) (c1_ : ZR 118 0 [.val (.ref (kad n (22, 0, 0))), .val (.int p1), .val (.int p2), .val (.int p3)] [] (khp n L σ g) true (.inl (some (.int r1)), khp n L σ g, true)) (h2 : zcnd .eq r1 0 = false) (h3 : zcnd .lt p4 (Int32.ofInt 1) = false) (h4 : zcnd .gt p4 ((Int8.ofInt 100).toInt32) = true) (h5 : zcnd .le ((kup σ 42 0 (Int32.ofInt 1)) 42 0) 0 = true) (c6_ : ZR 97 0 [.val (.int p1)] [] (khp n L (kup σ 42 0 (Int32.ofInt 1)) g) true (.inl (some (.int r6)), khp n L (kup σ 42 0 (Int32.ofInt 1)) g, true)) (z7 : zix p1 5 = some x7) (h8 : zcnd .ne ((kup σ 42 0 (Int32.ofInt 1)) 40 x7) 0 = false) (z9 : zix (r6 + p2) 820 = some x9) (h10 : zcnd .lt ((kup σ 42 0 (Int32.ofInt 1)) (20 + x9 / 164) (x9 % 164)) p3 = false) (z11 : zix (r6 + ((Int8.ofInt 19).toInt32)) 820 = some x11) (h12 : zcnd .ne ((kup σ 42 0 (Int32.ofInt 1)) (20 + x11 / 164) (x11 % 164)) ((Int8.ofInt 6).toInt32) = true) (h13 : zcnd .le ((kup (kup σ 42 0 (Int32.ofInt 1)) 42 0 (Int32.ofInt 0)) 42 0) 0 = true) (z14 : zix (r6 + ((Int8.ofInt 17).toInt32)) 820 = some x14) (z15 : zix ((r6 + ((Int8.ofInt 20).toInt32)) + ((Int32.ofInt 4) * ((kup (kup σ 42 0 (Int32.ofInt 1)) 42 0 (Int32.ofInt 0)) (20 + x11 / 164) (x11 % 164)))) 820 = some x15) (z16 : zix (((r6 + ((Int8.ofInt 20).toInt32)) + ((Int32.ofInt 4) * ((kup (kup σ 42 0 (Int32.ofInt 1)) 42 0 (Int32.ofInt 0)) (20 + x11 / 164) (x11 % 164)))) + (Int32.ofInt 1)) 820 = some x16) (z17 : zix (((r6 + ((Int8.ofInt 20).toInt32)) + ((Int32.ofInt 4) * ((kup (kup σ 42 0 (Int32.ofInt 1)) 42 0 (Int32.ofInt 0)) (20 + x11 / 164) (x11 % 164)))) + (Int32.ofInt 2)) 820 = some x17) (z18 : zix (r6 + ((Int8.ofInt 16).toInt32)) 820 = some x18) (z19 : zix (((r6 + ((Int8.ofInt 20).toInt32)) + ((Int32.ofInt 4) * ((kup (kup σ 42 0 (Int32.ofInt 1)) 42 0 (Int32.ofInt 0)) (20 + x11 / 164) (x11 % 164)))) + (Int32.ofInt 3)) 820 = some x19) : ZR 123 0 [.val (.ref (kad n (22, 0, 0))), .val (.int p1), .val (.int p2), .val (.int p3), .val (.int p4), .unset, .unset] [] (khp n L σ g) cl (.inl (some (.int ((kup (kup (kup (kup (kup (kup (kup (kup (kup σ 42 0 (Int32.ofInt 1)) 42 0 (Int32.ofInt 0)) (20 + x15 / 164) (x15 % 164) ((kup (kup σ 42 0 (Int32.ofInt 1)) 42 0 (Int32.ofInt 0)) (20 + x14 / 164) (x14 % 164))) (20 + x16 / 164) (x16 % 164) p2) (20 + x17 / 164) (x17 % 164) p3) (20 + x19 / 164) (x19 % 164) (((kup (kup (kup (kup (kup σ 42 0 (Int32.ofInt 1)) 42 0 (Int32.ofInt 0)) (20 + x15 / 164) (x15 % 164) ((kup (kup σ 42 0 (Int32.ofInt 1)) 42 0 (Int32.ofInt 0)) (20 + x14 / 164) (x14 % 164))) (20 + x16 / 164) (x16 % 164) p2) (20 + x17 / 164) (x17 % 164) p3) (20 + x18 / 164) (x18 % 164)) + p4)) (20 + x9 / 164) (x9 % 164) (((kup (kup (kup (kup (kup (kup σ 42 0 (Int32.ofInt 1)) 42 0 (Int32.ofInt 0)) (20 + x15 / 164) (x15 % 164) ((kup (kup σ 42 0 (Int32.ofInt 1)) 42 0 (Int32.ofInt 0)) (20 + x14 / 164) (x14 % 164))) (20 + x16 / 164) (x16 % 164) p2) (20 + x17 / 164) (x17 % 164) p3) (20 + x19 / 164) (x19 % 164) (((kup (kup (kup (kup (kup σ 42 0 (Int32.ofInt 1)) 42 0 (Int32.ofInt 0)) (20 + x15 / 164) (x15 % 164) ((kup (kup σ 42 0 (Int32.ofInt 1)) 42 0 (Int32.ofInt 0)) (20 + x14 / 164) (x14 % 164))) (20 + x16 / 164) (x16 % 164) p2) (20 + x17 / 164) (x17 % 164) p3) (20 + x18 / 164) (x18 % 164)) + p4)) (20 + x9 / 164) (x9 % 164)) - p3)) (20 + x11 / 164) (x11 % 164) (((kup (kup (kup (kup (kup (kup (kup σ 42 0 (Int32.ofInt 1)) 42 0 (Int32.ofInt 0)) (20 + x15 / 164) (x15 % 164) ((kup (kup σ 42 0 (Int32.ofInt 1)) 42 0 (Int32.ofInt 0)) (20 + x14 / 164) (x14 % 164))) (20 + x16 / 164) (x16 % 164) p2) (20 + x17 / 164) (x17 % 164) p3) (20 + x19 / 164) (x19 % 164) (((kup (kup (kup (kup (kup σ 42 0 (Int32.ofInt 1)) 42 0 (Int32.ofInt 0)) (20 + x15 / 164) (x15 % 164) ((kup (kup σ 42 0 (Int32.ofInt 1)) 42 0 (Int32.ofInt 0)) (20 + x14 / 164) (x14 % 164))) (20 + x16 / 164) (x16 % 164) p2) (20 + x17 / 164) (x17 % 164) p3) (20 + x18 / 164) (x18 % 164)) + p4)) (20 + x9 / 164) (x9 % 164) (((kup (kup (kup (kup (kup (kup σ 42 0 (Int32.ofInt 1)) 42 0 (Int32.ofInt 0)) (20 + x15 / 164) (x15 % 164) ((kup (kup σ 42 0 (Int32.ofInt 1)) 42 0 (Int32.ofInt 0)) (20 + x14 / 164) (x14 % 164))) (20 + x16 / 164) (x16 % 164) p2) (20 + x17 / 164) (x17 % 164) p3) (20 + x19 / 164) (x19 % 164) (((kup (kup (kup (kup (kup σ 42 0 (Int32.ofInt 1)) 42 0 (Int32.ofInt 0)) (20 + x15 / 164) (x15 % 164) ((kup (kup σ 42 0 (Int32.ofInt 1)) 42 0 (Int32.ofInt 0)) (20 + x14 / 164) (x14 % 164))) (20 + x16 / 164) (x16 % 164) p2) (20 + x17 / 164) (x17 % 164) p3) (20 + x18 / 164) (x18 % 164)) + p4)) (20 + x9 / 164) (x9 % 164)) - p3)) (20 + x11 / 164) (x11 % 164)) + (Int32.ofInt 1))) (20 + x14 / 164) (x14 % 164) (((kup (kup (kup (kup (kup (kup (kup (kup σ 42 0 (Int32.ofInt 1)) 42 0 (Int32.ofInt 0)) (20 + x15 / 164) (x15 % 164) ((kup (kup σ 42 0 (Int32.ofInt 1)) 42 0 (Int32.ofInt 0)) (20 + x14 / 164) (x14 % 164))) (20 + x16 / 164) (x16 % 164) p2) (20 + x17 / 164) (x17 % 164) p3) (20 + x19 / 164) (x19 % 164) (((kup (kup (kup (kup (kup σ 42 0 (Int32.ofInt 1)) 42 0 (Int32.ofInt 0)) (20 + x15 / 164) (x15 % 164) ((kup (kup σ 42 0 (Int32.ofInt 1)) 42 0 (Int32.ofInt 0)) (20 + x14 / 164) (x14 % 164))) (20 + x16 / 164) (x16 % 164) p2) (20 + x17 / 164) (x17 % 164) p3) (20 + x18 / 164) (x18 % 164)) + p4)) (20 + x9 / 164) (x9 % 164) (((kup (kup (kup (kup (kup (kup σ 42 0 (Int32.ofInt 1)) 42 0 (Int32.ofInt 0)) (20 + x15 / 164) (x15 % 164) ((kup (kup σ 42 0 (Int32.ofInt 1)) 42 0 (Int32.ofInt 0)) (20 + x14 / 164) (x14 % 164))) (20 + x16 / 164) (x16 % 164) p2) (20 + x17 / 164) (x17 % 164) p3) (20 + x19 / 164) (x19 % 164) (((kup (kup (kup (kup (kup σ 42 0 (Int32.ofInt 1)) 42 0 (Int32.ofInt 0)) (20 + x15 / 164) (x15 % 164) ((kup (kup σ 42 0 (Int32.ofInt 1)) 42 0 (Int32.ofInt 0)) (20 + x14 / 164) (x14 % 164))) (20 + x16 / 164) (x16 % 164) p2) (20 + x17 / 164) (x17 % 164) p3) (20 + x18 / 164) (x18 % 164)) + p4)) (20 + x9 / 164) (x9 % 164)) - p3)) (20 + x11 / 164) (x11 % 164) (((kup (kup (kup (kup (kup (kup (kup σ 42 0 (Int32.ofInt 1)) 42 0 (Int32.ofInt 0)) (20 + x15 / 164) (x15 % 164) ((kup (kup σ 42 0 (Int32.ofInt 1)) 42 0 (Int32.ofInt 0)) (20 + x14 / 164) (x14 % 164))) (20 + x16 / 164) (x16 % 164) p2) (20 + x17 / 164) (x17 % 164) p3) (20 + x19 / 164) (x19 % 164) (((kup (kup (kup (kup (kup σ 42 0 (Int32.ofInt 1)) 42 0 (Int32.ofInt 0)) (20 + x15 / 164) (x15 % 164) ((kup (kup σ 42 0 (Int32.ofInt 1)) 42 0 (Int32.ofInt 0)) (20 + x14 / 164) (x14 % 164))) (20 + x16 / 164) (x16 % 164) p2) (20 + x17 / 164) (x17 % 164) p3) (20 + x18 / 164) (x18 % 164)) + p4)) (20 + x9 / 164) (x9 % 164) (((kup (kup (kup (kup (kup (kup σ 42 0 (Int32.ofInt 1)) 42 0 (Int32.ofInt 0)) (20 + x15 / 164) (x15 % 164) ((kup (kup σ 42 0 (Int32.ofInt 1)) 42 0 (Int32.ofInt 0)) (20 + x14 / 164) (x14 % 164))) (20 + x16 / 164) (x16 % 164) p2) (20 + x17 / 164) (x17 % 164) p3) (20 + x19 / 164) (x19 % 164) (((kup (kup (kup (kup (kup σ 42 0 (Int32.ofInt 1)) 42 0 (Int32.ofInt 0)) (20 + x15 / 164) (x15 % 164) ((kup (kup σ 42 0 (Int32.ofInt 1)) 42 0 (Int32.ofInt 0)) (20 + x14 / 164) (x14 % 164))) (20 + x16 / 164) (x16 % 164) p2) (20 + x17 / 164) (x17 % 164) p3) (20 + x18 / 164) (x18 % 164)) + p4)) (20 + x9 / 164) (x9 % 164)) - p3)) (20 + x11 / 164) (x11 % 164)) + (Int32.ofInt 1))) (20 + x14 / 164) (x14 % 164)) + (Int32.ofInt 1))) (20 + x15 / 164) (x15 % 164)))), khp n L (kup (kup (kup (kup (kup (kup (kup (kup (kup σ 42 0 (Int32.ofInt 1)) 42 0 (Int32.ofInt 0)) (20 + x15 / 164) (x15 % 164) ((kup (kup σ 42 0 (Int32.ofInt 1)) 42 0 (Int32.ofInt 0)) (20 + x14 / 164) (x14 % 164))) (20 + x16 / 164) (x16 % 164) p2) (20 + x17 / 164) (x17 % 164) p3) (20 + x19 / 164) (x19 % 164) (((kup (kup (kup (kup (kup σ 42 0 (Int32.ofInt 1)) 42 0 (Int32.ofInt 0)) (20 + x15 / 164) (x15 % 164) ((kup (kup σ 42 0 (Int32.ofInt 1)) 42 0 (Int32.ofInt 0)) (20 + x14 / 164) (x14 % 164))) (20 + x16 / 164) (x16 % 164) p2) (20 + x17 / 164) (x17 % 164) p3) (20 + x18 / 164) (x18 % 164)) + p4)) (20 + x9 / 164) (x9 % 164) (((kup (kup (kup (kup (kup (kup σ 42 0 (Int32.ofInt 1)) 42 0 (Int32.ofInt 0)) (20 + x15 / 164) (x15 % 164) ((kup (kup σ 42 0 (Int32.ofInt 1)) 42 0 (Int32.ofInt 0)) (20 + x14 / 164) (x14 % 164))) (20 + x16 / 164) (x16 % 164) p2) (20 + x17 / 164) (x17 % 164) p3) (20 + x19 / 164) (x19 % 164) (((kup (kup (kup (kup (kup σ 42 0 (Int32.ofInt 1)) 42 0 (Int32.ofInt 0)) (20 + x15 / 164) (x15 % 164) ((kup (kup σ 42 0 (Int32.ofInt 1)) 42 0 (Int32.ofInt 0)) (20 + x14 / 164) (x14 % 164))) (20 + x16 / 164) (x16 % 164) p2) (20 + x17 / 164) (x17 % 164) p3) (20 + x18 / 164) (x18 % 164)) + p4)) (20 + x9 / 164) (x9 % 164)) - p3)) (20 + x11 / 164) (x11 % 164) (((kup (kup (kup (kup (kup (kup (kup σ 42 0 (Int32.ofInt 1)) 42 0 (Int32.ofInt 0)) (20 + x15 / 164) (x15 % 164) ((kup (kup σ 42 0 (Int32.ofInt 1)) 42 0 (Int32.ofInt 0)) (20 + x14 / 164) (x14 % 164))) (20 + x16 / 164) (x16 % 164) p2) (20 + x17 / 164) (x17 % 164) p3) (20 + x19 / 164) (x19 % 164) (((kup (kup (kup (kup (kup σ 42 0 (Int32.ofInt 1)) 42 0 (Int32.ofInt 0)) (20 + x15 / 164) (x15 % 164) ((kup (kup σ 42 0 (Int32.ofInt 1)) 42 0 (Int32.ofInt 0)) (20 + x14 / 164) (x14 % 164))) (20 + x16 / 164) (x16 % 164) p2) (20 + x17 / 164) (x17 % 164) p3) (20 + x18 / 164) (x18 % 164)) + p4)) (20 + x9 / 164) (x9 % 164) (((kup (kup (kup (kup (kup (kup σ 42 0 (Int32.ofInt 1)) 42 0 (Int32.ofInt 0)) (20 + x15 / 164) (x15 % 164) ((kup (kup σ 42 0 (Int32.ofInt 1)) 42 0 (Int32.ofInt 0)) (20 + x14 / 164) (x14 % 164))) (20 + x16 / 164) (x16 % 164) p2) (20 + x17 / 164) (x17 % 164) p3) (20 + x19 / 164) (x19 % 164) (((kup (kup (kup (kup (kup σ 42 0 (Int32.ofInt 1)) 42 0 (Int32.ofInt 0)) (20 + x15 / 164) (x15 % 164) ((kup (kup σ 42 0 (Int32.ofInt 1)) 42 0 (Int32.ofInt 0)) (20 + x14 / 164) (x14 % 164))) (20 + x16 / 164) (x16 % 164) p2) (20 + x17 / 164) (x17 % 164) p3) (20 + x18 / 164) (x18 % 164)) + p4)) (20 + x9 / 164) (x9 % 164)) - p3)) (20 + x11 / 164) (x11 % 164)) + (Int32.ofInt 1))) (20 + x14 / 164) (x14 % 164) (((kup (kup (kup (kup (kup (kup (kup (kup σ 42 0 (Int32.ofInt 1)) 42 0 (Int32.ofInt 0)) (20 + x15 / 164) (x15 % 164) ((kup (kup σ 42 0 (Int32.ofInt 1)) 42 0 (Int32.ofInt 0)) (20 + x14 / 164) (x14 % 164))) (20 + x16 / 164) (x16 % 164) p2) (20 + x17 / 164) (x17 % 164) p3) (20 + x19 / 164) (x19 % 164) (((kup (kup (kup (kup (kup σ 42 0 (Int32.ofInt 1)) 42 0 (Int32.ofInt 0)) (20 + x15 / 164) (x15 % 164) ((kup (kup σ 42 0 (Int32.ofInt 1)) 42 0 (Int32.ofInt 0)) (20 + x14 / 164) (x14 % 164))) (20 + x16 / 164) (x16 % 164) p2) (20 + x17 / 164) (x17 % 164) p3) (20 + x18 / 164) (x18 % 164)) + p4)) (20 + x9 / 164) (x9 % 164) (((kup (kup (kup (kup (kup (kup σ 42 0 (Int32.ofInt 1)) 42 0 (Int32.ofInt 0)) (20 + x15 / 164) (x15 % 164) ((kup (kup σ 42 0 (Int32.ofInt 1)) 42 0 (Int32.ofInt 0)) (20 + x14 / 164) (x14 % 164))) (20 + x16 / 164) (x16 % 164) p2) (20 + x17 / 164) (x17 % 164) p3) (20 + x19 / 164) (x19 % 164) (((kup (kup (kup (kup (kup σ 42 0 (Int32.ofInt 1)) 42 0 (Int32.ofInt 0)) (20 + x15 / 164) (x15 % 164) ((kup (kup σ 42 0 (Int32.ofInt 1)) 42 0 (Int32.ofInt 0)) (20 + x14 / 164) (x14 % 164))) (20 + x16 / 164) (x16 % 164) p2) (20 + x17 / 164) (x17 % 164) p3) (20 + x18 / 164) (x18 % 164)) + p4)) (20 + x9 / 164) (x9 % 164)) - p3)) (20 + x11 / 164) (x11 % 164) (((kup (kup (kup (kup (kup (kup (kup σ 42 0 (Int32.ofInt 1)) 42 0 (Int32.ofInt 0)) (20 + x15 / 164) (x15 % 164) ((kup (kup σ 42 0 (Int32.ofInt 1)) 42 0 (Int32.ofInt 0)) (20 + x14 / 164) (x14 % 164))) (20 + x16 / 164) (x16 % 164) p2) (20 + x17 / 164) (x17 % 164) p3) (20 + x19 / 164) (x19 % 164) (((kup (kup (kup (kup (kup σ 42 0 (Int32.ofInt 1)) 42 0 (Int32.ofInt 0)) (20 + x15 / 164) (x15 % 164) ((kup (kup σ 42 0 (Int32.ofInt 1)) 42 0 (Int32.ofInt 0)) (20 + x14 / 164) (x14 % 164))) (20 + x16 / 164) (x16 % 164) p2) (20 + x17 / 164) (x17 % 164) p3) (20 + x18 / 164) (x18 % 164)) + p4)) (20 + x9 / 164) (x9 % 164) (((kup (kup (kup (kup (kup (kup σ 42 0 (Int32.ofInt 1)) 42 0 (Int32.ofInt 0)) (20 + x15 / 164) (x15 % 164) ((kup (kup σ 42 0 (Int32.ofInt 1)) 42 0 (Int32.ofInt 0)) (20 + x14 / 164) (x14 % 164))) (20 + x16 / 164) (x16 % 164) p2) (20 + x17 / 164) (x17 % 164) p3) (20 + x19 / 164) (x19 % 164) (((kup (kup (kup (kup (kup σ 42 0 (Int32.ofInt 1)) 42 0 (Int32.ofInt 0)) (20 + x15 / 164) (x15 % 164) ((kup (kup σ 42 0 (Int32.ofInt 1)) 42 0 (Int32.ofInt 0)) (20 + x14 / 164) (x14 % 164))) (20 + x16 / 164) (x16 % 164) p2) (20 + x17 / 164) (x17 % 164) p3) (20 + x18 / 164) (x18 % 164)) + p4)) (20 + x9 / 164) (x9 % 164)) - p3)) (20 + x11 / 164) (x11 % 164)) + (Int32.ofInt 1))) (20 + x14 / 164) (x14 % 164)) + (Int32.ofInt 1))) (g), false) := by
  have hM : zmi[123]? = some _ := rfl
  have l7 := (zix_some z7).2.2
  have l9 := (zix_some z9).2.2
  have l11 := (zix_some z11).2.2
  have l14 := (zix_some z14).2.2
  have l15 := (zix_some z15).2.2
  have l16 := (zix_some z16).2.2
  have l17 := (zix_some z17).2.2
  have l18 := (zix_some z18).2.2
  have l19 := (zix_some z19).2.2
  refine zr_fr hM rfl rfl rfl ?_
  refine zr_fr hM rfl rfl rfl ?_
  refine zr_fr hM rfl rfl rfl ?_
  refine zr_fr hM rfl rfl rfl ?_
  refine zr_fr hM rfl rfl rfl ?_
  refine zr_virt (κ := (22, 0, 0)) hn hM rfl rfl rfl rfl rfl rfl rfl rfl rfl ?_
  refine zgo_ret rfl rfl c1_ ?_
  rw [Bool.and_true]
  refine zr_iff hM rfl rfl h2 ?_
  refine zr_fr hM rfl rfl rfl ?_
  refine zr_fr hM rfl rfl rfl ?_
  refine zr_icf hM rfl rfl h3 ?_
  refine zr_fr hM rfl rfl rfl ?_
  refine zr_fr hM rfl rfl rfl ?_
  refine zr_ict hM rfl rfl h4 ?_
  refine zr_fr hM rfl rfl rfl ?_
  refine zr_putf (κ := (22, 0, 0)) hn hM rfl rfl rfl rfl rfl rfl rfl rfl ?_
  refine zr_fr hM rfl rfl rfl ?_
  refine zr_getf (κ := (22, 0, 0)) hn hM rfl rfl rfl rfl ?_
  refine zr_ift hM rfl rfl h5 ?_
  refine zr_fr hM rfl rfl rfl ?_
  refine zr_stat hM rfl rfl rfl rfl rfl rfl ?_
  refine zgo_ret rfl rfl c6_ ?_
  rw [Bool.and_true]
  refine zr_fr hM rfl rfl rfl ?_
  refine zr_fr hM rfl rfl rfl ?_
  refine zr_fr hM rfl rfl rfl ?_
  refine zr_getf (κ := (22, 0, 0)) hn hM rfl rfl rfl rfl ?_
  refine zr_fr hM rfl rfl rfl ?_
  refine zr_bald (κ := (25, 0, 0)) hn hM rfl rfl rfl z7 ?_
  refine zr_iff hM rfl rfl h8 ?_
  refine zr_fr hM rfl rfl rfl ?_
  refine zr_getf (κ := (22, 0, 0)) hn hM rfl rfl rfl rfl ?_
  refine zr_fr hM rfl rfl rfl ?_
  refine zr_fr hM rfl rfl rfl ?_
  refine zr_fr hM rfl rfl rfl ?_
  refine zr_iald (κ := (23, 0, 0)) hn hM rfl rfl rfl z9 ?_
  refine zr_fr hM rfl rfl rfl ?_
  refine zr_icf hM rfl rfl h10 ?_
  refine zr_fr hM rfl rfl rfl ?_
  refine zr_getf (κ := (22, 0, 0)) hn hM rfl rfl rfl rfl ?_
  refine zr_fr hM rfl rfl rfl ?_
  refine zr_fr hM rfl rfl rfl ?_
  refine zr_fr hM rfl rfl rfl ?_
  refine zr_iald (κ := (23, 0, 0)) hn hM rfl rfl rfl z11 ?_
  refine zr_fr hM rfl rfl rfl ?_
  refine zr_ict hM rfl rfl h12 ?_
  refine zr_fr hM rfl rfl rfl ?_
  refine zr_putf (κ := (22, 0, 0)) hn hM rfl rfl rfl rfl rfl rfl rfl rfl ?_
  refine zr_fr hM rfl rfl rfl ?_
  refine zr_getf (κ := (22, 0, 0)) hn hM rfl rfl rfl rfl ?_
  refine zr_ift hM rfl rfl h13 ?_
  refine zr_fr hM rfl rfl rfl ?_
  refine zr_fr hM rfl rfl rfl ?_
  refine zr_fr hM rfl rfl rfl ?_
  refine zr_fr hM rfl rfl rfl ?_
  refine zr_fr hM rfl rfl rfl ?_
  refine zr_getf (κ := (22, 0, 0)) hn hM rfl rfl rfl rfl ?_
  refine zr_fr hM rfl rfl rfl ?_
  refine zr_fr hM rfl rfl rfl ?_
  refine zr_fr hM rfl rfl rfl ?_
  refine zr_iald (κ := (23, 0, 0)) hn hM rfl rfl rfl z11 ?_
  refine zr_fr hM rfl rfl rfl ?_
  refine zr_fr hM rfl rfl rfl ?_
  refine zr_fr hM rfl rfl rfl ?_
  refine zr_fr hM rfl rfl rfl ?_
  refine zr_getf (κ := (22, 0, 0)) hn hM rfl rfl rfl rfl ?_
  refine zr_fr hM rfl rfl rfl ?_
  refine zr_fr hM rfl rfl rfl ?_
  refine zr_getf (κ := (22, 0, 0)) hn hM rfl rfl rfl rfl ?_
  refine zr_fr hM rfl rfl rfl ?_
  refine zr_fr hM rfl rfl rfl ?_
  refine zr_fr hM rfl rfl rfl ?_
  refine zr_iald (κ := (23, 0, 0)) hn hM rfl rfl rfl z14 ?_
  refine zr_iast (κ := (23, 0, 0)) hn hM rfl rfl rfl rfl z15 rfl ?_
  refine zr_fr hM rfl rfl rfl ?_
  refine zr_getf (κ := (22, 0, 0)) hn hM rfl rfl rfl rfl ?_
  refine zr_fr hM rfl rfl rfl ?_
  refine zr_fr hM rfl rfl rfl ?_
  refine zr_fr hM rfl rfl rfl ?_
  refine zr_fr hM rfl rfl rfl ?_
  refine zr_iast (κ := (23, 0, 0)) hn hM rfl rfl rfl rfl z16 rfl ?_
  refine zr_fr hM rfl rfl rfl ?_
  refine zr_getf (κ := (22, 0, 0)) hn hM rfl rfl rfl rfl ?_
  refine zr_fr hM rfl rfl rfl ?_
  refine zr_fr hM rfl rfl rfl ?_
  refine zr_fr hM rfl rfl rfl ?_
  refine zr_fr hM rfl rfl rfl ?_
  refine zr_iast (κ := (23, 0, 0)) hn hM rfl rfl rfl rfl z17 rfl ?_
  refine zr_fr hM rfl rfl rfl ?_
  refine zr_getf (κ := (22, 0, 0)) hn hM rfl rfl rfl rfl ?_
  refine zr_fr hM rfl rfl rfl ?_
  refine zr_fr hM rfl rfl rfl ?_
  refine zr_fr hM rfl rfl rfl ?_
  refine zr_fr hM rfl rfl rfl ?_
  refine zr_getf (κ := (22, 0, 0)) hn hM rfl rfl rfl rfl ?_
  refine zr_fr hM rfl rfl rfl ?_
  refine zr_fr hM rfl rfl rfl ?_
  refine zr_fr hM rfl rfl rfl ?_
  refine zr_iald (κ := (23, 0, 0)) hn hM rfl rfl rfl z18 ?_
  refine zr_fr hM rfl rfl rfl ?_
  refine zr_fr hM rfl rfl rfl ?_
  refine zr_iast (κ := (23, 0, 0)) hn hM rfl rfl rfl rfl z19 rfl ?_
  refine zr_fr hM rfl rfl rfl ?_
  refine zr_getf (κ := (22, 0, 0)) hn hM rfl rfl rfl rfl ?_
  refine zr_fr hM rfl rfl rfl ?_
  refine zr_fr hM rfl rfl rfl ?_
  refine zr_fr hM rfl rfl rfl ?_
  refine zr_fr hM rfl rfl rfl ?_
  refine zr_iald (κ := (23, 0, 0)) hn hM rfl rfl rfl z9 ?_
  refine zr_fr hM rfl rfl rfl ?_
  refine zr_fr hM rfl rfl rfl ?_
  refine zr_iast (κ := (23, 0, 0)) hn hM rfl rfl rfl rfl z9 rfl ?_
  refine zr_fr hM rfl rfl rfl ?_
  refine zr_getf (κ := (22, 0, 0)) hn hM rfl rfl rfl rfl ?_
  refine zr_fr hM rfl rfl rfl ?_
  refine zr_fr hM rfl rfl rfl ?_
  refine zr_fr hM rfl rfl rfl ?_
  refine zr_fr hM rfl rfl rfl ?_
  refine zr_iald (κ := (23, 0, 0)) hn hM rfl rfl rfl z11 ?_
  refine zr_fr hM rfl rfl rfl ?_
  refine zr_fr hM rfl rfl rfl ?_
  refine zr_iast (κ := (23, 0, 0)) hn hM rfl rfl rfl rfl z11 rfl ?_
  refine zr_fr hM rfl rfl rfl ?_
  refine zr_getf (κ := (22, 0, 0)) hn hM rfl rfl rfl rfl ?_
  refine zr_fr hM rfl rfl rfl ?_
  refine zr_fr hM rfl rfl rfl ?_
  refine zr_fr hM rfl rfl rfl ?_
  refine zr_fr hM rfl rfl rfl ?_
  refine zr_iald (κ := (23, 0, 0)) hn hM rfl rfl rfl z14 ?_
  refine zr_fr hM rfl rfl rfl ?_
  refine zr_fr hM rfl rfl rfl ?_
  refine zr_iast (κ := (23, 0, 0)) hn hM rfl rfl rfl rfl z14 rfl ?_
  refine zr_fr hM rfl rfl rfl ?_
  refine zr_getf (κ := (22, 0, 0)) hn hM rfl rfl rfl rfl ?_
  refine zr_fr hM rfl rfl rfl ?_
  refine zr_iald (κ := (23, 0, 0)) hn hM rfl rfl rfl z15 ?_
  exact zr_iret2 hM rfl rfl rfl
set_option maxHeartbeats 4000000 in
theorem s123_0_ffttftf {n L : Nat} {σ : Ks} {g : List Nat} {cl : Bool} {p1 : Int32} {p2 : Int32} {p3 : Int32} {p4 : Int32} {r1 : Int32} {r6 : Int32} {x7 : Nat} {x9 : Nat} (hn : 2 ≤ n ∧ n ≤ 5) (c1_ : ZR 118 0 [.val (.ref (kad n (22, 0, 0))), .val (.int p1), .val (.int p2), .val (.int p3)] [] (khp n L σ g) true (.inl (some (.int r1)), khp n L σ g, true)) (h2 : zcnd .eq r1 0 = false) (h3 : zcnd .lt p4 (Int32.ofInt 1) = false) (h4 : zcnd .gt p4 ((Int8.ofInt 100).toInt32) = true) (h5 : zcnd .le ((kup σ 42 0 (Int32.ofInt 1)) 42 0) 0 = true) (c6_ : ZR 97 0 [.val (.int p1)] [] (khp n L (kup σ 42 0 (Int32.ofInt 1)) g) true (.inl (some (.int r6)), khp n L (kup σ 42 0 (Int32.ofInt 1)) g, true)) (z7 : zix p1 5 = some x7) (h8 : zcnd .ne ((kup σ 42 0 (Int32.ofInt 1)) 40 x7) 0 = false) (z9 : zix (r6 + p2) 820 = some x9) (h10 : zcnd .lt ((kup σ 42 0 (Int32.ofInt 1)) (20 + x9 / 164) (x9 % 164)) p3 = true) (h11 : zcnd .le ((kup (kup σ 42 0 (Int32.ofInt 1)) 42 0 (Int32.ofInt 2)) 42 0) 0 = false) : ZR 123 0 [.val (.ref (kad n (22, 0, 0))), .val (.int p1), .val (.int p2), .val (.int p3), .val (.int p4), .unset, .unset] [] (khp n L σ g) cl (.inl (some (.int (Int32.ofInt 0))), khp n L (kup (kup σ 42 0 (Int32.ofInt 1)) 42 0 (Int32.ofInt 2)) (g), false) := by
  have hM : zmi[123]? = some _ := rfl
  have l7 := (zix_some z7).2.2
  have l9 := (zix_some z9).2.2
  refine zr_fr hM rfl rfl rfl ?_
  refine zr_fr hM rfl rfl rfl ?_
  refine zr_fr hM rfl rfl rfl ?_
  refine zr_fr hM rfl rfl rfl ?_
  refine zr_fr hM rfl rfl rfl ?_
  refine zr_virt (κ := (22, 0, 0)) hn hM rfl rfl rfl rfl rfl rfl rfl rfl rfl ?_
  refine zgo_ret rfl rfl c1_ ?_
  rw [Bool.and_true]
  refine zr_iff hM rfl rfl h2 ?_
  refine zr_fr hM rfl rfl rfl ?_
  refine zr_fr hM rfl rfl rfl ?_
  refine zr_icf hM rfl rfl h3 ?_
  refine zr_fr hM rfl rfl rfl ?_
  refine zr_fr hM rfl rfl rfl ?_
  refine zr_ict hM rfl rfl h4 ?_
  refine zr_fr hM rfl rfl rfl ?_
  refine zr_putf (κ := (22, 0, 0)) hn hM rfl rfl rfl rfl rfl rfl rfl rfl ?_
  refine zr_fr hM rfl rfl rfl ?_
  refine zr_getf (κ := (22, 0, 0)) hn hM rfl rfl rfl rfl ?_
  refine zr_ift hM rfl rfl h5 ?_
  refine zr_fr hM rfl rfl rfl ?_
  refine zr_stat hM rfl rfl rfl rfl rfl rfl ?_
  refine zgo_ret rfl rfl c6_ ?_
  rw [Bool.and_true]
  refine zr_fr hM rfl rfl rfl ?_
  refine zr_fr hM rfl rfl rfl ?_
  refine zr_fr hM rfl rfl rfl ?_
  refine zr_getf (κ := (22, 0, 0)) hn hM rfl rfl rfl rfl ?_
  refine zr_fr hM rfl rfl rfl ?_
  refine zr_bald (κ := (25, 0, 0)) hn hM rfl rfl rfl z7 ?_
  refine zr_iff hM rfl rfl h8 ?_
  refine zr_fr hM rfl rfl rfl ?_
  refine zr_getf (κ := (22, 0, 0)) hn hM rfl rfl rfl rfl ?_
  refine zr_fr hM rfl rfl rfl ?_
  refine zr_fr hM rfl rfl rfl ?_
  refine zr_fr hM rfl rfl rfl ?_
  refine zr_iald (κ := (23, 0, 0)) hn hM rfl rfl rfl z9 ?_
  refine zr_fr hM rfl rfl rfl ?_
  refine zr_ict hM rfl rfl h10 ?_
  refine zr_fr hM rfl rfl rfl ?_
  refine zr_fr hM rfl rfl rfl ?_
  refine zr_putf (κ := (22, 0, 0)) hn hM rfl rfl rfl rfl rfl rfl rfl rfl ?_
  refine zr_fr hM rfl rfl rfl ?_
  refine zr_getf (κ := (22, 0, 0)) hn hM rfl rfl rfl rfl ?_
  refine zr_iff hM rfl rfl h11 ?_
  refine zr_fr hM rfl rfl rfl ?_
  exact zr_iret2 hM rfl rfl rfl
set_option maxHeartbeats 4000000 in
theorem s123_0_ffttftt {n L : Nat} {σ : Ks} {g : List Nat} {cl : Bool} {p1 : Int32} {p2 : Int32} {p3 : Int32} {p4 : Int32} {r1 : Int32} {r6 : Int32} {x7 : Nat} {x9 : Nat} {x12 : Nat} {x13 : Nat} {x14 : Nat} {x15 : Nat} {x16 : Nat} {x17 : Nat} {x18 : Nat} (hn : 2 ≤ n ∧ n ≤ 5) (c1_ : ZR 118 0 [.val (.ref (kad n (22, 0, 0))), .val (.int p1), .val (.int p2), .val (.int p3)] [] (khp n L σ g) true (.inl (some (.int r1)), khp n L σ g, true)) (h2 : zcnd .eq r1 0 = false) (h3 : zcnd .lt p4 (Int32.ofInt 1) = false) (h4 : zcnd .gt p4 ((Int8.ofInt 100).toInt32) = true) (h5 : zcnd .le ((kup σ 42 0 (Int32.ofInt 1)) 42 0) 0 = true) (c6_ : ZR 97 0 [.val (.int p1)] [] (khp n L (kup σ 42 0 (Int32.ofInt 1)) g) true (.inl (some (.int r6)), khp n L (kup σ 42 0 (Int32.ofInt 1)) g, true)) (z7 : zix p1 5 = some x7) (h8 : zcnd .ne ((kup σ 42 0 (Int32.ofInt 1)) 40 x7) 0 = false) (z9 : zix (r6 + p2) 820 = some x9) (h10 : zcnd .lt ((kup σ 42 0 (Int32.ofInt 1)) (20 + x9 / 164) (x9 % 164)) p3 = true) (h11 : zcnd .le ((kup (kup σ 42 0 (Int32.ofInt 1)) 42 0 (Int32.ofInt 2)) 42 0) 0 = true) (z12 : zix (r6 + ((Int8.ofInt 19).toInt32)) 820 = some x12) (z13 : zix (r6 + ((Int8.ofInt 17).toInt32)) 820 = some x13) (z14 : zix ((r6 + ((Int8.ofInt 20).toInt32)) + ((Int32.ofInt 4) * ((kup (kup σ 42 0 (Int32.ofInt 1)) 42 0 (Int32.ofInt 2)) (20 + x12 / 164) (x12 % 164)))) 820 = some x14) (z15 : zix (((r6 + ((Int8.ofInt 20).toInt32)) + ((Int32.ofInt 4) * ((kup (kup σ 42 0 (Int32.ofInt 1)) 42 0 (Int32.ofInt 2)) (20 + x12 / 164) (x12 % 164)))) + (Int32.ofInt 1)) 820 = some x15) (z16 : zix (((r6 + ((Int8.ofInt 20).toInt32)) + ((Int32.ofInt 4) * ((kup (kup σ 42 0 (Int32.ofInt 1)) 42 0 (Int32.ofInt 2)) (20 + x12 / 164) (x12 % 164)))) + (Int32.ofInt 2)) 820 = some x16) (z17 : zix (r6 + ((Int8.ofInt 16).toInt32)) 820 = some x17) (z18 : zix (((r6 + ((Int8.ofInt 20).toInt32)) + ((Int32.ofInt 4) * ((kup (kup σ 42 0 (Int32.ofInt 1)) 42 0 (Int32.ofInt 2)) (20 + x12 / 164) (x12 % 164)))) + (Int32.ofInt 3)) 820 = some x18) : ZR 123 0 [.val (.ref (kad n (22, 0, 0))), .val (.int p1), .val (.int p2), .val (.int p3), .val (.int p4), .unset, .unset] [] (khp n L σ g) cl (.inl (some (.int ((kup (kup (kup (kup (kup (kup (kup (kup (kup σ 42 0 (Int32.ofInt 1)) 42 0 (Int32.ofInt 2)) (20 + x14 / 164) (x14 % 164) ((kup (kup σ 42 0 (Int32.ofInt 1)) 42 0 (Int32.ofInt 2)) (20 + x13 / 164) (x13 % 164))) (20 + x15 / 164) (x15 % 164) p2) (20 + x16 / 164) (x16 % 164) p3) (20 + x18 / 164) (x18 % 164) (((kup (kup (kup (kup (kup σ 42 0 (Int32.ofInt 1)) 42 0 (Int32.ofInt 2)) (20 + x14 / 164) (x14 % 164) ((kup (kup σ 42 0 (Int32.ofInt 1)) 42 0 (Int32.ofInt 2)) (20 + x13 / 164) (x13 % 164))) (20 + x15 / 164) (x15 % 164) p2) (20 + x16 / 164) (x16 % 164) p3) (20 + x17 / 164) (x17 % 164)) + p4)) (20 + x9 / 164) (x9 % 164) (((kup (kup (kup (kup (kup (kup σ 42 0 (Int32.ofInt 1)) 42 0 (Int32.ofInt 2)) (20 + x14 / 164) (x14 % 164) ((kup (kup σ 42 0 (Int32.ofInt 1)) 42 0 (Int32.ofInt 2)) (20 + x13 / 164) (x13 % 164))) (20 + x15 / 164) (x15 % 164) p2) (20 + x16 / 164) (x16 % 164) p3) (20 + x18 / 164) (x18 % 164) (((kup (kup (kup (kup (kup σ 42 0 (Int32.ofInt 1)) 42 0 (Int32.ofInt 2)) (20 + x14 / 164) (x14 % 164) ((kup (kup σ 42 0 (Int32.ofInt 1)) 42 0 (Int32.ofInt 2)) (20 + x13 / 164) (x13 % 164))) (20 + x15 / 164) (x15 % 164) p2) (20 + x16 / 164) (x16 % 164) p3) (20 + x17 / 164) (x17 % 164)) + p4)) (20 + x9 / 164) (x9 % 164)) - p3)) (20 + x12 / 164) (x12 % 164) (((kup (kup (kup (kup (kup (kup (kup σ 42 0 (Int32.ofInt 1)) 42 0 (Int32.ofInt 2)) (20 + x14 / 164) (x14 % 164) ((kup (kup σ 42 0 (Int32.ofInt 1)) 42 0 (Int32.ofInt 2)) (20 + x13 / 164) (x13 % 164))) (20 + x15 / 164) (x15 % 164) p2) (20 + x16 / 164) (x16 % 164) p3) (20 + x18 / 164) (x18 % 164) (((kup (kup (kup (kup (kup σ 42 0 (Int32.ofInt 1)) 42 0 (Int32.ofInt 2)) (20 + x14 / 164) (x14 % 164) ((kup (kup σ 42 0 (Int32.ofInt 1)) 42 0 (Int32.ofInt 2)) (20 + x13 / 164) (x13 % 164))) (20 + x15 / 164) (x15 % 164) p2) (20 + x16 / 164) (x16 % 164) p3) (20 + x17 / 164) (x17 % 164)) + p4)) (20 + x9 / 164) (x9 % 164) (((kup (kup (kup (kup (kup (kup σ 42 0 (Int32.ofInt 1)) 42 0 (Int32.ofInt 2)) (20 + x14 / 164) (x14 % 164) ((kup (kup σ 42 0 (Int32.ofInt 1)) 42 0 (Int32.ofInt 2)) (20 + x13 / 164) (x13 % 164))) (20 + x15 / 164) (x15 % 164) p2) (20 + x16 / 164) (x16 % 164) p3) (20 + x18 / 164) (x18 % 164) (((kup (kup (kup (kup (kup σ 42 0 (Int32.ofInt 1)) 42 0 (Int32.ofInt 2)) (20 + x14 / 164) (x14 % 164) ((kup (kup σ 42 0 (Int32.ofInt 1)) 42 0 (Int32.ofInt 2)) (20 + x13 / 164) (x13 % 164))) (20 + x15 / 164) (x15 % 164) p2) (20 + x16 / 164) (x16 % 164) p3) (20 + x17 / 164) (x17 % 164)) + p4)) (20 + x9 / 164) (x9 % 164)) - p3)) (20 + x12 / 164) (x12 % 164)) + (Int32.ofInt 1))) (20 + x13 / 164) (x13 % 164) (((kup (kup (kup (kup (kup (kup (kup (kup σ 42 0 (Int32.ofInt 1)) 42 0 (Int32.ofInt 2)) (20 + x14 / 164) (x14 % 164) ((kup (kup σ 42 0 (Int32.ofInt 1)) 42 0 (Int32.ofInt 2)) (20 + x13 / 164) (x13 % 164))) (20 + x15 / 164) (x15 % 164) p2) (20 + x16 / 164) (x16 % 164) p3) (20 + x18 / 164) (x18 % 164) (((kup (kup (kup (kup (kup σ 42 0 (Int32.ofInt 1)) 42 0 (Int32.ofInt 2)) (20 + x14 / 164) (x14 % 164) ((kup (kup σ 42 0 (Int32.ofInt 1)) 42 0 (Int32.ofInt 2)) (20 + x13 / 164) (x13 % 164))) (20 + x15 / 164) (x15 % 164) p2) (20 + x16 / 164) (x16 % 164) p3) (20 + x17 / 164) (x17 % 164)) + p4)) (20 + x9 / 164) (x9 % 164) (((kup (kup (kup (kup (kup (kup σ 42 0 (Int32.ofInt 1)) 42 0 (Int32.ofInt 2)) (20 + x14 / 164) (x14 % 164) ((kup (kup σ 42 0 (Int32.ofInt 1)) 42 0 (Int32.ofInt 2)) (20 + x13 / 164) (x13 % 164))) (20 + x15 / 164) (x15 % 164) p2) (20 + x16 / 164) (x16 % 164) p3) (20 + x18 / 164) (x18 % 164) (((kup (kup (kup (kup (kup σ 42 0 (Int32.ofInt 1)) 42 0 (Int32.ofInt 2)) (20 + x14 / 164) (x14 % 164) ((kup (kup σ 42 0 (Int32.ofInt 1)) 42 0 (Int32.ofInt 2)) (20 + x13 / 164) (x13 % 164))) (20 + x15 / 164) (x15 % 164) p2) (20 + x16 / 164) (x16 % 164) p3) (20 + x17 / 164) (x17 % 164)) + p4)) (20 + x9 / 164) (x9 % 164)) - p3)) (20 + x12 / 164) (x12 % 164) (((kup (kup (kup (kup (kup (kup (kup σ 42 0 (Int32.ofInt 1)) 42 0 (Int32.ofInt 2)) (20 + x14 / 164) (x14 % 164) ((kup (kup σ 42 0 (Int32.ofInt 1)) 42 0 (Int32.ofInt 2)) (20 + x13 / 164) (x13 % 164))) (20 + x15 / 164) (x15 % 164) p2) (20 + x16 / 164) (x16 % 164) p3) (20 + x18 / 164) (x18 % 164) (((kup (kup (kup (kup (kup σ 42 0 (Int32.ofInt 1)) 42 0 (Int32.ofInt 2)) (20 + x14 / 164) (x14 % 164) ((kup (kup σ 42 0 (Int32.ofInt 1)) 42 0 (Int32.ofInt 2)) (20 + x13 / 164) (x13 % 164))) (20 + x15 / 164) (x15 % 164) p2) (20 + x16 / 164) (x16 % 164) p3) (20 + x17 / 164) (x17 % 164)) + p4)) (20 + x9 / 164) (x9 % 164) (((kup (kup (kup (kup (kup (kup σ 42 0 (Int32.ofInt 1)) 42 0 (Int32.ofInt 2)) (20 + x14 / 164) (x14 % 164) ((kup (kup σ 42 0 (Int32.ofInt 1)) 42 0 (Int32.ofInt 2)) (20 + x13 / 164) (x13 % 164))) (20 + x15 / 164) (x15 % 164) p2) (20 + x16 / 164) (x16 % 164) p3) (20 + x18 / 164) (x18 % 164) (((kup (kup (kup (kup (kup σ 42 0 (Int32.ofInt 1)) 42 0 (Int32.ofInt 2)) (20 + x14 / 164) (x14 % 164) ((kup (kup σ 42 0 (Int32.ofInt 1)) 42 0 (Int32.ofInt 2)) (20 + x13 / 164) (x13 % 164))) (20 + x15 / 164) (x15 % 164) p2) (20 + x16 / 164) (x16 % 164) p3) (20 + x17 / 164) (x17 % 164)) + p4)) (20 + x9 / 164) (x9 % 164)) - p3)) (20 + x12 / 164) (x12 % 164)) + (Int32.ofInt 1))) (20 + x13 / 164) (x13 % 164)) + (Int32.ofInt 1))) (20 + x14 / 164) (x14 % 164)))), khp n L (kup (kup (kup (kup (kup (kup (kup (kup (kup σ 42 0 (Int32.ofInt 1)) 42 0 (Int32.ofInt 2)) (20 + x14 / 164) (x14 % 164) ((kup (kup σ 42 0 (Int32.ofInt 1)) 42 0 (Int32.ofInt 2)) (20 + x13 / 164) (x13 % 164))) (20 + x15 / 164) (x15 % 164) p2) (20 + x16 / 164) (x16 % 164) p3) (20 + x18 / 164) (x18 % 164) (((kup (kup (kup (kup (kup σ 42 0 (Int32.ofInt 1)) 42 0 (Int32.ofInt 2)) (20 + x14 / 164) (x14 % 164) ((kup (kup σ 42 0 (Int32.ofInt 1)) 42 0 (Int32.ofInt 2)) (20 + x13 / 164) (x13 % 164))) (20 + x15 / 164) (x15 % 164) p2) (20 + x16 / 164) (x16 % 164) p3) (20 + x17 / 164) (x17 % 164)) + p4)) (20 + x9 / 164) (x9 % 164) (((kup (kup (kup (kup (kup (kup σ 42 0 (Int32.ofInt 1)) 42 0 (Int32.ofInt 2)) (20 + x14 / 164) (x14 % 164) ((kup (kup σ 42 0 (Int32.ofInt 1)) 42 0 (Int32.ofInt 2)) (20 + x13 / 164) (x13 % 164))) (20 + x15 / 164) (x15 % 164) p2) (20 + x16 / 164) (x16 % 164) p3) (20 + x18 / 164) (x18 % 164) (((kup (kup (kup (kup (kup σ 42 0 (Int32.ofInt 1)) 42 0 (Int32.ofInt 2)) (20 + x14 / 164) (x14 % 164) ((kup (kup σ 42 0 (Int32.ofInt 1)) 42 0 (Int32.ofInt 2)) (20 + x13 / 164) (x13 % 164))) (20 + x15 / 164) (x15 % 164) p2) (20 + x16 / 164) (x16 % 164) p3) (20 + x17 / 164) (x17 % 164)) + p4)) (20 + x9 / 164) (x9 % 164)) - p3)) (20 + x12 / 164) (x12 % 164) (((kup (kup (kup (kup (kup (kup (kup σ 42 0 (Int32.ofInt 1)) 42 0 (Int32.ofInt 2)) (20 + x14 / 164) (x14 % 164) ((kup (kup σ 42 0 (Int32.ofInt 1)) 42 0 (Int32.ofInt 2)) (20 + x13 / 164) (x13 % 164))) (20 + x15 / 164) (x15 % 164) p2) (20 + x16 / 164) (x16 % 164) p3) (20 + x18 / 164) (x18 % 164) (((kup (kup (kup (kup (kup σ 42 0 (Int32.ofInt 1)) 42 0 (Int32.ofInt 2)) (20 + x14 / 164) (x14 % 164) ((kup (kup σ 42 0 (Int32.ofInt 1)) 42 0 (Int32.ofInt 2)) (20 + x13 / 164) (x13 % 164))) (20 + x15 / 164) (x15 % 164) p2) (20 + x16 / 164) (x16 % 164) p3) (20 + x17 / 164) (x17 % 164)) + p4)) (20 + x9 / 164) (x9 % 164) (((kup (kup (kup (kup (kup (kup σ 42 0 (Int32.ofInt 1)) 42 0 (Int32.ofInt 2)) (20 + x14 / 164) (x14 % 164) ((kup (kup σ 42 0 (Int32.ofInt 1)) 42 0 (Int32.ofInt 2)) (20 + x13 / 164) (x13 % 164))) (20 + x15 / 164) (x15 % 164) p2) (20 + x16 / 164) (x16 % 164) p3) (20 + x18 / 164) (x18 % 164) (((kup (kup (kup (kup (kup σ 42 0 (Int32.ofInt 1)) 42 0 (Int32.ofInt 2)) (20 + x14 / 164) (x14 % 164) ((kup (kup σ 42 0 (Int32.ofInt 1)) 42 0 (Int32.ofInt 2)) (20 + x13 / 164) (x13 % 164))) (20 + x15 / 164) (x15 % 164) p2) (20 + x16 / 164) (x16 % 164) p3) (20 + x17 / 164) (x17 % 164)) + p4)) (20 + x9 / 164) (x9 % 164)) - p3)) (20 + x12 / 164) (x12 % 164)) + (Int32.ofInt 1))) (20 + x13 / 164) (x13 % 164) (((kup (kup (kup (kup (kup (kup (kup (kup σ 42 0 (Int32.ofInt 1)) 42 0 (Int32.ofInt 2)) (20 + x14 / 164) (x14 % 164) ((kup (kup σ 42 0 (Int32.ofInt 1)) 42 0 (Int32.ofInt 2)) (20 + x13 / 164) (x13 % 164))) (20 + x15 / 164) (x15 % 164) p2) (20 + x16 / 164) (x16 % 164) p3) (20 + x18 / 164) (x18 % 164) (((kup (kup (kup (kup (kup σ 42 0 (Int32.ofInt 1)) 42 0 (Int32.ofInt 2)) (20 + x14 / 164) (x14 % 164) ((kup (kup σ 42 0 (Int32.ofInt 1)) 42 0 (Int32.ofInt 2)) (20 + x13 / 164) (x13 % 164))) (20 + x15 / 164) (x15 % 164) p2) (20 + x16 / 164) (x16 % 164) p3) (20 + x17 / 164) (x17 % 164)) + p4)) (20 + x9 / 164) (x9 % 164) (((kup (kup (kup (kup (kup (kup σ 42 0 (Int32.ofInt 1)) 42 0 (Int32.ofInt 2)) (20 + x14 / 164) (x14 % 164) ((kup (kup σ 42 0 (Int32.ofInt 1)) 42 0 (Int32.ofInt 2)) (20 + x13 / 164) (x13 % 164))) (20 + x15 / 164) (x15 % 164) p2) (20 + x16 / 164) (x16 % 164) p3) (20 + x18 / 164) (x18 % 164) (((kup (kup (kup (kup (kup σ 42 0 (Int32.ofInt 1)) 42 0 (Int32.ofInt 2)) (20 + x14 / 164) (x14 % 164) ((kup (kup σ 42 0 (Int32.ofInt 1)) 42 0 (Int32.ofInt 2)) (20 + x13 / 164) (x13 % 164))) (20 + x15 / 164) (x15 % 164) p2) (20 + x16 / 164) (x16 % 164) p3) (20 + x17 / 164) (x17 % 164)) + p4)) (20 + x9 / 164) (x9 % 164)) - p3)) (20 + x12 / 164) (x12 % 164) (((kup (kup (kup (kup (kup (kup (kup σ 42 0 (Int32.ofInt 1)) 42 0 (Int32.ofInt 2)) (20 + x14 / 164) (x14 % 164) ((kup (kup σ 42 0 (Int32.ofInt 1)) 42 0 (Int32.ofInt 2)) (20 + x13 / 164) (x13 % 164))) (20 + x15 / 164) (x15 % 164) p2) (20 + x16 / 164) (x16 % 164) p3) (20 + x18 / 164) (x18 % 164) (((kup (kup (kup (kup (kup σ 42 0 (Int32.ofInt 1)) 42 0 (Int32.ofInt 2)) (20 + x14 / 164) (x14 % 164) ((kup (kup σ 42 0 (Int32.ofInt 1)) 42 0 (Int32.ofInt 2)) (20 + x13 / 164) (x13 % 164))) (20 + x15 / 164) (x15 % 164) p2) (20 + x16 / 164) (x16 % 164) p3) (20 + x17 / 164) (x17 % 164)) + p4)) (20 + x9 / 164) (x9 % 164) (((kup (kup (kup (kup (kup (kup σ 42 0 (Int32.ofInt 1)) 42 0 (Int32.ofInt 2)) (20 + x14 / 164) (x14 % 164) ((kup (kup σ 42 0 (Int32.ofInt 1)) 42 0 (Int32.ofInt 2)) (20 + x13 / 164) (x13 % 164))) (20 + x15 / 164) (x15 % 164) p2) (20 + x16 / 164) (x16 % 164) p3) (20 + x18 / 164) (x18 % 164) (((kup (kup (kup (kup (kup σ 42 0 (Int32.ofInt 1)) 42 0 (Int32.ofInt 2)) (20 + x14 / 164) (x14 % 164) ((kup (kup σ 42 0 (Int32.ofInt 1)) 42 0 (Int32.ofInt 2)) (20 + x13 / 164) (x13 % 164))) (20 + x15 / 164) (x15 % 164) p2) (20 + x16 / 164) (x16 % 164) p3) (20 + x17 / 164) (x17 % 164)) + p4)) (20 + x9 / 164) (x9 % 164)) - p3)) (20 + x12 / 164) (x12 % 164)) + (Int32.ofInt 1))) (20 + x13 / 164) (x13 % 164)) + (Int32.ofInt 1))) (g), false) := by
  have hM : zmi[123]? = some _ := rfl
  have l7 := (zix_some z7).2.2
  have l9 := (zix_some z9).2.2
  have l12 := (zix_some z12).2.2
  have l13 := (zix_some z13).2.2
  have l14 := (zix_some z14).2.2
  have l15 := (zix_some z15).2.2
  have l16 := (zix_some z16).2.2
  have l17 := (zix_some z17).2.2
  have l18 := (zix_some z18).2.2
  refine zr_fr hM rfl rfl rfl ?_
  refine zr_fr hM rfl rfl rfl ?_
  refine zr_fr hM rfl rfl rfl ?_
  refine zr_fr hM rfl rfl rfl ?_
  refine zr_fr hM rfl rfl rfl ?_
  refine zr_virt (κ := (22, 0, 0)) hn hM rfl rfl rfl rfl rfl rfl rfl rfl rfl ?_
  refine zgo_ret rfl rfl c1_ ?_
  rw [Bool.and_true]
  refine zr_iff hM rfl rfl h2 ?_
  refine zr_fr hM rfl rfl rfl ?_
  refine zr_fr hM rfl rfl rfl ?_
  refine zr_icf hM rfl rfl h3 ?_
  refine zr_fr hM rfl rfl rfl ?_
  refine zr_fr hM rfl rfl rfl ?_
  refine zr_ict hM rfl rfl h4 ?_
  refine zr_fr hM rfl rfl rfl ?_
  refine zr_putf (κ := (22, 0, 0)) hn hM rfl rfl rfl rfl rfl rfl rfl rfl ?_
  refine zr_fr hM rfl rfl rfl ?_
  refine zr_getf (κ := (22, 0, 0)) hn hM rfl rfl rfl rfl ?_
  refine zr_ift hM rfl rfl h5 ?_
  refine zr_fr hM rfl rfl rfl ?_
  refine zr_stat hM rfl rfl rfl rfl rfl rfl ?_
  refine zgo_ret rfl rfl c6_ ?_
  rw [Bool.and_true]
  refine zr_fr hM rfl rfl rfl ?_
  refine zr_fr hM rfl rfl rfl ?_
  refine zr_fr hM rfl rfl rfl ?_
  refine zr_getf (κ := (22, 0, 0)) hn hM rfl rfl rfl rfl ?_
  refine zr_fr hM rfl rfl rfl ?_
  refine zr_bald (κ := (25, 0, 0)) hn hM rfl rfl rfl z7 ?_
  refine zr_iff hM rfl rfl h8 ?_
  refine zr_fr hM rfl rfl rfl ?_
  refine zr_getf (κ := (22, 0, 0)) hn hM rfl rfl rfl rfl ?_
  refine zr_fr hM rfl rfl rfl ?_
  refine zr_fr hM rfl rfl rfl ?_
  refine zr_fr hM rfl rfl rfl ?_
  refine zr_iald (κ := (23, 0, 0)) hn hM rfl rfl rfl z9 ?_
  refine zr_fr hM rfl rfl rfl ?_
  refine zr_ict hM rfl rfl h10 ?_
  refine zr_fr hM rfl rfl rfl ?_
  refine zr_fr hM rfl rfl rfl ?_
  refine zr_putf (κ := (22, 0, 0)) hn hM rfl rfl rfl rfl rfl rfl rfl rfl ?_
  refine zr_fr hM rfl rfl rfl ?_
  refine zr_getf (κ := (22, 0, 0)) hn hM rfl rfl rfl rfl ?_
  refine zr_ift hM rfl rfl h11 ?_
  refine zr_fr hM rfl rfl rfl ?_
  refine zr_fr hM rfl rfl rfl ?_
  refine zr_fr hM rfl rfl rfl ?_
  refine zr_fr hM rfl rfl rfl ?_
  refine zr_fr hM rfl rfl rfl ?_
  refine zr_getf (κ := (22, 0, 0)) hn hM rfl rfl rfl rfl ?_
  refine zr_fr hM rfl rfl rfl ?_
  refine zr_fr hM rfl rfl rfl ?_
  refine zr_fr hM rfl rfl rfl ?_
  refine zr_iald (κ := (23, 0, 0)) hn hM rfl rfl rfl z12 ?_
  refine zr_fr hM rfl rfl rfl ?_
  refine zr_fr hM rfl rfl rfl ?_
  refine zr_fr hM rfl rfl rfl ?_
  refine zr_fr hM rfl rfl rfl ?_
  refine zr_getf (κ := (22, 0, 0)) hn hM rfl rfl rfl rfl ?_
  refine zr_fr hM rfl rfl rfl ?_
  refine zr_fr hM rfl rfl rfl ?_
  refine zr_getf (κ := (22, 0, 0)) hn hM rfl rfl rfl rfl ?_
  refine zr_fr hM rfl rfl rfl ?_
  refine zr_fr hM rfl rfl rfl ?_
  refine zr_fr hM rfl rfl rfl ?_
  refine zr_iald (κ := (23, 0, 0)) hn hM rfl rfl rfl z13 ?_
  refine zr_iast (κ := (23, 0, 0)) hn hM rfl rfl rfl rfl z14 rfl ?_
  refine zr_fr hM rfl rfl rfl ?_
  refine zr_getf (κ := (22, 0, 0)) hn hM rfl rfl rfl rfl ?_
  refine zr_fr hM rfl rfl rfl ?_
  refine zr_fr hM rfl rfl rfl ?_
  refine zr_fr hM rfl rfl rfl ?_
  refine zr_fr hM rfl rfl rfl ?_
  refine zr_iast (κ := (23, 0, 0)) hn hM rfl rfl rfl rfl z15 rfl ?_
  refine zr_fr hM rfl rfl rfl ?_
  refine zr_getf (κ := (22, 0, 0)) hn hM rfl rfl rfl rfl ?_
  refine zr_fr hM rfl rfl rfl ?_
  refine zr_fr hM rfl rfl rfl ?_
  refine zr_fr hM rfl rfl rfl ?_
  refine zr_fr hM rfl rfl rfl ?_
  refine zr_iast (κ := (23, 0, 0)) hn hM rfl rfl rfl rfl z16 rfl ?_
  refine zr_fr hM rfl rfl rfl ?_
  refine zr_getf (κ := (22, 0, 0)) hn hM rfl rfl rfl rfl ?_
  refine zr_fr hM rfl rfl rfl ?_
  refine zr_fr hM rfl rfl rfl ?_
  refine zr_fr hM rfl rfl rfl ?_
  refine zr_fr hM rfl rfl rfl ?_
  refine zr_getf (κ := (22, 0, 0)) hn hM rfl rfl rfl rfl ?_
  refine zr_fr hM rfl rfl rfl ?_
  refine zr_fr hM rfl rfl rfl ?_
  refine zr_fr hM rfl rfl rfl ?_
  refine zr_iald (κ := (23, 0, 0)) hn hM rfl rfl rfl z17 ?_
  refine zr_fr hM rfl rfl rfl ?_
  refine zr_fr hM rfl rfl rfl ?_
  refine zr_iast (κ := (23, 0, 0)) hn hM rfl rfl rfl rfl z18 rfl ?_
  refine zr_fr hM rfl rfl rfl ?_
  refine zr_getf (κ := (22, 0, 0)) hn hM rfl rfl rfl rfl ?_
  refine zr_fr hM rfl rfl rfl ?_
  refine zr_fr hM rfl rfl rfl ?_
  refine zr_fr hM rfl rfl rfl ?_
  refine zr_fr hM rfl rfl rfl ?_
  refine zr_iald (κ := (23, 0, 0)) hn hM rfl rfl rfl z9 ?_
  refine zr_fr hM rfl rfl rfl ?_
  refine zr_fr hM rfl rfl rfl ?_
  refine zr_iast (κ := (23, 0, 0)) hn hM rfl rfl rfl rfl z9 rfl ?_
  refine zr_fr hM rfl rfl rfl ?_
  refine zr_getf (κ := (22, 0, 0)) hn hM rfl rfl rfl rfl ?_
  refine zr_fr hM rfl rfl rfl ?_
  refine zr_fr hM rfl rfl rfl ?_
  refine zr_fr hM rfl rfl rfl ?_
  refine zr_fr hM rfl rfl rfl ?_
  refine zr_iald (κ := (23, 0, 0)) hn hM rfl rfl rfl z12 ?_
  refine zr_fr hM rfl rfl rfl ?_
  refine zr_fr hM rfl rfl rfl ?_
  refine zr_iast (κ := (23, 0, 0)) hn hM rfl rfl rfl rfl z12 rfl ?_
  refine zr_fr hM rfl rfl rfl ?_
  refine zr_getf (κ := (22, 0, 0)) hn hM rfl rfl rfl rfl ?_
  refine zr_fr hM rfl rfl rfl ?_
  refine zr_fr hM rfl rfl rfl ?_
  refine zr_fr hM rfl rfl rfl ?_
  refine zr_fr hM rfl rfl rfl ?_
  refine zr_iald (κ := (23, 0, 0)) hn hM rfl rfl rfl z13 ?_
  refine zr_fr hM rfl rfl rfl ?_
  refine zr_fr hM rfl rfl rfl ?_
  refine zr_iast (κ := (23, 0, 0)) hn hM rfl rfl rfl rfl z13 rfl ?_
  refine zr_fr hM rfl rfl rfl ?_
  refine zr_getf (κ := (22, 0, 0)) hn hM rfl rfl rfl rfl ?_
  refine zr_fr hM rfl rfl rfl ?_
  refine zr_iald (κ := (23, 0, 0)) hn hM rfl rfl rfl z14 ?_
  exact zr_iret2 hM rfl rfl rfl
set_option maxHeartbeats 4000000 in
theorem s123_0_fftttf {n L : Nat} {σ : Ks} {g : List Nat} {cl : Bool} {p1 : Int32} {p2 : Int32} {p3 : Int32} {p4 : Int32} {r1 : Int32} {r6 : Int32} {x7 : Nat} (hn : 2 ≤ n ∧ n ≤ 5) (c1_ : ZR 118 0 [.val (.ref (kad n (22, 0, 0))), .val (.int p1), .val (.int p2), .val (.int p3)] [] (khp n L σ g) true (.inl (some (.int r1)), khp n L σ g, true)) (h2 : zcnd .eq r1 0 = false) (h3 : zcnd .lt p4 (Int32.ofInt 1) = false) (h4 : zcnd .gt p4 ((Int8.ofInt 100).toInt32) = true) (h5 : zcnd .le ((kup σ 42 0 (Int32.ofInt 1)) 42 0) 0 = true) (c6_ : ZR 97 0 [.val (.int p1)] [] (khp n L (kup σ 42 0 (Int32.ofInt 1)) g) true (.inl (some (.int r6)), khp n L (kup σ 42 0 (Int32.ofInt 1)) g, true)) (z7 : zix p1 5 = some x7) (h8 : zcnd .ne ((kup σ 42 0 (Int32.ofInt 1)) 40 x7) 0 = true) (h9 : zcnd .le ((kup (kup σ 42 0 (Int32.ofInt 1)) 42 0 (Int32.ofInt 2)) 42 0) 0 = false) : ZR 123 0 [.val (.ref (kad n (22, 0, 0))), .val (.int p1), .val (.int p2), .val (.int p3), .val (.int p4), .unset, .unset] [] (khp n L σ g) cl (.inl (some (.int (Int32.ofInt 0))), khp n L (kup (kup σ 42 0 (Int32.ofInt 1)) 42 0 (Int32.ofInt 2)) (g), false) := by
  have hM : zmi[123]? = some _ := rfl
  have l7 := (zix_some z7).2.2
  refine zr_fr hM rfl rfl rfl ?_
  refine zr_fr hM rfl rfl rfl ?_
  refine zr_fr hM rfl rfl rfl ?_
  refine zr_fr hM rfl rfl rfl ?_
  refine zr_fr hM rfl rfl rfl ?_
  refine zr_virt (κ := (22, 0, 0)) hn hM rfl rfl rfl rfl rfl rfl rfl rfl rfl ?_
  refine zgo_ret rfl rfl c1_ ?_
  rw [Bool.and_true]
  refine zr_iff hM rfl rfl h2 ?_
  refine zr_fr hM rfl rfl rfl ?_
  refine zr_fr hM rfl rfl rfl ?_
  refine zr_icf hM rfl rfl h3 ?_
  refine zr_fr hM rfl rfl rfl ?_
  refine zr_fr hM rfl rfl rfl ?_
  refine zr_ict hM rfl rfl h4 ?_
  refine zr_fr hM rfl rfl rfl ?_
  refine zr_putf (κ := (22, 0, 0)) hn hM rfl rfl rfl rfl rfl rfl rfl rfl ?_
  refine zr_fr hM rfl rfl rfl ?_
  refine zr_getf (κ := (22, 0, 0)) hn hM rfl rfl rfl rfl ?_
  refine zr_ift hM rfl rfl h5 ?_
  refine zr_fr hM rfl rfl rfl ?_
  refine zr_stat hM rfl rfl rfl rfl rfl rfl ?_
  refine zgo_ret rfl rfl c6_ ?_
  rw [Bool.and_true]
  refine zr_fr hM rfl rfl rfl ?_
  refine zr_fr hM rfl rfl rfl ?_
  refine zr_fr hM rfl rfl rfl ?_
  refine zr_getf (κ := (22, 0, 0)) hn hM rfl rfl rfl rfl ?_
  refine zr_fr hM rfl rfl rfl ?_
  refine zr_bald (κ := (25, 0, 0)) hn hM rfl rfl rfl z7 ?_
  refine zr_ift hM rfl rfl h8 ?_
  refine zr_fr hM rfl rfl rfl ?_
  refine zr_fr hM rfl rfl rfl ?_
  refine zr_putf (κ := (22, 0, 0)) hn hM rfl rfl rfl rfl rfl rfl rfl rfl ?_
  refine zr_fr hM rfl rfl rfl ?_
  refine zr_getf (κ := (22, 0, 0)) hn hM rfl rfl rfl rfl ?_
  refine zr_iff hM rfl rfl h9 ?_
  refine zr_fr hM rfl rfl rfl ?_
  exact zr_iret2 hM rfl rfl rfl
set_option maxHeartbeats 4000000 in
theorem s123_0_fftttt {n L : Nat} {σ : Ks} {g : List Nat} {cl : Bool} {p1 : Int32} {p2 : Int32} {p3 : Int32} {p4 : Int32} {r1 : Int32} {r6 : Int32} {x7 : Nat} {x10 : Nat} {x11 : Nat} {x12 : Nat} {x13 : Nat} {x14 : Nat} {x15 : Nat} {x16 : Nat} {x17 : Nat} (hn : 2 ≤ n ∧ n ≤ 5) (c1_ : ZR 118 0 [.val (.ref (kad n (22, 0, 0))), .val (.int p1), .val (.int p2), .val (.int p3)] [] (khp n L σ g) true (.inl (some (.int r1)), khp n L σ g, true)) (h2 : zcnd .eq r1 0 = false) (h3 : zcnd .lt p4 (Int32.ofInt 1) = false) (h4 : zcnd .gt p4 ((Int8.ofInt 100).toInt32) = true) (h5 : zcnd .le ((kup σ 42 0 (Int32.ofInt 1)) 42 0) 0 = true) (c6_ : ZR 97 0 [.val (.int p1)] [] (khp n L (kup σ 42 0 (Int32.ofInt 1)) g) true (.inl (some (.int r6)), khp n L (kup σ 42 0 (Int32.ofInt 1)) g, true)) (z7 : zix p1 5 = some x7) (h8 : zcnd .ne ((kup σ 42 0 (Int32.ofInt 1)) 40 x7) 0 = true) (h9 : zcnd .le ((kup (kup σ 42 0 (Int32.ofInt 1)) 42 0 (Int32.ofInt 2)) 42 0) 0 = true) (z10 : zix (r6 + ((Int8.ofInt 19).toInt32)) 820 = some x10) (z11 : zix (r6 + ((Int8.ofInt 17).toInt32)) 820 = some x11) (z12 : zix ((r6 + ((Int8.ofInt 20).toInt32)) + ((Int32.ofInt 4) * ((kup (kup σ 42 0 (Int32.ofInt 1)) 42 0 (Int32.ofInt 2)) (20 + x10 / 164) (x10 % 164)))) 820 = some x12) (z13 : zix (((r6 + ((Int8.ofInt 20).toInt32)) + ((Int32.ofInt 4) * ((kup (kup σ 42 0 (Int32.ofInt 1)) 42 0 (Int32.ofInt 2)) (20 + x10 / 164) (x10 % 164)))) + (Int32.ofInt 1)) 820 = some x13) (z14 : zix (((r6 + ((Int8.ofInt 20).toInt32)) + ((Int32.ofInt 4) * ((kup (kup σ 42 0 (Int32.ofInt 1)) 42 0 (Int32.ofInt 2)) (20 + x10 / 164) (x10 % 164)))) + (Int32.ofInt 2)) 820 = some x14) (z15 : zix (r6 + ((Int8.ofInt 16).toInt32)) 820 = some x15) (z16 : zix (((r6 + ((Int8.ofInt 20).toInt32)) + ((Int32.ofInt 4) * ((kup (kup σ 42 0 (Int32.ofInt 1)) 42 0 (Int32.ofInt 2)) (20 + x10 / 164) (x10 % 164)))) + (Int32.ofInt 3)) 820 = some x16) (z17 : zix (r6 + p2) 820 = some x17) : ZR 123 0 [.val (.ref (kad n (22, 0, 0))), .val (.int p1), .val (.int p2), .val (.int p3), .val (.int p4), .unset, .unset] [] (khp n L σ g) cl (.inl (some (.int ((kup (kup (kup (kup (kup (kup (kup (kup (kup σ 42 0 (Int32.ofInt 1)) 42 0 (Int32.ofInt 2)) (20 + x12 / 164) (x12 % 164) ((kup (kup σ 42 0 (Int32.ofInt 1)) 42 0 (Int32.ofInt 2)) (20 + x11 / 164) (x11 % 164))) (20 + x13 / 164) (x13 % 164) p2) (20 + x14 / 164) (x14 % 164) p3) (20 + x16 / 164) (x16 % 164) (((kup (kup (kup (kup (kup σ 42 0 (Int32.ofInt 1)) 42 0 (Int32.ofInt 2)) (20 + x12 / 164) (x12 % 164) ((kup (kup σ 42 0 (Int32.ofInt 1)) 42 0 (Int32.ofInt 2)) (20 + x11 / 164) (x11 % 164))) (20 + x13 / 164) (x13 % 164) p2) (20 + x14 / 164) (x14 % 164) p3) (20 + x15 / 164) (x15 % 164)) + p4)) (20 + x17 / 164) (x17 % 164) (((kup (kup (kup (kup (kup (kup σ 42 0 (Int32.ofInt 1)) 42 0 (Int32.ofInt 2)) (20 + x12 / 164) (x12 % 164) ((kup (kup σ 42 0 (Int32.ofInt 1)) 42 0 (Int32.ofInt 2)) (20 + x11 / 164) (x11 % 164))) (20 + x13 / 164) (x13 % 164) p2) (20 + x14 / 164) (x14 % 164) p3) (20 + x16 / 164) (x16 % 164) (((kup (kup (kup (kup (kup σ 42 0 (Int32.ofInt 1)) 42 0 (Int32.ofInt 2)) (20 + x12 / 164) (x12 % 164) ((kup (kup σ 42 0 (Int32.ofInt 1)) 42 0 (Int32.ofInt 2)) (20 + x11 / 164) (x11 % 164))) (20 + x13 / 164) (x13 % 164) p2) (20 + x14 / 164) (x14 % 164) p3) (20 + x15 / 164) (x15 % 164)) + p4)) (20 + x17 / 164) (x17 % 164)) - p3)) (20 + x10 / 164) (x10 % 164) (((kup (kup (kup (kup (kup (kup (kup σ 42 0 (Int32.ofInt 1)) 42 0 (Int32.ofInt 2)) (20 + x12 / 164) (x12 % 164) ((kup (kup σ 42 0 (Int32.ofInt 1)) 42 0 (Int32.ofInt 2)) (20 + x11 / 164) (x11 % 164))) (20 + x13 / 164) (x13 % 164) p2) (20 + x14 / 164) (x14 % 164) p3) (20 + x16 / 164) (x16 % 164) (((kup (kup (kup (kup (kup σ 42 0 (Int32.ofInt 1)) 42 0 (Int32.ofInt 2)) (20 + x12 / 164) (x12 % 164) ((kup (kup σ 42 0 (Int32.ofInt 1)) 42 0 (Int32.ofInt 2)) (20 + x11 / 164) (x11 % 164))) (20 + x13 / 164) (x13 % 164) p2) (20 + x14 / 164) (x14 % 164) p3) (20 + x15 / 164) (x15 % 164)) + p4)) (20 + x17 / 164) (x17 % 164) (((kup (kup (kup (kup (kup (kup σ 42 0 (Int32.ofInt 1)) 42 0 (Int32.ofInt 2)) (20 + x12 / 164) (x12 % 164) ((kup (kup σ 42 0 (Int32.ofInt 1)) 42 0 (Int32.ofInt 2)) (20 + x11 / 164) (x11 % 164))) (20 + x13 / 164) (x13 % 164) p2) (20 + x14 / 164) (x14 % 164) p3) (20 + x16 / 164) (x16 % 164) (((kup (kup (kup (kup (kup σ 42 0 (Int32.ofInt 1)) 42 0 (Int32.ofInt 2)) (20 + x12 / 164) (x12 % 164) ((kup (kup σ 42 0 (Int32.ofInt 1)) 42 0 (Int32.ofInt 2)) (20 + x11 / 164) (x11 % 164))) (20 + x13 / 164) (x13 % 164) p2) (20 + x14 / 164) (x14 % 164) p3) (20 + x15 / 164) (x15 % 164)) + p4)) (20 + x17 / 164) (x17 % 164)) - p3)) (20 + x10 / 164) (x10 % 164)) + (Int32.ofInt 1))) (20 + x11 / 164) (x11 % 164) (((kup (kup (kup (kup (kup (kup (kup (kup σ 42 0 (Int32.ofInt 1)) 42 0 (Int32.ofInt 2)) (20 + x12 / 164) (x12 % 164) ((kup (kup σ 42 0 (Int32.ofInt 1)) 42 0 (Int32.ofInt 2)) (20 + x11 / 164) (x11 % 164))) (20 + x13 / 164) (x13 % 164) p2) (20 + x14 / 164) (x14 % 164) p3) (20 + x16 / 164) (x16 % 164) (((kup (kup (kup (kup (kup σ 42 0 (Int32.ofInt 1)) 42 0 (Int32.ofInt 2)) (20 + x12 / 164) (x12 % 164) ((kup (kup σ 42 0 (Int32.ofInt 1)) 42 0 (Int32.ofInt 2)) (20 + x11 / 164) (x11 % 164))) (20 + x13 / 164) (x13 % 164) p2) (20 + x14 / 164) (x14 % 164) p3) (20 + x15 / 164) (x15 % 164)) + p4)) (20 + x17 / 164) (x17 % 164) (((kup (kup (kup (kup (kup (kup σ 42 0 (Int32.ofInt 1)) 42 0 (Int32.ofInt 2)) (20 + x12 / 164) (x12 % 164) ((kup (kup σ 42 0 (Int32.ofInt 1)) 42 0 (Int32.ofInt 2)) (20 + x11 / 164) (x11 % 164))) (20 + x13 / 164) (x13 % 164) p2) (20 + x14 / 164) (x14 % 164) p3) (20 + x16 / 164) (x16 % 164) (((kup (kup (kup (kup (kup σ 42 0 (Int32.ofInt 1)) 42 0 (Int32.ofInt 2)) (20 + x12 / 164) (x12 % 164) ((kup (kup σ 42 0 (Int32.ofInt 1)) 42 0 (Int32.ofInt 2)) (20 + x11 / 164) (x11 % 164))) (20 + x13 / 164) (x13 % 164) p2) (20 + x14 / 164) (x14 % 164) p3) (20 + x15 / 164) (x15 % 164)) + p4)) (20 + x17 / 164) (x17 % 164)) - p3)) (20 + x10 / 164) (x10 % 164) (((kup (kup (kup (kup (kup (kup (kup σ 42 0 (Int32.ofInt 1)) 42 0 (Int32.ofInt 2)) (20 + x12 / 164) (x12 % 164) ((kup (kup σ 42 0 (Int32.ofInt 1)) 42 0 (Int32.ofInt 2)) (20 + x11 / 164) (x11 % 164))) (20 + x13 / 164) (x13 % 164) p2) (20 + x14 / 164) (x14 % 164) p3) (20 + x16 / 164) (x16 % 164) (((kup (kup (kup (kup (kup σ 42 0 (Int32.ofInt 1)) 42 0 (Int32.ofInt 2)) (20 + x12 / 164) (x12 % 164) ((kup (kup σ 42 0 (Int32.ofInt 1)) 42 0 (Int32.ofInt 2)) (20 + x11 / 164) (x11 % 164))) (20 + x13 / 164) (x13 % 164) p2) (20 + x14 / 164) (x14 % 164) p3) (20 + x15 / 164) (x15 % 164)) + p4)) (20 + x17 / 164) (x17 % 164) (((kup (kup (kup (kup (kup (kup σ 42 0 (Int32.ofInt 1)) 42 0 (Int32.ofInt 2)) (20 + x12 / 164) (x12 % 164) ((kup (kup σ 42 0 (Int32.ofInt 1)) 42 0 (Int32.ofInt 2)) (20 + x11 / 164) (x11 % 164))) (20 + x13 / 164) (x13 % 164) p2) (20 + x14 / 164) (x14 % 164) p3) (20 + x16 / 164) (x16 % 164) (((kup (kup (kup (kup (kup σ 42 0 (Int32.ofInt 1)) 42 0 (Int32.ofInt 2)) (20 + x12 / 164) (x12 % 164) ((kup (kup σ 42 0 (Int32.ofInt 1)) 42 0 (Int32.ofInt 2)) (20 + x11 / 164) (x11 % 164))) (20 + x13 / 164) (x13 % 164) p2) (20 + x14 / 164) (x14 % 164) p3) (20 + x15 / 164) (x15 % 164)) + p4)) (20 + x17 / 164) (x17 % 164)) - p3)) (20 + x10 / 164) (x10 % 164)) + (Int32.ofInt 1))) (20 + x11 / 164) (x11 % 164)) + (Int32.ofInt 1))) (20 + x12 / 164) (x12 % 164)))), khp n L (kup (kup (kup (kup (kup (kup (kup (kup (kup σ 42 0 (Int32.ofInt 1)) 42 0 (Int32.ofInt 2)) (20 + x12 / 164) (x12 % 164) ((kup (kup σ 42 0 (Int32.ofInt 1)) 42 0 (Int32.ofInt 2)) (20 + x11 / 164) (x11 % 164))) (20 + x13 / 164) (x13 % 164) p2) (20 + x14 / 164) (x14 % 164) p3) (20 + x16 / 164) (x16 % 164) (((kup (kup (kup (kup (kup σ 42 0 (Int32.ofInt 1)) 42 0 (Int32.ofInt 2)) (20 + x12 / 164) (x12 % 164) ((kup (kup σ 42 0 (Int32.ofInt 1)) 42 0 (Int32.ofInt 2)) (20 + x11 / 164) (x11 % 164))) (20 + x13 / 164) (x13 % 164) p2) (20 + x14 / 164) (x14 % 164) p3) (20 + x15 / 164) (x15 % 164)) + p4)) (20 + x17 / 164) (x17 % 164) (((kup (kup (kup (kup (kup (kup σ 42 0 (Int32.ofInt 1)) 42 0 (Int32.ofInt 2)) (20 + x12 / 164) (x12 % 164) ((kup (kup σ 42 0 (Int32.ofInt 1)) 42 0 (Int32.ofInt 2)) (20 + x11 / 164) (x11 % 164))) (20 + x13 / 164) (x13 % 164) p2) (20 + x14 / 164) (x14 % 164) p3) (20 + x16 / 164) (x16 % 164) (((kup (kup (kup (kup (kup σ 42 0 (Int32.ofInt 1)) 42 0 (Int32.ofInt 2)) (20 + x12 / 164) (x12 % 164) ((kup (kup σ 42 0 (Int32.ofInt 1)) 42 0 (Int32.ofInt 2)) (20 + x11 / 164) (x11 % 164))) (20 + x13 / 164) (x13 % 164) p2) (20 + x14 / 164) (x14 % 164) p3) (20 + x15 / 164) (x15 % 164)) + p4)) (20 + x17 / 164) (x17 % 164)) - p3)) (20 + x10 / 164) (x10 % 164) (((kup (kup (kup (kup (kup (kup (kup σ 42 0 (Int32.ofInt 1)) 42 0 (Int32.ofInt 2)) (20 + x12 / 164) (x12 % 164) ((kup (kup σ 42 0 (Int32.ofInt 1)) 42 0 (Int32.ofInt 2)) (20 + x11 / 164) (x11 % 164))) (20 + x13 / 164) (x13 % 164) p2) (20 + x14 / 164) (x14 % 164) p3) (20 + x16 / 164) (x16 % 164) (((kup (kup (kup (kup (kup σ 42 0 (Int32.ofInt 1)) 42 0 (Int32.ofInt 2)) (20 + x12 / 164) (x12 % 164) ((kup (kup σ 42 0 (Int32.ofInt 1)) 42 0 (Int32.ofInt 2)) (20 + x11 / 164) (x11 % 164))) (20 + x13 / 164) (x13 % 164) p2) (20 + x14 / 164) (x14 % 164) p3) (20 + x15 / 164) (x15 % 164)) + p4)) (20 + x17 / 164) (x17 % 164) (((kup (kup (kup (kup (kup (kup σ 42 0 (Int32.ofInt 1)) 42 0 (Int32.ofInt 2)) (20 + x12 / 164) (x12 % 164) ((kup (kup σ 42 0 (Int32.ofInt 1)) 42 0 (Int32.ofInt 2)) (20 + x11 / 164) (x11 % 164))) (20 + x13 / 164) (x13 % 164) p2) (20 + x14 / 164) (x14 % 164) p3) (20 + x16 / 164) (x16 % 164) (((kup (kup (kup (kup (kup σ 42 0 (Int32.ofInt 1)) 42 0 (Int32.ofInt 2)) (20 + x12 / 164) (x12 % 164) ((kup (kup σ 42 0 (Int32.ofInt 1)) 42 0 (Int32.ofInt 2)) (20 + x11 / 164) (x11 % 164))) (20 + x13 / 164) (x13 % 164) p2) (20 + x14 / 164) (x14 % 164) p3) (20 + x15 / 164) (x15 % 164)) + p4)) (20 + x17 / 164) (x17 % 164)) - p3)) (20 + x10 / 164) (x10 % 164)) + (Int32.ofInt 1))) (20 + x11 / 164) (x11 % 164) (((kup (kup (kup (kup (kup (kup (kup (kup σ 42 0 (Int32.ofInt 1)) 42 0 (Int32.ofInt 2)) (20 + x12 / 164) (x12 % 164) ((kup (kup σ 42 0 (Int32.ofInt 1)) 42 0 (Int32.ofInt 2)) (20 + x11 / 164) (x11 % 164))) (20 + x13 / 164) (x13 % 164) p2) (20 + x14 / 164) (x14 % 164) p3) (20 + x16 / 164) (x16 % 164) (((kup (kup (kup (kup (kup σ 42 0 (Int32.ofInt 1)) 42 0 (Int32.ofInt 2)) (20 + x12 / 164) (x12 % 164) ((kup (kup σ 42 0 (Int32.ofInt 1)) 42 0 (Int32.ofInt 2)) (20 + x11 / 164) (x11 % 164))) (20 + x13 / 164) (x13 % 164) p2) (20 + x14 / 164) (x14 % 164) p3) (20 + x15 / 164) (x15 % 164)) + p4)) (20 + x17 / 164) (x17 % 164) (((kup (kup (kup (kup (kup (kup σ 42 0 (Int32.ofInt 1)) 42 0 (Int32.ofInt 2)) (20 + x12 / 164) (x12 % 164) ((kup (kup σ 42 0 (Int32.ofInt 1)) 42 0 (Int32.ofInt 2)) (20 + x11 / 164) (x11 % 164))) (20 + x13 / 164) (x13 % 164) p2) (20 + x14 / 164) (x14 % 164) p3) (20 + x16 / 164) (x16 % 164) (((kup (kup (kup (kup (kup σ 42 0 (Int32.ofInt 1)) 42 0 (Int32.ofInt 2)) (20 + x12 / 164) (x12 % 164) ((kup (kup σ 42 0 (Int32.ofInt 1)) 42 0 (Int32.ofInt 2)) (20 + x11 / 164) (x11 % 164))) (20 + x13 / 164) (x13 % 164) p2) (20 + x14 / 164) (x14 % 164) p3) (20 + x15 / 164) (x15 % 164)) + p4)) (20 + x17 / 164) (x17 % 164)) - p3)) (20 + x10 / 164) (x10 % 164) (((kup (kup (kup (kup (kup (kup (kup σ 42 0 (Int32.ofInt 1)) 42 0 (Int32.ofInt 2)) (20 + x12 / 164) (x12 % 164) ((kup (kup σ 42 0 (Int32.ofInt 1)) 42 0 (Int32.ofInt 2)) (20 + x11 / 164) (x11 % 164))) (20 + x13 / 164) (x13 % 164) p2) (20 + x14 / 164) (x14 % 164) p3) (20 + x16 / 164) (x16 % 164) (((kup (kup (kup (kup (kup σ 42 0 (Int32.ofInt 1)) 42 0 (Int32.ofInt 2)) (20 + x12 / 164) (x12 % 164) ((kup (kup σ 42 0 (Int32.ofInt 1)) 42 0 (Int32.ofInt 2)) (20 + x11 / 164) (x11 % 164))) (20 + x13 / 164) (x13 % 164) p2) (20 + x14 / 164) (x14 % 164) p3) (20 + x15 / 164) (x15 % 164)) + p4)) (20 + x17 / 164) (x17 % 164) (((kup (kup (kup (kup (kup (kup σ 42 0 (Int32.ofInt 1)) 42 0 (Int32.ofInt 2)) (20 + x12 / 164) (x12 % 164) ((kup (kup σ 42 0 (Int32.ofInt 1)) 42 0 (Int32.ofInt 2)) (20 + x11 / 164) (x11 % 164))) (20 + x13 / 164) (x13 % 164) p2) (20 + x14 / 164) (x14 % 164) p3) (20 + x16 / 164) (x16 % 164) (((kup (kup (kup (kup (kup σ 42 0 (Int32.ofInt 1)) 42 0 (Int32.ofInt 2)) (20 + x12 / 164) (x12 % 164) ((kup (kup σ 42 0 (Int32.ofInt 1)) 42 0 (Int32.ofInt 2)) (20 + x11 / 164) (x11 % 164))) (20 + x13 / 164) (x13 % 164) p2) (20 + x14 / 164) (x14 % 164) p3) (20 + x15 / 164) (x15 % 164)) + p4)) (20 + x17 / 164) (x17 % 164)) - p3)) (20 + x10 / 164) (x10 % 164)) + (Int32.ofInt 1))) (20 + x11 / 164) (x11 % 164)) + (Int32.ofInt 1))) (g), false) := by
  have hM : zmi[123]? = some _ := rfl
  have l7 := (zix_some z7).2.2
  have l10 := (zix_some z10).2.2
  have l11 := (zix_some z11).2.2
  have l12 := (zix_some z12).2.2
  have l13 := (zix_some z13).2.2
  have l14 := (zix_some z14).2.2
  have l15 := (zix_some z15).2.2
  have l16 := (zix_some z16).2.2
  have l17 := (zix_some z17).2.2
  refine zr_fr hM rfl rfl rfl ?_
  refine zr_fr hM rfl rfl rfl ?_
  refine zr_fr hM rfl rfl rfl ?_
  refine zr_fr hM rfl rfl rfl ?_
  refine zr_fr hM rfl rfl rfl ?_
  refine zr_virt (κ := (22, 0, 0)) hn hM rfl rfl rfl rfl rfl rfl rfl rfl rfl ?_
  refine zgo_ret rfl rfl c1_ ?_
  rw [Bool.and_true]
  refine zr_iff hM rfl rfl h2 ?_
  refine zr_fr hM rfl rfl rfl ?_
  refine zr_fr hM rfl rfl rfl ?_
  refine zr_icf hM rfl rfl h3 ?_
  refine zr_fr hM rfl rfl rfl ?_
  refine zr_fr hM rfl rfl rfl ?_
  refine zr_ict hM rfl rfl h4 ?_
  refine zr_fr hM rfl rfl rfl ?_
  refine zr_putf (κ := (22, 0, 0)) hn hM rfl rfl rfl rfl rfl rfl rfl rfl ?_
  refine zr_fr hM rfl rfl rfl ?_
  refine zr_getf (κ := (22, 0, 0)) hn hM rfl rfl rfl rfl ?_
  refine zr_ift hM rfl rfl h5 ?_
  refine zr_fr hM rfl rfl rfl ?_
  refine zr_stat hM rfl rfl rfl rfl rfl rfl ?_
  refine zgo_ret rfl rfl c6_ ?_
  rw [Bool.and_true]
  refine zr_fr hM rfl rfl rfl ?_
  refine zr_fr hM rfl rfl rfl ?_
  refine zr_fr hM rfl rfl rfl ?_
  refine zr_getf (κ := (22, 0, 0)) hn hM rfl rfl rfl rfl ?_
  refine zr_fr hM rfl rfl rfl ?_
  refine zr_bald (κ := (25, 0, 0)) hn hM rfl rfl rfl z7 ?_
  refine zr_ift hM rfl rfl h8 ?_
  refine zr_fr hM rfl rfl rfl ?_
  refine zr_fr hM rfl rfl rfl ?_
  refine zr_putf (κ := (22, 0, 0)) hn hM rfl rfl rfl rfl rfl rfl rfl rfl ?_
  refine zr_fr hM rfl rfl rfl ?_
  refine zr_getf (κ := (22, 0, 0)) hn hM rfl rfl rfl rfl ?_
  refine zr_ift hM rfl rfl h9 ?_
  refine zr_fr hM rfl rfl rfl ?_
  refine zr_fr hM rfl rfl rfl ?_
  refine zr_fr hM rfl rfl rfl ?_
  refine zr_fr hM rfl rfl rfl ?_
  refine zr_fr hM rfl rfl rfl ?_
  refine zr_getf (κ := (22, 0, 0)) hn hM rfl rfl rfl rfl ?_
  refine zr_fr hM rfl rfl rfl ?_
  refine zr_fr hM rfl rfl rfl ?_
  refine zr_fr hM rfl rfl rfl ?_
  refine zr_iald (κ := (23, 0, 0)) hn hM rfl rfl rfl z10 ?_
  refine zr_fr hM rfl rfl rfl ?_
  refine zr_fr hM rfl rfl rfl ?_
  refine zr_fr hM rfl rfl rfl ?_
  refine zr_fr hM rfl rfl rfl ?_
  refine zr_getf (κ := (22, 0, 0)) hn hM rfl rfl rfl rfl ?_
  refine zr_fr hM rfl rfl rfl ?_
  refine zr_fr hM rfl rfl rfl ?_
  refine zr_getf (κ := (22, 0, 0)) hn hM rfl rfl rfl rfl ?_
  refine zr_fr hM rfl rfl rfl ?_
  refine zr_fr hM rfl rfl rfl ?_
  refine zr_fr hM rfl rfl rfl ?_
  refine zr_iald (κ := (23, 0, 0)) hn hM rfl rfl rfl z11 ?_
  refine zr_iast (κ := (23, 0, 0)) hn hM rfl rfl rfl rfl z12 rfl ?_
  refine zr_fr hM rfl rfl rfl ?_
  refine zr_getf (κ := (22, 0, 0)) hn hM rfl rfl rfl rfl ?_
  refine zr_fr hM rfl rfl rfl ?_
  refine zr_fr hM rfl rfl rfl ?_
  refine zr_fr hM rfl rfl rfl ?_
  refine zr_fr hM rfl rfl rfl ?_
  refine zr_iast (κ := (23, 0, 0)) hn hM rfl rfl rfl rfl z13 rfl ?_
  refine zr_fr hM rfl rfl rfl ?_
  refine zr_getf (κ := (22, 0, 0)) hn hM rfl rfl rfl rfl ?_
  refine zr_fr hM rfl rfl rfl ?_
  refine zr_fr hM rfl rfl rfl ?_
  refine zr_fr hM rfl rfl rfl ?_
  refine zr_fr hM rfl rfl rfl ?_
  refine zr_iast (κ := (23, 0, 0)) hn hM rfl rfl rfl rfl z14 rfl ?_
  refine zr_fr hM rfl rfl rfl ?_
  refine zr_getf (κ := (22, 0, 0)) hn hM rfl rfl rfl rfl ?_
  refine zr_fr hM rfl rfl rfl ?_
  refine zr_fr hM rfl rfl rfl ?_
  refine zr_fr hM rfl rfl rfl ?_
  refine zr_fr hM rfl rfl rfl ?_
  refine zr_getf (κ := (22, 0, 0)) hn hM rfl rfl rfl rfl ?_
  refine zr_fr hM rfl rfl rfl ?_
  refine zr_fr hM rfl rfl rfl ?_
  refine zr_fr hM rfl rfl rfl ?_
  refine zr_iald (κ := (23, 0, 0)) hn hM rfl rfl rfl z15 ?_
  refine zr_fr hM rfl rfl rfl ?_
  refine zr_fr hM rfl rfl rfl ?_
  refine zr_iast (κ := (23, 0, 0)) hn hM rfl rfl rfl rfl z16 rfl ?_
  refine zr_fr hM rfl rfl rfl ?_
  refine zr_getf (κ := (22, 0, 0)) hn hM rfl rfl rfl rfl ?_
  refine zr_fr hM rfl rfl rfl ?_
  refine zr_fr hM rfl rfl rfl ?_
  refine zr_fr hM rfl rfl rfl ?_
  refine zr_fr hM rfl rfl rfl ?_
  refine zr_iald (κ := (23, 0, 0)) hn hM rfl rfl rfl z17 ?_
  refine zr_fr hM rfl rfl rfl ?_
  refine zr_fr hM rfl rfl rfl ?_
  refine zr_iast (κ := (23, 0, 0)) hn hM rfl rfl rfl rfl z17 rfl ?_
  refine zr_fr hM rfl rfl rfl ?_
  refine zr_getf (κ := (22, 0, 0)) hn hM rfl rfl rfl rfl ?_
  refine zr_fr hM rfl rfl rfl ?_
  refine zr_fr hM rfl rfl rfl ?_
  refine zr_fr hM rfl rfl rfl ?_
  refine zr_fr hM rfl rfl rfl ?_
  refine zr_iald (κ := (23, 0, 0)) hn hM rfl rfl rfl z10 ?_
  refine zr_fr hM rfl rfl rfl ?_
  refine zr_fr hM rfl rfl rfl ?_
  refine zr_iast (κ := (23, 0, 0)) hn hM rfl rfl rfl rfl z10 rfl ?_
  refine zr_fr hM rfl rfl rfl ?_
  refine zr_getf (κ := (22, 0, 0)) hn hM rfl rfl rfl rfl ?_
  refine zr_fr hM rfl rfl rfl ?_
  refine zr_fr hM rfl rfl rfl ?_
  refine zr_fr hM rfl rfl rfl ?_
  refine zr_fr hM rfl rfl rfl ?_
  refine zr_iald (κ := (23, 0, 0)) hn hM rfl rfl rfl z11 ?_
  refine zr_fr hM rfl rfl rfl ?_
  refine zr_fr hM rfl rfl rfl ?_
  refine zr_iast (κ := (23, 0, 0)) hn hM rfl rfl rfl rfl z11 rfl ?_
  refine zr_fr hM rfl rfl rfl ?_
  refine zr_getf (κ := (22, 0, 0)) hn hM rfl rfl rfl rfl ?_
  refine zr_fr hM rfl rfl rfl ?_
  refine zr_iald (κ := (23, 0, 0)) hn hM rfl rfl rfl z12 ?_
  exact zr_iret2 hM rfl rfl rfl
set_option maxHeartbeats 4000000 in
theorem s123_0_ftf {n L : Nat} {σ : Ks} {g : List Nat} {cl : Bool} {p1 : Int32} {p2 : Int32} {p3 : Int32} {p4 : Int32} {r1 : Int32} (hn : 2 ≤ n ∧ n ≤ 5) (c1_ : ZR 118 0 [.val (.ref (kad n (22, 0, 0))), .val (.int p1), .val (.int p2), .val (.int p3)] [] (khp n L σ g) true (.inl (some (.int r1)), khp n L σ g, true)) (h2 : zcnd .eq r1 0 = false) (h3 : zcnd .lt p4 (Int32.ofInt 1) = true) (h4 : zcnd .le ((kup σ 42 0 (Int32.ofInt 1)) 42 0) 0 = false) : ZR 123 0 [.val (.ref (kad n (22, 0, 0))), .val (.int p1), .val (.int p2), .val (.int p3), .val (.int p4), .unset, .unset] [] (khp n L σ g) cl (.inl (some (.int (Int32.ofInt 0))), khp n L (kup σ 42 0 (Int32.ofInt 1)) (g), false) := by
  have hM : zmi[123]? = some _ := rfl
  refine zr_fr hM rfl rfl rfl ?_
  refine zr_fr hM rfl rfl rfl ?_
  refine zr_fr hM rfl rfl rfl ?_
  refine zr_fr hM rfl rfl rfl ?_
  refine zr_fr hM rfl rfl rfl ?_
  refine zr_virt (κ := (22, 0, 0)) hn hM rfl rfl rfl rfl rfl rfl rfl rfl rfl ?_
  refine zgo_ret rfl rfl c1_ ?_
  rw [Bool.and_true]
  refine zr_iff hM rfl rfl h2 ?_
  refine zr_fr hM rfl rfl rfl ?_
  refine zr_fr hM rfl rfl rfl ?_
  refine zr_ict hM rfl rfl h3 ?_
  refine zr_fr hM rfl rfl rfl ?_
  refine zr_putf (κ := (22, 0, 0)) hn hM rfl rfl rfl rfl rfl rfl rfl rfl ?_
  refine zr_fr hM rfl rfl rfl ?_
  refine zr_getf (κ := (22, 0, 0)) hn hM rfl rfl rfl rfl ?_
  refine zr_iff hM rfl rfl h4 ?_
  refine zr_fr hM rfl rfl rfl ?_
  exact zr_iret2 hM rfl rfl rfl
set_option maxHeartbeats 4000000 in
theorem s123_0_fttffff {n L : Nat} {σ : Ks} {g : List Nat} {cl : Bool} {p1 : Int32} {p2 : Int32} {p3 : Int32} {p4 : Int32} {r1 : Int32} {r5 : Int32} {x6 : Nat} {x8 : Nat} {x10 : Nat} (hn : 2 ≤ n ∧ n ≤ 5) (c1_ : ZR 118 0 [.val (.ref (kad n (22, 0, 0))), .val (.int p1), .val (.int p2), .val (.int p3)] [] (khp n L σ g) true (.inl (some (.int r1)), khp n L σ g, true)) (h2 : zcnd .eq r1 0 = false) (h3 : zcnd .lt p4 (Int32.ofInt 1) = true) (h4 : zcnd .le ((kup σ 42 0 (Int32.ofInt 1)) 42 0) 0 = true) (c5_ : ZR 97 0 [.val (.int p1)] [] (khp n L (kup σ 42 0 (Int32.ofInt 1)) g) true (.inl (some (.int r5)), khp n L (kup σ 42 0 (Int32.ofInt 1)) g, true)) (z6 : zix p1 5 = some x6) (h7 : zcnd .ne ((kup σ 42 0 (Int32.ofInt 1)) 40 x6) 0 = false) (z8 : zix (r5 + p2) 820 = some x8) (h9 : zcnd .lt ((kup σ 42 0 (Int32.ofInt 1)) (20 + x8 / 164) (x8 % 164)) p3 = false) (z10 : zix (r5 + ((Int8.ofInt 19).toInt32)) 820 = some x10) (h11 : zcnd .ne ((kup σ 42 0 (Int32.ofInt 1)) (20 + x10 / 164) (x10 % 164)) ((Int8.ofInt 6).toInt32) = false) (h12 : zcnd .le ((kup (kup σ 42 0 (Int32.ofInt 1)) 42 0 (Int32.ofInt 2)) 42 0) 0 = false) : ZR 123 0 [.val (.ref (kad n (22, 0, 0))), .val (.int p1), .val (.int p2), .val (.int p3), .val (.int p4), .unset, .unset] [] (khp n L σ g) cl (.inl (some (.int (Int32.ofInt 0))), khp n L (kup (kup σ 42 0 (Int32.ofInt 1)) 42 0 (Int32.ofInt 2)) (g), false) := by
  have hM : zmi[123]? = some _ := rfl
  have l6 := (zix_some z6).2.2
  have l8 := (zix_some z8).2.2
  have l10 := (zix_some z10).2.2
  refine zr_fr hM rfl rfl rfl ?_
  refine zr_fr hM rfl rfl rfl ?_
  refine zr_fr hM rfl rfl rfl ?_
  refine zr_fr hM rfl rfl rfl ?_
  refine zr_fr hM rfl rfl rfl ?_
  refine zr_virt (κ := (22, 0, 0)) hn hM rfl rfl rfl rfl rfl rfl rfl rfl rfl ?_
  refine zgo_ret rfl rfl c1_ ?_
  rw [Bool.and_true]
  refine zr_iff hM rfl rfl h2 ?_
  refine zr_fr hM rfl rfl rfl ?_
  refine zr_fr hM rfl rfl rfl ?_
  refine zr_ict hM rfl rfl h3 ?_
  refine zr_fr hM rfl rfl rfl ?_
  refine zr_putf (κ := (22, 0, 0)) hn hM rfl rfl rfl rfl rfl rfl rfl rfl ?_
  refine zr_fr hM rfl rfl rfl ?_
  refine zr_getf (κ := (22, 0, 0)) hn hM rfl rfl rfl rfl ?_
  refine zr_ift hM rfl rfl h4 ?_
  refine zr_fr hM rfl rfl rfl ?_
  refine zr_stat hM rfl rfl rfl rfl rfl rfl ?_
  refine zgo_ret rfl rfl c5_ ?_
  rw [Bool.and_true]
  refine zr_fr hM rfl rfl rfl ?_
  refine zr_fr hM rfl rfl rfl ?_
  refine zr_fr hM rfl rfl rfl ?_
  refine zr_getf (κ := (22, 0, 0)) hn hM rfl rfl rfl rfl ?_
  refine zr_fr hM rfl rfl rfl ?_
  refine zr_bald (κ := (25, 0, 0)) hn hM rfl rfl rfl z6 ?_
  refine zr_iff hM rfl rfl h7 ?_
  refine zr_fr hM rfl rfl rfl ?_
  refine zr_getf (κ := (22, 0, 0)) hn hM rfl rfl rfl rfl ?_
  refine zr_fr hM rfl rfl rfl ?_
  refine zr_fr hM rfl rfl rfl ?_
  refine zr_fr hM rfl rfl rfl ?_
  refine zr_iald (κ := (23, 0, 0)) hn hM rfl rfl rfl z8 ?_
  refine zr_fr hM rfl rfl rfl ?_
  refine zr_icf hM rfl rfl h9 ?_
  refine zr_fr hM rfl rfl rfl ?_
  refine zr_getf (κ := (22, 0, 0)) hn hM rfl rfl rfl rfl ?_
  refine zr_fr hM rfl rfl rfl ?_
  refine zr_fr hM rfl rfl rfl ?_
  refine zr_fr hM rfl rfl rfl ?_
  refine zr_iald (κ := (23, 0, 0)) hn hM rfl rfl rfl z10 ?_
  refine zr_fr hM rfl rfl rfl ?_
  refine zr_icf hM rfl rfl h11 ?_
  refine zr_fr hM rfl rfl rfl ?_
  refine zr_fr hM rfl rfl rfl ?_
  refine zr_putf (κ := (22, 0, 0)) hn hM rfl rfl rfl rfl rfl rfl rfl rfl ?_
  refine zr_fr hM rfl rfl rfl ?_
  refine zr_getf (κ := (22, 0, 0)) hn hM rfl rfl rfl rfl ?_
  refine zr_iff hM rfl rfl h12 ?_
  refine zr_fr hM rfl rfl rfl ?_
  exact zr_iret2 hM rfl rfl rfl
set_option maxHeartbeats 4000000 in
theorem s123_0_fttffft {n L : Nat} {σ : Ks} {g : List Nat} {cl : Bool} {p1 : Int32} {p2 : Int32} {p3 : Int32} {p4 : Int32} {r1 : Int32} {r5 : Int32} {x6 : Nat} {x8 : Nat} {x10 : Nat} {x13 : Nat} {x14 : Nat} {x15 : Nat} {x16 : Nat} {x17 : Nat} {x18 : Nat} (hn : 2 ≤ n ∧ n ≤ 5) (c1_ : ZR 118 0 [.val (.ref (kad n (22, 0, 0))), .val (.int p1), .val (.int p2), .val (.int p3)] [] (khp n L σ g) true (.inl (some (.int r1)), khp n L σ g, true)) (h2 : zcnd .eq r1 0 = false) (h3 : zcnd .lt p4 (Int32.ofInt 1) = true) (h4 : zcnd .le ((kup σ 42 0 (Int32.ofInt 1)) 42 0) 0 = true) (c5_ : ZR 97 0 [.val (.int p1)] [] (khp n L (kup σ 42 0 (Int32.ofInt 1)) g) true (.inl (some (.int r5)), khp n L (kup σ 42 0 (Int32.ofInt 1)) g, true)) (z6 : zix p1 5 = some x6) (h7 : zcnd .ne ((kup σ 42 0 (Int32.ofInt 1)) 40 x6) 0 = false) (z8 : zix (r5 + p2) 820 = some x8) (h9 : zcnd .lt ((kup σ 42 0 (Int32.ofInt 1)) (20 + x8 / 164) (x8 % 164)) p3 = false) (z10 : zix (r5 + ((Int8.ofInt 19).toInt32)) 820 = some x10) (h11 : zcnd .ne ((kup σ 42 0 (Int32.ofInt 1)) (20 + x10 / 164) (x10 % 164)) ((Int8.ofInt 6).toInt32) = false) (h12 : zcnd .le ((kup (kup σ 42 0 (Int32.ofInt 1)) 42 0 (Int32.ofInt 2)) 42 0) 0 = true) (z13 : zix (r5 + ((Int8.ofInt 17).toInt32)) 820 = some x13) (z14 : zix ((r5 + ((Int8.ofInt 20).toInt32)) + ((Int32.ofInt 4) * ((kup (kup σ 42 0 (Int32.ofInt 1)) 42 0 (Int32.ofInt 2)) (20 + x10 / 164) (x10 % 164)))) 820 = some x14) (z15 : zix (((r5 + ((Int8.ofInt 20).toInt32)) + ((Int32.ofInt 4) * ((kup (kup σ 42 0 (Int32.ofInt 1)) 42 0 (Int32.ofInt 2)) (20 + x10 / 164) (x10 % 164)))) + (Int32.ofInt 1)) 820 = some x15) (z16 : zix (((r5 + ((Int8.ofInt 20).toInt32)) + ((Int32.ofInt 4) * ((kup (kup σ 42 0 (Int32.ofInt 1)) 42 0 (Int32.ofInt 2)) (20 + x10 / 164) (x10 % 164)))) + (Int32.ofInt 2)) 820 = some x16) (z17 : zix (r5 + ((Int8.ofInt 16).toInt32)) 820 = some x17) (z18 : zix (((r5 + ((Int8.ofInt 20).toInt32)) + ((Int32.ofInt 4) * ((kup (kup σ 42 0 (Int32.ofInt 1)) 42 0 (Int32.ofInt 2)) (20 + x10 / 164) (x10 % 164)))) + (Int32.ofInt 3)) 820 = some x18) : ZR 123 0 [.val (.ref (kad n (22, 0, 0))), .val (.int p1), .val (.int p2), .val (.int p3), .val (.int p4), .unset, .unset] [] (khp n L σ g) cl (.inl (some (.int ((kup (kup (kup (kup (kup (kup (kup (kup (kup σ 42 0 (Int32.ofInt 1)) 42 0 (Int32.ofInt 2)) (20 + x14 / 164) (x14 % 164) ((kup (kup σ 42 0 (Int32.ofInt 1)) 42 0 (Int32.ofInt 2)) (20 + x13 / 164) (x13 % 164))) (20 + x15 / 164) (x15 % 164) p2) (20 + x16 / 164) (x16 % 164) p3) (20 + x18 / 164) (x18 % 164) (((kup (kup (kup (kup (kup σ 42 0 (Int32.ofInt 1)) 42 0 (Int32.ofInt 2)) (20 + x14 / 164) (x14 % 164) ((kup (kup σ 42 0 (Int32.ofInt 1)) 42 0 (Int32.ofInt 2)) (20 + x13 / 164) (x13 % 164))) (20 + x15 / 164) (x15 % 164) p2) (20 + x16 / 164) (x16 % 164) p3) (20 + x17 / 164) (x17 % 164)) + p4)) (20 + x8 / 164) (x8 % 164) (((kup (kup (kup (kup (kup (kup σ 42 0 (Int32.ofInt 1)) 42 0 (Int32.ofInt 2)) (20 + x14 / 164) (x14 % 164) ((kup (kup σ 42 0 (Int32.ofInt 1)) 42 0 (Int32.ofInt 2)) (20 + x13 / 164) (x13 % 164))) (20 + x15 / 164) (x15 % 164) p2) (20 + x16 / 164) (x16 % 164) p3) (20 + x18 / 164) (x18 % 164) (((kup (kup (kup (kup (kup σ 42 0 (Int32.ofInt 1)) 42 0 (Int32.ofInt 2)) (20 + x14 / 164) (x14 % 164) ((kup (kup σ 42 0 (Int32.ofInt 1)) 42 0 (Int32.ofInt 2)) (20 + x13 / 164) (x13 % 164))) (20 + x15 / 164) (x15 % 164) p2) (20 + x16 / 164) (x16 % 164) p3) (20 + x17 / 164) (x17 % 164)) + p4)) (20 + x8 / 164) (x8 % 164)) - p3)) (20 + x10 / 164) (x10 % 164) (((kup (kup (kup (kup (kup (kup (kup σ 42 0 (Int32.ofInt 1)) 42 0 (Int32.ofInt 2)) (20 + x14 / 164) (x14 % 164) ((kup (kup σ 42 0 (Int32.ofInt 1)) 42 0 (Int32.ofInt 2)) (20 + x13 / 164) (x13 % 164))) (20 + x15 / 164) (x15 % 164) p2) (20 + x16 / 164) (x16 % 164) p3) (20 + x18 / 164) (x18 % 164) (((kup (kup (kup (kup (kup σ 42 0 (Int32.ofInt 1)) 42 0 (Int32.ofInt 2)) (20 + x14 / 164) (x14 % 164) ((kup (kup σ 42 0 (Int32.ofInt 1)) 42 0 (Int32.ofInt 2)) (20 + x13 / 164) (x13 % 164))) (20 + x15 / 164) (x15 % 164) p2) (20 + x16 / 164) (x16 % 164) p3) (20 + x17 / 164) (x17 % 164)) + p4)) (20 + x8 / 164) (x8 % 164) (((kup (kup (kup (kup (kup (kup σ 42 0 (Int32.ofInt 1)) 42 0 (Int32.ofInt 2)) (20 + x14 / 164) (x14 % 164) ((kup (kup σ 42 0 (Int32.ofInt 1)) 42 0 (Int32.ofInt 2)) (20 + x13 / 164) (x13 % 164))) (20 + x15 / 164) (x15 % 164) p2) (20 + x16 / 164) (x16 % 164) p3) (20 + x18 / 164) (x18 % 164) (((kup (kup (kup (kup (kup σ 42 0 (Int32.ofInt 1)) 42 0 (Int32.ofInt 2)) (20 + x14 / 164) (x14 % 164) ((kup (kup σ 42 0 (Int32.ofInt 1)) 42 0 (Int32.ofInt 2)) (20 + x13 / 164) (x13 % 164))) (20 + x15 / 164) (x15 % 164) p2) (20 + x16 / 164) (x16 % 164) p3) (20 + x17 / 164) (x17 % 164)) + p4)) (20 + x8 / 164) (x8 % 164)) - p3)) (20 + x10 / 164) (x10 % 164)) + (Int32.ofInt 1))) (20 + x13 / 164) (x13 % 164) (((kup (kup (kup (kup (kup (kup (kup (kup σ 42 0 (Int32.ofInt 1)) 42 0 (Int32.ofInt 2)) (20 + x14 / 164) (x14 % 164) ((kup (kup σ 42 0 (Int32.ofInt 1)) 42 0 (Int32.ofInt 2)) (20 + x13 / 164) (x13 % 164))) (20 + x15 / 164) (x15 % 164) p2) (20 + x16 / 164) (x16 % 164) p3) (20 + x18 / 164) (x18 % 164) (((kup (kup (kup (kup (kup σ 42 0 (Int32.ofInt 1)) 42 0 (Int32.ofInt 2)) (20 + x14 / 164) (x14 % 164) ((kup (kup σ 42 0 (Int32.ofInt 1)) 42 0 (Int32.ofInt 2)) (20 + x13 / 164) (x13 % 164))) (20 + x15 / 164) (x15 % 164) p2) (20 + x16 / 164) (x16 % 164) p3) (20 + x17 / 164) (x17 % 164)) + p4)) (20 + x8 / 164) (x8 % 164) (((kup (kup (kup (kup (kup (kup σ 42 0 (Int32.ofInt 1)) 42 0 (Int32.ofInt 2)) (20 + x14 / 164) (x14 % 164) ((kup (kup σ 42 0 (Int32.ofInt 1)) 42 0 (Int32.ofInt 2)) (20 + x13 / 164) (x13 % 164))) (20 + x15 / 164) (x15 % 164) p2) (20 + x16 / 164) (x16 % 164) p3) (20 + x18 / 164) (x18 % 164) (((kup (kup (kup (kup (kup σ 42 0 (Int32.ofInt 1)) 42 0 (Int32.ofInt 2)) (20 + x14 / 164) (x14 % 164) ((kup (kup σ 42 0 (Int32.ofInt 1)) 42 0 (Int32.ofInt 2)) (20 + x13 / 164) (x13 % 164))) (20 + x15 / 164) (x15 % 164) p2) (20 + x16 / 164) (x16 % 164) p3) (20 + x17 / 164) (x17 % 164)) + p4)) (20 + x8 / 164) (x8 % 164)) - p3)) (20 + x10 / 164) (x10 % 164) (((kup (kup (kup (kup (kup (kup (kup σ 42 0 (Int32.ofInt 1)) 42 0 (Int32.ofInt 2)) (20 + x14 / 164) (x14 % 164) ((kup (kup σ 42 0 (Int32.ofInt 1)) 42 0 (Int32.ofInt 2)) (20 + x13 / 164) (x13 % 164))) (20 + x15 / 164) (x15 % 164) p2) (20 + x16 / 164) (x16 % 164) p3) (20 + x18 / 164) (x18 % 164) (((kup (kup (kup (kup (kup σ 42 0 (Int32.ofInt 1)) 42 0 (Int32.ofInt 2)) (20 + x14 / 164) (x14 % 164) ((kup (kup σ 42 0 (Int32.ofInt 1)) 42 0 (Int32.ofInt 2)) (20 + x13 / 164) (x13 % 164))) (20 + x15 / 164) (x15 % 164) p2) (20 + x16 / 164) (x16 % 164) p3) (20 + x17 / 164) (x17 % 164)) + p4)) (20 + x8 / 164) (x8 % 164) (((kup (kup (kup (kup (kup (kup σ 42 0 (Int32.ofInt 1)) 42 0 (Int32.ofInt 2)) (20 + x14 / 164) (x14 % 164) ((kup (kup σ 42 0 (Int32.ofInt 1)) 42 0 (Int32.ofInt 2)) (20 + x13 / 164) (x13 % 164))) (20 + x15 / 164) (x15 % 164) p2) (20 + x16 / 164) (x16 % 164) p3) (20 + x18 / 164) (x18 % 164) (((kup (kup (kup (kup (kup σ 42 0 (Int32.ofInt 1)) 42 0 (Int32.ofInt 2)) (20 + x14 / 164) (x14 % 164) ((kup (kup σ 42 0 (Int32.ofInt 1)) 42 0 (Int32.ofInt 2)) (20 + x13 / 164) (x13 % 164))) (20 + x15 / 164) (x15 % 164) p2) (20 + x16 / 164) (x16 % 164) p3) (20 + x17 / 164) (x17 % 164)) + p4)) (20 + x8 / 164) (x8 % 164)) - p3)) (20 + x10 / 164) (x10 % 164)) + (Int32.ofInt 1))) (20 + x13 / 164) (x13 % 164)) + (Int32.ofInt 1))) (20 + x14 / 164) (x14 % 164)))), khp n L (kup (kup (kup (kup (kup (kup (kup (kup (kup σ 42 0 (Int32.ofInt 1)) 42 0 (Int32.ofInt 2)) (20 + x14 / 164) (x14 % 164) ((kup (kup σ 42 0 (Int32.ofInt 1)) 42 0 (Int32.ofInt 2)) (20 + x13 / 164) (x13 % 164))) (20 + x15 / 164) (x15 % 164) p2) (20 + x16 / 164) (x16 % 164) p3) (20 + x18 / 164) (x18 % 164) (((kup (kup (kup (kup (kup σ 42 0 (Int32.ofInt 1)) 42 0 (Int32.ofInt 2)) (20 + x14 / 164) (x14 % 164) ((kup (kup σ 42 0 (Int32.ofInt 1)) 42 0 (Int32.ofInt 2)) (20 + x13 / 164) (x13 % 164))) (20 + x15 / 164) (x15 % 164) p2) (20 + x16 / 164) (x16 % 164) p3) (20 + x17 / 164) (x17 % 164)) + p4)) (20 + x8 / 164) (x8 % 164) (((kup (kup (kup (kup (kup (kup σ 42 0 (Int32.ofInt 1)) 42 0 (Int32.ofInt 2)) (20 + x14 / 164) (x14 % 164) ((kup (kup σ 42 0 (Int32.ofInt 1)) 42 0 (Int32.ofInt 2)) (20 + x13 / 164) (x13 % 164))) (20 + x15 / 164) (x15 % 164) p2) (20 + x16 / 164) (x16 % 164) p3) (20 + x18 / 164) (x18 % 164) (((kup (kup (kup (kup (kup σ 42 0 (Int32.ofInt 1)) 42 0 (Int32.ofInt 2)) (20 + x14 / 164) (x14 % 164) ((kup (kup σ 42 0 (Int32.ofInt 1)) 42 0 (Int32.ofInt 2)) (20 + x13 / 164) (x13 % 164))) (20 + x15 / 164) (x15 % 164) p2) (20 + x16 / 164) (x16 % 164) p3) (20 + x17 / 164) (x17 % 164)) + p4)) (20 + x8 / 164) (x8 % 164)) - p3)) (20 + x10 / 164) (x10 % 164) (((kup (kup (kup (kup (kup (kup (kup σ 42 0 (Int32.ofInt 1)) 42 0 (Int32.ofInt 2)) (20 + x14 / 164) (x14 % 164) ((kup (kup σ 42 0 (Int32.ofInt 1)) 42 0 (Int32.ofInt 2)) (20 + x13 / 164) (x13 % 164))) (20 + x15 / 164) (x15 % 164) p2) (20 + x16 / 164) (x16 % 164) p3) (20 + x18 / 164) (x18 % 164) (((kup (kup (kup (kup (kup σ 42 0 (Int32.ofInt 1)) 42 0 (Int32.ofInt 2)) (20 + x14 / 164) (x14 % 164) ((kup (kup σ 42 0 (Int32.ofInt 1)) 42 0 (Int32.ofInt 2)) (20 + x13 / 164) (x13 % 164))) (20 + x15 / 164) (x15 % 164) p2) (20 + x16 / 164) (x16 % 164) p3) (20 + x17 / 164) (x17 % 164)) + p4)) (20 + x8 / 164) (x8 % 164) (((kup (kup (kup (kup (kup (kup σ 42 0 (Int32.ofInt 1)) 42 0 (Int32.ofInt 2)) (20 + x14 / 164) (x14 % 164) ((kup (kup σ 42 0 (Int32.ofInt 1)) 42 0 (Int32.ofInt 2)) (20 + x13 / 164) (x13 % 164))) (20 + x15 / 164) (x15 % 164) p2) (20 + x16 / 164) (x16 % 164) p3) (20 + x18 / 164) (x18 % 164) (((kup (kup (kup (kup (kup σ 42 0 (Int32.ofInt 1)) 42 0 (Int32.ofInt 2)) (20 + x14 / 164) (x14 % 164) ((kup (kup σ 42 0 (Int32.ofInt 1)) 42 0 (Int32.ofInt 2)) (20 + x13 / 164) (x13 % 164))) (20 + x15 / 164) (x15 % 164) p2) (20 + x16 / 164) (x16 % 164) p3) (20 + x17 / 164) (x17 % 164)) + p4)) (20 + x8 / 164) (x8 % 164)) - p3)) (20 + x10 / 164) (x10 % 164)) + (Int32.ofInt 1))) (20 + x13 / 164) (x13 % 164) (((kup (kup (kup (kup (kup (kup (kup (kup σ 42 0 (Int32.ofInt 1)) 42 0 (Int32.ofInt 2)) (20 + x14 / 164) (x14 % 164) ((kup (kup σ 42 0 (Int32.ofInt 1)) 42 0 (Int32.ofInt 2)) (20 + x13 / 164) (x13 % 164))) (20 + x15 / 164) (x15 % 164) p2) (20 + x16 / 164) (x16 % 164) p3) (20 + x18 / 164) (x18 % 164) (((kup (kup (kup (kup (kup σ 42 0 (Int32.ofInt 1)) 42 0 (Int32.ofInt 2)) (20 + x14 / 164) (x14 % 164) ((kup (kup σ 42 0 (Int32.ofInt 1)) 42 0 (Int32.ofInt 2)) (20 + x13 / 164) (x13 % 164))) (20 + x15 / 164) (x15 % 164) p2) (20 + x16 / 164) (x16 % 164) p3) (20 + x17 / 164) (x17 % 164)) + p4)) (20 + x8 / 164) (x8 % 164) (((kup (kup (kup (kup (kup (kup σ 42 0 (Int32.ofInt 1)) 42 0 (Int32.ofInt 2)) (20 + x14 / 164) (x14 % 164) ((kup (kup σ 42 0 (Int32.ofInt 1)) 42 0 (Int32.ofInt 2)) (20 + x13 / 164) (x13 % 164))) (20 + x15 / 164) (x15 % 164) p2) (20 + x16 / 164) (x16 % 164) p3) (20 + x18 / 164) (x18 % 164) (((kup (kup (kup (kup (kup σ 42 0 (Int32.ofInt 1)) 42 0 (Int32.ofInt 2)) (20 + x14 / 164) (x14 % 164) ((kup (kup σ 42 0 (Int32.ofInt 1)) 42 0 (Int32.ofInt 2)) (20 + x13 / 164) (x13 % 164))) (20 + x15 / 164) (x15 % 164) p2) (20 + x16 / 164) (x16 % 164) p3) (20 + x17 / 164) (x17 % 164)) + p4)) (20 + x8 / 164) (x8 % 164)) - p3)) (20 + x10 / 164) (x10 % 164) (((kup (kup (kup (kup (kup (kup (kup σ 42 0 (Int32.ofInt 1)) 42 0 (Int32.ofInt 2)) (20 + x14 / 164) (x14 % 164) ((kup (kup σ 42 0 (Int32.ofInt 1)) 42 0 (Int32.ofInt 2)) (20 + x13 / 164) (x13 % 164))) (20 + x15 / 164) (x15 % 164) p2) (20 + x16 / 164) (x16 % 164) p3) (20 + x18 / 164) (x18 % 164) (((kup (kup (kup (kup (kup σ 42 0 (Int32.ofInt 1)) 42 0 (Int32.ofInt 2)) (20 + x14 / 164) (x14 % 164) ((kup (kup σ 42 0 (Int32.ofInt 1)) 42 0 (Int32.ofInt 2)) (20 + x13 / 164) (x13 % 164))) (20 + x15 / 164) (x15 % 164) p2) (20 + x16 / 164) (x16 % 164) p3) (20 + x17 / 164) (x17 % 164)) + p4)) (20 + x8 / 164) (x8 % 164) (((kup (kup (kup (kup (kup (kup σ 42 0 (Int32.ofInt 1)) 42 0 (Int32.ofInt 2)) (20 + x14 / 164) (x14 % 164) ((kup (kup σ 42 0 (Int32.ofInt 1)) 42 0 (Int32.ofInt 2)) (20 + x13 / 164) (x13 % 164))) (20 + x15 / 164) (x15 % 164) p2) (20 + x16 / 164) (x16 % 164) p3) (20 + x18 / 164) (x18 % 164) (((kup (kup (kup (kup (kup σ 42 0 (Int32.ofInt 1)) 42 0 (Int32.ofInt 2)) (20 + x14 / 164) (x14 % 164) ((kup (kup σ 42 0 (Int32.ofInt 1)) 42 0 (Int32.ofInt 2)) (20 + x13 / 164) (x13 % 164))) (20 + x15 / 164) (x15 % 164) p2) (20 + x16 / 164) (x16 % 164) p3) (20 + x17 / 164) (x17 % 164)) + p4)) (20 + x8 / 164) (x8 % 164)) - p3)) (20 + x10 / 164) (x10 % 164)) + (Int32.ofInt 1))) (20 + x13 / 164) (x13 % 164)) + (Int32.ofInt 1))) (g), false) := by
  have hM : zmi[123]? = some _ := rfl
  have l6 := (zix_some z6).2.2
  have l8 := (zix_some z8).2.2
  have l10 := (zix_some z10).2.2
  have l13 := (zix_some z13).2.2
  have l14 := (zix_some z14).2.2
  have l15 := (zix_some z15).2.2
  have l16 := (zix_some z16).2.2
  have l17 := (zix_some z17).2.2
  have l18 := (zix_some z18).2.2
  refine zr_fr hM rfl rfl rfl ?_
  refine zr_fr hM rfl rfl rfl ?_
  refine zr_fr hM rfl rfl rfl ?_
  refine zr_fr hM rfl rfl rfl ?_
  refine zr_fr hM rfl rfl rfl ?_
  refine zr_virt (κ := (22, 0, 0)) hn hM rfl rfl rfl rfl rfl rfl rfl rfl rfl ?_
  refine zgo_ret rfl rfl c1_ ?_
  rw [Bool.and_true]
  refine zr_iff hM rfl rfl h2 ?_
  refine zr_fr hM rfl rfl rfl ?_
  refine zr_fr hM rfl rfl rfl ?_
  refine zr_ict hM rfl rfl h3 ?_
  refine zr_fr hM rfl rfl rfl ?_
  refine zr_putf (κ := (22, 0, 0)) hn hM rfl rfl rfl rfl rfl rfl rfl rfl ?_
  refine zr_fr hM rfl rfl rfl ?_
  refine zr_getf (κ := (22, 0, 0)) hn hM rfl rfl rfl rfl ?_
  refine zr_ift hM rfl rfl h4 ?_
  refine zr_fr hM rfl rfl rfl ?_
  refine zr_stat hM rfl rfl rfl rfl rfl rfl ?_
  refine zgo_ret rfl rfl c5_ ?_
  rw [Bool.and_true]
  refine zr_fr hM rfl rfl rfl ?_
  refine zr_fr hM rfl rfl rfl ?_
  refine zr_fr hM rfl rfl rfl ?_
  refine zr_getf (κ := (22, 0, 0)) hn hM rfl rfl rfl rfl ?_
  refine zr_fr hM rfl rfl rfl ?_
  refine zr_bald (κ := (25, 0, 0)) hn hM rfl rfl rfl z6 ?_
  refine zr_iff hM rfl rfl h7 ?_
  refine zr_fr hM rfl rfl rfl ?_
  refine zr_getf (κ := (22, 0, 0)) hn hM rfl rfl rfl rfl ?_
  refine zr_fr hM rfl rfl rfl ?_
  refine zr_fr hM rfl rfl rfl ?_
  refine zr_fr hM rfl rfl rfl ?_
  refine zr_iald (κ := (23, 0, 0)) hn hM rfl rfl rfl z8 ?_
  refine zr_fr hM rfl rfl rfl ?_
  refine zr_icf hM rfl rfl h9 ?_
  refine zr_fr hM rfl rfl rfl ?_
  refine zr_getf (κ := (22, 0, 0)) hn hM rfl rfl rfl rfl ?_
  refine zr_fr hM rfl rfl rfl ?_
  refine zr_fr hM rfl rfl rfl ?_
  refine zr_fr hM rfl rfl rfl ?_
  refine zr_iald (κ := (23, 0, 0)) hn hM rfl rfl rfl z10 ?_
  refine zr_fr hM rfl rfl rfl ?_
  refine zr_icf hM rfl rfl h11 ?_
  refine zr_fr hM rfl rfl rfl ?_
  refine zr_fr hM rfl rfl rfl ?_
  refine zr_putf (κ := (22, 0, 0)) hn hM rfl rfl rfl rfl rfl rfl rfl rfl ?_
  refine zr_fr hM rfl rfl rfl ?_
  refine zr_getf (κ := (22, 0, 0)) hn hM rfl rfl rfl rfl ?_
  refine zr_ift hM rfl rfl h12 ?_
  refine zr_fr hM rfl rfl rfl ?_
  refine zr_fr hM rfl rfl rfl ?_
  refine zr_fr hM rfl rfl rfl ?_
  refine zr_fr hM rfl rfl rfl ?_
  refine zr_fr hM rfl rfl rfl ?_
  refine zr_getf (κ := (22, 0, 0)) hn hM rfl rfl rfl rfl ?_
  refine zr_fr hM rfl rfl rfl ?_
  refine zr_fr hM rfl rfl rfl ?_
  refine zr_fr hM rfl rfl rfl ?_
  refine zr_iald (κ := (23, 0, 0)) hn hM rfl rfl rfl z10 ?_
  refine zr_fr hM rfl rfl rfl ?_
  refine zr_fr hM rfl rfl rfl ?_
  refine zr_fr hM rfl rfl rfl ?_
  refine zr_fr hM rfl rfl rfl ?_
  refine zr_getf (κ := (22, 0, 0)) hn hM rfl rfl rfl rfl ?_
  refine zr_fr hM rfl rfl rfl ?_
  refine zr_fr hM rfl rfl rfl ?_
  refine zr_getf (κ := (22, 0, 0)) hn hM rfl rfl rfl rfl ?_
  refine zr_fr hM rfl rfl rfl ?_
  refine zr_fr hM rfl rfl rfl ?_
  refine zr_fr hM rfl rfl rfl ?_
  refine zr_iald (κ := (23, 0, 0)) hn hM rfl rfl rfl z13 ?_
  refine zr_iast (κ := (23, 0, 0)) hn hM rfl rfl rfl rfl z14 rfl ?_
  refine zr_fr hM rfl rfl rfl ?_
  refine zr_getf (κ := (22, 0, 0)) hn hM rfl rfl rfl rfl ?_
  refine zr_fr hM rfl rfl rfl ?_
  refine zr_fr hM rfl rfl rfl ?_
  refine zr_fr hM rfl rfl rfl ?_
  refine zr_fr hM rfl rfl rfl ?_
  refine zr_iast (κ := (23, 0, 0)) hn hM rfl rfl rfl rfl z15 rfl ?_
  refine zr_fr hM rfl rfl rfl ?_
  refine zr_getf (κ := (22, 0, 0)) hn hM rfl rfl rfl rfl ?_
  refine zr_fr hM rfl rfl rfl ?_
  refine zr_fr hM rfl rfl rfl ?_
  refine zr_fr hM rfl rfl rfl ?_
  refine zr_fr hM rfl rfl rfl ?_
  refine zr_iast (κ := (23, 0, 0)) hn hM rfl rfl rfl rfl z16 rfl ?_
  refine zr_fr hM rfl rfl rfl ?_
  refine zr_getf (κ := (22, 0, 0)) hn hM rfl rfl rfl rfl ?_
  refine zr_fr hM rfl rfl rfl ?_
  refine zr_fr hM rfl rfl rfl ?_
  refine zr_fr hM rfl rfl rfl ?_
  refine zr_fr hM rfl rfl rfl ?_
  refine zr_getf (κ := (22, 0, 0)) hn hM rfl rfl rfl rfl ?_
  refine zr_fr hM rfl rfl rfl ?_
  refine zr_fr hM rfl rfl rfl ?_
  refine zr_fr hM rfl rfl rfl ?_
  refine zr_iald (κ := (23, 0, 0)) hn hM rfl rfl rfl z17 ?_
  refine zr_fr hM rfl rfl rfl ?_
  refine zr_fr hM rfl rfl rfl ?_
  refine zr_iast (κ := (23, 0, 0)) hn hM rfl rfl rfl rfl z18 rfl ?_
  refine zr_fr hM rfl rfl rfl ?_
  refine zr_getf (κ := (22, 0, 0)) hn hM rfl rfl rfl rfl ?_
  refine zr_fr hM rfl rfl rfl ?_
  refine zr_fr hM rfl rfl rfl ?_
  refine zr_fr hM rfl rfl rfl ?_
  refine zr_fr hM rfl rfl rfl ?_
  refine zr_iald (κ := (23, 0, 0)) hn hM rfl rfl rfl z8 ?_
  refine zr_fr hM rfl rfl rfl ?_
  refine zr_fr hM rfl rfl rfl ?_
  refine zr_iast (κ := (23, 0, 0)) hn hM rfl rfl rfl rfl z8 rfl ?_
  refine zr_fr hM rfl rfl rfl ?_
  refine zr_getf (κ := (22, 0, 0)) hn hM rfl rfl rfl rfl ?_
  refine zr_fr hM rfl rfl rfl ?_
  refine zr_fr hM rfl rfl rfl ?_
  refine zr_fr hM rfl rfl rfl ?_
  refine zr_fr hM rfl rfl rfl ?_
  refine zr_iald (κ := (23, 0, 0)) hn hM rfl rfl rfl z10 ?_
  refine zr_fr hM rfl rfl rfl ?_
  refine zr_fr hM rfl rfl rfl ?_
  refine zr_iast (κ := (23, 0, 0)) hn hM rfl rfl rfl rfl z10 rfl ?_
  refine zr_fr hM rfl rfl rfl ?_
  refine zr_getf (κ := (22, 0, 0)) hn hM rfl rfl rfl rfl ?_
  refine zr_fr hM rfl rfl rfl ?_
  refine zr_fr hM rfl rfl rfl ?_
  refine zr_fr hM rfl rfl rfl ?_
  refine zr_fr hM rfl rfl rfl ?_
  refine zr_iald (κ := (23, 0, 0)) hn hM rfl rfl rfl z13 ?_
  refine zr_fr hM rfl rfl rfl ?_
  refine zr_fr hM rfl rfl rfl ?_
  refine zr_iast (κ := (23, 0, 0)) hn hM rfl rfl rfl rfl z13 rfl ?_
  refine zr_fr hM rfl rfl rfl ?_
  refine zr_getf (κ := (22, 0, 0)) hn hM rfl rfl rfl rfl ?_
  refine zr_fr hM rfl rfl rfl ?_
  refine zr_iald (κ := (23, 0, 0)) hn hM rfl rfl rfl z14 ?_
  exact zr_iret2 hM rfl rfl rfl
set_option maxHeartbeats 4000000 in
theorem s123_0_fttfftf {n L : Nat} {σ : Ks} {g : List Nat} {cl : Bool} {p1 : Int32} {p2 : Int32} {p3 : Int32} {p4 : Int32} {r1 : Int32} {r5 : Int32} {x6 : Nat} {x8 : Nat} {x10 : Nat} (hn : 2 ≤ n ∧ n ≤ 5) (c1_ : ZR 118 0 [.val (.ref (kad n (22, 0, 0))), .val (.int p1), .val (.int p2), .val (.int p3)] [] (khp n L σ g) true (.inl (some (.int r1)), khp n L σ g, true)) (h2 : zcnd .eq r1 0 = false) (h3 : zcnd .lt p4 (Int32.ofInt 1) = true) (h4 : zcnd .le ((kup σ 42 0 (Int32.ofInt 1)) 42 0) 0 = true) (c5_ : ZR 97 0 [.val (.int p1)] [] (khp n L (kup σ 42 0 (Int32.ofInt 1)) g) true (.inl (some (.int r5)), khp n L (kup σ 42 0 (Int32.ofInt 1)) g, true)) (z6 : zix p1 5 = some x6) (h7 : zcnd .ne ((kup σ 42 0 (Int32.ofInt 1)) 40 x6) 0 = false) (z8 : zix (r5 + p2) 820 = some x8) (h9 : zcnd .lt ((kup σ 42 0 (Int32.ofInt 1)) (20 + x8 / 164) (x8 % 164)) p3 = false) (z10 : zix (r5 + ((Int8.ofInt 19).toInt32)) 820 = some x10) (h11 : zcnd .ne ((kup σ 42 0 (Int32.ofInt 1)) (20 + x10 / 164) (x10 % 164)) ((Int8.ofInt 6).toInt32) = true) (h12 : zcnd .le ((kup (kup σ 42 0 (Int32.ofInt 1)) 42 0 (Int32.ofInt 0)) 42 0) 0 = false) : ZR 123 0 [.val (.ref (kad n (22, 0, 0))), .val (.int p1), .val (.int p2), .val (.int p3), .val (.int p4), .unset, .unset] [] (khp n L σ g) cl (.inl (some (.int (Int32.ofInt 0))), khp n L (kup (kup σ 42 0 (Int32.ofInt 1)) 42 0 (Int32.ofInt 0)) (g), false) := by
  have hM : zmi[123]? = some _ := rfl
  have l6 := (zix_some z6).2.2
  have l8 := (zix_some z8).2.2
  have l10 := (zix_some z10).2.2
  refine zr_fr hM rfl rfl rfl ?_
  refine zr_fr hM rfl rfl rfl ?_
  refine zr_fr hM rfl rfl rfl ?_
  refine zr_fr hM rfl rfl rfl ?_
  refine zr_fr hM rfl rfl rfl ?_
  refine zr_virt (κ := (22, 0, 0)) hn hM rfl rfl rfl rfl rfl rfl rfl rfl rfl ?_
  refine zgo_ret rfl rfl c1_ ?_
  rw [Bool.and_true]
  refine zr_iff hM rfl rfl h2 ?_
  refine zr_fr hM rfl rfl rfl ?_
  refine zr_fr hM rfl rfl rfl ?_
  refine zr_ict hM rfl rfl h3 ?_
  refine zr_fr hM rfl rfl rfl ?_
  refine zr_putf (κ := (22, 0, 0)) hn hM rfl rfl rfl rfl rfl rfl rfl rfl ?_
  refine zr_fr hM rfl rfl rfl ?_
  refine zr_getf (κ := (22, 0, 0)) hn hM rfl rfl rfl rfl ?_
  refine zr_ift hM rfl rfl h4 ?_
  refine zr_fr hM rfl rfl rfl ?_
  refine zr_stat hM rfl rfl rfl rfl rfl rfl ?_
  refine zgo_ret rfl rfl c5_ ?_
  rw [Bool.and_true]
  refine zr_fr hM rfl rfl rfl ?_
  refine zr_fr hM rfl rfl rfl ?_
  refine zr_fr hM rfl rfl rfl ?_
  refine zr_getf (κ := (22, 0, 0)) hn hM rfl rfl rfl rfl ?_
  refine zr_fr hM rfl rfl rfl ?_
  refine zr_bald (κ := (25, 0, 0)) hn hM rfl rfl rfl z6 ?_
  refine zr_iff hM rfl rfl h7 ?_
  refine zr_fr hM rfl rfl rfl ?_
  refine zr_getf (κ := (22, 0, 0)) hn hM rfl rfl rfl rfl ?_
  refine zr_fr hM rfl rfl rfl ?_
  refine zr_fr hM rfl rfl rfl ?_
  refine zr_fr hM rfl rfl rfl ?_
  refine zr_iald (κ := (23, 0, 0)) hn hM rfl rfl rfl z8 ?_
  refine zr_fr hM rfl rfl rfl ?_
  refine zr_icf hM rfl rfl h9 ?_
  refine zr_fr hM rfl rfl rfl ?_
  refine zr_getf (κ := (22, 0, 0)) hn hM rfl rfl rfl rfl ?_
  refine zr_fr hM rfl rfl rfl ?_
  refine zr_fr hM rfl rfl rfl ?_
  refine zr_fr hM rfl rfl rfl ?_
  refine zr_iald (κ := (23, 0, 0)) hn hM rfl rfl rfl z10 ?_
  refine zr_fr hM rfl rfl rfl ?_
  refine zr_ict hM rfl rfl h11 ?_
  refine zr_fr hM rfl rfl rfl ?_
  refine zr_putf (κ := (22, 0, 0)) hn hM rfl rfl rfl rfl rfl rfl rfl rfl ?_
  refine zr_fr hM rfl rfl rfl ?_
  refine zr_getf (κ := (22, 0, 0)) hn hM rfl rfl rfl rfl ?_
  refine zr_iff hM rfl rfl h12 ?_
  refine zr_fr hM rfl rfl rfl ?_
  exact zr_iret2 hM rfl rfl rfl
set_option maxHeartbeats 4000000 in
theorem s123_0_fttfftt {n L : Nat} {σ : Ks} {g : List Nat} {cl : Bool} {p1 : Int32} {p2 : Int32} {p3 : Int32} {p4 : Int32} {r1 : Int32} {r5 : Int32} {x6 : Nat} {x8 : Nat} {x10 : Nat} {x13 : Nat} {x14 : Nat} {x15 : Nat} {x16 : Nat} {x17 : Nat} {x18 : Nat} (hn : 2 ≤ n ∧ n ≤ 5) (c1_ : ZR 118 0 [.val (.ref (kad n (22, 0, 0))), .val (.int p1), .val (.int p2), .val (.int p3)] [] (khp n L σ g) true (.inl (some (.int r1)), khp n L σ g, true)) (h2 : zcnd .eq r1 0 = false) (h3 : zcnd .lt p4 (Int32.ofInt 1) = true) (h4 : zcnd .le ((kup σ 42 0 (Int32.ofInt 1)) 42 0) 0 = true) (c5_ : ZR 97 0 [.val (.int p1)] [] (khp n L (kup σ 42 0 (Int32.ofInt 1)) g) true (.inl (some (.int r5)), khp n L (kup σ 42 0 (Int32.ofInt 1)) g, true)) (z6 : zix p1 5 = some x6) (h7 : zcnd .ne ((kup σ 42 0 (Int32.ofInt 1)) 40 x6) 0 = false) (z8 : zix (r5 + p2) 820 = some x8) (h9 : zcnd .lt ((kup σ 42 0 (Int32.ofInt 1)) (20 + x8 / 164) (x8 % 164)) p3 = false) (z10 : zix (r5 + ((Int8.ofInt 19).toInt32)) 820 = some x10) (h11 : zcnd .ne ((kup σ 42 0 (Int32.ofInt 1)) (20 + x10 / 164) (x10 % 164)) ((Int8.ofInt 6).toInt32) = true) (h12 : zcnd .le ((kup (kup σ 42 0 (Int32.ofInt 1)) 42 0 (Int32.ofInt 0)) 42 0) 0 = true) (z13 : zix (r5 + ((Int8.ofInt 17).toInt32)) 820 = some x13) (z14 : zix ((r5 + ((Int8.ofInt 20).toInt32)) + ((Int32.ofInt 4) * ((kup (kup σ 42 0 (Int32.ofInt 1)) 42 0 (Int32.ofInt 0)) (20 + x10 / 164) (x10 % 164)))) 820 = some x14) (z15 : zix (((r5 + ((Int8.ofInt 20).toInt32)) + ((Int32.ofInt 4) * ((kup (kup σ 42 0 (Int32.ofInt 1)) 42 0 (Int32.ofInt 0)) (20 + x10 / 164) (x10 % 164)))) + (Int32.ofInt 1)) 820 = some x15) (z16 : zix (((r5 + ((Int8.ofInt 20).toInt32)) + ((Int32.ofInt 4) * ((kup (kup σ 42 0 (Int32.ofInt 1)) 42 0 (Int32.ofInt 0)) (20 + x10 / 164) (x10 % 164)))) + (Int32.ofInt 2)) 820 = some x16) (z17 : zix (r5 + ((Int8.ofInt 16).toInt32)) 820 = some x17) (z18 : zix (((r5 + ((Int8.ofInt 20).toInt32)) + ((Int32.ofInt 4) * ((kup (kup σ 42 0 (Int32.ofInt 1)) 42 0 (Int32.ofInt 0)) (20 + x10 / 164) (x10 % 164)))) + (Int32.ofInt 3)) 820 = some x18) : ZR 123 0 [.val (.ref (kad n (22, 0, 0))), .val (.int p1), .val (.int p2), .val (.int p3), .val (.int p4), .unset, .unset] [] (khp n L σ g) cl (.inl (some (.int ((kup (kup (kup (kup (kup (kup (kup (kup (kup σ 42 0 (Int32.ofInt 1)) 42 0 (Int32.ofInt 0)) (20 + x14 / 164) (x14 % 164) ((kup (kup σ 42 0 (Int32.ofInt 1)) 42 0 (Int32.ofInt 0)) (20 + x13 / 164) (x13 % 164))) (20 + x15 / 164) (x15 % 164) p2) (20 + x16 / 164) (x16 % 164) p3) (20 + x18 / 164) (x18 % 164) (((kup (kup (kup (kup (kup σ 42 0 (Int32.ofInt 1)) 42 0 (Int32.ofInt 0)) (20 + x14 / 164) (x14 % 164) ((kup (kup σ 42 0 (Int32.ofInt 1)) 42 0 (Int32.ofInt 0)) (20 + x13 / 164) (x13 % 164))) (20 + x15 / 164) (x15 % 164) p2) (20 + x16 / 164) (x16 % 164) p3) (20 + x17 / 164) (x17 % 164)) + p4)) (20 + x8 / 164) (x8 % 164) (((kup (kup (kup (kup (kup (kup σ 42 0 (Int32.ofInt 1)) 42 0 (Int32.ofInt 0)) (20 + x14 / 164) (x14 % 164) ((kup (kup σ 42 0 (Int32.ofInt 1)) 42 0 (Int32.ofInt 0)) (20 + x13 / 164) (x13 % 164))) (20 + x15 / 164) (x15 % 164) p2) (20 + x16 / 164) (x16 % 164) p3) (20 + x18 / 164) (x18 % 164) (((kup (kup (kup (kup (kup σ 42 0 (Int32.ofInt 1)) 42 0 (Int32.ofInt 0)) (20 + x14 / 164) (x14 % 164) ((kup (kup σ 42 0 (Int32.ofInt 1)) 42 0 (Int32.ofInt 0)) (20 + x13 / 164) (x13 % 164))) (20 + x15 / 164) (x15 % 164) p2) (20 + x16 / 164) (x16 % 164) p3) (20 + x17 / 164) (x17 % 164)) + p4)) (20 + x8 / 164) (x8 % 164)) - p3)) (20 + x10 / 164) (x10 % 164) (((kup (kup (kup (kup (kup (kup (kup σ 42 0 (Int32.ofInt 1)) 42 0 (Int32.ofInt 0)) (20 + x14 / 164) (x14 % 164) ((kup (kup σ 42 0 (Int32.ofInt 1)) 42 0 (Int32.ofInt 0)) (20 + x13 / 164) (x13 % 164))) (20 + x15 / 164) (x15 % 164) p2) (20 + x16 / 164) (x16 % 164) p3) (20 + x18 / 164) (x18 % 164) (((kup (kup (kup (kup (kup σ 42 0 (Int32.ofInt 1)) 42 0 (Int32.ofInt 0)) (20 + x14 / 164) (x14 % 164) ((kup (kup σ 42 0 (Int32.ofInt 1)) 42 0 (Int32.ofInt 0)) (20 + x13 / 164) (x13 % 164))) (20 + x15 / 164) (x15 % 164) p2) (20 + x16 / 164) (x16 % 164) p3) (20 + x17 / 164) (x17 % 164)) + p4)) (20 + x8 / 164) (x8 % 164) (((kup (kup (kup (kup (kup (kup σ 42 0 (Int32.ofInt 1)) 42 0 (Int32.ofInt 0)) (20 + x14 / 164) (x14 % 164) ((kup (kup σ 42 0 (Int32.ofInt 1)) 42 0 (Int32.ofInt 0)) (20 + x13 / 164) (x13 % 164))) (20 + x15 / 164) (x15 % 164) p2) (20 + x16 / 164) (x16 % 164) p3) (20 + x18 / 164) (x18 % 164) (((kup (kup (kup (kup (kup σ 42 0 (Int32.ofInt 1)) 42 0 (Int32.ofInt 0)) (20 + x14 / 164) (x14 % 164) ((kup (kup σ 42 0 (Int32.ofInt 1)) 42 0 (Int32.ofInt 0)) (20 + x13 / 164) (x13 % 164))) (20 + x15 / 164) (x15 % 164) p2) (20 + x16 / 164) (x16 % 164) p3) (20 + x17 / 164) (x17 % 164)) + p4)) (20 + x8 / 164) (x8 % 164)) - p3)) (20 + x10 / 164) (x10 % 164)) + (Int32.ofInt 1))) (20 + x13 / 164) (x13 % 164) (((kup (kup (kup (kup (kup (kup (kup (kup σ 42 0 (Int32.ofInt 1)) 42 0 (Int32.ofInt 0)) (20 + x14 / 164) (x14 % 164) ((kup (kup σ 42 0 (Int32.ofInt 1)) 42 0 (Int32.ofInt 0)) (20 + x13 / 164) (x13 % 164))) (20 + x15 / 164) (x15 % 164) p2) (20 + x16 / 164) (x16 % 164) p3) (20 + x18 / 164) (x18 % 164) (((kup (kup (kup (kup (kup σ 42 0 (Int32.ofInt 1)) 42 0 (Int32.ofInt 0)) (20 + x14 / 164) (x14 % 164) ((kup (kup σ 42 0 (Int32.ofInt 1)) 42 0 (Int32.ofInt 0)) (20 + x13 / 164) (x13 % 164))) (20 + x15 / 164) (x15 % 164) p2) (20 + x16 / 164) (x16 % 164) p3) (20 + x17 / 164) (x17 % 164)) + p4)) (20 + x8 / 164) (x8 % 164) (((kup (kup (kup (kup (kup (kup σ 42 0 (Int32.ofInt 1)) 42 0 (Int32.ofInt 0)) (20 + x14 / 164) (x14 % 164) ((kup (kup σ 42 0 (Int32.ofInt 1)) 42 0 (Int32.ofInt 0)) (20 + x13 / 164) (x13 % 164))) (20 + x15 / 164) (x15 % 164) p2) (20 + x16 / 164) (x16 % 164) p3) (20 + x18 / 164) (x18 % 164) (((kup (kup (kup (kup (kup σ 42 0 (Int32.ofInt 1)) 42 0 (Int32.ofInt 0)) (20 + x14 / 164) (x14 % 164) ((kup (kup σ 42 0 (Int32.ofInt 1)) 42 0 (Int32.ofInt 0)) (20 + x13 / 164) (x13 % 164))) (20 + x15 / 164) (x15 % 164) p2) (20 + x16 / 164) (x16 % 164) p3) (20 + x17 / 164) (x17 % 164)) + p4)) (20 + x8 / 164) (x8 % 164)) - p3)) (20 + x10 / 164) (x10 % 164) (((kup (kup (kup (kup (kup (kup (kup σ 42 0 (Int32.ofInt 1)) 42 0 (Int32.ofInt 0)) (20 + x14 / 164) (x14 % 164) ((kup (kup σ 42 0 (Int32.ofInt 1)) 42 0 (Int32.ofInt 0)) (20 + x13 / 164) (x13 % 164))) (20 + x15 / 164) (x15 % 164) p2) (20 + x16 / 164) (x16 % 164) p3) (20 + x18 / 164) (x18 % 164) (((kup (kup (kup (kup (kup σ 42 0 (Int32.ofInt 1)) 42 0 (Int32.ofInt 0)) (20 + x14 / 164) (x14 % 164) ((kup (kup σ 42 0 (Int32.ofInt 1)) 42 0 (Int32.ofInt 0)) (20 + x13 / 164) (x13 % 164))) (20 + x15 / 164) (x15 % 164) p2) (20 + x16 / 164) (x16 % 164) p3) (20 + x17 / 164) (x17 % 164)) + p4)) (20 + x8 / 164) (x8 % 164) (((kup (kup (kup (kup (kup (kup σ 42 0 (Int32.ofInt 1)) 42 0 (Int32.ofInt 0)) (20 + x14 / 164) (x14 % 164) ((kup (kup σ 42 0 (Int32.ofInt 1)) 42 0 (Int32.ofInt 0)) (20 + x13 / 164) (x13 % 164))) (20 + x15 / 164) (x15 % 164) p2) (20 + x16 / 164) (x16 % 164) p3) (20 + x18 / 164) (x18 % 164) (((kup (kup (kup (kup (kup σ 42 0 (Int32.ofInt 1)) 42 0 (Int32.ofInt 0)) (20 + x14 / 164) (x14 % 164) ((kup (kup σ 42 0 (Int32.ofInt 1)) 42 0 (Int32.ofInt 0)) (20 + x13 / 164) (x13 % 164))) (20 + x15 / 164) (x15 % 164) p2) (20 + x16 / 164) (x16 % 164) p3) (20 + x17 / 164) (x17 % 164)) + p4)) (20 + x8 / 164) (x8 % 164)) - p3)) (20 + x10 / 164) (x10 % 164)) + (Int32.ofInt 1))) (20 + x13 / 164) (x13 % 164)) + (Int32.ofInt 1))) (20 + x14 / 164) (x14 % 164)))), khp n L (kup (kup (kup (kup (kup (kup (kup (kup (kup σ 42 0 (Int32.ofInt 1)) 42 0 (Int32.ofInt 0)) (20 + x14 / 164) (x14 % 164) ((kup (kup σ 42 0 (Int32.ofInt 1)) 42 0 (Int32.ofInt 0)) (20 + x13 / 164) (x13 % 164))) (20 + x15 / 164) (x15 % 164) p2) (20 + x16 / 164) (x16 % 164) p3) (20 + x18 / 164) (x18 % 164) (((kup (kup (kup (kup (kup σ 42 0 (Int32.ofInt 1)) 42 0 (Int32.ofInt 0)) (20 + x14 / 164) (x14 % 164) ((kup (kup σ 42 0 (Int32.ofInt 1)) 42 0 (Int32.ofInt 0)) (20 + x13 / 164) (x13 % 164))) (20 + x15 / 164) (x15 % 164) p2) (20 + x16 / 164) (x16 % 164) p3) (20 + x17 / 164) (x17 % 164)) + p4)) (20 + x8 / 164) (x8 % 164) (((kup (kup (kup (kup (kup (kup σ 42 0 (Int32.ofInt 1)) 42 0 (Int32.ofInt 0)) (20 + x14 / 164) (x14 % 164) ((kup (kup σ 42 0 (Int32.ofInt 1)) 42 0 (Int32.ofInt 0)) (20 + x13 / 164) (x13 % 164))) (20 + x15 / 164) (x15 % 164) p2) (20 + x16 / 164) (x16 % 164) p3) (20 + x18 / 164) (x18 % 164) (((kup (kup (kup (kup (kup σ 42 0 (Int32.ofInt 1)) 42 0 (Int32.ofInt 0)) (20 + x14 / 164) (x14 % 164) ((kup (kup σ 42 0 (Int32.ofInt 1)) 42 0 (Int32.ofInt 0)) (20 + x13 / 164) (x13 % 164))) (20 + x15 / 164) (x15 % 164) p2) (20 + x16 / 164) (x16 % 164) p3) (20 + x17 / 164) (x17 % 164)) + p4)) (20 + x8 / 164) (x8 % 164)) - p3)) (20 + x10 / 164) (x10 % 164) (((kup (kup (kup (kup (kup (kup (kup σ 42 0 (Int32.ofInt 1)) 42 0 (Int32.ofInt 0)) (20 + x14 / 164) (x14 % 164) ((kup (kup σ 42 0 (Int32.ofInt 1)) 42 0 (Int32.ofInt 0)) (20 + x13 / 164) (x13 % 164))) (20 + x15 / 164) (x15 % 164) p2) (20 + x16 / 164) (x16 % 164) p3) (20 + x18 / 164) (x18 % 164) (((kup (kup (kup (kup (kup σ 42 0 (Int32.ofInt 1)) 42 0 (Int32.ofInt 0)) (20 + x14 / 164) (x14 % 164) ((kup (kup σ 42 0 (Int32.ofInt 1)) 42 0 (Int32.ofInt 0)) (20 + x13 / 164) (x13 % 164))) (20 + x15 / 164) (x15 % 164) p2) (20 + x16 / 164) (x16 % 164) p3) (20 + x17 / 164) (x17 % 164)) + p4)) (20 + x8 / 164) (x8 % 164) (((kup (kup (kup (kup (kup (kup σ 42 0 (Int32.ofInt 1)) 42 0 (Int32.ofInt 0)) (20 + x14 / 164) (x14 % 164) ((kup (kup σ 42 0 (Int32.ofInt 1)) 42 0 (Int32.ofInt 0)) (20 + x13 / 164) (x13 % 164))) (20 + x15 / 164) (x15 % 164) p2) (20 + x16 / 164) (x16 % 164) p3) (20 + x18 / 164) (x18 % 164) (((kup (kup (kup (kup (kup σ 42 0 (Int32.ofInt 1)) 42 0 (Int32.ofInt 0)) (20 + x14 / 164) (x14 % 164) ((kup (kup σ 42 0 (Int32.ofInt 1)) 42 0 (Int32.ofInt 0)) (20 + x13 / 164) (x13 % 164))) (20 + x15 / 164) (x15 % 164) p2) (20 + x16 / 164) (x16 % 164) p3) (20 + x17 / 164) (x17 % 164)) + p4)) (20 + x8 / 164) (x8 % 164)) - p3)) (20 + x10 / 164) (x10 % 164)) + (Int32.ofInt 1))) (20 + x13 / 164) (x13 % 164) (((kup (kup (kup (kup (kup (kup (kup (kup σ 42 0 (Int32.ofInt 1)) 42 0 (Int32.ofInt 0)) (20 + x14 / 164) (x14 % 164) ((kup (kup σ 42 0 (Int32.ofInt 1)) 42 0 (Int32.ofInt 0)) (20 + x13 / 164) (x13 % 164))) (20 + x15 / 164) (x15 % 164) p2) (20 + x16 / 164) (x16 % 164) p3) (20 + x18 / 164) (x18 % 164) (((kup (kup (kup (kup (kup σ 42 0 (Int32.ofInt 1)) 42 0 (Int32.ofInt 0)) (20 + x14 / 164) (x14 % 164) ((kup (kup σ 42 0 (Int32.ofInt 1)) 42 0 (Int32.ofInt 0)) (20 + x13 / 164) (x13 % 164))) (20 + x15 / 164) (x15 % 164) p2) (20 + x16 / 164) (x16 % 164) p3) (20 + x17 / 164) (x17 % 164)) + p4)) (20 + x8 / 164) (x8 % 164) (((kup (kup (kup (kup (kup (kup σ 42 0 (Int32.ofInt 1)) 42 0 (Int32.ofInt 0)) (20 + x14 / 164) (x14 % 164) ((kup (kup σ 42 0 (Int32.ofInt 1)) 42 0 (Int32.ofInt 0)) (20 + x13 / 164) (x13 % 164))) (20 + x15 / 164) (x15 % 164) p2) (20 + x16 / 164) (x16 % 164) p3) (20 + x18 / 164) (x18 % 164) (((kup (kup (kup (kup (kup σ 42 0 (Int32.ofInt 1)) 42 0 (Int32.ofInt 0)) (20 + x14 / 164) (x14 % 164) ((kup (kup σ 42 0 (Int32.ofInt 1)) 42 0 (Int32.ofInt 0)) (20 + x13 / 164) (x13 % 164))) (20 + x15 / 164) (x15 % 164) p2) (20 + x16 / 164) (x16 % 164) p3) (20 + x17 / 164) (x17 % 164)) + p4)) (20 + x8 / 164) (x8 % 164)) - p3)) (20 + x10 / 164) (x10 % 164) (((kup (kup (kup (kup (kup (kup (kup σ 42 0 (Int32.ofInt 1)) 42 0 (Int32.ofInt 0)) (20 + x14 / 164) (x14 % 164) ((kup (kup σ 42 0 (Int32.ofInt 1)) 42 0 (Int32.ofInt 0)) (20 + x13 / 164) (x13 % 164))) (20 + x15 / 164) (x15 % 164) p2) (20 + x16 / 164) (x16 % 164) p3) (20 + x18 / 164) (x18 % 164) (((kup (kup (kup (kup (kup σ 42 0 (Int32.ofInt 1)) 42 0 (Int32.ofInt 0)) (20 + x14 / 164) (x14 % 164) ((kup (kup σ 42 0 (Int32.ofInt 1)) 42 0 (Int32.ofInt 0)) (20 + x13 / 164) (x13 % 164))) (20 + x15 / 164) (x15 % 164) p2) (20 + x16 / 164) (x16 % 164) p3) (20 + x17 / 164) (x17 % 164)) + p4)) (20 + x8 / 164) (x8 % 164) (((kup (kup (kup (kup (kup (kup σ 42 0 (Int32.ofInt 1)) 42 0 (Int32.ofInt 0)) (20 + x14 / 164) (x14 % 164) ((kup (kup σ 42 0 (Int32.ofInt 1)) 42 0 (Int32.ofInt 0)) (20 + x13 / 164) (x13 % 164))) (20 + x15 / 164) (x15 % 164) p2) (20 + x16 / 164) (x16 % 164) p3) (20 + x18 / 164) (x18 % 164) (((kup (kup (kup (kup (kup σ 42 0 (Int32.ofInt 1)) 42 0 (Int32.ofInt 0)) (20 + x14 / 164) (x14 % 164) ((kup (kup σ 42 0 (Int32.ofInt 1)) 42 0 (Int32.ofInt 0)) (20 + x13 / 164) (x13 % 164))) (20 + x15 / 164) (x15 % 164) p2) (20 + x16 / 164) (x16 % 164) p3) (20 + x17 / 164) (x17 % 164)) + p4)) (20 + x8 / 164) (x8 % 164)) - p3)) (20 + x10 / 164) (x10 % 164)) + (Int32.ofInt 1))) (20 + x13 / 164) (x13 % 164)) + (Int32.ofInt 1))) (g), false) := by
  have hM : zmi[123]? = some _ := rfl
  have l6 := (zix_some z6).2.2
  have l8 := (zix_some z8).2.2
  have l10 := (zix_some z10).2.2
  have l13 := (zix_some z13).2.2
  have l14 := (zix_some z14).2.2
  have l15 := (zix_some z15).2.2
  have l16 := (zix_some z16).2.2
  have l17 := (zix_some z17).2.2
  have l18 := (zix_some z18).2.2
  refine zr_fr hM rfl rfl rfl ?_
  refine zr_fr hM rfl rfl rfl ?_
  refine zr_fr hM rfl rfl rfl ?_
  refine zr_fr hM rfl rfl rfl ?_
  refine zr_fr hM rfl rfl rfl ?_
  refine zr_virt (κ := (22, 0, 0)) hn hM rfl rfl rfl rfl rfl rfl rfl rfl rfl ?_
  refine zgo_ret rfl rfl c1_ ?_
  rw [Bool.and_true]
  refine zr_iff hM rfl rfl h2 ?_
  refine zr_fr hM rfl rfl rfl ?_
  refine zr_fr hM rfl rfl rfl ?_
  refine zr_ict hM rfl rfl h3 ?_
  refine zr_fr hM rfl rfl rfl ?_
  refine zr_putf (κ := (22, 0, 0)) hn hM rfl rfl rfl rfl rfl rfl rfl rfl ?_
  refine zr_fr hM rfl rfl rfl ?_
  refine zr_getf (κ := (22, 0, 0)) hn hM rfl rfl rfl rfl ?_
  refine zr_ift hM rfl rfl h4 ?_
  refine zr_fr hM rfl rfl rfl ?_
  refine zr_stat hM rfl rfl rfl rfl rfl rfl ?_
  refine zgo_ret rfl rfl c5_ ?_
  rw [Bool.and_true]
  refine zr_fr hM rfl rfl rfl ?_
  refine zr_fr hM rfl rfl rfl ?_
  refine zr_fr hM rfl rfl rfl ?_
  refine zr_getf (κ := (22, 0, 0)) hn hM rfl rfl rfl rfl ?_
  refine zr_fr hM rfl rfl rfl ?_
  refine zr_bald (κ := (25, 0, 0)) hn hM rfl rfl rfl z6 ?_
  refine zr_iff hM rfl rfl h7 ?_
  refine zr_fr hM rfl rfl rfl ?_
  refine zr_getf (κ := (22, 0, 0)) hn hM rfl rfl rfl rfl ?_
  refine zr_fr hM rfl rfl rfl ?_
  refine zr_fr hM rfl rfl rfl ?_
  refine zr_fr hM rfl rfl rfl ?_
  refine zr_iald (κ := (23, 0, 0)) hn hM rfl rfl rfl z8 ?_
  refine zr_fr hM rfl rfl rfl ?_
  refine zr_icf hM rfl rfl h9 ?_
  refine zr_fr hM rfl rfl rfl ?_
  refine zr_getf (κ := (22, 0, 0)) hn hM rfl rfl rfl rfl ?_
  refine zr_fr hM rfl rfl rfl ?_
  refine zr_fr hM rfl rfl rfl ?_
  refine zr_fr hM rfl rfl rfl ?_
  refine zr_iald (κ := (23, 0, 0)) hn hM rfl rfl rfl z10 ?_
  refine zr_fr hM rfl rfl rfl ?_
  refine zr_ict hM rfl rfl h11 ?_
  refine zr_fr hM rfl rfl rfl ?_
  refine zr_putf (κ := (22, 0, 0)) hn hM rfl rfl rfl rfl rfl rfl rfl rfl ?_
  refine zr_fr hM rfl rfl rfl ?_
  refine zr_getf (κ := (22, 0, 0)) hn hM rfl rfl rfl rfl ?_
  refine zr_ift hM rfl rfl h12 ?_
  refine zr_fr hM rfl rfl rfl ?_
  refine zr_fr hM rfl rfl rfl ?_
  refine zr_fr hM rfl rfl rfl ?_
  refine zr_fr hM rfl rfl rfl ?_
  refine zr_fr hM rfl rfl rfl ?_
  refine zr_getf (κ := (22, 0, 0)) hn hM rfl rfl rfl rfl ?_
  refine zr_fr hM rfl rfl rfl ?_
  refine zr_fr hM rfl rfl rfl ?_
  refine zr_fr hM rfl rfl rfl ?_
  refine zr_iald (κ := (23, 0, 0)) hn hM rfl rfl rfl z10 ?_
  refine zr_fr hM rfl rfl rfl ?_
  refine zr_fr hM rfl rfl rfl ?_
  refine zr_fr hM rfl rfl rfl ?_
  refine zr_fr hM rfl rfl rfl ?_
  refine zr_getf (κ := (22, 0, 0)) hn hM rfl rfl rfl rfl ?_
  refine zr_fr hM rfl rfl rfl ?_
  refine zr_fr hM rfl rfl rfl ?_
  refine zr_getf (κ := (22, 0, 0)) hn hM rfl rfl rfl rfl ?_
  refine zr_fr hM rfl rfl rfl ?_
  refine zr_fr hM rfl rfl rfl ?_
  refine zr_fr hM rfl rfl rfl ?_
  refine zr_iald (κ := (23, 0, 0)) hn hM rfl rfl rfl z13 ?_
  refine zr_iast (κ := (23, 0, 0)) hn hM rfl rfl rfl rfl z14 rfl ?_
  refine zr_fr hM rfl rfl rfl ?_
  refine zr_getf (κ := (22, 0, 0)) hn hM rfl rfl rfl rfl ?_
  refine zr_fr hM rfl rfl rfl ?_
  refine zr_fr hM rfl rfl rfl ?_
  refine zr_fr hM rfl rfl rfl ?_
  refine zr_fr hM rfl rfl rfl ?_
  refine zr_iast (κ := (23, 0, 0)) hn hM rfl rfl rfl rfl z15 rfl ?_
  refine zr_fr hM rfl rfl rfl ?_
  refine zr_getf (κ := (22, 0, 0)) hn hM rfl rfl rfl rfl ?_
  refine zr_fr hM rfl rfl rfl ?_
  refine zr_fr hM rfl rfl rfl ?_
  refine zr_fr hM rfl rfl rfl ?_
  refine zr_fr hM rfl rfl rfl ?_
  refine zr_iast (κ := (23, 0, 0)) hn hM rfl rfl rfl rfl z16 rfl ?_
  refine zr_fr hM rfl rfl rfl ?_
  refine zr_getf (κ := (22, 0, 0)) hn hM rfl rfl rfl rfl ?_
  refine zr_fr hM rfl rfl rfl ?_
  refine zr_fr hM rfl rfl rfl ?_
  refine zr_fr hM rfl rfl rfl ?_
  refine zr_fr hM rfl rfl rfl ?_
  refine zr_getf (κ := (22, 0, 0)) hn hM rfl rfl rfl rfl ?_
  refine zr_fr hM rfl rfl rfl ?_
  refine zr_fr hM rfl rfl rfl ?_
  refine zr_fr hM rfl rfl rfl ?_
  refine zr_iald (κ := (23, 0, 0)) hn hM rfl rfl rfl z17 ?_
  refine zr_fr hM rfl rfl rfl ?_
  refine zr_fr hM rfl rfl rfl ?_
  refine zr_iast (κ := (23, 0, 0)) hn hM rfl rfl rfl rfl z18 rfl ?_
  refine zr_fr hM rfl rfl rfl ?_
  refine zr_getf (κ := (22, 0, 0)) hn hM rfl rfl rfl rfl ?_
  refine zr_fr hM rfl rfl rfl ?_
  refine zr_fr hM rfl rfl rfl ?_
  refine zr_fr hM rfl rfl rfl ?_
  refine zr_fr hM rfl rfl rfl ?_
  refine zr_iald (κ := (23, 0, 0)) hn hM rfl rfl rfl z8 ?_
  refine zr_fr hM rfl rfl rfl ?_
  refine zr_fr hM rfl rfl rfl ?_
  refine zr_iast (κ := (23, 0, 0)) hn hM rfl rfl rfl rfl z8 rfl ?_
  refine zr_fr hM rfl rfl rfl ?_
  refine zr_getf (κ := (22, 0, 0)) hn hM rfl rfl rfl rfl ?_
  refine zr_fr hM rfl rfl rfl ?_
  refine zr_fr hM rfl rfl rfl ?_
  refine zr_fr hM rfl rfl rfl ?_
  refine zr_fr hM rfl rfl rfl ?_
  refine zr_iald (κ := (23, 0, 0)) hn hM rfl rfl rfl z10 ?_
  refine zr_fr hM rfl rfl rfl ?_
  refine zr_fr hM rfl rfl rfl ?_
  refine zr_iast (κ := (23, 0, 0)) hn hM rfl rfl rfl rfl z10 rfl ?_
  refine zr_fr hM rfl rfl rfl ?_
  refine zr_getf (κ := (22, 0, 0)) hn hM rfl rfl rfl rfl ?_
  refine zr_fr hM rfl rfl rfl ?_
  refine zr_fr hM rfl rfl rfl ?_
  refine zr_fr hM rfl rfl rfl ?_
  refine zr_fr hM rfl rfl rfl ?_
  refine zr_iald (κ := (23, 0, 0)) hn hM rfl rfl rfl z13 ?_
  refine zr_fr hM rfl rfl rfl ?_
  refine zr_fr hM rfl rfl rfl ?_
  refine zr_iast (κ := (23, 0, 0)) hn hM rfl rfl rfl rfl z13 rfl ?_
  refine zr_fr hM rfl rfl rfl ?_
  refine zr_getf (κ := (22, 0, 0)) hn hM rfl rfl rfl rfl ?_
  refine zr_fr hM rfl rfl rfl ?_
  refine zr_iald (κ := (23, 0, 0)) hn hM rfl rfl rfl z14 ?_
  exact zr_iret2 hM rfl rfl rfl
set_option maxHeartbeats 4000000 in
theorem s123_0_fttftf {n L : Nat} {σ : Ks} {g : List Nat} {cl : Bool} {p1 : Int32} {p2 : Int32} {p3 : Int32} {p4 : Int32} {r1 : Int32} {r5 : Int32} {x6 : Nat} {x8 : Nat} (hn : 2 ≤ n ∧ n ≤ 5) (c1_ : ZR 118 0 [.val (.ref (kad n (22, 0, 0))), .val (.int p1), .val (.int p2), .val (.int p3)] [] (khp n L σ g) true (.inl (some (.int r1)), khp n L σ g, true)) (h2 : zcnd .eq r1 0 = false) (h3 : zcnd .lt p4 (Int32.ofInt 1) = true) (h4 : zcnd .le ((kup σ 42 0 (Int32.ofInt 1)) 42 0) 0 = true) (c5_ : ZR 97 0 [.val (.int p1)] [] (khp n L (kup σ 42 0 (Int32.ofInt 1)) g) true (.inl (some (.int r5)), khp n L (kup σ 42 0 (Int32.ofInt 1)) g, true)) (z6 : zix p1 5 = some x6) (h7 : zcnd .ne ((kup σ 42 0 (Int32.ofInt 1)) 40 x6) 0 = false) (z8 : zix (r5 + p2) 820 = some x8) (h9 : zcnd .lt ((kup σ 42 0 (Int32.ofInt 1)) (20 + x8 / 164) (x8 % 164)) p3 = true) (h10 : zcnd .le ((kup (kup σ 42 0 (Int32.ofInt 1)) 42 0 (Int32.ofInt 2)) 42 0) 0 = false) : ZR 123 0 [.val (.ref (kad n (22, 0, 0))), .val (.int p1), .val (.int p2), .val (.int p3), .val (.int p4), .unset, .unset] [] (khp n L σ g) cl (.inl (some (.int (Int32.ofInt 0))), khp n L (kup (kup σ 42 0 (Int32.ofInt 1)) 42 0 (Int32.ofInt 2)) (g), false) := by
  have hM : zmi[123]? = some _ := rfl
  have l6 := (zix_some z6).2.2
  have l8 := (zix_some z8).2.2
  refine zr_fr hM rfl rfl rfl ?_
  refine zr_fr hM rfl rfl rfl ?_
  refine zr_fr hM rfl rfl rfl ?_
  refine zr_fr hM rfl rfl rfl ?_
  refine zr_fr hM rfl rfl rfl ?_
  refine zr_virt (κ := (22, 0, 0)) hn hM rfl rfl rfl rfl rfl rfl rfl rfl rfl ?_
  refine zgo_ret rfl rfl c1_ ?_
  rw [Bool.and_true]
  refine zr_iff hM rfl rfl h2 ?_
  refine zr_fr hM rfl rfl rfl ?_
  refine zr_fr hM rfl rfl rfl ?_
  refine zr_ict hM rfl rfl h3 ?_
  refine zr_fr hM rfl rfl rfl ?_
  refine zr_putf (κ := (22, 0, 0)) hn hM rfl rfl rfl rfl rfl rfl rfl rfl ?_
  refine zr_fr hM rfl rfl rfl ?_
  refine zr_getf (κ := (22, 0, 0)) hn hM rfl rfl rfl rfl ?_
  refine zr_ift hM rfl rfl h4 ?_
  refine zr_fr hM rfl rfl rfl ?_
  refine zr_stat hM rfl rfl rfl rfl rfl rfl ?_
  refine zgo_ret rfl rfl c5_ ?_
  rw [Bool.and_true]
  refine zr_fr hM rfl rfl rfl ?_
  refine zr_fr hM rfl rfl rfl ?_
  refine zr_fr hM rfl rfl rfl ?_
  refine zr_getf (κ := (22, 0, 0)) hn hM rfl rfl rfl rfl ?_
  refine zr_fr hM rfl rfl rfl ?_
  refine zr_bald (κ := (25, 0, 0)) hn hM rfl rfl rfl z6 ?_
  refine zr_iff hM rfl rfl h7 ?_
  refine zr_fr hM rfl rfl rfl ?_
  refine zr_getf (κ := (22, 0, 0)) hn hM rfl rfl rfl rfl ?_
  refine zr_fr hM rfl rfl rfl ?_
  refine zr_fr hM rfl rfl rfl ?_
  refine zr_fr hM rfl rfl rfl ?_
  refine zr_iald (κ := (23, 0, 0)) hn hM rfl rfl rfl z8 ?_
  refine zr_fr hM rfl rfl rfl ?_
  refine zr_ict hM rfl rfl h9 ?_
  refine zr_fr hM rfl rfl rfl ?_
  refine zr_fr hM rfl rfl rfl ?_
  refine zr_putf (κ := (22, 0, 0)) hn hM rfl rfl rfl rfl rfl rfl rfl rfl ?_
  refine zr_fr hM rfl rfl rfl ?_
  refine zr_getf (κ := (22, 0, 0)) hn hM rfl rfl rfl rfl ?_
  refine zr_iff hM rfl rfl h10 ?_
  refine zr_fr hM rfl rfl rfl ?_
  exact zr_iret2 hM rfl rfl rfl
set_option maxHeartbeats 4000000 in
theorem s123_0_fttftt {n L : Nat} {σ : Ks} {g : List Nat} {cl : Bool} {p1 : Int32} {p2 : Int32} {p3 : Int32} {p4 : Int32} {r1 : Int32} {r5 : Int32} {x6 : Nat} {x8 : Nat} {x11 : Nat} {x12 : Nat} {x13 : Nat} {x14 : Nat} {x15 : Nat} {x16 : Nat} {x17 : Nat} (hn : 2 ≤ n ∧ n ≤ 5) (c1_ : ZR 118 0 [.val (.ref (kad n (22, 0, 0))), .val (.int p1), .val (.int p2), .val (.int p3)] [] (khp n L σ g) true (.inl (some (.int r1)), khp n L σ g, true)) (h2 : zcnd .eq r1 0 = false) (h3 : zcnd .lt p4 (Int32.ofInt 1) = true) (h4 : zcnd .le ((kup σ 42 0 (Int32.ofInt 1)) 42 0) 0 = true) (c5_ : ZR 97 0 [.val (.int p1)] [] (khp n L (kup σ 42 0 (Int32.ofInt 1)) g) true (.inl (some (.int r5)), khp n L (kup σ 42 0 (Int32.ofInt 1)) g, true)) (z6 : zix p1 5 = some x6) (h7 : zcnd .ne ((kup σ 42 0 (Int32.ofInt 1)) 40 x6) 0 = false) (z8 : zix (r5 + p2) 820 = some x8) (h9 : zcnd .lt ((kup σ 42 0 (Int32.ofInt 1)) (20 + x8 / 164) (x8 % 164)) p3 = true) (h10 : zcnd .le ((kup (kup σ 42 0 (Int32.ofInt 1)) 42 0 (Int32.ofInt 2)) 42 0) 0 = true) (z11 : zix (r5 + ((Int8.ofInt 19).toInt32)) 820 = some x11) (z12 : zix (r5 + ((Int8.ofInt 17).toInt32)) 820 = some x12) (z13 : zix ((r5 + ((Int8.ofInt 20).toInt32)) + ((Int32.ofInt 4) * ((kup (kup σ 42 0 (Int32.ofInt 1)) 42 0 (Int32.ofInt 2)) (20 + x11 / 164) (x11 % 164)))) 820 = some x13) (z14 : zix (((r5 + ((Int8.ofInt 20).toInt32)) + ((Int32.ofInt 4) * ((kup (kup σ 42 0 (Int32.ofInt 1)) 42 0 (Int32.ofInt 2)) (20 + x11 / 164) (x11 % 164)))) + (Int32.ofInt 1)) 820 = some x14) (z15 : zix (((r5 + ((Int8.ofInt 20).toInt32)) + ((Int32.ofInt 4) * ((kup (kup σ 42 0 (Int32.ofInt 1)) 42 0 (Int32.ofInt 2)) (20 + x11 / 164) (x11 % 164)))) + (Int32.ofInt 2)) 820 = some x15) (z16 : zix (r5 + ((Int8.ofInt 16).toInt32)) 820 = some x16) (z17 : zix (((r5 + ((Int8.ofInt 20).toInt32)) + ((Int32.ofInt 4) * ((kup (kup σ 42 0 (Int32.ofInt 1)) 42 0 (Int32.ofInt 2)) (20 + x11 / 164) (x11 % 164)))) + (Int32.ofInt 3)) 820 = some x17) : ZR 123 0 [.val (.ref (kad n (22, 0, 0))), .val (.int p1), .val (.int p2), .val (.int p3), .val (.int p4), .unset, .unset] [] (khp n L σ g) cl (.inl (some (.int ((kup (kup (kup (kup (kup (kup (kup (kup (kup σ 42 0 (Int32.ofInt 1)) 42 0 (Int32.ofInt 2)) (20 + x13 / 164) (x13 % 164) ((kup (kup σ 42 0 (Int32.ofInt 1)) 42 0 (Int32.ofInt 2)) (20 + x12 / 164) (x12 % 164))) (20 + x14 / 164) (x14 % 164) p2) (20 + x15 / 164) (x15 % 164) p3) (20 + x17 / 164) (x17 % 164) (((kup (kup (kup (kup (kup σ 42 0 (Int32.ofInt 1)) 42 0 (Int32.ofInt 2)) (20 + x13 / 164) (x13 % 164) ((kup (kup σ 42 0 (Int32.ofInt 1)) 42 0 (Int32.ofInt 2)) (20 + x12 / 164) (x12 % 164))) (20 + x14 / 164) (x14 % 164) p2) (20 + x15 / 164) (x15 % 164) p3) (20 + x16 / 164) (x16 % 164)) + p4)) (20 + x8 / 164) (x8 % 164) (((kup (kup (kup (kup (kup (kup σ 42 0 (Int32.ofInt 1)) 42 0 (Int32.ofInt 2)) (20 + x13 / 164) (x13 % 164) ((kup (kup σ 42 0 (Int32.ofInt 1)) 42 0 (Int32.ofInt 2)) (20 + x12 / 164) (x12 % 164))) (20 + x14 / 164) (x14 % 164) p2) (20 + x15 / 164) (x15 % 164) p3) (20 + x17 / 164) (x17 % 164) (((kup (kup (kup (kup (kup σ 42 0 (Int32.ofInt 1)) 42 0 (Int32.ofInt 2)) (20 + x13 / 164) (x13 % 164) ((kup (kup σ 42 0 (Int32.ofInt 1)) 42 0 (Int32.ofInt 2)) (20 + x12 / 164) (x12 % 164))) (20 + x14 / 164) (x14 % 164) p2) (20 + x15 / 164) (x15 % 164) p3) (20 + x16 / 164) (x16 % 164)) + p4)) (20 + x8 / 164) (x8 % 164)) - p3)) (20 + x11 / 164) (x11 % 164) (((kup (kup (kup (kup (kup (kup (kup σ 42 0 (Int32.ofInt 1)) 42 0 (Int32.ofInt 2)) (20 + x13 / 164) (x13 % 164) ((kup (kup σ 42 0 (Int32.ofInt 1)) 42 0 (Int32.ofInt 2)) (20 + x12 / 164) (x12 % 164))) (20 + x14 / 164) (x14 % 164) p2) (20 + x15 / 164) (x15 % 164) p3) (20 + x17 / 164) (x17 % 164) (((kup (kup (kup (kup (kup σ 42 0 (Int32.ofInt 1)) 42 0 (Int32.ofInt 2)) (20 + x13 / 164) (x13 % 164) ((kup (kup σ 42 0 (Int32.ofInt 1)) 42 0 (Int32.ofInt 2)) (20 + x12 / 164) (x12 % 164))) (20 + x14 / 164) (x14 % 164) p2) (20 + x15 / 164) (x15 % 164) p3) (20 + x16 / 164) (x16 % 164)) + p4)) (20 + x8 / 164) (x8 % 164) (((kup (kup (kup (kup (kup (kup σ 42 0 (Int32.ofInt 1)) 42 0 (Int32.ofInt 2)) (20 + x13 / 164) (x13 % 164) ((kup (kup σ 42 0 (Int32.ofInt 1)) 42 0 (Int32.ofInt 2)) (20 + x12 / 164) (x12 % 164))) (20 + x14 / 164) (x14 % 164) p2) (20 + x15 / 164) (x15 % 164) p3) (20 + x17 / 164) (x17 % 164) (((kup (kup (kup (kup (kup σ 42 0 (Int32.ofInt 1)) 42 0 (Int32.ofInt 2)) (20 + x13 / 164) (x13 % 164) ((kup (kup σ 42 0 (Int32.ofInt 1)) 42 0 (Int32.ofInt 2)) (20 + x12 / 164) (x12 % 164))) (20 + x14 / 164) (x14 % 164) p2) (20 + x15 / 164) (x15 % 164) p3) (20 + x16 / 164) (x16 % 164)) + p4)) (20 + x8 / 164) (x8 % 164)) - p3)) (20 + x11 / 164) (x11 % 164)) + (Int32.ofInt 1))) (20 + x12 / 164) (x12 % 164) (((kup (kup (kup (kup (kup (kup (kup (kup σ 42 0 (Int32.ofInt 1)) 42 0 (Int32.ofInt 2)) (20 + x13 / 164) (x13 % 164) ((kup (kup σ 42 0 (Int32.ofInt 1)) 42 0 (Int32.ofInt 2)) (20 + x12 / 164) (x12 % 164))) (20 + x14 / 164) (x14 % 164) p2) (20 + x15 / 164) (x15 % 164) p3) (20 + x17 / 164) (x17 % 164) (((kup (kup (kup (kup (kup σ 42 0 (Int32.ofInt 1)) 42 0 (Int32.ofInt 2)) (20 + x13 / 164) (x13 % 164) ((kup (kup σ 42 0 (Int32.ofInt 1)) 42 0 (Int32.ofInt 2)) (20 + x12 / 164) (x12 % 164))) (20 + x14 / 164) (x14 % 164) p2) (20 + x15 / 164) (x15 % 164) p3) (20 + x16 / 164) (x16 % 164)) + p4)) (20 + x8 / 164) (x8 % 164) (((kup (kup (kup (kup (kup (kup σ 42 0 (Int32.ofInt 1)) 42 0 (Int32.ofInt 2)) (20 + x13 / 164) (x13 % 164) ((kup (kup σ 42 0 (Int32.ofInt 1)) 42 0 (Int32.ofInt 2)) (20 + x12 / 164) (x12 % 164))) (20 + x14 / 164) (x14 % 164) p2) (20 + x15 / 164) (x15 % 164) p3) (20 + x17 / 164) (x17 % 164) (((kup (kup (kup (kup (kup σ 42 0 (Int32.ofInt 1)) 42 0 (Int32.ofInt 2)) (20 + x13 / 164) (x13 % 164) ((kup (kup σ 42 0 (Int32.ofInt 1)) 42 0 (Int32.ofInt 2)) (20 + x12 / 164) (x12 % 164))) (20 + x14 / 164) (x14 % 164) p2) (20 + x15 / 164) (x15 % 164) p3) (20 + x16 / 164) (x16 % 164)) + p4)) (20 + x8 / 164) (x8 % 164)) - p3)) (20 + x11 / 164) (x11 % 164) (((kup (kup (kup (kup (kup (kup (kup σ 42 0 (Int32.ofInt 1)) 42 0 (Int32.ofInt 2)) (20 + x13 / 164) (x13 % 164) ((kup (kup σ 42 0 (Int32.ofInt 1)) 42 0 (Int32.ofInt 2)) (20 + x12 / 164) (x12 % 164))) (20 + x14 / 164) (x14 % 164) p2) (20 + x15 / 164) (x15 % 164) p3) (20 + x17 / 164) (x17 % 164) (((kup (kup (kup (kup (kup σ 42 0 (Int32.ofInt 1)) 42 0 (Int32.ofInt 2)) (20 + x13 / 164) (x13 % 164) ((kup (kup σ 42 0 (Int32.ofInt 1)) 42 0 (Int32.ofInt 2)) (20 + x12 / 164) (x12 % 164))) (20 + x14 / 164) (x14 % 164) p2) (20 + x15 / 164) (x15 % 164) p3) (20 + x16 / 164) (x16 % 164)) + p4)) (20 + x8 / 164) (x8 % 164) (((kup (kup (kup (kup (kup (kup σ 42 0 (Int32.ofInt 1)) 42 0 (Int32.ofInt 2)) (20 + x13 / 164) (x13 % 164) ((kup (kup σ 42 0 (Int32.ofInt 1)) 42 0 (Int32.ofInt 2)) (20 + x12 / 164) (x12 % 164))) (20 + x14 / 164) (x14 % 164) p2) (20 + x15 / 164) (x15 % 164) p3) (20 + x17 / 164) (x17 % 164) (((kup (kup (kup (kup (kup σ 42 0 (Int32.ofInt 1)) 42 0 (Int32.ofInt 2)) (20 + x13 / 164) (x13 % 164) ((kup (kup σ 42 0 (Int32.ofInt 1)) 42 0 (Int32.ofInt 2)) (20 + x12 / 164) (x12 % 164))) (20 + x14 / 164) (x14 % 164) p2) (20 + x15 / 164) (x15 % 164) p3) (20 + x16 / 164) (x16 % 164)) + p4)) (20 + x8 / 164) (x8 % 164)) - p3)) (20 + x11 / 164) (x11 % 164)) + (Int32.ofInt 1))) (20 + x12 / 164) (x12 % 164)) + (Int32.ofInt 1))) (20 + x13 / 164) (x13 % 164)))), khp n L (kup (kup (kup (kup (kup (kup (kup (kup (kup σ 42 0 (Int32.ofInt 1)) 42 0 (Int32.ofInt 2)) (20 + x13 / 164) (x13 % 164) ((kup (kup σ 42 0 (Int32.ofInt 1)) 42 0 (Int32.ofInt 2)) (20 + x12 / 164) (x12 % 164))) (20 + x14 / 164) (x14 % 164) p2) (20 + x15 / 164) (x15 % 164) p3) (20 + x17 / 164) (x17 % 164) (((kup (kup (kup (kup (kup σ 42 0 (Int32.ofInt 1)) 42 0 (Int32.ofInt 2)) (20 + x13 / 164) (x13 % 164) ((kup (kup σ 42 0 (Int32.ofInt 1)) 42 0 (Int32.ofInt 2)) (20 + x12 / 164) (x12 % 164))) (20 + x14 / 164) (x14 % 164) p2) (20 + x15 / 164) (x15 % 164) p3) (20 + x16 / 164) (x16 % 164)) + p4)) (20 + x8 / 164) (x8 % 164) (((kup (kup (kup (kup (kup (kup σ 42 0 (Int32.ofInt 1)) 42 0 (Int32.ofInt 2)) (20 + x13 / 164) (x13 % 164) ((kup (kup σ 42 0 (Int32.ofInt 1)) 42 0 (Int32.ofInt 2)) (20 + x12 / 164) (x12 % 164))) (20 + x14 / 164) (x14 % 164) p2) (20 + x15 / 164) (x15 % 164) p3) (20 + x17 / 164) (x17 % 164) (((kup (kup (kup (kup (kup σ 42 0 (Int32.ofInt 1)) 42 0 (Int32.ofInt 2)) (20 + x13 / 164) (x13 % 164) ((kup (kup σ 42 0 (Int32.ofInt 1)) 42 0 (Int32.ofInt 2)) (20 + x12 / 164) (x12 % 164))) (20 + x14 / 164) (x14 % 164) p2) (20 + x15 / 164) (x15 % 164) p3) (20 + x16 / 164) (x16 % 164)) + p4)) (20 + x8 / 164) (x8 % 164)) - p3)) (20 + x11 / 164) (x11 % 164) (((kup (kup (kup (kup (kup (kup (kup σ 42 0 (Int32.ofInt 1)) 42 0 (Int32.ofInt 2)) (20 + x13 / 164) (x13 % 164) ((kup (kup σ 42 0 (Int32.ofInt 1)) 42 0 (Int32.ofInt 2)) (20 + x12 / 164) (x12 % 164))) (20 + x14 / 164) (x14 % 164) p2) (20 + x15 / 164) (x15 % 164) p3) (20 + x17 / 164) (x17 % 164) (((kup (kup (kup (kup (kup σ 42 0 (Int32.ofInt 1)) 42 0 (Int32.ofInt 2)) (20 + x13 / 164) (x13 % 164) ((kup (kup σ 42 0 (Int32.ofInt 1)) 42 0 (Int32.ofInt 2)) (20 + x12 / 164) (x12 % 164))) (20 + x14 / 164) (x14 % 164) p2) (20 + x15 / 164) (x15 % 164) p3) (20 + x16 / 164) (x16 % 164)) + p4)) (20 + x8 / 164) (x8 % 164) (((kup (kup (kup (kup (kup (kup σ 42 0 (Int32.ofInt 1)) 42 0 (Int32.ofInt 2)) (20 + x13 / 164) (x13 % 164) ((kup (kup σ 42 0 (Int32.ofInt 1)) 42 0 (Int32.ofInt 2)) (20 + x12 / 164) (x12 % 164))) (20 + x14 / 164) (x14 % 164) p2) (20 + x15 / 164) (x15 % 164) p3) (20 + x17 / 164) (x17 % 164) (((kup (kup (kup (kup (kup σ 42 0 (Int32.ofInt 1)) 42 0 (Int32.ofInt 2)) (20 + x13 / 164) (x13 % 164) ((kup (kup σ 42 0 (Int32.ofInt 1)) 42 0 (Int32.ofInt 2)) (20 + x12 / 164) (x12 % 164))) (20 + x14 / 164) (x14 % 164) p2) (20 + x15 / 164) (x15 % 164) p3) (20 + x16 / 164) (x16 % 164)) + p4)) (20 + x8 / 164) (x8 % 164)) - p3)) (20 + x11 / 164) (x11 % 164)) + (Int32.ofInt 1))) (20 + x12 / 164) (x12 % 164) (((kup (kup (kup (kup (kup (kup (kup (kup σ 42 0 (Int32.ofInt 1)) 42 0 (Int32.ofInt 2)) (20 + x13 / 164) (x13 % 164) ((kup (kup σ 42 0 (Int32.ofInt 1)) 42 0 (Int32.ofInt 2)) (20 + x12 / 164) (x12 % 164))) (20 + x14 / 164) (x14 % 164) p2) (20 + x15 / 164) (x15 % 164) p3) (20 + x17 / 164) (x17 % 164) (((kup (kup (kup (kup (kup σ 42 0 (Int32.ofInt 1)) 42 0 (Int32.ofInt 2)) (20 + x13 / 164) (x13 % 164) ((kup (kup σ 42 0 (Int32.ofInt 1)) 42 0 (Int32.ofInt 2)) (20 + x12 / 164) (x12 % 164))) (20 + x14 / 164) (x14 % 164) p2) (20 + x15 / 164) (x15 % 164) p3) (20 + x16 / 164) (x16 % 164)) + p4)) (20 + x8 / 164) (x8 % 164) (((kup (kup (kup (kup (kup (kup σ 42 0 (Int32.ofInt 1)) 42 0 (Int32.ofInt 2)) (20 + x13 / 164) (x13 % 164) ((kup (kup σ 42 0 (Int32.ofInt 1)) 42 0 (Int32.ofInt 2)) (20 + x12 / 164) (x12 % 164))) (20 + x14 / 164) (x14 % 164) p2) (20 + x15 / 164) (x15 % 164) p3) (20 + x17 / 164) (x17 % 164) (((kup (kup (kup (kup (kup σ 42 0 (Int32.ofInt 1)) 42 0 (Int32.ofInt 2)) (20 + x13 / 164) (x13 % 164) ((kup (kup σ 42 0 (Int32.ofInt 1)) 42 0 (Int32.ofInt 2)) (20 + x12 / 164) (x12 % 164))) (20 + x14 / 164) (x14 % 164) p2) (20 + x15 / 164) (x15 % 164) p3) (20 + x16 / 164) (x16 % 164)) + p4)) (20 + x8 / 164) (x8 % 164)) - p3)) (20 + x11 / 164) (x11 % 164) (((kup (kup (kup (kup (kup (kup (kup σ 42 0 (Int32.ofInt 1)) 42 0 (Int32.ofInt 2)) (20 + x13 / 164) (x13 % 164) ((kup (kup σ 42 0 (Int32.ofInt 1)) 42 0 (Int32.ofInt 2)) (20 + x12 / 164) (x12 % 164))) (20 + x14 / 164) (x14 % 164) p2) (20 + x15 / 164) (x15 % 164) p3) (20 + x17 / 164) (x17 % 164) (((kup (kup (kup (kup (kup σ 42 0 (Int32.ofInt 1)) 42 0 (Int32.ofInt 2)) (20 + x13 / 164) (x13 % 164) ((kup (kup σ 42 0 (Int32.ofInt 1)) 42 0 (Int32.ofInt 2)) (20 + x12 / 164) (x12 % 164))) (20 + x14 / 164) (x14 % 164) p2) (20 + x15 / 164) (x15 % 164) p3) (20 + x16 / 164) (x16 % 164)) + p4)) (20 + x8 / 164) (x8 % 164) (((kup (kup (kup (kup (kup (kup σ 42 0 (Int32.ofInt 1)) 42 0 (Int32.ofInt 2)) (20 + x13 / 164) (x13 % 164) ((kup (kup σ 42 0 (Int32.ofInt 1)) 42 0 (Int32.ofInt 2)) (20 + x12 / 164) (x12 % 164))) (20 + x14 / 164) (x14 % 164) p2) (20 + x15 / 164) (x15 % 164) p3) (20 + x17 / 164) (x17 % 164) (((kup (kup (kup (kup (kup σ 42 0 (Int32.ofInt 1)) 42 0 (Int32.ofInt 2)) (20 + x13 / 164) (x13 % 164) ((kup (kup σ 42 0 (Int32.ofInt 1)) 42 0 (Int32.ofInt 2)) (20 + x12 / 164) (x12 % 164))) (20 + x14 / 164) (x14 % 164) p2) (20 + x15 / 164) (x15 % 164) p3) (20 + x16 / 164) (x16 % 164)) + p4)) (20 + x8 / 164) (x8 % 164)) - p3)) (20 + x11 / 164) (x11 % 164)) + (Int32.ofInt 1))) (20 + x12 / 164) (x12 % 164)) + (Int32.ofInt 1))) (g), false) := by
  have hM : zmi[123]? = some _ := rfl
  have l6 := (zix_some z6).2.2
  have l8 := (zix_some z8).2.2
  have l11 := (zix_some z11).2.2
  have l12 := (zix_some z12).2.2
  have l13 := (zix_some z13).2.2
  have l14 := (zix_some z14).2.2
  have l15 := (zix_some z15).2.2
  have l16 := (zix_some z16).2.2
  have l17 := (zix_some z17).2.2
  refine zr_fr hM rfl rfl rfl ?_
  refine zr_fr hM rfl rfl rfl ?_
  refine zr_fr hM rfl rfl rfl ?_
  refine zr_fr hM rfl rfl rfl ?_
  refine zr_fr hM rfl rfl rfl ?_
  refine zr_virt (κ := (22, 0, 0)) hn hM rfl rfl rfl rfl rfl rfl rfl rfl rfl ?_
  refine zgo_ret rfl rfl c1_ ?_
  rw [Bool.and_true]
  refine zr_iff hM rfl rfl h2 ?_
  refine zr_fr hM rfl rfl rfl ?_
  refine zr_fr hM rfl rfl rfl ?_
  refine zr_ict hM rfl rfl h3 ?_
  refine zr_fr hM rfl rfl rfl ?_
  refine zr_putf (κ := (22, 0, 0)) hn hM rfl rfl rfl rfl rfl rfl rfl rfl ?_
  refine zr_fr hM rfl rfl rfl ?_
  refine zr_getf (κ := (22, 0, 0)) hn hM rfl rfl rfl rfl ?_
  refine zr_ift hM rfl rfl h4 ?_
  refine zr_fr hM rfl rfl rfl ?_
  refine zr_stat hM rfl rfl rfl rfl rfl rfl ?_
  refine zgo_ret rfl rfl c5_ ?_
  rw [Bool.and_true]
  refine zr_fr hM rfl rfl rfl ?_
  refine zr_fr hM rfl rfl rfl ?_
  refine zr_fr hM rfl rfl rfl ?_
  refine zr_getf (κ := (22, 0, 0)) hn hM rfl rfl rfl rfl ?_
  refine zr_fr hM rfl rfl rfl ?_
  refine zr_bald (κ := (25, 0, 0)) hn hM rfl rfl rfl z6 ?_
  refine zr_iff hM rfl rfl h7 ?_
  refine zr_fr hM rfl rfl rfl ?_
  refine zr_getf (κ := (22, 0, 0)) hn hM rfl rfl rfl rfl ?_
  refine zr_fr hM rfl rfl rfl ?_
  refine zr_fr hM rfl rfl rfl ?_
  refine zr_fr hM rfl rfl rfl ?_
  refine zr_iald (κ := (23, 0, 0)) hn hM rfl rfl rfl z8 ?_
  refine zr_fr hM rfl rfl rfl ?_
  refine zr_ict hM rfl rfl h9 ?_
  refine zr_fr hM rfl rfl rfl ?_
  refine zr_fr hM rfl rfl rfl ?_
  refine zr_putf (κ := (22, 0, 0)) hn hM rfl rfl rfl rfl rfl rfl rfl rfl ?_
  refine zr_fr hM rfl rfl rfl ?_
  refine zr_getf (κ := (22, 0, 0)) hn hM rfl rfl rfl rfl ?_
  refine zr_ift hM rfl rfl h10 ?_
  refine zr_fr hM rfl rfl rfl ?_
  refine zr_fr hM rfl rfl rfl ?_
  refine zr_fr hM rfl rfl rfl ?_
  refine zr_fr hM rfl rfl rfl ?_
  refine zr_fr hM rfl rfl rfl ?_
  refine zr_getf (κ := (22, 0, 0)) hn hM rfl rfl rfl rfl ?_
  refine zr_fr hM rfl rfl rfl ?_
  refine zr_fr hM rfl rfl rfl ?_
  refine zr_fr hM rfl rfl rfl ?_
  refine zr_iald (κ := (23, 0, 0)) hn hM rfl rfl rfl z11 ?_
  refine zr_fr hM rfl rfl rfl ?_
  refine zr_fr hM rfl rfl rfl ?_
  refine zr_fr hM rfl rfl rfl ?_
  refine zr_fr hM rfl rfl rfl ?_
  refine zr_getf (κ := (22, 0, 0)) hn hM rfl rfl rfl rfl ?_
  refine zr_fr hM rfl rfl rfl ?_
  refine zr_fr hM rfl rfl rfl ?_
  refine zr_getf (κ := (22, 0, 0)) hn hM rfl rfl rfl rfl ?_
  refine zr_fr hM rfl rfl rfl ?_
  refine zr_fr hM rfl rfl rfl ?_
  refine zr_fr hM rfl rfl rfl ?_
  refine zr_iald (κ := (23, 0, 0)) hn hM rfl rfl rfl z12 ?_
  refine zr_iast (κ := (23, 0, 0)) hn hM rfl rfl rfl rfl z13 rfl ?_
  refine zr_fr hM rfl rfl rfl ?_
  refine zr_getf (κ := (22, 0, 0)) hn hM rfl rfl rfl rfl ?_
  refine zr_fr hM rfl rfl rfl ?_
  refine zr_fr hM rfl rfl rfl ?_
  refine zr_fr hM rfl rfl rfl ?_
  refine zr_fr hM rfl rfl rfl ?_
  refine zr_iast (κ := (23, 0, 0)) hn hM rfl rfl rfl rfl z14 rfl ?_
  refine zr_fr hM rfl rfl rfl ?_
  refine zr_getf (κ := (22, 0, 0)) hn hM rfl rfl rfl rfl ?_
  refine zr_fr hM rfl rfl rfl ?_
  refine zr_fr hM rfl rfl rfl ?_
  refine zr_fr hM rfl rfl rfl ?_
  refine zr_fr hM rfl rfl rfl ?_
  refine zr_iast (κ := (23, 0, 0)) hn hM rfl rfl rfl rfl z15 rfl ?_
  refine zr_fr hM rfl rfl rfl ?_
  refine zr_getf (κ := (22, 0, 0)) hn hM rfl rfl rfl rfl ?_
  refine zr_fr hM rfl rfl rfl ?_
  refine zr_fr hM rfl rfl rfl ?_
  refine zr_fr hM rfl rfl rfl ?_
  refine zr_fr hM rfl rfl rfl ?_
  refine zr_getf (κ := (22, 0, 0)) hn hM rfl rfl rfl rfl ?_
  refine zr_fr hM rfl rfl rfl ?_
  refine zr_fr hM rfl rfl rfl ?_
  refine zr_fr hM rfl rfl rfl ?_
  refine zr_iald (κ := (23, 0, 0)) hn hM rfl rfl rfl z16 ?_
  refine zr_fr hM rfl rfl rfl ?_
  refine zr_fr hM rfl rfl rfl ?_
  refine zr_iast (κ := (23, 0, 0)) hn hM rfl rfl rfl rfl z17 rfl ?_
  refine zr_fr hM rfl rfl rfl ?_
  refine zr_getf (κ := (22, 0, 0)) hn hM rfl rfl rfl rfl ?_
  refine zr_fr hM rfl rfl rfl ?_
  refine zr_fr hM rfl rfl rfl ?_
  refine zr_fr hM rfl rfl rfl ?_
  refine zr_fr hM rfl rfl rfl ?_
  refine zr_iald (κ := (23, 0, 0)) hn hM rfl rfl rfl z8 ?_
  refine zr_fr hM rfl rfl rfl ?_
  refine zr_fr hM rfl rfl rfl ?_
  refine zr_iast (κ := (23, 0, 0)) hn hM rfl rfl rfl rfl z8 rfl ?_
  refine zr_fr hM rfl rfl rfl ?_
  refine zr_getf (κ := (22, 0, 0)) hn hM rfl rfl rfl rfl ?_
  refine zr_fr hM rfl rfl rfl ?_
  refine zr_fr hM rfl rfl rfl ?_
  refine zr_fr hM rfl rfl rfl ?_
  refine zr_fr hM rfl rfl rfl ?_
  refine zr_iald (κ := (23, 0, 0)) hn hM rfl rfl rfl z11 ?_
  refine zr_fr hM rfl rfl rfl ?_
  refine zr_fr hM rfl rfl rfl ?_
  refine zr_iast (κ := (23, 0, 0)) hn hM rfl rfl rfl rfl z11 rfl ?_
  refine zr_fr hM rfl rfl rfl ?_
  refine zr_getf (κ := (22, 0, 0)) hn hM rfl rfl rfl rfl ?_
  refine zr_fr hM rfl rfl rfl ?_
  refine zr_fr hM rfl rfl rfl ?_
  refine zr_fr hM rfl rfl rfl ?_
  refine zr_fr hM rfl rfl rfl ?_
  refine zr_iald (κ := (23, 0, 0)) hn hM rfl rfl rfl z12 ?_
  refine zr_fr hM rfl rfl rfl ?_
  refine zr_fr hM rfl rfl rfl ?_
  refine zr_iast (κ := (23, 0, 0)) hn hM rfl rfl rfl rfl z12 rfl ?_
  refine zr_fr hM rfl rfl rfl ?_
  refine zr_getf (κ := (22, 0, 0)) hn hM rfl rfl rfl rfl ?_
  refine zr_fr hM rfl rfl rfl ?_
  refine zr_iald (κ := (23, 0, 0)) hn hM rfl rfl rfl z13 ?_
  exact zr_iret2 hM rfl rfl rfl
