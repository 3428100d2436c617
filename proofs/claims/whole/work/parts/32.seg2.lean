set_option maxHeartbeats 4000000 in
theorem s99_0_fttttft {n L : Nat} {σ : Ks} {g : List Nat} {cl : Bool} {p1 : Int32} {x4 : Nat} {x5 : Nat} {x6 : Nat} {x7 : Nat} {x8 : Nat} {x9 : Nat} {σ10 : Ks} {c10 : Bool} {x11 : Nat} {σ15 : Ks} {c15 : Bool} {r15 : Int32} (hn : 2 ≤ n ∧ n ≤ 5) (h1 : zcnd .lt p1 0 = false) (h2 : zcnd .lt p1 (σ 42 2) = true) (h3 : zcnd .le ((kup σ 42 0 (Int32.ofInt 0)) 42 0) 0 = true) (z4 : zix (((Int8.ofInt 6).toInt32) * p1) 150 = some x4) (z5 : zix ((((Int8.ofInt 6).toInt32) * p1) + (Int32.ofInt 1)) 150 = some x5) (z6 : zix ((((Int8.ofInt 6).toInt32) * p1) + (Int32.ofInt 2)) 150 = some x6) (z7 : zix ((((Int8.ofInt 6).toInt32) * p1) + (Int32.ofInt 3)) 150 = some x7) (z8 : zix ((((Int8.ofInt 6).toInt32) * p1) + (Int32.ofInt 4)) 150 = some x8) (z9 : zix ((((Int8.ofInt 6).toInt32) * p1) + (Int32.ofInt 5)) 150 = some x9) (c10_ : ZR 100 0 [.val (.ref (kad n (22, 0, 0))), .val (.int p1), .unset] [] (khp n L (kup σ 42 0 (Int32.ofInt 0)) g) true (.inl (none), khp n L σ10 g, c10)) (z11 : zix ((kup σ 42 0 (Int32.ofInt 0)) 41 x6) 5 = some x11) (h12 : zcnd .eq (σ10 40 x11) 0 = true) (h13 : zcnd .ne ((kup σ 42 0 (Int32.ofInt 0)) 41 x4) 0 = true) (h14 : zcnd .ne ((kup σ 42 0 (Int32.ofInt 0)) 41 x4) (Int32.ofInt 1) = false) (c15_ : ZR 105 0 [.val (.ref (kad n (22, 0, 0))), .val (.int ((kup σ 42 0 (Int32.ofInt 0)) 41 x6)), .val (.int ((kup σ 42 0 (Int32.ofInt 0)) 41 x5)), .val (.int ((kup σ 42 0 (Int32.ofInt 0)) 41 x7)), .unset, .unset, .unset] [] (khp n L σ10 g) true (.inl (some (.int r15)), khp n L σ15 g, c15)) (h16 : zcnd .eq r15 0 = true) : ZR 99 0 [.val (.ref (kad n (22, 0, 0))), .val (.int p1), .unset, .unset, .unset, .unset, .unset, .unset, .unset, .unset] [] (khp n L σ g) cl (.inl (some (.int (Int32.ofInt 0))), khp n L σ15 (g), false) := by
  have hM : zmi[99]? = some _ := rfl
  have l4 := (zix_some z4).2.2
  have l5 := (zix_some z5).2.2
  have l6 := (zix_some z6).2.2
  have l7 := (zix_some z7).2.2
  have l8 := (zix_some z8).2.2
  have l9 := (zix_some z9).2.2
  have l11 := (zix_some z11).2.2
  refine zr_fr hM rfl rfl rfl ?_
  refine zr_fr hM rfl rfl rfl ?_
  refine zr_iff hM rfl rfl h1 ?_
  refine zr_fr hM rfl rfl rfl ?_
  refine zr_fr hM rfl rfl rfl ?_
  refine zr_getf (κ := (22, 0, 0)) hn hM rfl rfl rfl rfl ?_
  refine zr_ict hM rfl rfl h2 ?_
  refine zr_fr hM rfl rfl rfl ?_
  refine zr_putf (κ := (22, 0, 0)) hn hM rfl rfl rfl rfl rfl rfl rfl rfl ?_
  refine zr_fr hM rfl rfl rfl ?_
  refine zr_getf (κ := (22, 0, 0)) hn hM rfl rfl rfl rfl ?_
  refine zr_ift hM rfl rfl h3 ?_
  refine zr_fr hM rfl rfl rfl ?_
  refine zr_fr hM rfl rfl rfl ?_
  refine zr_fr hM rfl rfl rfl ?_
  refine zr_fr hM rfl rfl rfl ?_
  refine zr_fr hM rfl rfl rfl ?_
  refine zr_getf (κ := (22, 0, 0)) hn hM rfl rfl rfl rfl ?_
  refine zr_fr hM rfl rfl rfl ?_
  refine zr_iald (κ := (26, 0, 0)) hn hM rfl rfl rfl z4 ?_
  refine zr_fr hM rfl rfl rfl ?_
  refine zr_fr hM rfl rfl rfl ?_
  refine zr_getf (κ := (22, 0, 0)) hn hM rfl rfl rfl rfl ?_
  refine zr_fr hM rfl rfl rfl ?_
  refine zr_fr hM rfl rfl rfl ?_
  refine zr_fr hM rfl rfl rfl ?_
  refine zr_iald (κ := (26, 0, 0)) hn hM rfl rfl rfl z5 ?_
  refine zr_fr hM rfl rfl rfl ?_
  refine zr_fr hM rfl rfl rfl ?_
  refine zr_getf (κ := (22, 0, 0)) hn hM rfl rfl rfl rfl ?_
  refine zr_fr hM rfl rfl rfl ?_
  refine zr_fr hM rfl rfl rfl ?_
  refine zr_fr hM rfl rfl rfl ?_
  refine zr_iald (κ := (26, 0, 0)) hn hM rfl rfl rfl z6 ?_
  refine zr_fr hM rfl rfl rfl ?_
  refine zr_fr hM rfl rfl rfl ?_
  refine zr_getf (κ := (22, 0, 0)) hn hM rfl rfl rfl rfl ?_
  refine zr_fr hM rfl rfl rfl ?_
  refine zr_fr hM rfl rfl rfl ?_
  refine zr_fr hM rfl rfl rfl ?_
  refine zr_iald (κ := (26, 0, 0)) hn hM rfl rfl rfl z7 ?_
  refine zr_fr hM rfl rfl rfl ?_
  refine zr_fr hM rfl rfl rfl ?_
  refine zr_getf (κ := (22, 0, 0)) hn hM rfl rfl rfl rfl ?_
  refine zr_fr hM rfl rfl rfl ?_
  refine zr_fr hM rfl rfl rfl ?_
  refine zr_fr hM rfl rfl rfl ?_
  refine zr_iald (κ := (26, 0, 0)) hn hM rfl rfl rfl z8 ?_
  refine zr_fr hM rfl rfl rfl ?_
  refine zr_fr hM rfl rfl rfl ?_
  refine zr_getf (κ := (22, 0, 0)) hn hM rfl rfl rfl rfl ?_
  refine zr_fr hM rfl rfl rfl ?_
  refine zr_fr hM rfl rfl rfl ?_
  refine zr_fr hM rfl rfl rfl ?_
  refine zr_iald (κ := (26, 0, 0)) hn hM rfl rfl rfl z9 ?_
  refine zr_fr hM rfl rfl rfl ?_
  refine zr_fr hM rfl rfl rfl ?_
  refine zr_fr hM rfl rfl rfl ?_
  refine zr_virt (κ := (22, 0, 0)) hn hM rfl rfl rfl rfl rfl rfl rfl rfl rfl ?_
  refine zgo_ret rfl rfl c10_ ?_
  rw [Bool.false_and]
  refine zr_fr hM rfl rfl rfl ?_
  refine zr_getf (κ := (22, 0, 0)) hn hM rfl rfl rfl rfl ?_
  refine zr_fr hM rfl rfl rfl ?_
  refine zr_bald (κ := (25, 0, 0)) hn hM rfl rfl rfl z11 ?_
  refine zr_ift hM rfl rfl h12 ?_
  refine zr_fr hM rfl rfl rfl ?_
  refine zr_ift hM rfl rfl h13 ?_
  refine zr_fr hM rfl rfl rfl ?_
  refine zr_fr hM rfl rfl rfl ?_
  refine zr_icf hM rfl rfl h14 ?_
  refine zr_fr hM rfl rfl rfl ?_
  refine zr_fr hM rfl rfl rfl ?_
  refine zr_fr hM rfl rfl rfl ?_
  refine zr_fr hM rfl rfl rfl ?_
  refine zr_virt (κ := (22, 0, 0)) hn hM rfl rfl rfl rfl rfl rfl rfl rfl rfl ?_
  refine zgo_ret rfl rfl c15_ ?_
  rw [Bool.false_and]
  refine zr_fr hM rfl rfl rfl ?_
  refine zr_fr hM rfl rfl rfl ?_
  refine zr_fr hM rfl rfl rfl ?_
  refine zr_ift hM rfl rfl h16 ?_
  refine zr_fr hM rfl rfl rfl ?_
  exact zr_iret2 hM rfl rfl rfl
set_option maxHeartbeats 4000000 in
theorem s99_0_ftttttff {n L : Nat} {σ : Ks} {g : List Nat} {cl : Bool} {p1 : Int32} {x4 : Nat} {x5 : Nat} {x6 : Nat} {x7 : Nat} {x8 : Nat} {x9 : Nat} {σ10 : Ks} {c10 : Bool} {x11 : Nat} {σ16 : Ks} {c16 : Bool} {r16 : Int32} (hn : 2 ≤ n ∧ n ≤ 5) (h1 : zcnd .lt p1 0 = false) (h2 : zcnd .lt p1 (σ 42 2) = true) (h3 : zcnd .le ((kup σ 42 0 (Int32.ofInt 0)) 42 0) 0 = true) (z4 : zix (((Int8.ofInt 6).toInt32) * p1) 150 = some x4) (z5 : zix ((((Int8.ofInt 6).toInt32) * p1) + (Int32.ofInt 1)) 150 = some x5) (z6 : zix ((((Int8.ofInt 6).toInt32) * p1) + (Int32.ofInt 2)) 150 = some x6) (z7 : zix ((((Int8.ofInt 6).toInt32) * p1) + (Int32.ofInt 3)) 150 = some x7) (z8 : zix ((((Int8.ofInt 6).toInt32) * p1) + (Int32.ofInt 4)) 150 = some x8) (z9 : zix ((((Int8.ofInt 6).toInt32) * p1) + (Int32.ofInt 5)) 150 = some x9) (c10_ : ZR 100 0 [.val (.ref (kad n (22, 0, 0))), .val (.int p1), .unset] [] (khp n L (kup σ 42 0 (Int32.ofInt 0)) g) true (.inl (none), khp n L σ10 g, c10)) (z11 : zix ((kup σ 42 0 (Int32.ofInt 0)) 41 x6) 5 = some x11) (h12 : zcnd .eq (σ10 40 x11) 0 = true) (h13 : zcnd .ne ((kup σ 42 0 (Int32.ofInt 0)) 41 x4) 0 = true) (h14 : zcnd .ne ((kup σ 42 0 (Int32.ofInt 0)) 41 x4) (Int32.ofInt 1) = true) (h15 : zcnd .ne ((kup σ 42 0 (Int32.ofInt 0)) 41 x4) (Int32.ofInt 2) = false) (c16_ : ZR 106 0 [.val (.ref (kad n (22, 0, 0))), .val (.int ((kup σ 42 0 (Int32.ofInt 0)) 41 x5)), .val (.int ((kup σ 42 0 (Int32.ofInt 0)) 41 x6)), .val (.int ((kup σ 42 0 (Int32.ofInt 0)) 41 x7)), .val (.int ((kup σ 42 0 (Int32.ofInt 0)) 41 x8)), .val (.int ((kup σ 42 0 (Int32.ofInt 0)) 41 x9)), .unset] [] (khp n L σ10 g) true (.inl (some (.int r16)), khp n L σ16 g, c16)) (h17 : zcnd .eq r16 0 = false) : ZR 99 0 [.val (.ref (kad n (22, 0, 0))), .val (.int p1), .unset, .unset, .unset, .unset, .unset, .unset, .unset, .unset] [] (khp n L σ g) cl (.inl (some (.int (Int32.ofInt 1))), khp n L σ16 (g), false) := by
  have hM : zmi[99]? = some _ := rfl
  have l4 := (zix_some z4).2.2
  have l5 := (zix_some z5).2.2
  have l6 := (zix_some z6).2.2
  have l7 := (zix_some z7).2.2
  have l8 := (zix_some z8).2.2
  have l9 := (zix_some z9).2.2
  have l11 := (zix_some z11).2.2
  refine zr_fr hM rfl rfl rfl ?_
  refine zr_fr hM rfl rfl rfl ?_
  refine zr_iff hM rfl rfl h1 ?_
  refine zr_fr hM rfl rfl rfl ?_
  refine zr_fr hM rfl rfl rfl ?_
  refine zr_getf (κ := (22, 0, 0)) hn hM rfl rfl rfl rfl ?_
  refine zr_ict hM rfl rfl h2 ?_
  refine zr_fr hM rfl rfl rfl ?_
  refine zr_putf (κ := (22, 0, 0)) hn hM rfl rfl rfl rfl rfl rfl rfl rfl ?_
  refine zr_fr hM rfl rfl rfl ?_
  refine zr_getf (κ := (22, 0, 0)) hn hM rfl rfl rfl rfl ?_
  refine zr_ift hM rfl rfl h3 ?_
  refine zr_fr hM rfl rfl rfl ?_
  refine zr_fr hM rfl rfl rfl ?_
  refine zr_fr hM rfl rfl rfl ?_
  refine zr_fr hM rfl rfl rfl ?_
  refine zr_fr hM rfl rfl rfl ?_
  refine zr_getf (κ := (22, 0, 0)) hn hM rfl rfl rfl rfl ?_
  refine zr_fr hM rfl rfl rfl ?_
  refine zr_iald (κ := (26, 0, 0)) hn hM rfl rfl rfl z4 ?_
  refine zr_fr hM rfl rfl rfl ?_
  refine zr_fr hM rfl rfl rfl ?_
  refine zr_getf (κ := (22, 0, 0)) hn hM rfl rfl rfl rfl ?_
  refine zr_fr hM rfl rfl rfl ?_
  refine zr_fr hM rfl rfl rfl ?_
  refine zr_fr hM rfl rfl rfl ?_
  refine zr_iald (κ := (26, 0, 0)) hn hM rfl rfl rfl z5 ?_
  refine zr_fr hM rfl rfl rfl ?_
  refine zr_fr hM rfl rfl rfl ?_
  refine zr_getf (κ := (22, 0, 0)) hn hM rfl rfl rfl rfl ?_
  refine zr_fr hM rfl rfl rfl ?_
  refine zr_fr hM rfl rfl rfl ?_
  refine zr_fr hM rfl rfl rfl ?_
  refine zr_iald (κ := (26, 0, 0)) hn hM rfl rfl rfl z6 ?_
  refine zr_fr hM rfl rfl rfl ?_
  refine zr_fr hM rfl rfl rfl ?_
  refine zr_getf (κ := (22, 0, 0)) hn hM rfl rfl rfl rfl ?_
  refine zr_fr hM rfl rfl rfl ?_
  refine zr_fr hM rfl rfl rfl ?_
  refine zr_fr hM rfl rfl rfl ?_
  refine zr_iald (κ := (26, 0, 0)) hn hM rfl rfl rfl z7 ?_
  refine zr_fr hM rfl rfl rfl ?_
  refine zr_fr hM rfl rfl rfl ?_
  refine zr_getf (κ := (22, 0, 0)) hn hM rfl rfl rfl rfl ?_
  refine zr_fr hM rfl rfl rfl ?_
  refine zr_fr hM rfl rfl rfl ?_
  refine zr_fr hM rfl rfl rfl ?_
  refine zr_iald (κ := (26, 0, 0)) hn hM rfl rfl rfl z8 ?_
  refine zr_fr hM rfl rfl rfl ?_
  refine zr_fr hM rfl rfl rfl ?_
  refine zr_getf (κ := (22, 0, 0)) hn hM rfl rfl rfl rfl ?_
  refine zr_fr hM rfl rfl rfl ?_
  refine zr_fr hM rfl rfl rfl ?_
  refine zr_fr hM rfl rfl rfl ?_
  refine zr_iald (κ := (26, 0, 0)) hn hM rfl rfl rfl z9 ?_
  refine zr_fr hM rfl rfl rfl ?_
  refine zr_fr hM rfl rfl rfl ?_
  refine zr_fr hM rfl rfl rfl ?_
  refine zr_virt (κ := (22, 0, 0)) hn hM rfl rfl rfl rfl rfl rfl rfl rfl rfl ?_
  refine zgo_ret rfl rfl c10_ ?_
  rw [Bool.false_and]
  refine zr_fr hM rfl rfl rfl ?_
  refine zr_getf (κ := (22, 0, 0)) hn hM rfl rfl rfl rfl ?_
  refine zr_fr hM rfl rfl rfl ?_
  refine zr_bald (κ := (25, 0, 0)) hn hM rfl rfl rfl z11 ?_
  refine zr_ift hM rfl rfl h12 ?_
  refine zr_fr hM rfl rfl rfl ?_
  refine zr_ift hM rfl rfl h13 ?_
  refine zr_fr hM rfl rfl rfl ?_
  refine zr_fr hM rfl rfl rfl ?_
  refine zr_ict hM rfl rfl h14 ?_
  refine zr_fr hM rfl rfl rfl ?_
  refine zr_fr hM rfl rfl rfl ?_
  refine zr_icf hM rfl rfl h15 ?_
  refine zr_fr hM rfl rfl rfl ?_
  refine zr_fr hM rfl rfl rfl ?_
  refine zr_fr hM rfl rfl rfl ?_
  refine zr_fr hM rfl rfl rfl ?_
  refine zr_fr hM rfl rfl rfl ?_
  refine zr_fr hM rfl rfl rfl ?_
  refine zr_virt (κ := (22, 0, 0)) hn hM rfl rfl rfl rfl rfl rfl rfl rfl rfl ?_
  refine zgo_ret rfl rfl c16_ ?_
  rw [Bool.false_and]
  refine zr_fr hM rfl rfl rfl ?_
  refine zr_fr hM rfl rfl rfl ?_
  refine zr_fr hM rfl rfl rfl ?_
  refine zr_iff hM rfl rfl h17 ?_
  refine zr_fr hM rfl rfl rfl ?_
  refine zr_fr hM rfl rfl rfl ?_
  exact zr_iret2 hM rfl rfl rfl
set_option maxHeartbeats 4000000 in
theorem s99_0_ftttttft {n L : Nat} {σ : Ks} {g : List Nat} {cl : Bool} {p1 : Int32} {x4 : Nat} {x5 : Nat} {x6 : Nat} {x7 : Nat} {x8 : Nat} {x9 : Nat} {σ10 : Ks} {c10 : Bool} {x11 : Nat} {σ16 : Ks} {c16 : Bool} {r16 : Int32} (hn : 2 ≤ n ∧ n ≤ 5) (h1 : zcnd .lt p1 0 = false) (h2 : zcnd .lt p1 (σ 42 2) = true) (h3 : zcnd .le ((kup σ 42 0 (Int32.ofInt 0)) 42 0) 0 = true) (z4 : zix (((Int8.ofInt 6).toInt32) * p1) 150 = some x4) (z5 : zix ((((Int8.ofInt 6).toInt32) * p1) + (Int32.ofInt 1)) 150 = some x5) (z6 : zix ((((Int8.ofInt 6).toInt32) * p1) + (Int32.ofInt 2)) 150 = some x6) (z7 : zix ((((Int8.ofInt 6).toInt32) * p1) + (Int32.ofInt 3)) 150 = some x7) (z8 : zix ((((Int8.ofInt 6).toInt32) * p1) + (Int32.ofInt 4)) 150 = some x8) (z9 : zix ((((Int8.ofInt 6).toInt32) * p1) + (Int32.ofInt 5)) 150 = some x9) (c10_ : ZR 100 0 [.val (.ref (kad n (22, 0, 0))), .val (.int p1), .unset] [] (khp n L (kup σ 42 0 (Int32.ofInt 0)) g) true (.inl (none), khp n L σ10 g, c10)) (z11 : zix ((kup σ 42 0 (Int32.ofInt 0)) 41 x6) 5 = some x11) (h12 : zcnd .eq (σ10 40 x11) 0 = true) (h13 : zcnd .ne ((kup σ 42 0 (Int32.ofInt 0)) 41 x4) 0 = true) (h14 : zcnd .ne ((kup σ 42 0 (Int32.ofInt 0)) 41 x4) (Int32.ofInt 1) = true) (h15 : zcnd .ne ((kup σ 42 0 (Int32.ofInt 0)) 41 x4) (Int32.ofInt 2) = false) (c16_ : ZR 106 0 [.val (.ref (kad n (22, 0, 0))), .val (.int ((kup σ 42 0 (Int32.ofInt 0)) 41 x5)), .val (.int ((kup σ 42 0 (Int32.ofInt 0)) 41 x6)), .val (.int ((kup σ 42 0 (Int32.ofInt 0)) 41 x7)), .val (.int ((kup σ 42 0 (Int32.ofInt 0)) 41 x8)), .val (.int ((kup σ 42 0 (Int32.ofInt 0)) 41 x9)), .unset] [] (khp n L σ10 g) true (.inl (some (.int r16)), khp n L σ16 g, c16)) (h17 : zcnd .eq r16 0 = true) : ZR 99 0 [.val (.ref (kad n (22, 0, 0))), .val (.int p1), .unset, .unset, .unset, .unset, .unset, .unset, .unset, .unset] [] (khp n L σ g) cl (.inl (some (.int (Int32.ofInt 0))), khp n L σ16 (g), false) := by
  have hM : zmi[99]? = some _ := rfl
  have l4 := (zix_some z4).2.2
  have l5 := (zix_some z5).2.2
  have l6 := (zix_some z6).2.2
  have l7 := (zix_some z7).2.2
  have l8 := (zix_some z8).2.2
  have l9 := (zix_some z9).2.2
  have l11 := (zix_some z11).2.2
  refine zr_fr hM rfl rfl rfl ?_
  refine zr_fr hM rfl rfl rfl ?_
  refine zr_iff hM rfl rfl h1 ?_
  refine zr_fr hM rfl rfl rfl ?_
  refine zr_fr hM rfl rfl rfl ?_
  refine zr_getf (κ := (22, 0, 0)) hn hM rfl rfl rfl rfl ?_
  refine zr_ict hM rfl rfl h2 ?_
  refine zr_fr hM rfl rfl rfl ?_
  refine zr_putf (κ := (22, 0, 0)) hn hM rfl rfl rfl rfl rfl rfl rfl rfl ?_
  refine zr_fr hM rfl rfl rfl ?_
  refine zr_getf (κ := (22, 0, 0)) hn hM rfl rfl rfl rfl ?_
  refine zr_ift hM rfl rfl h3 ?_
  refine zr_fr hM rfl rfl rfl ?_
  refine zr_fr hM rfl rfl rfl ?_
  refine zr_fr hM rfl rfl rfl ?_
  refine zr_fr hM rfl rfl rfl ?_
  refine zr_fr hM rfl rfl rfl ?_
  refine zr_getf (κ := (22, 0, 0)) hn hM rfl rfl rfl rfl ?_
  refine zr_fr hM rfl rfl rfl ?_
  refine zr_iald (κ := (26, 0, 0)) hn hM rfl rfl rfl z4 ?_
  refine zr_fr hM rfl rfl rfl ?_
  refine zr_fr hM rfl rfl rfl ?_
  refine zr_getf (κ := (22, 0, 0)) hn hM rfl rfl rfl rfl ?_
  refine zr_fr hM rfl rfl rfl ?_
  refine zr_fr hM rfl rfl rfl ?_
  refine zr_fr hM rfl rfl rfl ?_
  refine zr_iald (κ := (26, 0, 0)) hn hM rfl rfl rfl z5 ?_
  refine zr_fr hM rfl rfl rfl ?_
  refine zr_fr hM rfl rfl rfl ?_
  refine zr_getf (κ := (22, 0, 0)) hn hM rfl rfl rfl rfl ?_
  refine zr_fr hM rfl rfl rfl ?_
  refine zr_fr hM rfl rfl rfl ?_
  refine zr_fr hM rfl rfl rfl ?_
  refine zr_iald (κ := (26, 0, 0)) hn hM rfl rfl rfl z6 ?_
  refine zr_fr hM rfl rfl rfl ?_
  refine zr_fr hM rfl rfl rfl ?_
  refine zr_getf (κ := (22, 0, 0)) hn hM rfl rfl rfl rfl ?_
  refine zr_fr hM rfl rfl rfl ?_
  refine zr_fr hM rfl rfl rfl ?_
  refine zr_fr hM rfl rfl rfl ?_
  refine zr_iald (κ := (26, 0, 0)) hn hM rfl rfl rfl z7 ?_
  refine zr_fr hM rfl rfl rfl ?_
  refine zr_fr hM rfl rfl rfl ?_
  refine zr_getf (κ := (22, 0, 0)) hn hM rfl rfl rfl rfl ?_
  refine zr_fr hM rfl rfl rfl ?_
  refine zr_fr hM rfl rfl rfl ?_
  refine zr_fr hM rfl rfl rfl ?_
  refine zr_iald (κ := (26, 0, 0)) hn hM rfl rfl rfl z8 ?_
  refine zr_fr hM rfl rfl rfl ?_
  refine zr_fr hM rfl rfl rfl ?_
  refine zr_getf (κ := (22, 0, 0)) hn hM rfl rfl rfl rfl ?_
  refine zr_fr hM rfl rfl rfl ?_
  refine zr_fr hM rfl rfl rfl ?_
  refine zr_fr hM rfl rfl rfl ?_
  refine zr_iald (κ := (26, 0, 0)) hn hM rfl rfl rfl z9 ?_
  refine zr_fr hM rfl rfl rfl ?_
  refine zr_fr hM rfl rfl rfl ?_
  refine zr_fr hM rfl rfl rfl ?_
  refine zr_virt (κ := (22, 0, 0)) hn hM rfl rfl rfl rfl rfl rfl rfl rfl rfl ?_
  refine zgo_ret rfl rfl c10_ ?_
  rw [Bool.false_and]
  refine zr_fr hM rfl rfl rfl ?_
  refine zr_getf (κ := (22, 0, 0)) hn hM rfl rfl rfl rfl ?_
  refine zr_fr hM rfl rfl rfl ?_
  refine zr_bald (κ := (25, 0, 0)) hn hM rfl rfl rfl z11 ?_
  refine zr_ift hM rfl rfl h12 ?_
  refine zr_fr hM rfl rfl rfl ?_
  refine zr_ift hM rfl rfl h13 ?_
  refine zr_fr hM rfl rfl rfl ?_
  refine zr_fr hM rfl rfl rfl ?_
  refine zr_ict hM rfl rfl h14 ?_
  refine zr_fr hM rfl rfl rfl ?_
  refine zr_fr hM rfl rfl rfl ?_
  refine zr_icf hM rfl rfl h15 ?_
  refine zr_fr hM rfl rfl rfl ?_
  refine zr_fr hM rfl rfl rfl ?_
  refine zr_fr hM rfl rfl rfl ?_
  refine zr_fr hM rfl rfl rfl ?_
  refine zr_fr hM rfl rfl rfl ?_
  refine zr_fr hM rfl rfl rfl ?_
  refine zr_virt (κ := (22, 0, 0)) hn hM rfl rfl rfl rfl rfl rfl rfl rfl rfl ?_
  refine zgo_ret rfl rfl c16_ ?_
  rw [Bool.false_and]
  refine zr_fr hM rfl rfl rfl ?_
  refine zr_fr hM rfl rfl rfl ?_
  refine zr_fr hM rfl rfl rfl ?_
  refine zr_ift hM rfl rfl h17 ?_
  refine zr_fr hM rfl rfl rfl ?_
  exact zr_iret2 hM rfl rfl rfl
set_option maxHeartbeats 4000000 in
theorem s99_0_fttttttf {n L : Nat} {σ : Ks} {g : List Nat} {cl : Bool} {p1 : Int32} {x4 : Nat} {x5 : Nat} {x6 : Nat} {x7 : Nat} {x8 : Nat} {x9 : Nat} {σ10 : Ks} {c10 : Bool} {x11 : Nat} {σ16 : Ks} {c16 : Bool} {r16 : Int32} (hn : 2 ≤ n ∧ n ≤ 5) (h1 : zcnd .lt p1 0 = false) (h2 : zcnd .lt p1 (σ 42 2) = true) (h3 : zcnd .le ((kup σ 42 0 (Int32.ofInt 0)) 42 0) 0 = true) (z4 : zix (((Int8.ofInt 6).toInt32) * p1) 150 = some x4) (z5 : zix ((((Int8.ofInt 6).toInt32) * p1) + (Int32.ofInt 1)) 150 = some x5) (z6 : zix ((((Int8.ofInt 6).toInt32) * p1) + (Int32.ofInt 2)) 150 = some x6) (z7 : zix ((((Int8.ofInt 6).toInt32) * p1) + (Int32.ofInt 3)) 150 = some x7) (z8 : zix ((((Int8.ofInt 6).toInt32) * p1) + (Int32.ofInt 4)) 150 = some x8) (z9 : zix ((((Int8.ofInt 6).toInt32) * p1) + (Int32.ofInt 5)) 150 = some x9) (c10_ : ZR 100 0 [.val (.ref (kad n (22, 0, 0))), .val (.int p1), .unset] [] (khp n L (kup σ 42 0 (Int32.ofInt 0)) g) true (.inl (none), khp n L σ10 g, c10)) (z11 : zix ((kup σ 42 0 (Int32.ofInt 0)) 41 x6) 5 = some x11) (h12 : zcnd .eq (σ10 40 x11) 0 = true) (h13 : zcnd .ne ((kup σ 42 0 (Int32.ofInt 0)) 41 x4) 0 = true) (h14 : zcnd .ne ((kup σ 42 0 (Int32.ofInt 0)) 41 x4) (Int32.ofInt 1) = true) (h15 : zcnd .ne ((kup σ 42 0 (Int32.ofInt 0)) 41 x4) (Int32.ofInt 2) = true) (c16_ : ZR 107 0 [.val (.ref (kad n (22, 0, 0))), .val (.int ((kup σ 42 0 (Int32.ofInt 0)) 41 x5)), .val (.int ((kup σ 42 0 (Int32.ofInt 0)) 41 x6)), .val (.int ((kup σ 42 0 (Int32.ofInt 0)) 41 x7)), .val (.int ((kup σ 42 0 (Int32.ofInt 0)) 41 x8)), .unset] [] (khp n L σ10 g) true (.inl (some (.int r16)), khp n L σ16 g, c16)) (h17 : zcnd .eq r16 0 = false) : ZR 99 0 [.val (.ref (kad n (22, 0, 0))), .val (.int p1), .unset, .unset, .unset, .unset, .unset, .unset, .unset, .unset] [] (khp n L σ g) cl (.inl (some (.int (Int32.ofInt 1))), khp n L σ16 (g), false) := by
  have hM : zmi[99]? = some _ := rfl
  have l4 := (zix_some z4).2.2
  have l5 := (zix_some z5).2.2
  have l6 := (zix_some z6).2.2
  have l7 := (zix_some z7).2.2
  have l8 := (zix_some z8).2.2
  have l9 := (zix_some z9).2.2
  have l11 := (zix_some z11).2.2
  refine zr_fr hM rfl rfl rfl ?_
  refine zr_fr hM rfl rfl rfl ?_
  refine zr_iff hM rfl rfl h1 ?_
  refine zr_fr hM rfl rfl rfl ?_
  refine zr_fr hM rfl rfl rfl ?_
  refine zr_getf (κ := (22, 0, 0)) hn hM rfl rfl rfl rfl ?_
  refine zr_ict hM rfl rfl h2 ?_
  refine zr_fr hM rfl rfl rfl ?_
  refine zr_putf (κ := (22, 0, 0)) hn hM rfl rfl rfl rfl rfl rfl rfl rfl ?_
  refine zr_fr hM rfl rfl rfl ?_
  refine zr_getf (κ := (22, 0, 0)) hn hM rfl rfl rfl rfl ?_
  refine zr_ift hM rfl rfl h3 ?_
  refine zr_fr hM rfl rfl rfl ?_
  refine zr_fr hM rfl rfl rfl ?_
  refine zr_fr hM rfl rfl rfl ?_
  refine zr_fr hM rfl rfl rfl ?_
  refine zr_fr hM rfl rfl rfl ?_
  refine zr_getf (κ := (22, 0, 0)) hn hM rfl rfl rfl rfl ?_
  refine zr_fr hM rfl rfl rfl ?_
  refine zr_iald (κ := (26, 0, 0)) hn hM rfl rfl rfl z4 ?_
  refine zr_fr hM rfl rfl rfl ?_
  refine zr_fr hM rfl rfl rfl ?_
  refine zr_getf (κ := (22, 0, 0)) hn hM rfl rfl rfl rfl ?_
  refine zr_fr hM rfl rfl rfl ?_
  refine zr_fr hM rfl rfl rfl ?_
  refine zr_fr hM rfl rfl rfl ?_
  refine zr_iald (κ := (26, 0, 0)) hn hM rfl rfl rfl z5 ?_
  refine zr_fr hM rfl rfl rfl ?_
  refine zr_fr hM rfl rfl rfl ?_
  refine zr_getf (κ := (22, 0, 0)) hn hM rfl rfl rfl rfl ?_
  refine zr_fr hM rfl rfl rfl ?_
  refine zr_fr hM rfl rfl rfl ?_
  refine zr_fr hM rfl rfl rfl ?_
  refine zr_iald (κ := (26, 0, 0)) hn hM rfl rfl rfl z6 ?_
  refine zr_fr hM rfl rfl rfl ?_
  refine zr_fr hM rfl rfl rfl ?_
  refine zr_getf (κ := (22, 0, 0)) hn hM rfl rfl rfl rfl ?_
  refine zr_fr hM rfl rfl rfl ?_
  refine zr_fr hM rfl rfl rfl ?_
  refine zr_fr hM rfl rfl rfl ?_
  refine zr_iald (κ := (26, 0, 0)) hn hM rfl rfl rfl z7 ?_
  refine zr_fr hM rfl rfl rfl ?_
  refine zr_fr hM rfl rfl rfl ?_
  refine zr_getf (κ := (22, 0, 0)) hn hM rfl rfl rfl rfl ?_
  refine zr_fr hM rfl rfl rfl ?_
  refine zr_fr hM rfl rfl rfl ?_
  refine zr_fr hM rfl rfl rfl ?_
  refine zr_iald (κ := (26, 0, 0)) hn hM rfl rfl rfl z8 ?_
  refine zr_fr hM rfl rfl rfl ?_
  refine zr_fr hM rfl rfl rfl ?_
  refine zr_getf (κ := (22, 0, 0)) hn hM rfl rfl rfl rfl ?_
  refine zr_fr hM rfl rfl rfl ?_
  refine zr_fr hM rfl rfl rfl ?_
  refine zr_fr hM rfl rfl rfl ?_
  refine zr_iald (κ := (26, 0, 0)) hn hM rfl rfl rfl z9 ?_
  refine zr_fr hM rfl rfl rfl ?_
  refine zr_fr hM rfl rfl rfl ?_
  refine zr_fr hM rfl rfl rfl ?_
  refine zr_virt (κ := (22, 0, 0)) hn hM rfl rfl rfl rfl rfl rfl rfl rfl rfl ?_
  refine zgo_ret rfl rfl c10_ ?_
  rw [Bool.false_and]
  refine zr_fr hM rfl rfl rfl ?_
  refine zr_getf (κ := (22, 0, 0)) hn hM rfl rfl rfl rfl ?_
  refine zr_fr hM rfl rfl rfl ?_
  refine zr_bald (κ := (25, 0, 0)) hn hM rfl rfl rfl z11 ?_
  refine zr_ift hM rfl rfl h12 ?_
  refine zr_fr hM rfl rfl rfl ?_
  refine zr_ift hM rfl rfl h13 ?_
  refine zr_fr hM rfl rfl rfl ?_
  refine zr_fr hM rfl rfl rfl ?_
  refine zr_ict hM rfl rfl h14 ?_
  refine zr_fr hM rfl rfl rfl ?_
  refine zr_fr hM rfl rfl rfl ?_
  refine zr_ict hM rfl rfl h15 ?_
  refine zr_fr hM rfl rfl rfl ?_
  refine zr_fr hM rfl rfl rfl ?_
  refine zr_fr hM rfl rfl rfl ?_
  refine zr_fr hM rfl rfl rfl ?_
  refine zr_fr hM rfl rfl rfl ?_
  refine zr_virt (κ := (22, 0, 0)) hn hM rfl rfl rfl rfl rfl rfl rfl rfl rfl ?_
  refine zgo_ret rfl rfl c16_ ?_
  rw [Bool.false_and]
  refine zr_fr hM rfl rfl rfl ?_
  refine zr_fr hM rfl rfl rfl ?_
  refine zr_iff hM rfl rfl h17 ?_
  refine zr_fr hM rfl rfl rfl ?_
  refine zr_fr hM rfl rfl rfl ?_
  exact zr_iret2 hM rfl rfl rfl
set_option maxHeartbeats 4000000 in
theorem s99_0_fttttttt {n L : Nat} {σ : Ks} {g : List Nat} {cl : Bool} {p1 : Int32} {x4 : Nat} {x5 : Nat} {x6 : Nat} {x7 : Nat} {x8 : Nat} {x9 : Nat} {σ10 : Ks} {c10 : Bool} {x11 : Nat} {σ16 : Ks} {c16 : Bool} {r16 : Int32} (hn : 2 ≤ n ∧ n ≤ 5) (h1 : zcnd .lt p1 0 = false) (h2 : zcnd .lt p1 (σ 42 2) = true) (h3 : zcnd .le ((kup σ 42 0 (Int32.ofInt 0)) 42 0) 0 = true) (z4 : zix (((Int8.ofInt 6).toInt32) * p1) 150 = some x4) (z5 : zix ((((Int8.ofInt 6).toInt32) * p1) + (Int32.ofInt 1)) 150 = some x5) (z6 : zix ((((Int8.ofInt 6).toInt32) * p1) + (Int32.ofInt 2)) 150 = some x6) (z7 : zix ((((Int8.ofInt 6).toInt32) * p1) + (Int32.ofInt 3)) 150 = some x7) (z8 : zix ((((Int8.ofInt 6).toInt32) * p1) + (Int32.ofInt 4)) 150 = some x8) (z9 : zix ((((Int8.ofInt 6).toInt32) * p1) + (Int32.ofInt 5)) 150 = some x9) (c10_ : ZR 100 0 [.val (.ref (kad n (22, 0, 0))), .val (.int p1), .unset] [] (khp n L (kup σ 42 0 (Int32.ofInt 0)) g) true (.inl (none), khp n L σ10 g, c10)) (z11 : zix ((kup σ 42 0 (Int32.ofInt 0)) 41 x6) 5 = some x11) (h12 : zcnd .eq (σ10 40 x11) 0 = true) (h13 : zcnd .ne ((kup σ 42 0 (Int32.ofInt 0)) 41 x4) 0 = true) (h14 : zcnd .ne ((kup σ 42 0 (Int32.ofInt 0)) 41 x4) (Int32.ofInt 1) = true) (h15 : zcnd .ne ((kup σ 42 0 (Int32.ofInt 0)) 41 x4) (Int32.ofInt 2) = true) (c16_ : ZR 107 0 [.val (.ref (kad n (22, 0, 0))), .val (.int ((kup σ 42 0 (Int32.ofInt 0)) 41 x5)), .val (.int ((kup σ 42 0 (Int32.ofInt 0)) 41 x6)), .val (.int ((kup σ 42 0 (Int32.ofInt 0)) 41 x7)), .val (.int ((kup σ 42 0 (Int32.ofInt 0)) 41 x8)), .unset] [] (khp n L σ10 g) true (.inl (some (.int r16)), khp n L σ16 g, c16)) (h17 : zcnd .eq r16 0 = true) : ZR 99 0 [.val (.ref (kad n (22, 0, 0))), .val (.int p1), .unset, .unset, .unset, .unset, .unset, .unset, .unset, .unset] [] (khp n L σ g) cl (.inl (some (.int (Int32.ofInt 0))), khp n L σ16 (g), false) := by
  have hM : zmi[99]? = some _ := rfl
  have l4 := (zix_some z4).2.2
  have l5 := (zix_some z5).2.2
  have l6 := (zix_some z6).2.2
  have l7 := (zix_some z7).2.2
  have l8 := (zix_some z8).2.2
  have l9 := (zix_some z9).2.2
  have l11 := (zix_some z11).2.2
  refine zr_fr hM rfl rfl rfl ?_
  refine zr_fr hM rfl rfl rfl ?_
  refine zr_iff hM rfl rfl h1 ?_
  refine zr_fr hM rfl rfl rfl ?_
  refine zr_fr hM rfl rfl rfl ?_
  refine zr_getf (κ := (22, 0, 0)) hn hM rfl rfl rfl rfl ?_
  refine zr_ict hM rfl rfl h2 ?_
  refine zr_fr hM rfl rfl rfl ?_
  refine zr_putf (κ := (22, 0, 0)) hn hM rfl rfl rfl rfl rfl rfl rfl rfl ?_
  refine zr_fr hM rfl rfl rfl ?_
  refine zr_getf (κ := (22, 0, 0)) hn hM rfl rfl rfl rfl ?_
  refine zr_ift hM rfl rfl h3 ?_
  refine zr_fr hM rfl rfl rfl ?_
  refine zr_fr hM rfl rfl rfl ?_
  refine zr_fr hM rfl rfl rfl ?_
  refine zr_fr hM rfl rfl rfl ?_
  refine zr_fr hM rfl rfl rfl ?_
  refine zr_getf (κ := (22, 0, 0)) hn hM rfl rfl rfl rfl ?_
  refine zr_fr hM rfl rfl rfl ?_
  refine zr_iald (κ := (26, 0, 0)) hn hM rfl rfl rfl z4 ?_
  refine zr_fr hM rfl rfl rfl ?_
  refine zr_fr hM rfl rfl rfl ?_
  refine zr_getf (κ := (22, 0, 0)) hn hM rfl rfl rfl rfl ?_
  refine zr_fr hM rfl rfl rfl ?_
  refine zr_fr hM rfl rfl rfl ?_
  refine zr_fr hM rfl rfl rfl ?_
  refine zr_iald (κ := (26, 0, 0)) hn hM rfl rfl rfl z5 ?_
  refine zr_fr hM rfl rfl rfl ?_
  refine zr_fr hM rfl rfl rfl ?_
  refine zr_getf (κ := (22, 0, 0)) hn hM rfl rfl rfl rfl ?_
  refine zr_fr hM rfl rfl rfl ?_
  refine zr_fr hM rfl rfl rfl ?_
  refine zr_fr hM rfl rfl rfl ?_
  refine zr_iald (κ := (26, 0, 0)) hn hM rfl rfl rfl z6 ?_
  refine zr_fr hM rfl rfl rfl ?_
  refine zr_fr hM rfl rfl rfl ?_
  refine zr_getf (κ := (22, 0, 0)) hn hM rfl rfl rfl rfl ?_
  refine zr_fr hM rfl rfl rfl ?_
  refine zr_fr hM rfl rfl rfl ?_
  refine zr_fr hM rfl rfl rfl ?_
  refine zr_iald (κ := (26, 0, 0)) hn hM rfl rfl rfl z7 ?_
  refine zr_fr hM rfl rfl rfl ?_
  refine zr_fr hM rfl rfl rfl ?_
  refine zr_getf (κ := (22, 0, 0)) hn hM rfl rfl rfl rfl ?_
  refine zr_fr hM rfl rfl rfl ?_
  refine zr_fr hM rfl rfl rfl ?_
  refine zr_fr hM rfl rfl rfl ?_
  refine zr_iald (κ := (26, 0, 0)) hn hM rfl rfl rfl z8 ?_
  refine zr_fr hM rfl rfl rfl ?_
  refine zr_fr hM rfl rfl rfl ?_
  refine zr_getf (κ := (22, 0, 0)) hn hM rfl rfl rfl rfl ?_
  refine zr_fr hM rfl rfl rfl ?_
  refine zr_fr hM rfl rfl rfl ?_
  refine zr_fr hM rfl rfl rfl ?_
  refine zr_iald (κ := (26, 0, 0)) hn hM rfl rfl rfl z9 ?_
  refine zr_fr hM rfl rfl rfl ?_
  refine zr_fr hM rfl rfl rfl ?_
  refine zr_fr hM rfl rfl rfl ?_
  refine zr_virt (κ := (22, 0, 0)) hn hM rfl rfl rfl rfl rfl rfl rfl rfl rfl ?_
  refine zgo_ret rfl rfl c10_ ?_
  rw [Bool.false_and]
  refine zr_fr hM rfl rfl rfl ?_
  refine zr_getf (κ := (22, 0, 0)) hn hM rfl rfl rfl rfl ?_
  refine zr_fr hM rfl rfl rfl ?_
  refine zr_bald (κ := (25, 0, 0)) hn hM rfl rfl rfl z11 ?_
  refine zr_ift hM rfl rfl h12 ?_
  refine zr_fr hM rfl rfl rfl ?_
  refine zr_ift hM rfl rfl h13 ?_
  refine zr_fr hM rfl rfl rfl ?_
  refine zr_fr hM rfl rfl rfl ?_
  refine zr_ict hM rfl rfl h14 ?_
  refine zr_fr hM rfl rfl rfl ?_
  refine zr_fr hM rfl rfl rfl ?_
  refine zr_ict hM rfl rfl h15 ?_
  refine zr_fr hM rfl rfl rfl ?_
  refine zr_fr hM rfl rfl rfl ?_
  refine zr_fr hM rfl rfl rfl ?_
  refine zr_fr hM rfl rfl rfl ?_
  refine zr_fr hM rfl rfl rfl ?_
  refine zr_virt (κ := (22, 0, 0)) hn hM rfl rfl rfl rfl rfl rfl rfl rfl rfl ?_
  refine zgo_ret rfl rfl c16_ ?_
  rw [Bool.false_and]
  refine zr_fr hM rfl rfl rfl ?_
  refine zr_fr hM rfl rfl rfl ?_
  refine zr_ift hM rfl rfl h17 ?_
  refine zr_fr hM rfl rfl rfl ?_
  exact zr_iret2 hM rfl rfl rfl
set_option maxHeartbeats 4000000 in
theorem s99_0_tf {n L : Nat} {σ : Ks} {g : List Nat} {cl : Bool} {p1 : Int32} (hn : 2 ≤ n ∧ n ≤ 5) (h1 : zcnd .lt p1 0 = true) (h2 : zcnd .le ((kup σ 42 0 (Int32.ofInt 1)) 42 0) 0 = false) : ZR 99 0 [.val (.ref (kad n (22, 0, 0))), .val (.int p1), .unset, .unset, .unset, .unset, .unset, .unset, .unset, .unset] [] (khp n L σ g) cl (.inl (some (.int (Int32.ofInt 0))), khp n L (kup σ 42 0 (Int32.ofInt 1)) (g), false) := by
  have hM : zmi[99]? = some _ := rfl
  refine zr_fr hM rfl rfl rfl ?_
  refine zr_fr hM rfl rfl rfl ?_
  refine zr_ift hM rfl rfl h1 ?_
  refine zr_fr hM rfl rfl rfl ?_
  refine zr_fr hM rfl rfl rfl ?_
  refine zr_putf (κ := (22, 0, 0)) hn hM rfl rfl rfl rfl rfl rfl rfl rfl ?_
  refine zr_fr hM rfl rfl rfl ?_
  refine zr_getf (κ := (22, 0, 0)) hn hM rfl rfl rfl rfl ?_
  refine zr_iff hM rfl rfl h2 ?_
  refine zr_fr hM rfl rfl rfl ?_
  exact zr_iret2 hM rfl rfl rfl
set_option maxHeartbeats 4000000 in
theorem s99_0_ttf {n L : Nat} {σ : Ks} {g : List Nat} {cl : Bool} {p1 : Int32} {x3 : Nat} {x4 : Nat} {x5 : Nat} {x6 : Nat} {x7 : Nat} {x8 : Nat} {σ9 : Ks} {c9 : Bool} {x10 : Nat} (hn : 2 ≤ n ∧ n ≤ 5) (h1 : zcnd .lt p1 0 = true) (h2 : zcnd .le ((kup σ 42 0 (Int32.ofInt 1)) 42 0) 0 = true) (z3 : zix (((Int8.ofInt 6).toInt32) * p1) 150 = some x3) (z4 : zix ((((Int8.ofInt 6).toInt32) * p1) + (Int32.ofInt 1)) 150 = some x4) (z5 : zix ((((Int8.ofInt 6).toInt32) * p1) + (Int32.ofInt 2)) 150 = some x5) (z6 : zix ((((Int8.ofInt 6).toInt32) * p1) + (Int32.ofInt 3)) 150 = some x6) (z7 : zix ((((Int8.ofInt 6).toInt32) * p1) + (Int32.ofInt 4)) 150 = some x7) (z8 : zix ((((Int8.ofInt 6).toInt32) * p1) + (Int32.ofInt 5)) 150 = some x8) (c9_ : ZR 100 0 [.val (.ref (kad n (22, 0, 0))), .val (.int p1), .unset] [] (khp n L (kup σ 42 0 (Int32.ofInt 1)) g) true (.inl (none), khp n L σ9 g, c9)) (z10 : zix ((kup σ 42 0 (Int32.ofInt 1)) 41 x5) 5 = some x10) (h11 : zcnd .eq (σ9 40 x10) 0 = false) : ZR 99 0 [.val (.ref (kad n (22, 0, 0))), .val (.int p1), .unset, .unset, .unset, .unset, .unset, .unset, .unset, .unset] [] (khp n L σ g) cl (.inl (some (.int (Int32.ofInt 0))), khp n L σ9 (g), false) := by
  have hM : zmi[99]? = some _ := rfl
  have l3 := (zix_some z3).2.2
  have l4 := (zix_some z4).2.2
  have l5 := (zix_some z5).2.2
  have l6 := (zix_some z6).2.2
  have l7 := (zix_some z7).2.2
  have l8 := (zix_some z8).2.2
  have l10 := (zix_some z10).2.2
  refine zr_fr hM rfl rfl rfl ?_
  refine zr_fr hM rfl rfl rfl ?_
  refine zr_ift hM rfl rfl h1 ?_
  refine zr_fr hM rfl rfl rfl ?_
  refine zr_fr hM rfl rfl rfl ?_
  refine zr_putf (κ := (22, 0, 0)) hn hM rfl rfl rfl rfl rfl rfl rfl rfl ?_
  refine zr_fr hM rfl rfl rfl ?_
  refine zr_getf (κ := (22, 0, 0)) hn hM rfl rfl rfl rfl ?_
  refine zr_ift hM rfl rfl h2 ?_
  refine zr_fr hM rfl rfl rfl ?_
  refine zr_fr hM rfl rfl rfl ?_
  refine zr_fr hM rfl rfl rfl ?_
  refine zr_fr hM rfl rfl rfl ?_
  refine zr_fr hM rfl rfl rfl ?_
  refine zr_getf (κ := (22, 0, 0)) hn hM rfl rfl rfl rfl ?_
  refine zr_fr hM rfl rfl rfl ?_
  refine zr_iald (κ := (26, 0, 0)) hn hM rfl rfl rfl z3 ?_
  refine zr_fr hM rfl rfl rfl ?_
  refine zr_fr hM rfl rfl rfl ?_
  refine zr_getf (κ := (22, 0, 0)) hn hM rfl rfl rfl rfl ?_
  refine zr_fr hM rfl rfl rfl ?_
  refine zr_fr hM rfl rfl rfl ?_
  refine zr_fr hM rfl rfl rfl ?_
  refine zr_iald (κ := (26, 0, 0)) hn hM rfl rfl rfl z4 ?_
  refine zr_fr hM rfl rfl rfl ?_
  refine zr_fr hM rfl rfl rfl ?_
  refine zr_getf (κ := (22, 0, 0)) hn hM rfl rfl rfl rfl ?_
  refine zr_fr hM rfl rfl rfl ?_
  refine zr_fr hM rfl rfl rfl ?_
  refine zr_fr hM rfl rfl rfl ?_
  refine zr_iald (κ := (26, 0, 0)) hn hM rfl rfl rfl z5 ?_
  refine zr_fr hM rfl rfl rfl ?_
  refine zr_fr hM rfl rfl rfl ?_
  refine zr_getf (κ := (22, 0, 0)) hn hM rfl rfl rfl rfl ?_
  refine zr_fr hM rfl rfl rfl ?_
  refine zr_fr hM rfl rfl rfl ?_
  refine zr_fr hM rfl rfl rfl ?_
  refine zr_iald (κ := (26, 0, 0)) hn hM rfl rfl rfl z6 ?_
  refine zr_fr hM rfl rfl rfl ?_
  refine zr_fr hM rfl rfl rfl ?_
  refine zr_getf (κ := (22, 0, 0)) hn hM rfl rfl rfl rfl ?_
  refine zr_fr hM rfl rfl rfl ?_
  refine zr_fr hM rfl rfl rfl ?_
  refine zr_fr hM rfl rfl rfl ?_
  refine zr_iald (κ := (26, 0, 0)) hn hM rfl rfl rfl z7 ?_
  refine zr_fr hM rfl rfl rfl ?_
  refine zr_fr hM rfl rfl rfl ?_
  refine zr_getf (κ := (22, 0, 0)) hn hM rfl rfl rfl rfl ?_
  refine zr_fr hM rfl rfl rfl ?_
  refine zr_fr hM rfl rfl rfl ?_
  refine zr_fr hM rfl rfl rfl ?_
  refine zr_iald (κ := (26, 0, 0)) hn hM rfl rfl rfl z8 ?_
  refine zr_fr hM rfl rfl rfl ?_
  refine zr_fr hM rfl rfl rfl ?_
  refine zr_fr hM rfl rfl rfl ?_
  refine zr_virt (κ := (22, 0, 0)) hn hM rfl rfl rfl rfl rfl rfl rfl rfl rfl ?_
  refine zgo_ret rfl rfl c9_ ?_
  rw [Bool.false_and]
  refine zr_fr hM rfl rfl rfl ?_
  refine zr_getf (κ := (22, 0, 0)) hn hM rfl rfl rfl rfl ?_
  refine zr_fr hM rfl rfl rfl ?_
  refine zr_bald (κ := (25, 0, 0)) hn hM rfl rfl rfl z10 ?_
  refine zr_iff hM rfl rfl h11 ?_
  refine zr_fr hM rfl rfl rfl ?_
  exact zr_iret2 hM rfl rfl rfl
set_option maxHeartbeats 4000000 in
theorem s99_0_tttff {n L : Nat} {σ : Ks} {g : List Nat} {cl : Bool} {p1 : Int32} {x3 : Nat} {x4 : Nat} {x5 : Nat} {x6 : Nat} {x7 : Nat} {x8 : Nat} {σ9 : Ks} {c9 : Bool} {x10 : Nat} {σ13 : Ks} {c13 : Bool} {r13 : Int32} (hn : 2 ≤ n ∧ n ≤ 5) (h1 : zcnd .lt p1 0 = true) (h2 : zcnd .le ((kup σ 42 0 (Int32.ofInt 1)) 42 0) 0 = true) (z3 : zix (((Int8.ofInt 6).toInt32) * p1) 150 = some x3) (z4 : zix ((((Int8.ofInt 6).toInt32) * p1) + (Int32.ofInt 1)) 150 = some x4) (z5 : zix ((((Int8.ofInt 6).toInt32) * p1) + (Int32.ofInt 2)) 150 = some x5) (z6 : zix ((((Int8.ofInt 6).toInt32) * p1) + (Int32.ofInt 3)) 150 = some x6) (z7 : zix ((((Int8.ofInt 6).toInt32) * p1) + (Int32.ofInt 4)) 150 = some x7) (z8 : zix ((((Int8.ofInt 6).toInt32) * p1) + (Int32.ofInt 5)) 150 = some x8) (c9_ : ZR 100 0 [.val (.ref (kad n (22, 0, 0))), .val (.int p1), .unset] [] (khp n L (kup σ 42 0 (Int32.ofInt 1)) g) true (.inl (none), khp n L σ9 g, c9)) (z10 : zix ((kup σ 42 0 (Int32.ofInt 1)) 41 x5) 5 = some x10) (h11 : zcnd .eq (σ9 40 x10) 0 = true) (h12 : zcnd .ne ((kup σ 42 0 (Int32.ofInt 1)) 41 x3) 0 = false) (c13_ : ZR 101 0 [.val (.ref (kad n (22, 0, 0))), .val (.int ((kup σ 42 0 (Int32.ofInt 1)) 41 x4)), .val (.int ((kup σ 42 0 (Int32.ofInt 1)) 41 x5)), .val (.int ((kup σ 42 0 (Int32.ofInt 1)) 41 x6)), .val (.int ((kup σ 42 0 (Int32.ofInt 1)) 41 x7)), .val (.int ((kup σ 42 0 (Int32.ofInt 1)) 41 x8)), .unset] [] (khp n L σ9 g) true (.inl (some (.int r13)), khp n L σ13 g, c13)) (h14 : zcnd .eq r13 0 = false) : ZR 99 0 [.val (.ref (kad n (22, 0, 0))), .val (.int p1), .unset, .unset, .unset, .unset, .unset, .unset, .unset, .unset] [] (khp n L σ g) cl (.inl (some (.int (Int32.ofInt 1))), khp n L σ13 (g), false) := by
  have hM : zmi[99]? = some _ := rfl
  have l3 := (zix_some z3).2.2
  have l4 := (zix_some z4).2.2
  have l5 := (zix_some z5).2.2
  have l6 := (zix_some z6).2.2
  have l7 := (zix_some z7).2.2
  have l8 := (zix_some z8).2.2
  have l10 := (zix_some z10).2.2
  refine zr_fr hM rfl rfl rfl ?_
  refine zr_fr hM rfl rfl rfl ?_
  refine zr_ift hM rfl rfl h1 ?_
  refine zr_fr hM rfl rfl rfl ?_
  refine zr_fr hM rfl rfl rfl ?_
  refine zr_putf (κ := (22, 0, 0)) hn hM rfl rfl rfl rfl rfl rfl rfl rfl ?_
  refine zr_fr hM rfl rfl rfl ?_
  refine zr_getf (κ := (22, 0, 0)) hn hM rfl rfl rfl rfl ?_
  refine zr_ift hM rfl rfl h2 ?_
  refine zr_fr hM rfl rfl rfl ?_
  refine zr_fr hM rfl rfl rfl ?_
  refine zr_fr hM rfl rfl rfl ?_
  refine zr_fr hM rfl rfl rfl ?_
  refine zr_fr hM rfl rfl rfl ?_
  refine zr_getf (κ := (22, 0, 0)) hn hM rfl rfl rfl rfl ?_
  refine zr_fr hM rfl rfl rfl ?_
  refine zr_iald (κ := (26, 0, 0)) hn hM rfl rfl rfl z3 ?_
  refine zr_fr hM rfl rfl rfl ?_
  refine zr_fr hM rfl rfl rfl ?_
  refine zr_getf (κ := (22, 0, 0)) hn hM rfl rfl rfl rfl ?_
  refine zr_fr hM rfl rfl rfl ?_
  refine zr_fr hM rfl rfl rfl ?_
  refine zr_fr hM rfl rfl rfl ?_
  refine zr_iald (κ := (26, 0, 0)) hn hM rfl rfl rfl z4 ?_
  refine zr_fr hM rfl rfl rfl ?_
  refine zr_fr hM rfl rfl rfl ?_
  refine zr_getf (κ := (22, 0, 0)) hn hM rfl rfl rfl rfl ?_
  refine zr_fr hM rfl rfl rfl ?_
  refine zr_fr hM rfl rfl rfl ?_
  refine zr_fr hM rfl rfl rfl ?_
  refine zr_iald (κ := (26, 0, 0)) hn hM rfl rfl rfl z5 ?_
  refine zr_fr hM rfl rfl rfl ?_
  refine zr_fr hM rfl rfl rfl ?_
  refine zr_getf (κ := (22, 0, 0)) hn hM rfl rfl rfl rfl ?_
  refine zr_fr hM rfl rfl rfl ?_
  refine zr_fr hM rfl rfl rfl ?_
  refine zr_fr hM rfl rfl rfl ?_
  refine zr_iald (κ := (26, 0, 0)) hn hM rfl rfl rfl z6 ?_
  refine zr_fr hM rfl rfl rfl ?_
  refine zr_fr hM rfl rfl rfl ?_
  refine zr_getf (κ := (22, 0, 0)) hn hM rfl rfl rfl rfl ?_
  refine zr_fr hM rfl rfl rfl ?_
  refine zr_fr hM rfl rfl rfl ?_
  refine zr_fr hM rfl rfl rfl ?_
  refine zr_iald (κ := (26, 0, 0)) hn hM rfl rfl rfl z7 ?_
  refine zr_fr hM rfl rfl rfl ?_
  refine zr_fr hM rfl rfl rfl ?_
  refine zr_getf (κ := (22, 0, 0)) hn hM rfl rfl rfl rfl ?_
  refine zr_fr hM rfl rfl rfl ?_
  refine zr_fr hM rfl rfl rfl ?_
  refine zr_fr hM rfl rfl rfl ?_
  refine zr_iald (κ := (26, 0, 0)) hn hM rfl rfl rfl z8 ?_
  refine zr_fr hM rfl rfl rfl ?_
  refine zr_fr hM rfl rfl rfl ?_
  refine zr_fr hM rfl rfl rfl ?_
  refine zr_virt (κ := (22, 0, 0)) hn hM rfl rfl rfl rfl rfl rfl rfl rfl rfl ?_
  refine zgo_ret rfl rfl c9_ ?_
  rw [Bool.false_and]
  refine zr_fr hM rfl rfl rfl ?_
  refine zr_getf (κ := (22, 0, 0)) hn hM rfl rfl rfl rfl ?_
  refine zr_fr hM rfl rfl rfl ?_
  refine zr_bald (κ := (25, 0, 0)) hn hM rfl rfl rfl z10 ?_
  refine zr_ift hM rfl rfl h11 ?_
  refine zr_fr hM rfl rfl rfl ?_
  refine zr_iff hM rfl rfl h12 ?_
  refine zr_fr hM rfl rfl rfl ?_
  refine zr_fr hM rfl rfl rfl ?_
  refine zr_fr hM rfl rfl rfl ?_
  refine zr_fr hM rfl rfl rfl ?_
  refine zr_fr hM rfl rfl rfl ?_
  refine zr_fr hM rfl rfl rfl ?_
  refine zr_virt (κ := (22, 0, 0)) hn hM rfl rfl rfl rfl rfl rfl rfl rfl rfl ?_
  refine zgo_ret rfl rfl c13_ ?_
  rw [Bool.false_and]
  refine zr_fr hM rfl rfl rfl ?_
  refine zr_fr hM rfl rfl rfl ?_
  refine zr_fr hM rfl rfl rfl ?_
  refine zr_iff hM rfl rfl h14 ?_
  refine zr_fr hM rfl rfl rfl ?_
  refine zr_fr hM rfl rfl rfl ?_
  exact zr_iret2 hM rfl rfl rfl
set_option maxHeartbeats 4000000 in
theorem s99_0_tttft {n L : Nat} {σ : Ks} {g : List Nat} {cl : Bool} {p1 : Int32} {x3 : Nat} {x4 : Nat} {x5 : Nat} {x6 : Nat} {x7 : Nat} {x8 : Nat} {σ9 : Ks} {c9 : Bool} {x10 : Nat} {σ13 : Ks} {c13 : Bool} {r13 : Int32} (hn : 2 ≤ n ∧ n ≤ 5) (h1 : zcnd .lt p1 0 = true) (h2 : zcnd .le ((kup σ 42 0 (Int32.ofInt 1)) 42 0) 0 = true) (z3 : zix (((Int8.ofInt 6).toInt32) * p1) 150 = some x3) (z4 : zix ((((Int8.ofInt 6).toInt32) * p1) + (Int32.ofInt 1)) 150 = some x4) (z5 : zix ((((Int8.ofInt 6).toInt32) * p1) + (Int32.ofInt 2)) 150 = some x5) (z6 : zix ((((Int8.ofInt 6).toInt32) * p1) + (Int32.ofInt 3)) 150 = some x6) (z7 : zix ((((Int8.ofInt 6).toInt32) * p1) + (Int32.ofInt 4)) 150 = some x7) (z8 : zix ((((Int8.ofInt 6).toInt32) * p1) + (Int32.ofInt 5)) 150 = some x8) (c9_ : ZR 100 0 [.val (.ref (kad n (22, 0, 0))), .val (.int p1), .unset] [] (khp n L (kup σ 42 0 (Int32.ofInt 1)) g) true (.inl (none), khp n L σ9 g, c9)) (z10 : zix ((kup σ 42 0 (Int32.ofInt 1)) 41 x5) 5 = some x10) (h11 : zcnd .eq (σ9 40 x10) 0 = true) (h12 : zcnd .ne ((kup σ 42 0 (Int32.ofInt 1)) 41 x3) 0 = false) (c13_ : ZR 101 0 [.val (.ref (kad n (22, 0, 0))), .val (.int ((kup σ 42 0 (Int32.ofInt 1)) 41 x4)), .val (.int ((kup σ 42 0 (Int32.ofInt 1)) 41 x5)), .val (.int ((kup σ 42 0 (Int32.ofInt 1)) 41 x6)), .val (.int ((kup σ 42 0 (Int32.ofInt 1)) 41 x7)), .val (.int ((kup σ 42 0 (Int32.ofInt 1)) 41 x8)), .unset] [] (khp n L σ9 g) true (.inl (some (.int r13)), khp n L σ13 g, c13)) (h14 : zcnd .eq r13 0 = true) : ZR 99 0 [.val (.ref (kad n (22, 0, 0))), .val (.int p1), .unset, .unset, .unset, .unset, .unset, .unset, .unset, .unset] [] (khp n L σ g) cl (.inl (some (.int (Int32.ofInt 0))), khp n L σ13 (g), false) := by
  have hM : zmi[99]? = some _ := rfl
  have l3 := (zix_some z3).2.2
  have l4 := (zix_some z4).2.2
  have l5 := (zix_some z5).2.2
  have l6 := (zix_some z6).2.2
  have l7 := (zix_some z7).2.2
  have l8 := (zix_some z8).2.2
  have l10 := (zix_some z10).2.2
  refine zr_fr hM rfl rfl rfl ?_
  refine zr_fr hM rfl rfl rfl ?_
  refine zr_ift hM rfl rfl h1 ?_
  refine zr_fr hM rfl rfl rfl ?_
  refine zr_fr hM rfl rfl rfl ?_
  refine zr_putf (κ := (22, 0, 0)) hn hM rfl rfl rfl rfl rfl rfl rfl rfl ?_
  refine zr_fr hM rfl rfl rfl ?_
  refine zr_getf (κ := (22, 0, 0)) hn hM rfl rfl rfl rfl ?_
  refine zr_ift hM rfl rfl h2 ?_
  refine zr_fr hM rfl rfl rfl ?_
  refine zr_fr hM rfl rfl rfl ?_
  refine zr_fr hM rfl rfl rfl ?_
  refine zr_fr hM rfl rfl rfl ?_
  refine zr_fr hM rfl rfl rfl ?_
  refine zr_getf (κ := (22, 0, 0)) hn hM rfl rfl rfl rfl ?_
  refine zr_fr hM rfl rfl rfl ?_
  refine zr_iald (κ := (26, 0, 0)) hn hM rfl rfl rfl z3 ?_
  refine zr_fr hM rfl rfl rfl ?_
  refine zr_fr hM rfl rfl rfl ?_
  refine zr_getf (κ := (22, 0, 0)) hn hM rfl rfl rfl rfl ?_
  refine zr_fr hM rfl rfl rfl ?_
  refine zr_fr hM rfl rfl rfl ?_
  refine zr_fr hM rfl rfl rfl ?_
  refine zr_iald (κ := (26, 0, 0)) hn hM rfl rfl rfl z4 ?_
  refine zr_fr hM rfl rfl rfl ?_
  refine zr_fr hM rfl rfl rfl ?_
  refine zr_getf (κ := (22, 0, 0)) hn hM rfl rfl rfl rfl ?_
  refine zr_fr hM rfl rfl rfl ?_
  refine zr_fr hM rfl rfl rfl ?_
  refine zr_fr hM rfl rfl rfl ?_
  refine zr_iald (κ := (26, 0, 0)) hn hM rfl rfl rfl z5 ?_
  refine zr_fr hM rfl rfl rfl ?_
  refine zr_fr hM rfl rfl rfl ?_
  refine zr_getf (κ := (22, 0, 0)) hn hM rfl rfl rfl rfl ?_
  refine zr_fr hM rfl rfl rfl ?_
  refine zr_fr hM rfl rfl rfl ?_
  refine zr_fr hM rfl rfl rfl ?_
  refine zr_iald (κ := (26, 0, 0)) hn hM rfl rfl rfl z6 ?_
  refine zr_fr hM rfl rfl rfl ?_
  refine zr_fr hM rfl rfl rfl ?_
  refine zr_getf (κ := (22, 0, 0)) hn hM rfl rfl rfl rfl ?_
  refine zr_fr hM rfl rfl rfl ?_
  refine zr_fr hM rfl rfl rfl ?_
  refine zr_fr hM rfl rfl rfl ?_
  refine zr_iald (κ := (26, 0, 0)) hn hM rfl rfl rfl z7 ?_
  refine zr_fr hM rfl rfl rfl ?_
  refine zr_fr hM rfl rfl rfl ?_
  refine zr_getf (κ := (22, 0, 0)) hn hM rfl rfl rfl rfl ?_
  refine zr_fr hM rfl rfl rfl ?_
  refine zr_fr hM rfl rfl rfl ?_
  refine zr_fr hM rfl rfl rfl ?_
  refine zr_iald (κ := (26, 0, 0)) hn hM rfl rfl rfl z8 ?_
  refine zr_fr hM rfl rfl rfl ?_
  refine zr_fr hM rfl rfl rfl ?_
  refine zr_fr hM rfl rfl rfl ?_
  refine zr_virt (κ := (22, 0, 0)) hn hM rfl rfl rfl rfl rfl rfl rfl rfl rfl ?_
  refine zgo_ret rfl rfl c9_ ?_
  rw [Bool.false_and]
  refine zr_fr hM rfl rfl rfl ?_
  refine zr_getf (κ := (22, 0, 0)) hn hM rfl rfl rfl rfl ?_
  refine zr_fr hM rfl rfl rfl ?_
  refine zr_bald (κ := (25, 0, 0)) hn hM rfl rfl rfl z10 ?_
  refine zr_ift hM rfl rfl h11 ?_
  refine zr_fr hM rfl rfl rfl ?_
  refine zr_iff hM rfl rfl h12 ?_
  refine zr_fr hM rfl rfl rfl ?_
  refine zr_fr hM rfl rfl rfl ?_
  refine zr_fr hM rfl rfl rfl ?_
  refine zr_fr hM rfl rfl rfl ?_
  refine zr_fr hM rfl rfl rfl ?_
  refine zr_fr hM rfl rfl rfl ?_
  refine zr_virt (κ := (22, 0, 0)) hn hM rfl rfl rfl rfl rfl rfl rfl rfl rfl ?_
  refine zgo_ret rfl rfl c13_ ?_
  rw [Bool.false_and]
  refine zr_fr hM rfl rfl rfl ?_
  refine zr_fr hM rfl rfl rfl ?_
  refine zr_fr hM rfl rfl rfl ?_
  refine zr_ift hM rfl rfl h14 ?_
  refine zr_fr hM rfl rfl rfl ?_
  exact zr_iret2 hM rfl rfl rfl
set_option maxHeartbeats 4000000 in
theorem s99_0_ttttff {n L : Nat} {σ : Ks} {g : List Nat} {cl : Bool} {p1 : Int32} {x3 : Nat} {x4 : Nat} {x5 : Nat} {x6 : Nat} {x7 : Nat} {x8 : Nat} {σ9 : Ks} {c9 : Bool} {x10 : Nat} {σ14 : Ks} {c14 : Bool} {r14 : Int32} (hn : 2 ≤ n ∧ n ≤ 5) (h1 : zcnd .lt p1 0 = true) (h2 : zcnd .le ((kup σ 42 0 (Int32.ofInt 1)) 42 0) 0 = true) (z3 : zix (((Int8.ofInt 6).toInt32) * p1) 150 = some x3) (z4 : zix ((((Int8.ofInt 6).toInt32) * p1) + (Int32.ofInt 1)) 150 = some x4) (z5 : zix ((((Int8.ofInt 6).toInt32) * p1) + (Int32.ofInt 2)) 150 = some x5) (z6 : zix ((((Int8.ofInt 6).toInt32) * p1) + (Int32.ofInt 3)) 150 = some x6) (z7 : zix ((((Int8.ofInt 6).toInt32) * p1) + (Int32.ofInt 4)) 150 = some x7) (z8 : zix ((((Int8.ofInt 6).toInt32) * p1) + (Int32.ofInt 5)) 150 = some x8) (c9_ : ZR 100 0 [.val (.ref (kad n (22, 0, 0))), .val (.int p1), .unset] [] (khp n L (kup σ 42 0 (Int32.ofInt 1)) g) true (.inl (none), khp n L σ9 g, c9)) (z10 : zix ((kup σ 42 0 (Int32.ofInt 1)) 41 x5) 5 = some x10) (h11 : zcnd .eq (σ9 40 x10) 0 = true) (h12 : zcnd .ne ((kup σ 42 0 (Int32.ofInt 1)) 41 x3) 0 = true) (h13 : zcnd .ne ((kup σ 42 0 (Int32.ofInt 1)) 41 x3) (Int32.ofInt 1) = false) (c14_ : ZR 105 0 [.val (.ref (kad n (22, 0, 0))), .val (.int ((kup σ 42 0 (Int32.ofInt 1)) 41 x5)), .val (.int ((kup σ 42 0 (Int32.ofInt 1)) 41 x4)), .val (.int ((kup σ 42 0 (Int32.ofInt 1)) 41 x6)), .unset, .unset, .unset] [] (khp n L σ9 g) true (.inl (some (.int r14)), khp n L σ14 g, c14)) (h15 : zcnd .eq r14 0 = false) : ZR 99 0 [.val (.ref (kad n (22, 0, 0))), .val (.int p1), .unset, .unset, .unset, .unset, .unset, .unset, .unset, .unset] [] (khp n L σ g) cl (.inl (some (.int (Int32.ofInt 1))), khp n L σ14 (g), false) := by
  have hM : zmi[99]? = some _ := rfl
  have l3 := (zix_some z3).2.2
  have l4 := (zix_some z4).2.2
  have l5 := (zix_some z5).2.2
  have l6 := (zix_some z6).2.2
  have l7 := (zix_some z7).2.2
  have l8 := (zix_some z8).2.2
  have l10 := (zix_some z10).2.2
  refine zr_fr hM rfl rfl rfl ?_
  refine zr_fr hM rfl rfl rfl ?_
  refine zr_ift hM rfl rfl h1 ?_
  refine zr_fr hM rfl rfl rfl ?_
  refine zr_fr hM rfl rfl rfl ?_
  refine zr_putf (κ := (22, 0, 0)) hn hM rfl rfl rfl rfl rfl rfl rfl rfl ?_
  refine zr_fr hM rfl rfl rfl ?_
  refine zr_getf (κ := (22, 0, 0)) hn hM rfl rfl rfl rfl ?_
  refine zr_ift hM rfl rfl h2 ?_
  refine zr_fr hM rfl rfl rfl ?_
  refine zr_fr hM rfl rfl rfl ?_
  refine zr_fr hM rfl rfl rfl ?_
  refine zr_fr hM rfl rfl rfl ?_
  refine zr_fr hM rfl rfl rfl ?_
  refine zr_getf (κ := (22, 0, 0)) hn hM rfl rfl rfl rfl ?_
  refine zr_fr hM rfl rfl rfl ?_
  refine zr_iald (κ := (26, 0, 0)) hn hM rfl rfl rfl z3 ?_
  refine zr_fr hM rfl rfl rfl ?_
  refine zr_fr hM rfl rfl rfl ?_
  refine zr_getf (κ := (22, 0, 0)) hn hM rfl rfl rfl rfl ?_
  refine zr_fr hM rfl rfl rfl ?_
  refine zr_fr hM rfl rfl rfl ?_
  refine zr_fr hM rfl rfl rfl ?_
  refine zr_iald (κ := (26, 0, 0)) hn hM rfl rfl rfl z4 ?_
  refine zr_fr hM rfl rfl rfl ?_
  refine zr_fr hM rfl rfl rfl ?_
  refine zr_getf (κ := (22, 0, 0)) hn hM rfl rfl rfl rfl ?_
  refine zr_fr hM rfl rfl rfl ?_
  refine zr_fr hM rfl rfl rfl ?_
  refine zr_fr hM rfl rfl rfl ?_
  refine zr_iald (κ := (26, 0, 0)) hn hM rfl rfl rfl z5 ?_
  refine zr_fr hM rfl rfl rfl ?_
  refine zr_fr hM rfl rfl rfl ?_
  refine zr_getf (κ := (22, 0, 0)) hn hM rfl rfl rfl rfl ?_
  refine zr_fr hM rfl rfl rfl ?_
  refine zr_fr hM rfl rfl rfl ?_
  refine zr_fr hM rfl rfl rfl ?_
  refine zr_iald (κ := (26, 0, 0)) hn hM rfl rfl rfl z6 ?_
  refine zr_fr hM rfl rfl rfl ?_
  refine zr_fr hM rfl rfl rfl ?_
  refine zr_getf (κ := (22, 0, 0)) hn hM rfl rfl rfl rfl ?_
  refine zr_fr hM rfl rfl rfl ?_
  refine zr_fr hM rfl rfl rfl ?_
  refine zr_fr hM rfl rfl rfl ?_
  refine zr_iald (κ := (26, 0, 0)) hn hM rfl rfl rfl z7 ?_
  refine zr_fr hM rfl rfl rfl ?_
  refine zr_fr hM rfl rfl rfl ?_
  refine zr_getf (κ := (22, 0, 0)) hn hM rfl rfl rfl rfl ?_
  refine zr_fr hM rfl rfl rfl ?_
  refine zr_fr hM rfl rfl rfl ?_
  refine zr_fr hM rfl rfl rfl ?_
  refine zr_iald (κ := (26, 0, 0)) hn hM rfl rfl rfl z8 ?_
  refine zr_fr hM rfl rfl rfl ?_
  refine zr_fr hM rfl rfl rfl ?_
  refine zr_fr hM rfl rfl rfl ?_
  refine zr_virt (κ := (22, 0, 0)) hn hM rfl rfl rfl rfl rfl rfl rfl rfl rfl ?_
  refine zgo_ret rfl rfl c9_ ?_
  rw [Bool.false_and]
  refine zr_fr hM rfl rfl rfl ?_
  refine zr_getf (κ := (22, 0, 0)) hn hM rfl rfl rfl rfl ?_
  refine zr_fr hM rfl rfl rfl ?_
  refine zr_bald (κ := (25, 0, 0)) hn hM rfl rfl rfl z10 ?_
  refine zr_ift hM rfl rfl h11 ?_
  refine zr_fr hM rfl rfl rfl ?_
  refine zr_ift hM rfl rfl h12 ?_
  refine zr_fr hM rfl rfl rfl ?_
  refine zr_fr hM rfl rfl rfl ?_
  refine zr_icf hM rfl rfl h13 ?_
  refine zr_fr hM rfl rfl rfl ?_
  refine zr_fr hM rfl rfl rfl ?_
  refine zr_fr hM rfl rfl rfl ?_
  refine zr_fr hM rfl rfl rfl ?_
  refine zr_virt (κ := (22, 0, 0)) hn hM rfl rfl rfl rfl rfl rfl rfl rfl rfl ?_
  refine zgo_ret rfl rfl c14_ ?_
  rw [Bool.false_and]
  refine zr_fr hM rfl rfl rfl ?_
  refine zr_fr hM rfl rfl rfl ?_
  refine zr_fr hM rfl rfl rfl ?_
  refine zr_iff hM rfl rfl h15 ?_
  refine zr_fr hM rfl rfl rfl ?_
  refine zr_fr hM rfl rfl rfl ?_
  exact zr_iret2 hM rfl rfl rfl
set_option maxHeartbeats 4000000 in
theorem s99_0_ttttft {n L : Nat} {σ : Ks} {g : List Nat} {cl : Bool} {p1 : Int32} {x3 : Nat} {x4 : Nat} {x5 : Nat} {x6 : Nat} {x7 : Nat} {x8 : Nat} {σ9 : Ks} {c9 : Bool} {x10 : Nat} {σ14 : Ks} {c14 : Bool} {r14 : Int32} (hn : 2 ≤ n ∧ n ≤ 5) (h1 : zcnd .lt p1 0 = true) (h2 : zcnd .le ((kup σ 42 0 (Int32.ofInt 1)) 42 0) 0 = true) (z3 : zix (((Int8.ofInt 6).toInt32) * p1) 150 = some x3) (z4 : zix ((((Int8.ofInt 6).toInt32) * p1) + (Int32.ofInt 1)) 150 = some x4) (z5 : zix ((((Int8.ofInt 6).toInt32) * p1) + (Int32.ofInt 2)) 150 = some x5) (z6 : zix ((((Int8.ofInt 6).toInt32) * p1) + (Int32.ofInt 3)) 150 = some x6) (z7 : zix ((((Int8.ofInt 6).toInt32) * p1) + (Int32.ofInt 4)) 150 = some x7) (z8 : zix ((((Int8.ofInt 6).toInt32) * p1) + (Int32.ofInt 5)) 150 = some x8) (c9_ : ZR 100 0 [.val (.ref (kad n (22, 0, 0))), .val (.int p1), .unset] [] (khp n L (kup σ 42 0 (Int32.ofInt 1)) g) true (.inl (none), khp n L σ9 g, c9)) (z10 : zix ((kup σ 42 0 (Int32.ofInt 1)) 41 x5) 5 = some x10) (h11 : zcnd .eq (σ9 40 x10) 0 = true) (h12 : zcnd .ne ((kup σ 42 0 (Int32.ofInt 1)) 41 x3) 0 = true) (h13 : zcnd .ne ((kup σ 42 0 (Int32.ofInt 1)) 41 x3) (Int32.ofInt 1) = false) (c14_ : ZR 105 0 [.val (.ref (kad n (22, 0, 0))), .val (.int ((kup σ 42 0 (Int32.ofInt 1)) 41 x5)), .val (.int ((kup σ 42 0 (Int32.ofInt 1)) 41 x4)), .val (.int ((kup σ 42 0 (Int32.ofInt 1)) 41 x6)), .unset, .unset, .unset] [] (khp n L σ9 g) true (.inl (some (.int r14)), khp n L σ14 g, c14)) (h15 : zcnd .eq r14 0 = true) : ZR 99 0 [.val (.ref (kad n (22, 0, 0))), .val (.int p1), .unset, .unset, .unset, .unset, .unset, .unset, .unset, .unset] [] (khp n L σ g) cl (.inl (some (.int (Int32.ofInt 0))), khp n L σ14 (g), false) := by
  have hM : zmi[99]? = some _ := rfl
  have l3 := (zix_some z3).2.2
  have l4 := (zix_some z4).2.2
  have l5 := (zix_some z5).2.2
  have l6 := (zix_some z6).2.2
  have l7 := (zix_some z7).2.2
  have l8 := (zix_some z8).2.2
  have l10 := (zix_some z10).2.2
  refine zr_fr hM rfl rfl rfl ?_
  refine zr_fr hM rfl rfl rfl ?_
  refine zr_ift hM rfl rfl h1 ?_
  refine zr_fr hM rfl rfl rfl ?_
  refine zr_fr hM rfl rfl rfl ?_
  refine zr_putf (κ := (22, 0, 0)) hn hM rfl rfl rfl rfl rfl rfl rfl rfl ?_
  refine zr_fr hM rfl rfl rfl ?_
  refine zr_getf (κ := (22, 0, 0)) hn hM rfl rfl rfl rfl ?_
  refine zr_ift hM rfl rfl h2 ?_
  refine zr_fr hM rfl rfl rfl ?_
  refine zr_fr hM rfl rfl rfl ?_
  refine zr_fr hM rfl rfl rfl ?_
  refine zr_fr hM rfl rfl rfl ?_
  refine zr_fr hM rfl rfl rfl ?_
  refine zr_getf (κ := (22, 0, 0)) hn hM rfl rfl rfl rfl ?_
  refine zr_fr hM rfl rfl rfl ?_
  refine zr_iald (κ := (26, 0, 0)) hn hM rfl rfl rfl z3 ?_
  refine zr_fr hM rfl rfl rfl ?_
  refine zr_fr hM rfl rfl rfl ?_
  refine zr_getf (κ := (22, 0, 0)) hn hM rfl rfl rfl rfl ?_
  refine zr_fr hM rfl rfl rfl ?_
  refine zr_fr hM rfl rfl rfl ?_
  refine zr_fr hM rfl rfl rfl ?_
  refine zr_iald (κ := (26, 0, 0)) hn hM rfl rfl rfl z4 ?_
  refine zr_fr hM rfl rfl rfl ?_
  refine zr_fr hM rfl rfl rfl ?_
  refine zr_getf (κ := (22, 0, 0)) hn hM rfl rfl rfl rfl ?_
  refine zr_fr hM rfl rfl rfl ?_
  refine zr_fr hM rfl rfl rfl ?_
  refine zr_fr hM rfl rfl rfl ?_
  refine zr_iald (κ := (26, 0, 0)) hn hM rfl rfl rfl z5 ?_
  refine zr_fr hM rfl rfl rfl ?_
  refine zr_fr hM rfl rfl rfl ?_
  refine zr_getf (κ := (22, 0, 0)) hn hM rfl rfl rfl rfl ?_
  refine zr_fr hM rfl rfl rfl ?_
  refine zr_fr hM rfl rfl rfl ?_
  refine zr_fr hM rfl rfl rfl ?_
  refine zr_iald (κ := (26, 0, 0)) hn hM rfl rfl rfl z6 ?_
  refine zr_fr hM rfl rfl rfl ?_
  refine zr_fr hM rfl rfl rfl ?_
  refine zr_getf (κ := (22, 0, 0)) hn hM rfl rfl rfl rfl ?_
  refine zr_fr hM rfl rfl rfl ?_
  refine zr_fr hM rfl rfl rfl ?_
  refine zr_fr hM rfl rfl rfl ?_
  refine zr_iald (κ := (26, 0, 0)) hn hM rfl rfl rfl z7 ?_
  refine zr_fr hM rfl rfl rfl ?_
  refine zr_fr hM rfl rfl rfl ?_
  refine zr_getf (κ := (22, 0, 0)) hn hM rfl rfl rfl rfl ?_
  refine zr_fr hM rfl rfl rfl ?_
  refine zr_fr hM rfl rfl rfl ?_
  refine zr_fr hM rfl rfl rfl ?_
  refine zr_iald (κ := (26, 0, 0)) hn hM rfl rfl rfl z8 ?_
  refine zr_fr hM rfl rfl rfl ?_
  refine zr_fr hM rfl rfl rfl ?_
  refine zr_fr hM rfl rfl rfl ?_
  refine zr_virt (κ := (22, 0, 0)) hn hM rfl rfl rfl rfl rfl rfl rfl rfl rfl ?_
  refine zgo_ret rfl rfl c9_ ?_
  rw [Bool.false_and]
  refine zr_fr hM rfl rfl rfl ?_
  refine zr_getf (κ := (22, 0, 0)) hn hM rfl rfl rfl rfl ?_
  refine zr_fr hM rfl rfl rfl ?_
  refine zr_bald (κ := (25, 0, 0)) hn hM rfl rfl rfl z10 ?_
  refine zr_ift hM rfl rfl h11 ?_
  refine zr_fr hM rfl rfl rfl ?_
  refine zr_ift hM rfl rfl h12 ?_
  refine zr_fr hM rfl rfl rfl ?_
  refine zr_fr hM rfl rfl rfl ?_
  refine zr_icf hM rfl rfl h13 ?_
  refine zr_fr hM rfl rfl rfl ?_
  refine zr_fr hM rfl rfl rfl ?_
  refine zr_fr hM rfl rfl rfl ?_
  refine zr_fr hM rfl rfl rfl ?_
  refine zr_virt (κ := (22, 0, 0)) hn hM rfl rfl rfl rfl rfl rfl rfl rfl rfl ?_
  refine zgo_ret rfl rfl c14_ ?_
  rw [Bool.false_and]
  refine zr_fr hM rfl rfl rfl ?_
  refine zr_fr hM rfl rfl rfl ?_
  refine zr_fr hM rfl rfl rfl ?_
  refine zr_ift hM rfl rfl h15 ?_
  refine zr_fr hM rfl rfl rfl ?_
  exact zr_iret2 hM rfl rfl rfl
set_option maxHeartbeats 4000000 in
theorem s99_0_tttttff {n L : Nat} {σ : Ks} {g : List Nat} {cl : Bool} {p1 : Int32} {x3 : Nat} {x4 : Nat} {x5 : Nat} {x6 : Nat} {x7 : Nat} {x8 : Nat} {σ9 : Ks} {c9 : Bool} {x10 : Nat} {σ15 : Ks} {c15 : Bool} {r15 : Int32} (hn : 2 ≤ n ∧ n ≤ 5) (h1 : zcnd .lt p1 0 = true) (h2 : zcnd .le ((kup σ 42 0 (Int32.ofInt 1)) 42 0) 0 = true) (z3 : zix (((Int8.ofInt 6).toInt32) * p1) 150 = some x3) (z4 : zix ((((Int8.ofInt 6).toInt32) * p1) + (Int32.ofInt 1)) 150 = some x4) (z5 : zix ((((Int8.ofInt 6).toInt32) * p1) + (Int32.ofInt 2)) 150 = some x5) (z6 : zix ((((Int8.ofInt 6).toInt32) * p1) + (Int32.ofInt 3)) 150 = some x6) (z7 : zix ((((Int8.ofInt 6).toInt32) * p1) + (Int32.ofInt 4)) 150 = some x7) (z8 : zix ((((Int8.ofInt 6).toInt32) * p1) + (Int32.ofInt 5)) 150 = some x8) (c9_ : ZR 100 0 [.val (.ref (kad n (22, 0, 0))), .val (.int p1), .unset] [] (khp n L (kup σ 42 0 (Int32.ofInt 1)) g) true (.inl (none), khp n L σ9 g, c9)) (z10 : zix ((kup σ 42 0 (Int32.ofInt 1)) 41 x5) 5 = some x10) (h11 : zcnd .eq (σ9 40 x10) 0 = true) (h12 : zcnd .ne ((kup σ 42 0 (Int32.ofInt 1)) 41 x3) 0 = true) (h13 : zcnd .ne ((kup σ 42 0 (Int32.ofInt 1)) 41 x3) (Int32.ofInt 1) = true) (h14 : zcnd .ne ((kup σ 42 0 (Int32.ofInt 1)) 41 x3) (Int32.ofInt 2) = false) (c15_ : ZR 106 0 [.val (.ref (kad n (22, 0, 0))), .val (.int ((kup σ 42 0 (Int32.ofInt 1)) 41 x4)), .val (.int ((kup σ 42 0 (Int32.ofInt 1)) 41 x5)), .val (.int ((kup σ 42 0 (Int32.ofInt 1)) 41 x6)), .val (.int ((kup σ 42 0 (Int32.ofInt 1)) 41 x7)), .val (.int ((kup σ 42 0 (Int32.ofInt 1)) 41 x8)), .unset] [] (khp n L σ9 g) true (.inl (some (.int r15)), khp n L σ15 g, c15)) (h16 : zcnd .eq r15 0 = false) : ZR 99 0 [.val (.ref (kad n (22, 0, 0))), .val (.int p1), .unset, .unset, .unset, .unset, .unset, .unset, .unset, .unset] [] (khp n L σ g) cl (.inl (some (.int (Int32.ofInt 1))), khp n L σ15 (g), false) := by
  have hM : zmi[99]? = some _ := rfl
  have l3 := (zix_some z3).2.2
  have l4 := (zix_some z4).2.2
  have l5 := (zix_some z5).2.2
  have l6 := (zix_some z6).2.2
  have l7 := (zix_some z7).2.2
  have l8 := (zix_some z8).2.2
  have l10 := (zix_some z10).2.2
  refine zr_fr hM rfl rfl rfl ?_
  refine zr_fr hM rfl rfl rfl ?_
  refine zr_ift hM rfl rfl h1 ?_
  refine zr_fr hM rfl rfl rfl ?_
  refine zr_fr hM rfl rfl rfl ?_
  refine zr_putf (κ := (22, 0, 0)) hn hM rfl rfl rfl rfl rfl rfl rfl rfl ?_
  refine zr_fr hM rfl rfl rfl ?_
  refine zr_getf (κ := (22, 0, 0)) hn hM rfl rfl rfl rfl ?_
  refine zr_ift hM rfl rfl h2 ?_
  refine zr_fr hM rfl rfl rfl ?_
  refine zr_fr hM rfl rfl rfl ?_
  refine zr_fr hM rfl rfl rfl ?_
  refine zr_fr hM rfl rfl rfl ?_
  refine zr_fr hM rfl rfl rfl ?_
  refine zr_getf (κ := (22, 0, 0)) hn hM rfl rfl rfl rfl ?_
  refine zr_fr hM rfl rfl rfl ?_
  refine zr_iald (κ := (26, 0, 0)) hn hM rfl rfl rfl z3 ?_
  refine zr_fr hM rfl rfl rfl ?_
  refine zr_fr hM rfl rfl rfl ?_
  refine zr_getf (κ := (22, 0, 0)) hn hM rfl rfl rfl rfl ?_
  refine zr_fr hM rfl rfl rfl ?_
  refine zr_fr hM rfl rfl rfl ?_
  refine zr_fr hM rfl rfl rfl ?_
  refine zr_iald (κ := (26, 0, 0)) hn hM rfl rfl rfl z4 ?_
  refine zr_fr hM rfl rfl rfl ?_
  refine zr_fr hM rfl rfl rfl ?_
  refine zr_getf (κ := (22, 0, 0)) hn hM rfl rfl rfl rfl ?_
  refine zr_fr hM rfl rfl rfl ?_
  refine zr_fr hM rfl rfl rfl ?_
  refine zr_fr hM rfl rfl rfl ?_
  refine zr_iald (κ := (26, 0, 0)) hn hM rfl rfl rfl z5 ?_
  refine zr_fr hM rfl rfl rfl ?_
  refine zr_fr hM rfl rfl rfl ?_
  refine zr_getf (κ := (22, 0, 0)) hn hM rfl rfl rfl rfl ?_
  refine zr_fr hM rfl rfl rfl ?_
  refine zr_fr hM rfl rfl rfl ?_
  refine zr_fr hM rfl rfl rfl ?_
  refine zr_iald (κ := (26, 0, 0)) hn hM rfl rfl rfl z6 ?_
  refine zr_fr hM rfl rfl rfl ?_
  refine zr_fr hM rfl rfl rfl ?_
  refine zr_getf (κ := (22, 0, 0)) hn hM rfl rfl rfl rfl ?_
  refine zr_fr hM rfl rfl rfl ?_
  refine zr_fr hM rfl rfl rfl ?_
  refine zr_fr hM rfl rfl rfl ?_
  refine zr_iald (κ := (26, 0, 0)) hn hM rfl rfl rfl z7 ?_
  refine zr_fr hM rfl rfl rfl ?_
  refine zr_fr hM rfl rfl rfl ?_
  refine zr_getf (κ := (22, 0, 0)) hn hM rfl rfl rfl rfl ?_
  refine zr_fr hM rfl rfl rfl ?_
  refine zr_fr hM rfl rfl rfl ?_
  refine zr_fr hM rfl rfl rfl ?_
  refine zr_iald (κ := (26, 0, 0)) hn hM rfl rfl rfl z8 ?_
  refine zr_fr hM rfl rfl rfl ?_
  refine zr_fr hM rfl rfl rfl ?_
  refine zr_fr hM rfl rfl rfl ?_
  refine zr_virt (κ := (22, 0, 0)) hn hM rfl rfl rfl rfl rfl rfl rfl rfl rfl ?_
  refine zgo_ret rfl rfl c9_ ?_
  rw [Bool.false_and]
  refine zr_fr hM rfl rfl rfl ?_
  refine zr_getf (κ := (22, 0, 0)) hn hM rfl rfl rfl rfl ?_
  refine zr_fr hM rfl rfl rfl ?_
  refine zr_bald (κ := (25, 0, 0)) hn hM rfl rfl rfl z10 ?_
  refine zr_ift hM rfl rfl h11 ?_
  refine zr_fr hM rfl rfl rfl ?_
  refine zr_ift hM rfl rfl h12 ?_
  refine zr_fr hM rfl rfl rfl ?_
  refine zr_fr hM rfl rfl rfl ?_
  refine zr_ict hM rfl rfl h13 ?_
  refine zr_fr hM rfl rfl rfl ?_
  refine zr_fr hM rfl rfl rfl ?_
  refine zr_icf hM rfl rfl h14 ?_
  refine zr_fr hM rfl rfl rfl ?_
  refine zr_fr hM rfl rfl rfl ?_
  refine zr_fr hM rfl rfl rfl ?_
  refine zr_fr hM rfl rfl rfl ?_
  refine zr_fr hM rfl rfl rfl ?_
  refine zr_fr hM rfl rfl rfl ?_
  refine zr_virt (κ := (22, 0, 0)) hn hM rfl rfl rfl rfl rfl rfl rfl rfl rfl ?_
  refine zgo_ret rfl rfl c15_ ?_
  rw [Bool.false_and]
  refine zr_fr hM rfl rfl rfl ?_
  refine zr_fr hM rfl rfl rfl ?_
  refine zr_fr hM rfl rfl rfl ?_
  refine zr_iff hM rfl rfl h16 ?_
  refine zr_fr hM rfl rfl rfl ?_
  refine zr_fr hM rfl rfl rfl ?_
  exact zr_iret2 hM rfl rfl rfl
set_option maxHeartbeats 4000000 in
theorem s99_0_tttttft {n L : Nat} {σ : Ks} {g : List Nat} {cl : Bool} {p1 : Int32} {x3 : Nat} {x4 : Nat} {x5 : Nat} {x6 : Nat} {x7 : Nat} {x8 : Nat} {σ9 : Ks} {c9 : Bool} {x10 : Nat} {σ15 : Ks} {c15 : Bool} {r15 : Int32} (hn : 2 ≤ n ∧ n ≤ 5) (h1 : zcnd .lt p1 0 = true) (h2 : zcnd .le ((kup σ 42 0 (Int32.ofInt 1)) 42 0) 0 = true) (z3 : zix (((Int8.ofInt 6).toInt32) * p1) 150 = some x3) (z4 : zix ((((Int8.ofInt 6).toInt32) * p1) + (Int32.ofInt 1)) 150 = some x4) (z5 : zix ((((Int8.ofInt 6).toInt32) * p1) + (Int32.ofInt 2)) 150 = some x5) (z6 : zix ((((Int8.ofInt 6).toInt32) * p1) + (Int32.ofInt 3)) 150 = some x6) (z7 : zix ((((Int8.ofInt 6).toInt32) * p1) + (Int32.ofInt 4)) 150 = some x7) (z8 : zix ((((Int8.ofInt 6).toInt32) * p1) + (Int32.ofInt 5)) 150 = some x8) (c9_ : ZR 100 0 [.val (.ref (kad n (22, 0, 0))), .val (.int p1), .unset] [] (khp n L (kup σ 42 0 (Int32.ofInt 1)) g) true (.inl (none), khp n L σ9 g, c9)) (z10 : zix ((kup σ 42 0 (Int32.ofInt 1)) 41 x5) 5 = some x10) (h11 : zcnd .eq (σ9 40 x10) 0 = true) (h12 : zcnd .ne ((kup σ 42 0 (Int32.ofInt 1)) 41 x3) 0 = true) (h13 : zcnd .ne ((kup σ 42 0 (Int32.ofInt 1)) 41 x3) (Int32.ofInt 1) = true) (h14 : zcnd .ne ((kup σ 42 0 (Int32.ofInt 1)) 41 x3) (Int32.ofInt 2) = false) (c15_ : ZR 106 0 [.val (.ref (kad n (22, 0, 0))), .val (.int ((kup σ 42 0 (Int32.ofInt 1)) 41 x4)), .val (.int ((kup σ 42 0 (Int32.ofInt 1)) 41 x5)), .val (.int ((kup σ 42 0 (Int32.ofInt 1)) 41 x6)), .val (.int ((kup σ 42 0 (Int32.ofInt 1)) 41 x7)), .val (.int ((kup σ 42 0 (Int32.ofInt 1)) 41 x8)), .unset] [] (khp n L σ9 g) true (.inl (some (.int r15)), khp n L σ15 g, c15)) (h16 : zcnd .eq r15 0 = true) : ZR 99 0 [.val (.ref (kad n (22, 0, 0))), .val (.int p1), .unset, .unset, .unset, .unset, .unset, .unset, .unset, .unset] [] (khp n L σ g) cl (.inl (some (.int (Int32.ofInt 0))), khp n L σ15 (g), false) := by
  have hM : zmi[99]? = some _ := rfl
  have l3 := (zix_some z3).2.2
  have l4 := (zix_some z4).2.2
  have l5 := (zix_some z5).2.2
  have l6 := (zix_some z6).2.2
  have l7 := (zix_some z7).2.2
  have l8 := (zix_some z8).2.2
  have l10 := (zix_some z10).2.2
  refine zr_fr hM rfl rfl rfl ?_
  refine zr_fr hM rfl rfl rfl ?_
  refine zr_ift hM rfl rfl h1 ?_
  refine zr_fr hM rfl rfl rfl ?_
  refine zr_fr hM rfl rfl rfl ?_
  refine zr_putf (κ := (22, 0, 0)) hn hM rfl rfl rfl rfl rfl rfl rfl rfl ?_
  refine zr_fr hM rfl rfl rfl ?_
  refine zr_getf (κ := (22, 0, 0)) hn hM rfl rfl rfl rfl ?_
  refine zr_ift hM rfl rfl h2 ?_
  refine zr_fr hM rfl rfl rfl ?_
  refine zr_fr hM rfl rfl rfl ?_
  refine zr_fr hM rfl rfl rfl ?_
  refine zr_fr hM rfl rfl rfl ?_
  refine zr_fr hM rfl rfl rfl ?_
  refine zr_getf (κ := (22, 0, 0)) hn hM rfl rfl rfl rfl ?_
  refine zr_fr hM rfl rfl rfl ?_
  refine zr_iald (κ := (26, 0, 0)) hn hM rfl rfl rfl z3 ?_
  refine zr_fr hM rfl rfl rfl ?_
  refine zr_fr hM rfl rfl rfl ?_
  refine zr_getf (κ := (22, 0, 0)) hn hM rfl rfl rfl rfl ?_
  refine zr_fr hM rfl rfl rfl ?_
  refine zr_fr hM rfl rfl rfl ?_
  refine zr_fr hM rfl rfl rfl ?_
  refine zr_iald (κ := (26, 0, 0)) hn hM rfl rfl rfl z4 ?_
  refine zr_fr hM rfl rfl rfl ?_
  refine zr_fr hM rfl rfl rfl ?_
  refine zr_getf (κ := (22, 0, 0)) hn hM rfl rfl rfl rfl ?_
  refine zr_fr hM rfl rfl rfl ?_
  refine zr_fr hM rfl rfl rfl ?_
  refine zr_fr hM rfl rfl rfl ?_
  refine zr_iald (κ := (26, 0, 0)) hn hM rfl rfl rfl z5 ?_
  refine zr_fr hM rfl rfl rfl ?_
  refine zr_fr hM rfl rfl rfl ?_
  refine zr_getf (κ := (22, 0, 0)) hn hM rfl rfl rfl rfl ?_
  refine zr_fr hM rfl rfl rfl ?_
  refine zr_fr hM rfl rfl rfl ?_
  refine zr_fr hM rfl rfl rfl ?_
  refine zr_iald (κ := (26, 0, 0)) hn hM rfl rfl rfl z6 ?_
  refine zr_fr hM rfl rfl rfl ?_
  refine zr_fr hM rfl rfl rfl ?_
  refine zr_getf (κ := (22, 0, 0)) hn hM rfl rfl rfl rfl ?_
  refine zr_fr hM rfl rfl rfl ?_
  refine zr_fr hM rfl rfl rfl ?_
  refine zr_fr hM rfl rfl rfl ?_
  refine zr_iald (κ := (26, 0, 0)) hn hM rfl rfl rfl z7 ?_
  refine zr_fr hM rfl rfl rfl ?_
  refine zr_fr hM rfl rfl rfl ?_
  refine zr_getf (κ := (22, 0, 0)) hn hM rfl rfl rfl rfl ?_
  refine zr_fr hM rfl rfl rfl ?_
  refine zr_fr hM rfl rfl rfl ?_
  refine zr_fr hM rfl rfl rfl ?_
  refine zr_iald (κ := (26, 0, 0)) hn hM rfl rfl rfl z8 ?_
  refine zr_fr hM rfl rfl rfl ?_
  refine zr_fr hM rfl rfl rfl ?_
  refine zr_fr hM rfl rfl rfl ?_
  refine zr_virt (κ := (22, 0, 0)) hn hM rfl rfl rfl rfl rfl rfl rfl rfl rfl ?_
  refine zgo_ret rfl rfl c9_ ?_
  rw [Bool.false_and]
  refine zr_fr hM rfl rfl rfl ?_
  refine zr_getf (κ := (22, 0, 0)) hn hM rfl rfl rfl rfl ?_
  refine zr_fr hM rfl rfl rfl ?_
  refine zr_bald (κ := (25, 0, 0)) hn hM rfl rfl rfl z10 ?_
  refine zr_ift hM rfl rfl h11 ?_
  refine zr_fr hM rfl rfl rfl ?_
  refine zr_ift hM rfl rfl h12 ?_
  refine zr_fr hM rfl rfl rfl ?_
  refine zr_fr hM rfl rfl rfl ?_
  refine zr_ict hM rfl rfl h13 ?_
  refine zr_fr hM rfl rfl rfl ?_
  refine zr_fr hM rfl rfl rfl ?_
  refine zr_icf hM rfl rfl h14 ?_
  refine zr_fr hM rfl rfl rfl ?_
  refine zr_fr hM rfl rfl rfl ?_
  refine zr_fr hM rfl rfl rfl ?_
  refine zr_fr hM rfl rfl rfl ?_
  refine zr_fr hM rfl rfl rfl ?_
  refine zr_fr hM rfl rfl rfl ?_
  refine zr_virt (κ := (22, 0, 0)) hn hM rfl rfl rfl rfl rfl rfl rfl rfl rfl ?_
  refine zgo_ret rfl rfl c15_ ?_
  rw [Bool.false_and]
  refine zr_fr hM rfl rfl rfl ?_
  refine zr_fr hM rfl rfl rfl ?_
  refine zr_fr hM rfl rfl rfl ?_
  refine zr_ift hM rfl rfl h16 ?_
  refine zr_fr hM rfl rfl rfl ?_
  exact zr_iret2 hM rfl rfl rfl
set_option maxHeartbeats 4000000 in
theorem s99_0_ttttttf {n L : Nat} {σ : Ks} {g : List Nat} {cl : Bool} {p1 : Int32} {x3 : Nat} {x4 : Nat} {x5 : Nat} {x6 : Nat} {x7 : Nat} {x8 : Nat} {σ9 : Ks} {c9 : Bool} {x10 : Nat} {σ15 : Ks} {c15 : Bool} {r15 : Int32} (hn : 2 ≤ n ∧ n ≤ 5) (h1 : zcnd .lt p1 0 = true) (h2 : zcnd .le ((kup σ 42 0 (Int32.ofInt 1)) 42 0) 0 = true) (z3 : zix (((Int8.ofInt 6).toInt32) * p1) 150 = some x3) (z4 : zix ((((Int8.ofInt 6).toInt32) * p1) + (Int32.ofInt 1)) 150 = some x4) (z5 : zix ((((Int8.ofInt 6).toInt32) * p1) + (Int32.ofInt 2)) 150 = some x5) (z6 : zix ((((Int8.ofInt 6).toInt32) * p1) + (Int32.ofInt 3)) 150 = some x6) (z7 : zix ((((Int8.ofInt 6).toInt32) * p1) + (Int32.ofInt 4)) 150 = some x7) (z8 : zix ((((Int8.ofInt 6).toInt32) * p1) + (Int32.ofInt 5)) 150 = some x8) (c9_ : ZR 100 0 [.val (.ref (kad n (22, 0, 0))), .val (.int p1), .unset] [] (khp n L (kup σ 42 0 (Int32.ofInt 1)) g) true (.inl (none), khp n L σ9 g, c9)) (z10 : zix ((kup σ 42 0 (Int32.ofInt 1)) 41 x5) 5 = some x10) (h11 : zcnd .eq (σ9 40 x10) 0 = true) (h12 : zcnd .ne ((kup σ 42 0 (Int32.ofInt 1)) 41 x3) 0 = true) (h13 : zcnd .ne ((kup σ 42 0 (Int32.ofInt 1)) 41 x3) (Int32.ofInt 1) = true) (h14 : zcnd .ne ((kup σ 42 0 (Int32.ofInt 1)) 41 x3) (Int32.ofInt 2) = true) (c15_ : ZR 107 0 [.val (.ref (kad n (22, 0, 0))), .val (.int ((kup σ 42 0 (Int32.ofInt 1)) 41 x4)), .val (.int ((kup σ 42 0 (Int32.ofInt 1)) 41 x5)), .val (.int ((kup σ 42 0 (Int32.ofInt 1)) 41 x6)), .val (.int ((kup σ 42 0 (Int32.ofInt 1)) 41 x7)), .unset] [] (khp n L σ9 g) true (.inl (some (.int r15)), khp n L σ15 g, c15)) (h16 : zcnd .eq r15 0 = false) : ZR 99 0 [.val (.ref (kad n (22, 0, 0))), .val (.int p1), .unset, .unset, .unset, .unset, .unset, .unset, .unset, .unset] [] (khp n L σ g) cl (.inl (some (.int (Int32.ofInt 1))), khp n L σ15 (g), false) := by
  have hM : zmi[99]? = some _ := rfl
  have l3 := (zix_some z3).2.2
  have l4 := (zix_some z4).2.2
  have l5 := (zix_some z5).2.2
  have l6 := (zix_some z6).2.2
  have l7 := (zix_some z7).2.2
  have l8 := (zix_some z8).2.2
  have l10 := (zix_some z10).2.2
  refine zr_fr hM rfl rfl rfl ?_
  refine zr_fr hM rfl rfl rfl ?_
  refine zr_ift hM rfl rfl h1 ?_
  refine zr_fr hM rfl rfl rfl ?_
  refine zr_fr hM rfl rfl rfl ?_
  refine zr_putf (κ := (22, 0, 0)) hn hM rfl rfl rfl rfl rfl rfl rfl rfl ?_
  refine zr_fr hM rfl rfl rfl ?_
  refine zr_getf (κ := (22, 0, 0)) hn hM rfl rfl rfl rfl ?_
  refine zr_ift hM rfl rfl h2 ?_
  refine zr_fr hM rfl rfl rfl ?_
  refine zr_fr hM rfl rfl rfl ?_
  refine zr_fr hM rfl rfl rfl ?_
  refine zr_fr hM rfl rfl rfl ?_
  refine zr_fr hM rfl rfl rfl ?_
  refine zr_getf (κ := (22, 0, 0)) hn hM rfl rfl rfl rfl ?_
  refine zr_fr hM rfl rfl rfl ?_
  refine zr_iald (κ := (26, 0, 0)) hn hM rfl rfl rfl z3 ?_
  refine zr_fr hM rfl rfl rfl ?_
  refine zr_fr hM rfl rfl rfl ?_
  refine zr_getf (κ := (22, 0, 0)) hn hM rfl rfl rfl rfl ?_
  refine zr_fr hM rfl rfl rfl ?_
  refine zr_fr hM rfl rfl rfl ?_
  refine zr_fr hM rfl rfl rfl ?_
  refine zr_iald (κ := (26, 0, 0)) hn hM rfl rfl rfl z4 ?_
  refine zr_fr hM rfl rfl rfl ?_
  refine zr_fr hM rfl rfl rfl ?_
  refine zr_getf (κ := (22, 0, 0)) hn hM rfl rfl rfl rfl ?_
  refine zr_fr hM rfl rfl rfl ?_
  refine zr_fr hM rfl rfl rfl ?_
  refine zr_fr hM rfl rfl rfl ?_
  refine zr_iald (κ := (26, 0, 0)) hn hM rfl rfl rfl z5 ?_
  refine zr_fr hM rfl rfl rfl ?_
  refine zr_fr hM rfl rfl rfl ?_
  refine zr_getf (κ := (22, 0, 0)) hn hM rfl rfl rfl rfl ?_
  refine zr_fr hM rfl rfl rfl ?_
  refine zr_fr hM rfl rfl rfl ?_
  refine zr_fr hM rfl rfl rfl ?_
  refine zr_iald (κ := (26, 0, 0)) hn hM rfl rfl rfl z6 ?_
  refine zr_fr hM rfl rfl rfl ?_
  refine zr_fr hM rfl rfl rfl ?_
  refine zr_getf (κ := (22, 0, 0)) hn hM rfl rfl rfl rfl ?_
  refine zr_fr hM rfl rfl rfl ?_
  refine zr_fr hM rfl rfl rfl ?_
  refine zr_fr hM rfl rfl rfl ?_
  refine zr_iald (κ := (26, 0, 0)) hn hM rfl rfl rfl z7 ?_
  refine zr_fr hM rfl rfl rfl ?_
  refine zr_fr hM rfl rfl rfl ?_
  refine zr_getf (κ := (22, 0, 0)) hn hM rfl rfl rfl rfl ?_
  refine zr_fr hM rfl rfl rfl ?_
  refine zr_fr hM rfl rfl rfl ?_
  refine zr_fr hM rfl rfl rfl ?_
  refine zr_iald (κ := (26, 0, 0)) hn hM rfl rfl rfl z8 ?_
  refine zr_fr hM rfl rfl rfl ?_
  refine zr_fr hM rfl rfl rfl ?_
  refine zr_fr hM rfl rfl rfl ?_
  refine zr_virt (κ := (22, 0, 0)) hn hM rfl rfl rfl rfl rfl rfl rfl rfl rfl ?_
  refine zgo_ret rfl rfl c9_ ?_
  rw [Bool.false_and]
  refine zr_fr hM rfl rfl rfl ?_
  refine zr_getf (κ := (22, 0, 0)) hn hM rfl rfl rfl rfl ?_
  refine zr_fr hM rfl rfl rfl ?_
  refine zr_bald (κ := (25, 0, 0)) hn hM rfl rfl rfl z10 ?_
  refine zr_ift hM rfl rfl h11 ?_
  refine zr_fr hM rfl rfl rfl ?_
  refine zr_ift hM rfl rfl h12 ?_
  refine zr_fr hM rfl rfl rfl ?_
  refine zr_fr hM rfl rfl rfl ?_
  refine zr_ict hM rfl rfl h13 ?_
  refine zr_fr hM rfl rfl rfl ?_
  refine zr_fr hM rfl rfl rfl ?_
  refine zr_ict hM rfl rfl h14 ?_
  refine zr_fr hM rfl rfl rfl ?_
  refine zr_fr hM rfl rfl rfl ?_
  refine zr_fr hM rfl rfl rfl ?_
  refine zr_fr hM rfl rfl rfl ?_
  refine zr_fr hM rfl rfl rfl ?_
  refine zr_virt (κ := (22, 0, 0)) hn hM rfl rfl rfl rfl rfl rfl rfl rfl rfl ?_
  refine zgo_ret rfl rfl c15_ ?_
  rw [Bool.false_and]
  refine zr_fr hM rfl rfl rfl ?_
  refine zr_fr hM rfl rfl rfl ?_
  refine zr_iff hM rfl rfl h16 ?_
  refine zr_fr hM rfl rfl rfl ?_
  refine zr_fr hM rfl rfl rfl ?_
  exact zr_iret2 hM rfl rfl rfl
set_option maxHeartbeats 4000000 in
theorem s99_0_ttttttt {n L : Nat} {σ : Ks} {g : List Nat} {cl : Bool} {p1 : Int32} {x3 : Nat} {x4 : Nat} {x5 : Nat} {x6 : Nat} {x7 : Nat} {x8 : Nat} {σ9 : Ks} {c9 : Bool} {x10 : Nat} {σ15 : Ks} {c15 : Bool} {r15 : Int32} (hn : 2 ≤ n ∧ n ≤ 5) (h1 : zcnd .lt p1 0 = true) (h2 : zcnd .le ((kup σ 42 0 (Int32.ofInt 1)) 42 0) 0 = true) (z3 : zix (((Int8.ofInt 6).toInt32) * p1) 150 = some x3) (z4 : zix ((((Int8.ofInt 6).toInt32) * p1) + (Int32.ofInt 1)) 150 = some x4) (z5 : zix ((((Int8.ofInt 6).toInt32) * p1) + (Int32.ofInt 2)) 150 = some x5) (z6 : zix ((((Int8.ofInt 6).toInt32) * p1) + (Int32.ofInt 3)) 150 = some x6) (z7 : zix ((((Int8.ofInt 6).toInt32) * p1) + (Int32.ofInt 4)) 150 = some x7) (z8 : zix ((((Int8.ofInt 6).toInt32) * p1) + (Int32.ofInt 5)) 150 = some x8) (c9_ : ZR 100 0 [.val (.ref (kad n (22, 0, 0))), .val (.int p1), .unset] [] (khp n L (kup σ 42 0 (Int32.ofInt 1)) g) true (.inl (none), khp n L σ9 g, c9)) (z10 : zix ((kup σ 42 0 (Int32.ofInt 1)) 41 x5) 5 = some x10) (h11 : zcnd .eq (σ9 40 x10) 0 = true) (h12 : zcnd .ne ((kup σ 42 0 (Int32.ofInt 1)) 41 x3) 0 = true) (h13 : zcnd .ne ((kup σ 42 0 (Int32.ofInt 1)) 41 x3) (Int32.ofInt 1) = true) (h14 : zcnd .ne ((kup σ 42 0 (Int32.ofInt 1)) 41 x3) (Int32.ofInt 2) = true) (c15_ : ZR 107 0 [.val (.ref (kad n (22, 0, 0))), .val (.int ((kup σ 42 0 (Int32.ofInt 1)) 41 x4)), .val (.int ((kup σ 42 0 (Int32.ofInt 1)) 41 x5)), .val (.int ((kup σ 42 0 (Int32.ofInt 1)) 41 x6)), .val (.int ((kup σ 42 0 (Int32.ofInt 1)) 41 x7)), .unset] [] (khp n L σ9 g) true (.inl (some (.int r15)), khp n L σ15 g, c15)) (h16 : zcnd .eq r15 0 = true) : ZR 99 0 [.val (.ref (kad n (22, 0, 0))), .val (.int p1), .unset, .unset, .unset, .unset, .unset, .unset, .unset, .unset] [] (khp n L σ g) cl (.inl (some (.int (Int32.ofInt 0))), khp n L σ15 (g), false) := by
  have hM : zmi[99]? = some _ := rfl
  have l3 := (zix_some z3).2.2
  have l4 := (zix_some z4).2.2
  have l5 := (zix_some z5).2.2
  have l6 := (zix_some z6).2.2
  have l7 := (zix_some z7).2.2
  have l8 := (zix_some z8).2.2
  have l10 := (zix_some z10).2.2
  refine zr_fr hM rfl rfl rfl ?_
  refine zr_fr hM rfl rfl rfl ?_
  refine zr_ift hM rfl rfl h1 ?_
  refine zr_fr hM rfl rfl rfl ?_
  refine zr_fr hM rfl rfl rfl ?_
  refine zr_putf (κ := (22, 0, 0)) hn hM rfl rfl rfl rfl rfl rfl rfl rfl ?_
  refine zr_fr hM rfl rfl rfl ?_
  refine zr_getf (κ := (22, 0, 0)) hn hM rfl rfl rfl rfl ?_
  refine zr_ift hM rfl rfl h2 ?_
  refine zr_fr hM rfl rfl rfl ?_
  refine zr_fr hM rfl rfl rfl ?_
  refine zr_fr hM rfl rfl rfl ?_
  refine zr_fr hM rfl rfl rfl ?_
  refine zr_fr hM rfl rfl rfl ?_
  refine zr_getf (κ := (22, 0, 0)) hn hM rfl rfl rfl rfl ?_
  refine zr_fr hM rfl rfl rfl ?_
  refine zr_iald (κ := (26, 0, 0)) hn hM rfl rfl rfl z3 ?_
  refine zr_fr hM rfl rfl rfl ?_
  refine zr_fr hM rfl rfl rfl ?_
  refine zr_getf (κ := (22, 0, 0)) hn hM rfl rfl rfl rfl ?_
  refine zr_fr hM rfl rfl rfl ?_
  refine zr_fr hM rfl rfl rfl ?_
  refine zr_fr hM rfl rfl rfl ?_
  refine zr_iald (κ := (26, 0, 0)) hn hM rfl rfl rfl z4 ?_
  refine zr_fr hM rfl rfl rfl ?_
  refine zr_fr hM rfl rfl rfl ?_
  refine zr_getf (κ := (22, 0, 0)) hn hM rfl rfl rfl rfl ?_
  refine zr_fr hM rfl rfl rfl ?_
  refine zr_fr hM rfl rfl rfl ?_
  refine zr_fr hM rfl rfl rfl ?_
  refine zr_iald (κ := (26, 0, 0)) hn hM rfl rfl rfl z5 ?_
  refine zr_fr hM rfl rfl rfl ?_
  refine zr_fr hM rfl rfl rfl ?_
  refine zr_getf (κ := (22, 0, 0)) hn hM rfl rfl rfl rfl ?_
  refine zr_fr hM rfl rfl rfl ?_
  refine zr_fr hM rfl rfl rfl ?_
  refine zr_fr hM rfl rfl rfl ?_
  refine zr_iald (κ := (26, 0, 0)) hn hM rfl rfl rfl z6 ?_
  refine zr_fr hM rfl rfl rfl ?_
  refine zr_fr hM rfl rfl rfl ?_
  refine zr_getf (κ := (22, 0, 0)) hn hM rfl rfl rfl rfl ?_
  refine zr_fr hM rfl rfl rfl ?_
  refine zr_fr hM rfl rfl rfl ?_
  refine zr_fr hM rfl rfl rfl ?_
  refine zr_iald (κ := (26, 0, 0)) hn hM rfl rfl rfl z7 ?_
  refine zr_fr hM rfl rfl rfl ?_
  refine zr_fr hM rfl rfl rfl ?_
  refine zr_getf (κ := (22, 0, 0)) hn hM rfl rfl rfl rfl ?_
  refine zr_fr hM rfl rfl rfl ?_
  refine zr_fr hM rfl rfl rfl ?_
  refine zr_fr hM rfl rfl rfl ?_
  refine zr_iald (κ := (26, 0, 0)) hn hM rfl rfl rfl z8 ?_
  refine zr_fr hM rfl rfl rfl ?_
  refine zr_fr hM rfl rfl rfl ?_
  refine zr_fr hM rfl rfl rfl ?_
  refine zr_virt (κ := (22, 0, 0)) hn hM rfl rfl rfl rfl rfl rfl rfl rfl rfl ?_
  refine zgo_ret rfl rfl c9_ ?_
  rw [Bool.false_and]
  refine zr_fr hM rfl rfl rfl ?_
  refine zr_getf (κ := (22, 0, 0)) hn hM rfl rfl rfl rfl ?_
  refine zr_fr hM rfl rfl rfl ?_
  refine zr_bald (κ := (25, 0, 0)) hn hM rfl rfl rfl z10 ?_
  refine zr_ift hM rfl rfl h11 ?_
  refine zr_fr hM rfl rfl rfl ?_
  refine zr_ift hM rfl rfl h12 ?_
  refine zr_fr hM rfl rfl rfl ?_
  refine zr_fr hM rfl rfl rfl ?_
  refine zr_ict hM rfl rfl h13 ?_
  refine zr_fr hM rfl rfl rfl ?_
  refine zr_fr hM rfl rfl rfl ?_
  refine zr_ict hM rfl rfl h14 ?_
  refine zr_fr hM rfl rfl rfl ?_
  refine zr_fr hM rfl rfl rfl ?_
  refine zr_fr hM rfl rfl rfl ?_
  refine zr_fr hM rfl rfl rfl ?_
  refine zr_fr hM rfl rfl rfl ?_
  refine zr_virt (κ := (22, 0, 0)) hn hM rfl rfl rfl rfl rfl rfl rfl rfl rfl ?_
  refine zgo_ret rfl rfl c15_ ?_
  rw [Bool.false_and]
  refine zr_fr hM rfl rfl rfl ?_
  refine zr_fr hM rfl rfl rfl ?_
  refine zr_ift hM rfl rfl h16 ?_
  refine zr_fr hM rfl rfl rfl ?_
  exact zr_iret2 hM rfl rfl rfl
set_option maxHeartbeats 4000000 in
theorem s100_0_r {n L : Nat} {σ : Ks} {g : List Nat} {cl : Bool} {r : Zr} {p1 : Int32} (hn : 2 ≤ n ∧ n ≤ 5) (k : ZR 100 15 [.val (.ref (kad n (22, 0, 0))), .val (.int p1), .val (.int (((Int8.ofInt 6).toInt32) * p1))] [] (khp n L (kup σ 42 2 ((σ 42 2) - (Int32.ofInt 1))) (g)) false r) : ZR 100 0 [.val (.ref (kad n (22, 0, 0))), .val (.int p1), .unset] [] (khp n L σ g) cl r := by
  have hM : zmi[100]? = some _ := rfl
  refine zr_fr hM rfl rfl rfl ?_
  refine zr_fr hM rfl rfl rfl ?_
  refine zr_getf (κ := (22, 0, 0)) hn hM rfl rfl rfl rfl ?_
  refine zr_fr hM rfl rfl rfl ?_
  refine zr_fr hM rfl rfl rfl ?_
  refine zr_putf (κ := (22, 0, 0)) hn hM rfl rfl rfl rfl rfl rfl rfl rfl ?_
  refine zr_fr hM rfl rfl rfl ?_
  refine zr_fr hM rfl rfl rfl ?_
  refine zr_fr hM rfl rfl rfl ?_
  refine zr_fr hM rfl rfl rfl ?_
  exact k
set_option maxHeartbeats 4000000 in
theorem s100_15_f {n L : Nat} {σ : Ks} {g : List Nat} {cl : Bool} {r : Zr} {v1 : Int32} {v2 : Int32} {x2 : Nat} {x3 : Nat} (hn : 2 ≤ n ∧ n ≤ 5) (h1 : zcnd .ge v2 (((Int8.ofInt 6).toInt32) * (σ 42 2)) = false) (z2 : zix (v2 + ((Int8.ofInt 6).toInt32)) 150 = some x2) (z3 : zix v2 150 = some x3) (k : ZR 100 15 [.val (.ref (kad n (22, 0, 0))), .val (.int v1), .val (.int (v2 + Int32.ofInt 1))] [] (khp n L (kup σ 41 x3 (σ 41 x2)) (g)) false r) : ZR 100 15 [.val (.ref (kad n (22, 0, 0))), .val (.int v1), .val (.int v2)] [] (khp n L σ g) cl r := by
  have hM : zmi[100]? = some _ := rfl
  have l2 := (zix_some z2).2.2
  have l3 := (zix_some z3).2.2
  refine zr_fr hM rfl rfl rfl ?_
  refine zr_fr hM rfl rfl rfl ?_
  refine zr_fr hM rfl rfl rfl ?_
  refine zr_getf (κ := (22, 0, 0)) hn hM rfl rfl rfl rfl ?_
  refine zr_fr hM rfl rfl rfl ?_
  refine zr_icf hM rfl rfl h1 ?_
  refine zr_fr hM rfl rfl rfl ?_
  refine zr_getf (κ := (22, 0, 0)) hn hM rfl rfl rfl rfl ?_
  refine zr_fr hM rfl rfl rfl ?_
  refine zr_fr hM rfl rfl rfl ?_
  refine zr_getf (κ := (22, 0, 0)) hn hM rfl rfl rfl rfl ?_
  refine zr_fr hM rfl rfl rfl ?_
  refine zr_fr hM rfl rfl rfl ?_
  refine zr_fr hM rfl rfl rfl ?_
  refine zr_iald (κ := (26, 0, 0)) hn hM rfl rfl rfl z2 ?_
  refine zr_iast (κ := (26, 0, 0)) hn hM rfl rfl rfl rfl z3 rfl ?_
  refine zr_fr hM rfl rfl rfl ?_
  refine zr_fr hM rfl rfl rfl ?_
  exact k
set_option maxHeartbeats 4000000 in
theorem s100_15_t {n L : Nat} {σ : Ks} {g : List Nat} {cl : Bool} {v1 : Int32} {v2 : Int32} (hn : 2 ≤ n ∧ n ≤ 5) (h1 : zcnd .ge v2 (((Int8.ofInt 6).toInt32) * (σ 42 2)) = true) : ZR 100 15 [.val (.ref (kad n (22, 0, 0))), .val (.int v1), .val (.int v2)] [] (khp n L σ g) cl (.inl (none), khp n L σ (g), cl) := by
  have hM : zmi[100]? = some _ := rfl
  refine zr_fr hM rfl rfl rfl ?_
  refine zr_fr hM rfl rfl rfl ?_
  refine zr_fr hM rfl rfl rfl ?_
  refine zr_getf (κ := (22, 0, 0)) hn hM rfl rfl rfl rfl ?_
  refine zr_fr hM rfl rfl rfl ?_
  refine zr_ict hM rfl rfl h1 ?_
  exact zr_vret2 hM rfl rfl rfl
set_option maxHeartbeats 4000000 in
theorem s101_0_ff {n L : Nat} {σ : Ks} {g : List Nat} {cl : Bool} {p1 : Int32} {p2 : Int32} {p3 : Int32} {p4 : Int32} {p5 : Int32} {r1 : Int32} {σ4 : Ks} {c4 : Bool} {r5 : Int32} {x6 : Nat} {σ7 : Ks} {c7 : Bool} {σ8 : Ks} {c8 : Bool} (hn : 2 ≤ n ∧ n ≤ 5) (c1_ : ZR 102 0 [.val (.ref (kad n (22, 0, 0))), .val (.int p2), .val (.int p1), .val (.int p3), .unset, .unset] [] (khp n L σ g) true (.inl (some (.int r1)), khp n L σ g, true)) (h2 : zcnd .ne r1 0 = false) (h3 : zcnd .eq (Int32.ofInt 1) 0 = false) (c4_ : ZR 103 0 [.val (.ref (kad n (22, 0, 0))), .val (.int p2), .val (.int p1), .val (.int p3), .unset, .unset] [] (khp n L σ g) true (.inl (none), khp n L σ4 g, c4)) (c5_ : ZR 97 0 [.val (.int p2)] [] (khp n L σ4 g) true (.inl (some (.int r5)), khp n L σ4 g, true)) (z6 : zix (r5 + p4) 820 = some x6) (c7_ : ZR 96 0 [.val (.ref (kad n (22, 0, 0))), .val (.int p2), .unset] [] (khp n L (kup σ4 (20 + x6 / 164) (x6 % 164) ((σ4 (20 + x6 / 164) (x6 % 164)) + p5)) g) true (.inl (none), khp n L σ7 g, c7)) (c8_ : ZR 104 0 [.val (.ref (kad n (22, 0, 0))), .val (.int (Int32.ofInt 1)), .val (.int p2), .val (.int p1), .val (.int p3), .val (.int (Int32.ofInt (-1))), .val (.int (Int32.ofInt (-1))), .unset] [] (khp n L σ7 g) true (.inl (none), khp n L σ8 g, c8)) : ZR 101 0 [.val (.ref (kad n (22, 0, 0))), .val (.int p1), .val (.int p2), .val (.int p3), .val (.int p4), .val (.int p5), .unset] [] (khp n L σ g) cl (.inl (some (.int (Int32.ofInt 1))), khp n L σ8 (g), false) := by
  have hM : zmi[101]? = some _ := rfl
  have l6 := (zix_some z6).2.2
  refine zr_fr hM rfl rfl rfl ?_
  refine zr_fr hM rfl rfl rfl ?_
  refine zr_fr hM rfl rfl rfl ?_
  refine zr_fr hM rfl rfl rfl ?_
  refine zr_virt (κ := (22, 0, 0)) hn hM rfl rfl rfl rfl rfl rfl rfl rfl rfl ?_
  refine zgo_ret rfl rfl c1_ ?_
  rw [Bool.and_true]
  refine zr_iff hM rfl rfl h2 ?_
  refine zr_fr hM rfl rfl rfl ?_
  refine zr_fr hM rfl rfl rfl ?_
  refine zr_fr hM rfl rfl rfl ?_
  refine zr_fr hM rfl rfl rfl ?_
  refine zr_iff hM rfl rfl h3 ?_
  refine zr_fr hM rfl rfl rfl ?_
  refine zr_fr hM rfl rfl rfl ?_
  refine zr_fr hM rfl rfl rfl ?_
  refine zr_fr hM rfl rfl rfl ?_
  refine zr_virt (κ := (22, 0, 0)) hn hM rfl rfl rfl rfl rfl rfl rfl rfl rfl ?_
  refine zgo_ret rfl rfl c4_ ?_
  refine zr_fr hM rfl rfl rfl ?_
  refine zr_getf (κ := (22, 0, 0)) hn hM rfl rfl rfl rfl ?_
  refine zr_fr hM rfl rfl rfl ?_
  refine zr_stat hM rfl rfl rfl rfl rfl rfl ?_
  refine zgo_ret rfl rfl c5_ ?_
  rw [Bool.and_true]
  refine zr_fr hM rfl rfl rfl ?_
  refine zr_fr hM rfl rfl rfl ?_
  refine zr_fr hM rfl rfl rfl ?_
  refine zr_iald (κ := (23, 0, 0)) hn hM rfl rfl rfl z6 ?_
  refine zr_fr hM rfl rfl rfl ?_
  refine zr_fr hM rfl rfl rfl ?_
  refine zr_iast (κ := (23, 0, 0)) hn hM rfl rfl rfl rfl z6 rfl ?_
  refine zr_fr hM rfl rfl rfl ?_
  refine zr_fr hM rfl rfl rfl ?_
  refine zr_virt (κ := (22, 0, 0)) hn hM rfl rfl rfl rfl rfl rfl rfl rfl rfl ?_
  refine zgo_ret rfl rfl c7_ ?_
  rw [Bool.false_and]
  refine zr_fr hM rfl rfl rfl ?_
  refine zr_fr hM rfl rfl rfl ?_
  refine zr_fr hM rfl rfl rfl ?_
  refine zr_fr hM rfl rfl rfl ?_
  refine zr_fr hM rfl rfl rfl ?_
  refine zr_fr hM rfl rfl rfl ?_
  refine zr_fr hM rfl rfl rfl ?_
  refine zr_virt (κ := (22, 0, 0)) hn hM rfl rfl rfl rfl rfl rfl rfl rfl rfl ?_
  refine zgo_ret rfl rfl c8_ ?_
  rw [Bool.false_and]
  refine zr_fr hM rfl rfl rfl ?_
  exact zr_zret2 hM rfl rfl (by decide) rfl
set_option maxHeartbeats 4000000 in
theorem s101_0_ft {n L : Nat} {σ : Ks} {g : List Nat} {cl : Bool} {p1 : Int32} {p2 : Int32} {p3 : Int32} {p4 : Int32} {p5 : Int32} {r1 : Int32} {σ4 : Ks} {c4 : Bool} (hn : 2 ≤ n ∧ n ≤ 5) (c1_ : ZR 102 0 [.val (.ref (kad n (22, 0, 0))), .val (.int p2), .val (.int p1), .val (.int p3), .unset, .unset] [] (khp n L σ g) true (.inl (some (.int r1)), khp n L σ g, true)) (h2 : zcnd .ne r1 0 = false) (h3 : zcnd .eq (Int32.ofInt 1) 0 = true) (c4_ : ZR 104 0 [.val (.ref (kad n (22, 0, 0))), .val (.int (Int32.ofInt 1)), .val (.int p2), .val (.int p1), .val (.int p3), .val (.int (Int32.ofInt (-1))), .val (.int (Int32.ofInt (-1))), .unset] [] (khp n L σ g) true (.inl (none), khp n L σ4 g, c4)) : ZR 101 0 [.val (.ref (kad n (22, 0, 0))), .val (.int p1), .val (.int p2), .val (.int p3), .val (.int p4), .val (.int p5), .unset] [] (khp n L σ g) cl (.inl (some (.int (Int32.ofInt 1))), khp n L σ4 (g), cl && c4) := by
  have hM : zmi[101]? = some _ := rfl
  refine zr_fr hM rfl rfl rfl ?_
  refine zr_fr hM rfl rfl rfl ?_
  refine zr_fr hM rfl rfl rfl ?_
  refine zr_fr hM rfl rfl rfl ?_
  refine zr_virt (κ := (22, 0, 0)) hn hM rfl rfl rfl rfl rfl rfl rfl rfl rfl ?_
  refine zgo_ret rfl rfl c1_ ?_
  rw [Bool.and_true]
  refine zr_iff hM rfl rfl h2 ?_
  refine zr_fr hM rfl rfl rfl ?_
  refine zr_fr hM rfl rfl rfl ?_
  refine zr_fr hM rfl rfl rfl ?_
  refine zr_fr hM rfl rfl rfl ?_
  refine zr_ift hM rfl rfl h3 ?_
  refine zr_fr hM rfl rfl rfl ?_
  refine zr_fr hM rfl rfl rfl ?_
  refine zr_fr hM rfl rfl rfl ?_
  refine zr_fr hM rfl rfl rfl ?_
  refine zr_fr hM rfl rfl rfl ?_
  refine zr_fr hM rfl rfl rfl ?_
  refine zr_fr hM rfl rfl rfl ?_
  refine zr_virt (κ := (22, 0, 0)) hn hM rfl rfl rfl rfl rfl rfl rfl rfl rfl ?_
  refine zgo_ret rfl rfl c4_ ?_
  refine zr_fr hM rfl rfl rfl ?_
  exact zr_zret2 hM rfl rfl (by decide) rfl
set_option maxHeartbeats 4000000 in
theorem s101_0_tf {n L : Nat} {σ : Ks} {g : List Nat} {cl : Bool} {p1 : Int32} {p2 : Int32} {p3 : Int32} {p4 : Int32} {p5 : Int32} {r1 : Int32} {σ4 : Ks} {c4 : Bool} {r5 : Int32} {x6 : Nat} {σ7 : Ks} {c7 : Bool} {σ8 : Ks} {c8 : Bool} (hn : 2 ≤ n ∧ n ≤ 5) (c1_ : ZR 102 0 [.val (.ref (kad n (22, 0, 0))), .val (.int p2), .val (.int p1), .val (.int p3), .unset, .unset] [] (khp n L σ g) true (.inl (some (.int r1)), khp n L σ g, true)) (h2 : zcnd .ne r1 0 = true) (h3 : zcnd .eq (Int32.ofInt 0) 0 = false) (c4_ : ZR 103 0 [.val (.ref (kad n (22, 0, 0))), .val (.int p2), .val (.int p1), .val (.int p3), .unset, .unset] [] (khp n L σ g) true (.inl (none), khp n L σ4 g, c4)) (c5_ : ZR 97 0 [.val (.int p2)] [] (khp n L σ4 g) true (.inl (some (.int r5)), khp n L σ4 g, true)) (z6 : zix (r5 + p4) 820 = some x6) (c7_ : ZR 96 0 [.val (.ref (kad n (22, 0, 0))), .val (.int p2), .unset] [] (khp n L (kup σ4 (20 + x6 / 164) (x6 % 164) ((σ4 (20 + x6 / 164) (x6 % 164)) + p5)) g) true (.inl (none), khp n L σ7 g, c7)) (c8_ : ZR 104 0 [.val (.ref (kad n (22, 0, 0))), .val (.int (Int32.ofInt 1)), .val (.int p2), .val (.int p1), .val (.int p3), .val (.int (Int32.ofInt (-1))), .val (.int (Int32.ofInt (-1))), .unset] [] (khp n L σ7 g) true (.inl (none), khp n L σ8 g, c8)) : ZR 101 0 [.val (.ref (kad n (22, 0, 0))), .val (.int p1), .val (.int p2), .val (.int p3), .val (.int p4), .val (.int p5), .unset] [] (khp n L σ g) cl (.inl (some (.int (Int32.ofInt 0))), khp n L σ8 (g), false) := by
  have hM : zmi[101]? = some _ := rfl
  have l6 := (zix_some z6).2.2
  refine zr_fr hM rfl rfl rfl ?_
  refine zr_fr hM rfl rfl rfl ?_
  refine zr_fr hM rfl rfl rfl ?_
  refine zr_fr hM rfl rfl rfl ?_
  refine zr_virt (κ := (22, 0, 0)) hn hM rfl rfl rfl rfl rfl rfl rfl rfl rfl ?_
  refine zgo_ret rfl rfl c1_ ?_
  rw [Bool.and_true]
  refine zr_ift hM rfl rfl h2 ?_
  refine zr_fr hM rfl rfl rfl ?_
  refine zr_fr hM rfl rfl rfl ?_
  refine zr_fr hM rfl rfl rfl ?_
  refine zr_iff hM rfl rfl h3 ?_
  refine zr_fr hM rfl rfl rfl ?_
  refine zr_fr hM rfl rfl rfl ?_
  refine zr_fr hM rfl rfl rfl ?_
  refine zr_fr hM rfl rfl rfl ?_
  refine zr_virt (κ := (22, 0, 0)) hn hM rfl rfl rfl rfl rfl rfl rfl rfl rfl ?_
  refine zgo_ret rfl rfl c4_ ?_
  refine zr_fr hM rfl rfl rfl ?_
  refine zr_getf (κ := (22, 0, 0)) hn hM rfl rfl rfl rfl ?_
  refine zr_fr hM rfl rfl rfl ?_
  refine zr_stat hM rfl rfl rfl rfl rfl rfl ?_
  refine zgo_ret rfl rfl c5_ ?_
  rw [Bool.and_true]
  refine zr_fr hM rfl rfl rfl ?_
  refine zr_fr hM rfl rfl rfl ?_
  refine zr_fr hM rfl rfl rfl ?_
  refine zr_iald (κ := (23, 0, 0)) hn hM rfl rfl rfl z6 ?_
  refine zr_fr hM rfl rfl rfl ?_
  refine zr_fr hM rfl rfl rfl ?_
  refine zr_iast (κ := (23, 0, 0)) hn hM rfl rfl rfl rfl z6 rfl ?_
  refine zr_fr hM rfl rfl rfl ?_
  refine zr_fr hM rfl rfl rfl ?_
  refine zr_virt (κ := (22, 0, 0)) hn hM rfl rfl rfl rfl rfl rfl rfl rfl rfl ?_
  refine zgo_ret rfl rfl c7_ ?_
  rw [Bool.false_and]
  refine zr_fr hM rfl rfl rfl ?_
  refine zr_fr hM rfl rfl rfl ?_
  refine zr_fr hM rfl rfl rfl ?_
  refine zr_fr hM rfl rfl rfl ?_
  refine zr_fr hM rfl rfl rfl ?_
  refine zr_fr hM rfl rfl rfl ?_
  refine zr_fr hM rfl rfl rfl ?_
  refine zr_virt (κ := (22, 0, 0)) hn hM rfl rfl rfl rfl rfl rfl rfl rfl rfl ?_
  refine zgo_ret rfl rfl c8_ ?_
  rw [Bool.false_and]
  refine zr_fr hM rfl rfl rfl ?_
  exact zr_zret2 hM rfl rfl (by decide) rfl
set_option maxHeartbeats 4000000 in
theorem s101_0_tt {n L : Nat} {σ : Ks} {g : List Nat} {cl : Bool} {p1 : Int32} {p2 : Int32} {p3 : Int32} {p4 : Int32} {p5 : Int32} {r1 : Int32} {σ4 : Ks} {c4 : Bool} (hn : 2 ≤ n ∧ n ≤ 5) (c1_ : ZR 102 0 [.val (.ref (kad n (22, 0, 0))), .val (.int p2), .val (.int p1), .val (.int p3), .unset, .unset] [] (khp n L σ g) true (.inl (some (.int r1)), khp n L σ g, true)) (h2 : zcnd .ne r1 0 = true) (h3 : zcnd .eq (Int32.ofInt 0) 0 = true) (c4_ : ZR 104 0 [.val (.ref (kad n (22, 0, 0))), .val (.int (Int32.ofInt 1)), .val (.int p2), .val (.int p1), .val (.int p3), .val (.int (Int32.ofInt (-1))), .val (.int (Int32.ofInt (-1))), .unset] [] (khp n L σ g) true (.inl (none), khp n L σ4 g, c4)) : ZR 101 0 [.val (.ref (kad n (22, 0, 0))), .val (.int p1), .val (.int p2), .val (.int p3), .val (.int p4), .val (.int p5), .unset] [] (khp n L σ g) cl (.inl (some (.int (Int32.ofInt 0))), khp n L σ4 (g), cl && c4) := by
  have hM : zmi[101]? = some _ := rfl
  refine zr_fr hM rfl rfl rfl ?_
  refine zr_fr hM rfl rfl rfl ?_
  refine zr_fr hM rfl rfl rfl ?_
  refine zr_fr hM rfl rfl rfl ?_
  refine zr_virt (κ := (22, 0, 0)) hn hM rfl rfl rfl rfl rfl rfl rfl rfl rfl ?_
  refine zgo_ret rfl rfl c1_ ?_
  rw [Bool.and_true]
  refine zr_ift hM rfl rfl h2 ?_
  refine zr_fr hM rfl rfl rfl ?_
  refine zr_fr hM rfl rfl rfl ?_
  refine zr_fr hM rfl rfl rfl ?_
  refine zr_ift hM rfl rfl h3 ?_
  refine zr_fr hM rfl rfl rfl ?_
  refine zr_fr hM rfl rfl rfl ?_
  refine zr_fr hM rfl rfl rfl ?_
  refine zr_fr hM rfl rfl rfl ?_
  refine zr_fr hM rfl rfl rfl ?_
  refine zr_fr hM rfl rfl rfl ?_
  refine zr_fr hM rfl rfl rfl ?_
  refine zr_virt (κ := (22, 0, 0)) hn hM rfl rfl rfl rfl rfl rfl rfl rfl rfl ?_
  refine zgo_ret rfl rfl c4_ ?_
  refine zr_fr hM rfl rfl rfl ?_
  exact zr_zret2 hM rfl rfl (by decide) rfl
set_option maxHeartbeats 4000000 in
theorem s102_0_fff {n L : Nat} {σ : Ks} {g : List Nat} {cl : Bool} {p1 : Int32} {p2 : Int32} {p3 : Int32} {r1 : Int32} {x2 : Nat} {x5 : Nat} (hn : 2 ≤ n ∧ n ≤ 5) (c1_ : ZR 95 0 [.val (.int p1), .val (.int p2)] [] (khp n L σ g) true (.inl (some (.int r1)), khp n L σ g, true)) (z2 : zix (r1 + ((Int8.ofInt 14).toInt32)) 820 = some x2) (h3 : zcnd .lt (p3 - (σ (20 + x2 / 164) (x2 % 164))) 0 = false) (h4 : zcnd .ge (p3 - (σ (20 + x2 / 164) (x2 % 164))) ((Int8.ofInt 16).toInt32) = false) (z5 : zix (r1 + ((Int8.ofInt 15).toInt32)) 820 = some x5) (h6 : zcnd .ne (((σ (20 + x5 / 164) (x5 % 164)) >>> ((p3 - (σ (20 + x2 / 164) (x2 % 164))) &&& 31)) &&& (Int32.ofInt 1)) (Int32.ofInt 1) = false) : ZR 102 0 [.val (.ref (kad n (22, 0, 0))), .val (.int p1), .val (.int p2), .val (.int p3), .unset, .unset] [] (khp n L σ g) cl (.inl (some (.int (Int32.ofInt 1))), khp n L σ (g), cl) := by
  have hM : zmi[102]? = some _ := rfl
  have l2 := (zix_some z2).2.2
  have l5 := (zix_some z5).2.2
  refine zr_fr hM rfl rfl rfl ?_
  refine zr_fr hM rfl rfl rfl ?_
  refine zr_stat hM rfl rfl rfl rfl rfl rfl ?_
  refine zgo_ret rfl rfl c1_ ?_
  rw [Bool.and_true]
  refine zr_fr hM rfl rfl rfl ?_
  refine zr_fr hM rfl rfl rfl ?_
  refine zr_fr hM rfl rfl rfl ?_
  refine zr_getf (κ := (22, 0, 0)) hn hM rfl rfl rfl rfl ?_
  refine zr_fr hM rfl rfl rfl ?_
  refine zr_fr hM rfl rfl rfl ?_
  refine zr_fr hM rfl rfl rfl ?_
  refine zr_iald (κ := (23, 0, 0)) hn hM rfl rfl rfl z2 ?_
  refine zr_fr hM rfl rfl rfl ?_
  refine zr_fr hM rfl rfl rfl ?_
  refine zr_fr hM rfl rfl rfl ?_
  refine zr_iff hM rfl rfl h3 ?_
  refine zr_fr hM rfl rfl rfl ?_
  refine zr_fr hM rfl rfl rfl ?_
  refine zr_icf hM rfl rfl h4 ?_
  refine zr_fr hM rfl rfl rfl ?_
  refine zr_getf (κ := (22, 0, 0)) hn hM rfl rfl rfl rfl ?_
  refine zr_fr hM rfl rfl rfl ?_
  refine zr_fr hM rfl rfl rfl ?_
  refine zr_fr hM rfl rfl rfl ?_
  refine zr_iald (κ := (23, 0, 0)) hn hM rfl rfl rfl z5 ?_
  refine zr_fr hM rfl rfl rfl ?_
  refine zr_fr hM rfl rfl rfl ?_
  refine zr_fr hM rfl rfl rfl ?_
  refine zr_fr hM rfl rfl rfl ?_
  refine zr_fr hM rfl rfl rfl ?_
  refine zr_icf hM rfl rfl h6 ?_
  refine zr_fr hM rfl rfl rfl ?_
  refine zr_fr hM rfl rfl rfl ?_
  exact zr_zret2 hM rfl rfl (by decide) rfl
set_option maxHeartbeats 4000000 in
theorem s102_0_fft {n L : Nat} {σ : Ks} {g : List Nat} {cl : Bool} {p1 : Int32} {p2 : Int32} {p3 : Int32} {r1 : Int32} {x2 : Nat} {x5 : Nat} (hn : 2 ≤ n ∧ n ≤ 5) (c1_ : ZR 95 0 [.val (.int p1), .val (.int p2)] [] (khp n L σ g) true (.inl (some (.int r1)), khp n L σ g, true)) (z2 : zix (r1 + ((Int8.ofInt 14).toInt32)) 820 = some x2) (h3 : zcnd .lt (p3 - (σ (20 + x2 / 164) (x2 % 164))) 0 = false) (h4 : zcnd .ge (p3 - (σ (20 + x2 / 164) (x2 % 164))) ((Int8.ofInt 16).toInt32) = false) (z5 : zix (r1 + ((Int8.ofInt 15).toInt32)) 820 = some x5) (h6 : zcnd .ne (((σ (20 + x5 / 164) (x5 % 164)) >>> ((p3 - (σ (20 + x2 / 164) (x2 % 164))) &&& 31)) &&& (Int32.ofInt 1)) (Int32.ofInt 1) = true) : ZR 102 0 [.val (.ref (kad n (22, 0, 0))), .val (.int p1), .val (.int p2), .val (.int p3), .unset, .unset] [] (khp n L σ g) cl (.inl (some (.int (Int32.ofInt 0))), khp n L σ (g), cl) := by
  have hM : zmi[102]? = some _ := rfl
  have l2 := (zix_some z2).2.2
  have l5 := (zix_some z5).2.2
  refine zr_fr hM rfl rfl rfl ?_
  refine zr_fr hM rfl rfl rfl ?_
  refine zr_stat hM rfl rfl rfl rfl rfl rfl ?_
  refine zgo_ret rfl rfl c1_ ?_
  rw [Bool.and_true]
  refine zr_fr hM rfl rfl rfl ?_
  refine zr_fr hM rfl rfl rfl ?_
  refine zr_fr hM rfl rfl rfl ?_
  refine zr_getf (κ := (22, 0, 0)) hn hM rfl rfl rfl rfl ?_
  refine zr_fr hM rfl rfl rfl ?_
  refine zr_fr hM rfl rfl rfl ?_
  refine zr_fr hM rfl rfl rfl ?_
  refine zr_iald (κ := (23, 0, 0)) hn hM rfl rfl rfl z2 ?_
  refine zr_fr hM rfl rfl rfl ?_
  refine zr_fr hM rfl rfl rfl ?_
  refine zr_fr hM rfl rfl rfl ?_
  refine zr_iff hM rfl rfl h3 ?_
  refine zr_fr hM rfl rfl rfl ?_
  refine zr_fr hM rfl rfl rfl ?_
  refine zr_icf hM rfl rfl h4 ?_
  refine zr_fr hM rfl rfl rfl ?_
  refine zr_getf (κ := (22, 0, 0)) hn hM rfl rfl rfl rfl ?_
  refine zr_fr hM rfl rfl rfl ?_
  refine zr_fr hM rfl rfl rfl ?_
  refine zr_fr hM rfl rfl rfl ?_
  refine zr_iald (κ := (23, 0, 0)) hn hM rfl rfl rfl z5 ?_
  refine zr_fr hM rfl rfl rfl ?_
  refine zr_fr hM rfl rfl rfl ?_
  refine zr_fr hM rfl rfl rfl ?_
  refine zr_fr hM rfl rfl rfl ?_
  refine zr_fr hM rfl rfl rfl ?_
  refine zr_ict hM rfl rfl h6 ?_
  refine zr_fr hM rfl rfl rfl ?_
  exact zr_zret2 hM rfl rfl (by decide) rfl
set_option maxHeartbeats 4000000 in
theorem s102_0_ft {n L : Nat} {σ : Ks} {g : List Nat} {cl : Bool} {p1 : Int32} {p2 : Int32} {p3 : Int32} {r1 : Int32} {x2 : Nat} (hn : 2 ≤ n ∧ n ≤ 5) (c1_ : ZR 95 0 [.val (.int p1), .val (.int p2)] [] (khp n L σ g) true (.inl (some (.int r1)), khp n L σ g, true)) (z2 : zix (r1 + ((Int8.ofInt 14).toInt32)) 820 = some x2) (h3 : zcnd .lt (p3 - (σ (20 + x2 / 164) (x2 % 164))) 0 = false) (h4 : zcnd .ge (p3 - (σ (20 + x2 / 164) (x2 % 164))) ((Int8.ofInt 16).toInt32) = true) : ZR 102 0 [.val (.ref (kad n (22, 0, 0))), .val (.int p1), .val (.int p2), .val (.int p3), .unset, .unset] [] (khp n L σ g) cl (.inl (some (.int (Int32.ofInt 0))), khp n L σ (g), cl) := by
  have hM : zmi[102]? = some _ := rfl
  have l2 := (zix_some z2).2.2
  refine zr_fr hM rfl rfl rfl ?_
  refine zr_fr hM rfl rfl rfl ?_
  refine zr_stat hM rfl rfl rfl rfl rfl rfl ?_
  refine zgo_ret rfl rfl c1_ ?_
  rw [Bool.and_true]
  refine zr_fr hM rfl rfl rfl ?_
  refine zr_fr hM rfl rfl rfl ?_
  refine zr_fr hM rfl rfl rfl ?_
  refine zr_getf (κ := (22, 0, 0)) hn hM rfl rfl rfl rfl ?_
  refine zr_fr hM rfl rfl rfl ?_
  refine zr_fr hM rfl rfl rfl ?_
  refine zr_fr hM rfl rfl rfl ?_
  refine zr_iald (κ := (23, 0, 0)) hn hM rfl rfl rfl z2 ?_
  refine zr_fr hM rfl rfl rfl ?_
  refine zr_fr hM rfl rfl rfl ?_
  refine zr_fr hM rfl rfl rfl ?_
  refine zr_iff hM rfl rfl h3 ?_
  refine zr_fr hM rfl rfl rfl ?_
  refine zr_fr hM rfl rfl rfl ?_
  refine zr_ict hM rfl rfl h4 ?_
  refine zr_fr hM rfl rfl rfl ?_
  exact zr_zret2 hM rfl rfl (by decide) rfl
set_option maxHeartbeats 4000000 in
theorem s102_0_t {n L : Nat} {σ : Ks} {g : List Nat} {cl : Bool} {p1 : Int32} {p2 : Int32} {p3 : Int32} {r1 : Int32} {x2 : Nat} (hn : 2 ≤ n ∧ n ≤ 5) (c1_ : ZR 95 0 [.val (.int p1), .val (.int p2)] [] (khp n L σ g) true (.inl (some (.int r1)), khp n L σ g, true)) (z2 : zix (r1 + ((Int8.ofInt 14).toInt32)) 820 = some x2) (h3 : zcnd .lt (p3 - (σ (20 + x2 / 164) (x2 % 164))) 0 = true) : ZR 102 0 [.val (.ref (kad n (22, 0, 0))), .val (.int p1), .val (.int p2), .val (.int p3), .unset, .unset] [] (khp n L σ g) cl (.inl (some (.int (Int32.ofInt 1))), khp n L σ (g), cl) := by
  have hM : zmi[102]? = some _ := rfl
  have l2 := (zix_some z2).2.2
  refine zr_fr hM rfl rfl rfl ?_
  refine zr_fr hM rfl rfl rfl ?_
  refine zr_stat hM rfl rfl rfl rfl rfl rfl ?_
  refine zgo_ret rfl rfl c1_ ?_
  rw [Bool.and_true]
  refine zr_fr hM rfl rfl rfl ?_
  refine zr_fr hM rfl rfl rfl ?_
  refine zr_fr hM rfl rfl rfl ?_
  refine zr_getf (κ := (22, 0, 0)) hn hM rfl rfl rfl rfl ?_
  refine zr_fr hM rfl rfl rfl ?_
  refine zr_fr hM rfl rfl rfl ?_
  refine zr_fr hM rfl rfl rfl ?_
  refine zr_iald (κ := (23, 0, 0)) hn hM rfl rfl rfl z2 ?_
  refine zr_fr hM rfl rfl rfl ?_
  refine zr_fr hM rfl rfl rfl ?_
  refine zr_fr hM rfl rfl rfl ?_
  refine zr_ift hM rfl rfl h3 ?_
  refine zr_fr hM rfl rfl rfl ?_
  refine zr_fr hM rfl rfl rfl ?_
  exact zr_zret2 hM rfl rfl (by decide) rfl
set_option maxHeartbeats 4000000 in
theorem s103_0_r {n L : Nat} {σ : Ks} {g : List Nat} {cl : Bool} {r : Zr} {p1 : Int32} {p2 : Int32} {p3 : Int32} {r1 : Int32} {x2 : Nat} {x3 : Nat} (hn : 2 ≤ n ∧ n ≤ 5) (c1_ : ZR 95 0 [.val (.int p1), .val (.int p2)] [] (khp n L σ g) true (.inl (some (.int r1)), khp n L σ g, true)) (z2 : zix (r1 + ((Int8.ofInt 14).toInt32)) 820 = some x2) (z3 : zix (r1 + ((Int8.ofInt 15).toInt32)) 820 = some x3) (k : ZR 103 46 [.val (.ref (kad n (22, 0, 0))), .val (.int p1), .val (.int p2), .val (.int p3), .val (.int r1), .val (.int (p3 - (σ (20 + x2 / 164) (x2 % 164))))] [] (khp n L (kup σ (20 + x3 / 164) (x3 % 164) ((σ (20 + x3 / 164) (x3 % 164)) ||| ((Int32.ofInt 1) <<< ((p3 - (σ (20 + x2 / 164) (x2 % 164))) &&& 31)))) (g)) false r) : ZR 103 0 [.val (.ref (kad n (22, 0, 0))), .val (.int p1), .val (.int p2), .val (.int p3), .unset, .unset] [] (khp n L σ g) cl r := by
  have hM : zmi[103]? = some _ := rfl
  have l2 := (zix_some z2).2.2
  have l3 := (zix_some z3).2.2
  refine zr_fr hM rfl rfl rfl ?_
  refine zr_fr hM rfl rfl rfl ?_
  refine zr_stat hM rfl rfl rfl rfl rfl rfl ?_
  refine zgo_ret rfl rfl c1_ ?_
  rw [Bool.and_true]
  refine zr_fr hM rfl rfl rfl ?_
  refine zr_fr hM rfl rfl rfl ?_
  refine zr_fr hM rfl rfl rfl ?_
  refine zr_getf (κ := (22, 0, 0)) hn hM rfl rfl rfl rfl ?_
  refine zr_fr hM rfl rfl rfl ?_
  refine zr_fr hM rfl rfl rfl ?_
  refine zr_fr hM rfl rfl rfl ?_
  refine zr_iald (κ := (23, 0, 0)) hn hM rfl rfl rfl z2 ?_
  refine zr_fr hM rfl rfl rfl ?_
  refine zr_fr hM rfl rfl rfl ?_
  refine zr_fr hM rfl rfl rfl ?_
  refine zr_getf (κ := (22, 0, 0)) hn hM rfl rfl rfl rfl ?_
  refine zr_fr hM rfl rfl rfl ?_
  refine zr_fr hM rfl rfl rfl ?_
  refine zr_fr hM rfl rfl rfl ?_
  refine zr_fr hM rfl rfl rfl ?_
  refine zr_getf (κ := (22, 0, 0)) hn hM rfl rfl rfl rfl ?_
  refine zr_fr hM rfl rfl rfl ?_
  refine zr_fr hM rfl rfl rfl ?_
  refine zr_fr hM rfl rfl rfl ?_
  refine zr_iald (κ := (23, 0, 0)) hn hM rfl rfl rfl z3 ?_
  refine zr_fr hM rfl rfl rfl ?_
  refine zr_fr hM rfl rfl rfl ?_
  refine zr_fr hM rfl rfl rfl ?_
  refine zr_fr hM rfl rfl rfl ?_
  refine zr_iast (κ := (23, 0, 0)) hn hM rfl rfl rfl rfl z3 rfl ?_
  exact k
set_option maxHeartbeats 4000000 in
theorem s103_46_f {n L : Nat} {σ : Ks} {g : List Nat} {cl : Bool} {r : Zr} {v1 : Int32} {v2 : Int32} {v3 : Int32} {v4 : Int32} {v5 : Int32} {x1 : Nat} {x3 : Nat} (hn : 2 ≤ n ∧ n ≤ 5) (z1 : zix (v4 + ((Int8.ofInt 15).toInt32)) 820 = some x1) (h2 : zcnd .ne ((σ (20 + x1 / 164) (x1 % 164)) &&& (Int32.ofInt 1)) (Int32.ofInt 1) = false) (z3 : zix (v4 + ((Int8.ofInt 14).toInt32)) 820 = some x3) (k : ZR 103 46 [.val (.ref (kad n (22, 0, 0))), .val (.int v1), .val (.int v2), .val (.int v3), .val (.int v4), .val (.int v5)] [] (khp n L (kup (kup σ (20 + x1 / 164) (x1 % 164) ((σ (20 + x1 / 164) (x1 % 164)) >>> ((Int32.ofInt 1) &&& 31))) (20 + x3 / 164) (x3 % 164) (((kup σ (20 + x1 / 164) (x1 % 164) ((σ (20 + x1 / 164) (x1 % 164)) >>> ((Int32.ofInt 1) &&& 31))) (20 + x3 / 164) (x3 % 164)) + (Int32.ofInt 1))) (g)) false r) : ZR 103 46 [.val (.ref (kad n (22, 0, 0))), .val (.int v1), .val (.int v2), .val (.int v3), .val (.int v4), .val (.int v5)] [] (khp n L σ g) cl r := by
  have hM : zmi[103]? = some _ := rfl
  have l1 := (zix_some z1).2.2
  have l3 := (zix_some z3).2.2
  refine zr_fr hM rfl rfl rfl ?_
  refine zr_getf (κ := (22, 0, 0)) hn hM rfl rfl rfl rfl ?_
  refine zr_fr hM rfl rfl rfl ?_
  refine zr_fr hM rfl rfl rfl ?_
  refine zr_fr hM rfl rfl rfl ?_
  refine zr_iald (κ := (23, 0, 0)) hn hM rfl rfl rfl z1 ?_
  refine zr_fr hM rfl rfl rfl ?_
  refine zr_fr hM rfl rfl rfl ?_
  refine zr_fr hM rfl rfl rfl ?_
  refine zr_icf hM rfl rfl h2 ?_
  refine zr_fr hM rfl rfl rfl ?_
  refine zr_getf (κ := (22, 0, 0)) hn hM rfl rfl rfl rfl ?_
  refine zr_fr hM rfl rfl rfl ?_
  refine zr_fr hM rfl rfl rfl ?_
  refine zr_fr hM rfl rfl rfl ?_
  refine zr_fr hM rfl rfl rfl ?_
  refine zr_getf (κ := (22, 0, 0)) hn hM rfl rfl rfl rfl ?_
  refine zr_fr hM rfl rfl rfl ?_
  refine zr_fr hM rfl rfl rfl ?_
  refine zr_fr hM rfl rfl rfl ?_
  refine zr_iald (κ := (23, 0, 0)) hn hM rfl rfl rfl z1 ?_
  refine zr_fr hM rfl rfl rfl ?_
  refine zr_fr hM rfl rfl rfl ?_
  refine zr_iast (κ := (23, 0, 0)) hn hM rfl rfl rfl rfl z1 rfl ?_
  refine zr_fr hM rfl rfl rfl ?_
  refine zr_getf (κ := (22, 0, 0)) hn hM rfl rfl rfl rfl ?_
  refine zr_fr hM rfl rfl rfl ?_
  refine zr_fr hM rfl rfl rfl ?_
  refine zr_fr hM rfl rfl rfl ?_
  refine zr_fr hM rfl rfl rfl ?_
  refine zr_iald (κ := (23, 0, 0)) hn hM rfl rfl rfl z3 ?_
  refine zr_fr hM rfl rfl rfl ?_
  refine zr_fr hM rfl rfl rfl ?_
  refine zr_iast (κ := (23, 0, 0)) hn hM rfl rfl rfl rfl z3 rfl ?_
  refine zr_fr hM rfl rfl rfl ?_
  exact k
set_option maxHeartbeats 4000000 in
theorem s103_46_t {n L : Nat} {σ : Ks} {g : List Nat} {cl : Bool} {v1 : Int32} {v2 : Int32} {v3 : Int32} {v4 : Int32} {v5 : Int32} {x1 : Nat} (hn : 2 ≤ n ∧ n ≤ 5) (z1 : zix (v4 + ((Int8.ofInt 15).toInt32)) 820 = some x1) (h2 : zcnd .ne ((σ (20 + x1 / 164) (x1 % 164)) &&& (Int32.ofInt 1)) (Int32.ofInt 1) = true) : ZR 103 46 [.val (.ref (kad n (22, 0, 0))), .val (.int v1), .val (.int v2), .val (.int v3), .val (.int v4), .val (.int v5)] [] (khp n L σ g) cl (.inl (none), khp n L σ (g), cl) := by
  have hM : zmi[103]? = some _ := rfl
  have l1 := (zix_some z1).2.2
  refine zr_fr hM rfl rfl rfl ?_
  refine zr_getf (κ := (22, 0, 0)) hn hM rfl rfl rfl rfl ?_
  refine zr_fr hM rfl rfl rfl ?_
  refine zr_fr hM rfl rfl rfl ?_
  refine zr_fr hM rfl rfl rfl ?_
  refine zr_iald (κ := (23, 0, 0)) hn hM rfl rfl rfl z1 ?_
  refine zr_fr hM rfl rfl rfl ?_
  refine zr_fr hM rfl rfl rfl ?_
  refine zr_fr hM rfl rfl rfl ?_
  refine zr_ict hM rfl rfl h2 ?_
  exact zr_vret2 hM rfl rfl rfl
set_option maxHeartbeats 4000000 in
theorem s104_0_f {n L : Nat} {σ : Ks} {g : List Nat} {cl : Bool} {p1 : Int32} {p2 : Int32} {p3 : Int32} {p4 : Int32} {p5 : Int32} {p6 : Int32} (hn : 2 ≤ n ∧ n ≤ 5) (h1 : zcnd .ne (σ 42 2) ((Int8.ofInt 24).toInt32) = false) : ZR 104 0 [.val (.ref (kad n (22, 0, 0))), .val (.int p1), .val (.int p2), .val (.int p3), .val (.int p4), .val (.int p5), .val (.int p6), .unset] [] (khp n L σ g) cl (.inl (none), khp n L (kup σ 42 3 ((σ 42 3) + (Int32.ofInt 1))) (g), false) := by
  have hM : zmi[104]? = some _ := rfl
  refine zr_fr hM rfl rfl rfl ?_
  refine zr_getf (κ := (22, 0, 0)) hn hM rfl rfl rfl rfl ?_
  refine zr_fr hM rfl rfl rfl ?_
  refine zr_icf hM rfl rfl h1 ?_
  refine zr_fr hM rfl rfl rfl ?_
  refine zr_fr hM rfl rfl rfl ?_
  refine zr_getf (κ := (22, 0, 0)) hn hM rfl rfl rfl rfl ?_
  refine zr_fr hM rfl rfl rfl ?_
  refine zr_fr hM rfl rfl rfl ?_
  refine zr_putf (κ := (22, 0, 0)) hn hM rfl rfl rfl rfl rfl rfl rfl rfl ?_
  exact zr_vret2 hM rfl rfl rfl
set_option maxHeartbeats 4000000 in
theorem s104_0_t {n L : Nat} {σ : Ks} {g : List Nat} {cl : Bool} {p1 : Int32} {p2 : Int32} {p3 : Int32} {p4 : Int32} {p5 : Int32} {p6 : Int32} {x2 : Nat} {x3 : Nat} {x4 : Nat} {x5 : Nat} {x6 : Nat} {x7 : Nat} (hn : 2 ≤ n ∧ n ≤ 5) (h1 : zcnd .ne (σ 42 2) ((Int8.ofInt 24).toInt32) = true) (z2 : zix (((Int8.ofInt 6).toInt32) * (σ 42 2)) 150 = some x2) (z3 : zix ((((Int8.ofInt 6).toInt32) * (σ 42 2)) + (Int32.ofInt 1)) 150 = some x3) (z4 : zix ((((Int8.ofInt 6).toInt32) * (σ 42 2)) + (Int32.ofInt 2)) 150 = some x4) (z5 : zix ((((Int8.ofInt 6).toInt32) * (σ 42 2)) + (Int32.ofInt 3)) 150 = some x5) (z6 : zix ((((Int8.ofInt 6).toInt32) * (σ 42 2)) + (Int32.ofInt 4)) 150 = some x6) (z7 : zix ((((Int8.ofInt 6).toInt32) * (σ 42 2)) + (Int32.ofInt 5)) 150 = some x7) : ZR 104 0 [.val (.ref (kad n (22, 0, 0))), .val (.int p1), .val (.int p2), .val (.int p3), .val (.int p4), .val (.int p5), .val (.int p6), .unset] [] (khp n L σ g) cl (.inl (none), khp n L (kup (kup (kup (kup (kup (kup (kup σ 41 x2 p1) 41 x3 p2) 41 x4 p3) 41 x5 p4) 41 x6 p5) 41 x7 p6) 42 2 (((kup (kup (kup (kup (kup (kup σ 41 x2 p1) 41 x3 p2) 41 x4 p3) 41 x5 p4) 41 x6 p5) 41 x7 p6) 42 2) + (Int32.ofInt 1))) (g), false) := by
  have hM : zmi[104]? = some _ := rfl
  have l2 := (zix_some z2).2.2
  have l3 := (zix_some z3).2.2
  have l4 := (zix_some z4).2.2
  have l5 := (zix_some z5).2.2
  have l6 := (zix_some z6).2.2
  have l7 := (zix_some z7).2.2
  refine zr_fr hM rfl rfl rfl ?_
  refine zr_getf (κ := (22, 0, 0)) hn hM rfl rfl rfl rfl ?_
  refine zr_fr hM rfl rfl rfl ?_
  refine zr_ict hM rfl rfl h1 ?_
  refine zr_fr hM rfl rfl rfl ?_
  refine zr_fr hM rfl rfl rfl ?_
  refine zr_getf (κ := (22, 0, 0)) hn hM rfl rfl rfl rfl ?_
  refine zr_fr hM rfl rfl rfl ?_
  refine zr_fr hM rfl rfl rfl ?_
  refine zr_fr hM rfl rfl rfl ?_
  refine zr_getf (κ := (22, 0, 0)) hn hM rfl rfl rfl rfl ?_
  refine zr_fr hM rfl rfl rfl ?_
  refine zr_fr hM rfl rfl rfl ?_
  refine zr_iast (κ := (26, 0, 0)) hn hM rfl rfl rfl rfl z2 rfl ?_
  refine zr_fr hM rfl rfl rfl ?_
  refine zr_getf (κ := (22, 0, 0)) hn hM rfl rfl rfl rfl ?_
  refine zr_fr hM rfl rfl rfl ?_
  refine zr_fr hM rfl rfl rfl ?_
  refine zr_fr hM rfl rfl rfl ?_
  refine zr_fr hM rfl rfl rfl ?_
  refine zr_iast (κ := (26, 0, 0)) hn hM rfl rfl rfl rfl z3 rfl ?_
  refine zr_fr hM rfl rfl rfl ?_
  refine zr_getf (κ := (22, 0, 0)) hn hM rfl rfl rfl rfl ?_
  refine zr_fr hM rfl rfl rfl ?_
  refine zr_fr hM rfl rfl rfl ?_
  refine zr_fr hM rfl rfl rfl ?_
  refine zr_fr hM rfl rfl rfl ?_
  refine zr_iast (κ := (26, 0, 0)) hn hM rfl rfl rfl rfl z4 rfl ?_
  refine zr_fr hM rfl rfl rfl ?_
  refine zr_getf (κ := (22, 0, 0)) hn hM rfl rfl rfl rfl ?_
  refine zr_fr hM rfl rfl rfl ?_
  refine zr_fr hM rfl rfl rfl ?_
  refine zr_fr hM rfl rfl rfl ?_
  refine zr_fr hM rfl rfl rfl ?_
  refine zr_iast (κ := (26, 0, 0)) hn hM rfl rfl rfl rfl z5 rfl ?_
  refine zr_fr hM rfl rfl rfl ?_
  refine zr_getf (κ := (22, 0, 0)) hn hM rfl rfl rfl rfl ?_
  refine zr_fr hM rfl rfl rfl ?_
  refine zr_fr hM rfl rfl rfl ?_
  refine zr_fr hM rfl rfl rfl ?_
  refine zr_fr hM rfl rfl rfl ?_
  refine zr_iast (κ := (26, 0, 0)) hn hM rfl rfl rfl rfl z6 rfl ?_
  refine zr_fr hM rfl rfl rfl ?_
  refine zr_getf (κ := (22, 0, 0)) hn hM rfl rfl rfl rfl ?_
  refine zr_fr hM rfl rfl rfl ?_
  refine zr_fr hM rfl rfl rfl ?_
  refine zr_fr hM rfl rfl rfl ?_
  refine zr_fr hM rfl rfl rfl ?_
  refine zr_iast (κ := (26, 0, 0)) hn hM rfl rfl rfl rfl z7 rfl ?_
  refine zr_fr hM rfl rfl rfl ?_
  refine zr_fr hM rfl rfl rfl ?_
  refine zr_getf (κ := (22, 0, 0)) hn hM rfl rfl rfl rfl ?_
  refine zr_fr hM rfl rfl rfl ?_
  refine zr_fr hM rfl rfl rfl ?_
  refine zr_putf (κ := (22, 0, 0)) hn hM rfl rfl rfl rfl rfl rfl rfl rfl ?_
  exact zr_vret2 hM rfl rfl rfl
set_option maxHeartbeats 4000000 in
theorem s105_0_r {n L : Nat} {σ : Ks} {g : List Nat} {cl : Bool} {r : Zr} {p1 : Int32} {p2 : Int32} {p3 : Int32} {r1 : Int32} (hn : 2 ≤ n ∧ n ≤ 5) (c1_ : ZR 95 0 [.val (.int p1), .val (.int p2)] [] (khp n L σ g) true (.inl (some (.int r1)), khp n L σ g, true)) (k : ZR 105 10 [.val (.ref (kad n (22, 0, 0))), .val (.int p1), .val (.int p2), .val (.int p3), .val (.int r1), .val (.int (Int32.ofInt 0)), .unset] [] (khp n L σ (g)) cl r) : ZR 105 0 [.val (.ref (kad n (22, 0, 0))), .val (.int p1), .val (.int p2), .val (.int p3), .unset, .unset, .unset] [] (khp n L σ g) cl r := by
  have hM : zmi[105]? = some _ := rfl
  refine zr_fr hM rfl rfl rfl ?_
  refine zr_fr hM rfl rfl rfl ?_
  refine zr_stat hM rfl rfl rfl rfl rfl rfl ?_
  refine zgo_ret rfl rfl c1_ ?_
  rw [Bool.and_true]
  refine zr_fr hM rfl rfl rfl ?_
  refine zr_fr hM rfl rfl rfl ?_
  refine zr_fr hM rfl rfl rfl ?_
  exact k
set_option maxHeartbeats 4000000 in
theorem s105_10_ff {n L : Nat} {σ : Ks} {g : List Nat} {cl : Bool} {r : Zr} {v1 : Int32} {v2 : Int32} {v3 : Int32} {v4 : Int32} {v5 : Int32} {x1 : Nat} {x3 : Nat} (hn : 2 ≤ n ∧ n ≤ 5) (z1 : zix (v4 + (Int32.ofInt 1)) 820 = some x1) (h2 : zcnd .ge v5 (σ (20 + x1 / 164) (x1 % 164)) = false) (z3 : zix ((v4 + (Int32.ofInt 2)) + ((Int32.ofInt 3) * v5)) 820 = some x3) (h4 : zcnd .eq (σ (20 + x3 / 164) (x3 % 164)) v3 = false) (k : ZR 105 10 [.val (.ref (kad n (22, 0, 0))), .val (.int v1), .val (.int v2), .val (.int v3), .val (.int v4), .val (.int (v5 + Int32.ofInt 1)), .unset] [] (khp n L σ (g)) cl r) : ZR 105 10 [.val (.ref (kad n (22, 0, 0))), .val (.int v1), .val (.int v2), .val (.int v3), .val (.int v4), .val (.int v5), .unset] [] (khp n L σ g) cl r := by
  have hM : zmi[105]? = some _ := rfl
  have l1 := (zix_some z1).2.2
  have l3 := (zix_some z3).2.2
  refine zr_fr hM rfl rfl rfl ?_
  refine zr_fr hM rfl rfl rfl ?_
  refine zr_getf (κ := (22, 0, 0)) hn hM rfl rfl rfl rfl ?_
  refine zr_fr hM rfl rfl rfl ?_
  refine zr_fr hM rfl rfl rfl ?_
  refine zr_fr hM rfl rfl rfl ?_
  refine zr_iald (κ := (23, 0, 0)) hn hM rfl rfl rfl z1 ?_
  refine zr_icf hM rfl rfl h2 ?_
  refine zr_fr hM rfl rfl rfl ?_
  refine zr_getf (κ := (22, 0, 0)) hn hM rfl rfl rfl rfl ?_
  refine zr_fr hM rfl rfl rfl ?_
  refine zr_fr hM rfl rfl rfl ?_
  refine zr_fr hM rfl rfl rfl ?_
  refine zr_fr hM rfl rfl rfl ?_
  refine zr_fr hM rfl rfl rfl ?_
  refine zr_fr hM rfl rfl rfl ?_
  refine zr_fr hM rfl rfl rfl ?_
  refine zr_iald (κ := (23, 0, 0)) hn hM rfl rfl rfl z3 ?_
  refine zr_fr hM rfl rfl rfl ?_
  refine zr_icf hM rfl rfl h4 ?_
  refine zr_fr hM rfl rfl rfl ?_
  refine zr_fr hM rfl rfl rfl ?_
  exact k
set_option maxHeartbeats 4000000 in
theorem s105_10_ftf {n L : Nat} {σ : Ks} {g : List Nat} {cl : Bool} {v1 : Int32} {v2 : Int32} {v3 : Int32} {v4 : Int32} {v5 : Int32} {x1 : Nat} {x3 : Nat} (hn : 2 ≤ n ∧ n ≤ 5) (z1 : zix (v4 + (Int32.ofInt 1)) 820 = some x1) (h2 : zcnd .ge v5 (σ (20 + x1 / 164) (x1 % 164)) = false) (z3 : zix ((v4 + (Int32.ofInt 2)) + ((Int32.ofInt 3) * v5)) 820 = some x3) (h4 : zcnd .eq (σ (20 + x3 / 164) (x3 % 164)) v3 = true) (h5 : zcnd .ne v5 (σ (20 + x1 / 164) (x1 % 164)) = false) : ZR 105 10 [.val (.ref (kad n (22, 0, 0))), .val (.int v1), .val (.int v2), .val (.int v3), .val (.int v4), .val (.int v5), .unset] [] (khp n L σ g) cl (.inl (some (.int (Int32.ofInt 0))), khp n L σ (g), cl) := by
  have hM : zmi[105]? = some _ := rfl
  have l1 := (zix_some z1).2.2
  have l3 := (zix_some z3).2.2
  refine zr_fr hM rfl rfl rfl ?_
  refine zr_fr hM rfl rfl rfl ?_
  refine zr_getf (κ := (22, 0, 0)) hn hM rfl rfl rfl rfl ?_
  refine zr_fr hM rfl rfl rfl ?_
  refine zr_fr hM rfl rfl rfl ?_
  refine zr_fr hM rfl rfl rfl ?_
  refine zr_iald (κ := (23, 0, 0)) hn hM rfl rfl rfl z1 ?_
  refine zr_icf hM rfl rfl h2 ?_
  refine zr_fr hM rfl rfl rfl ?_
  refine zr_getf (κ := (22, 0, 0)) hn hM rfl rfl rfl rfl ?_
  refine zr_fr hM rfl rfl rfl ?_
  refine zr_fr hM rfl rfl rfl ?_
  refine zr_fr hM rfl rfl rfl ?_
  refine zr_fr hM rfl rfl rfl ?_
  refine zr_fr hM rfl rfl rfl ?_
  refine zr_fr hM rfl rfl rfl ?_
  refine zr_fr hM rfl rfl rfl ?_
  refine zr_iald (κ := (23, 0, 0)) hn hM rfl rfl rfl z3 ?_
  refine zr_fr hM rfl rfl rfl ?_
  refine zr_ict hM rfl rfl h4 ?_
  refine zr_fr hM rfl rfl rfl ?_
  refine zr_fr hM rfl rfl rfl ?_
  refine zr_getf (κ := (22, 0, 0)) hn hM rfl rfl rfl rfl ?_
  refine zr_fr hM rfl rfl rfl ?_
  refine zr_fr hM rfl rfl rfl ?_
  refine zr_fr hM rfl rfl rfl ?_
  refine zr_iald (κ := (23, 0, 0)) hn hM rfl rfl rfl z1 ?_
  refine zr_icf hM rfl rfl h5 ?_
  refine zr_fr hM rfl rfl rfl ?_
  exact zr_zret2 hM rfl rfl (by decide) rfl
set_option maxHeartbeats 4000000 in
theorem s105_10_ftt {n L : Nat} {σ : Ks} {g : List Nat} {cl : Bool} {r : Zr} {v1 : Int32} {v2 : Int32} {v3 : Int32} {v4 : Int32} {v5 : Int32} {x1 : Nat} {x3 : Nat} (hn : 2 ≤ n ∧ n ≤ 5) (z1 : zix (v4 + (Int32.ofInt 1)) 820 = some x1) (h2 : zcnd .ge v5 (σ (20 + x1 / 164) (x1 % 164)) = false) (z3 : zix ((v4 + (Int32.ofInt 2)) + ((Int32.ofInt 3) * v5)) 820 = some x3) (h4 : zcnd .eq (σ (20 + x3 / 164) (x3 % 164)) v3 = true) (h5 : zcnd .ne v5 (σ (20 + x1 / 164) (x1 % 164)) = true) (k : ZR 105 88 [.val (.ref (kad n (22, 0, 0))), .val (.int v1), .val (.int v2), .val (.int v3), .val (.int v4), .val (.int v5), .val (.int ((v4 + (Int32.ofInt 2)) + ((Int32.ofInt 3) * v5)))] [] (khp n L (kup σ (20 + x1 / 164) (x1 % 164) ((σ (20 + x1 / 164) (x1 % 164)) - (Int32.ofInt 1))) (g)) false r) : ZR 105 10 [.val (.ref (kad n (22, 0, 0))), .val (.int v1), .val (.int v2), .val (.int v3), .val (.int v4), .val (.int v5), .unset] [] (khp n L σ g) cl r := by
  have hM : zmi[105]? = some _ := rfl
  have l1 := (zix_some z1).2.2
  have l3 := (zix_some z3).2.2
  refine zr_fr hM rfl rfl rfl ?_
  refine zr_fr hM rfl rfl rfl ?_
  refine zr_getf (κ := (22, 0, 0)) hn hM rfl rfl rfl rfl ?_
  refine zr_fr hM rfl rfl rfl ?_
  refine zr_fr hM rfl rfl rfl ?_
  refine zr_fr hM rfl rfl rfl ?_
  refine zr_iald (κ := (23, 0, 0)) hn hM rfl rfl rfl z1 ?_
  refine zr_icf hM rfl rfl h2 ?_
  refine zr_fr hM rfl rfl rfl ?_
  refine zr_getf (κ := (22, 0, 0)) hn hM rfl rfl rfl rfl ?_
  refine zr_fr hM rfl rfl rfl ?_
  refine zr_fr hM rfl rfl rfl ?_
  refine zr_fr hM rfl rfl rfl ?_
  refine zr_fr hM rfl rfl rfl ?_
  refine zr_fr hM rfl rfl rfl ?_
  refine zr_fr hM rfl rfl rfl ?_
  refine zr_fr hM rfl rfl rfl ?_
  refine zr_iald (κ := (23, 0, 0)) hn hM rfl rfl rfl z3 ?_
  refine zr_fr hM rfl rfl rfl ?_
  refine zr_ict hM rfl rfl h4 ?_
  refine zr_fr hM rfl rfl rfl ?_
  refine zr_fr hM rfl rfl rfl ?_
  refine zr_getf (κ := (22, 0, 0)) hn hM rfl rfl rfl rfl ?_
  refine zr_fr hM rfl rfl rfl ?_
  refine zr_fr hM rfl rfl rfl ?_
  refine zr_fr hM rfl rfl rfl ?_
  refine zr_iald (κ := (23, 0, 0)) hn hM rfl rfl rfl z1 ?_
  refine zr_ict hM rfl rfl h5 ?_
  refine zr_fr hM rfl rfl rfl ?_
  refine zr_getf (κ := (22, 0, 0)) hn hM rfl rfl rfl rfl ?_
  refine zr_fr hM rfl rfl rfl ?_
  refine zr_fr hM rfl rfl rfl ?_
  refine zr_fr hM rfl rfl rfl ?_
  refine zr_fr hM rfl rfl rfl ?_
  refine zr_iald (κ := (23, 0, 0)) hn hM rfl rfl rfl z1 ?_
  refine zr_fr hM rfl rfl rfl ?_
  refine zr_fr hM rfl rfl rfl ?_
  refine zr_iast (κ := (23, 0, 0)) hn hM rfl rfl rfl rfl z1 rfl ?_
  refine zr_fr hM rfl rfl rfl ?_
  refine zr_fr hM rfl rfl rfl ?_
  refine zr_fr hM rfl rfl rfl ?_
  refine zr_fr hM rfl rfl rfl ?_
  refine zr_fr hM rfl rfl rfl ?_
  refine zr_fr hM rfl rfl rfl ?_
  refine zr_fr hM rfl rfl rfl ?_
  refine zr_fr hM rfl rfl rfl ?_
  exact k
set_option maxHeartbeats 4000000 in
theorem s105_10_tf {n L : Nat} {σ : Ks} {g : List Nat} {cl : Bool} {v1 : Int32} {v2 : Int32} {v3 : Int32} {v4 : Int32} {v5 : Int32} {x1 : Nat} (hn : 2 ≤ n ∧ n ≤ 5) (z1 : zix (v4 + (Int32.ofInt 1)) 820 = some x1) (h2 : zcnd .ge v5 (σ (20 + x1 / 164) (x1 % 164)) = true) (h3 : zcnd .ne v5 (σ (20 + x1 / 164) (x1 % 164)) = false) : ZR 105 10 [.val (.ref (kad n (22, 0, 0))), .val (.int v1), .val (.int v2), .val (.int v3), .val (.int v4), .val (.int v5), .unset] [] (khp n L σ g) cl (.inl (some (.int (Int32.ofInt 0))), khp n L σ (g), cl) := by
  have hM : zmi[105]? = some _ := rfl
  have l1 := (zix_some z1).2.2
  refine zr_fr hM rfl rfl rfl ?_
  refine zr_fr hM rfl rfl rfl ?_
  refine zr_getf (κ := (22, 0, 0)) hn hM rfl rfl rfl rfl ?_
  refine zr_fr hM rfl rfl rfl ?_
  refine zr_fr hM rfl rfl rfl ?_
  refine zr_fr hM rfl rfl rfl ?_
  refine zr_iald (κ := (23, 0, 0)) hn hM rfl rfl rfl z1 ?_
  refine zr_ict hM rfl rfl h2 ?_
  refine zr_fr hM rfl rfl rfl ?_
  refine zr_fr hM rfl rfl rfl ?_
  refine zr_getf (κ := (22, 0, 0)) hn hM rfl rfl rfl rfl ?_
  refine zr_fr hM rfl rfl rfl ?_
  refine zr_fr hM rfl rfl rfl ?_
  refine zr_fr hM rfl rfl rfl ?_
  refine zr_iald (κ := (23, 0, 0)) hn hM rfl rfl rfl z1 ?_
  refine zr_icf hM rfl rfl h3 ?_
  refine zr_fr hM rfl rfl rfl ?_
  exact zr_zret2 hM rfl rfl (by decide) rfl
set_option maxHeartbeats 4000000 in
theorem s105_10_tt {n L : Nat} {σ : Ks} {g : List Nat} {cl : Bool} {r : Zr} {v1 : Int32} {v2 : Int32} {v3 : Int32} {v4 : Int32} {v5 : Int32} {x1 : Nat} (hn : 2 ≤ n ∧ n ≤ 5) (z1 : zix (v4 + (Int32.ofInt 1)) 820 = some x1) (h2 : zcnd .ge v5 (σ (20 + x1 / 164) (x1 % 164)) = true) (h3 : zcnd .ne v5 (σ (20 + x1 / 164) (x1 % 164)) = true) (k : ZR 105 88 [.val (.ref (kad n (22, 0, 0))), .val (.int v1), .val (.int v2), .val (.int v3), .val (.int v4), .val (.int v5), .val (.int ((v4 + (Int32.ofInt 2)) + ((Int32.ofInt 3) * v5)))] [] (khp n L (kup σ (20 + x1 / 164) (x1 % 164) ((σ (20 + x1 / 164) (x1 % 164)) - (Int32.ofInt 1))) (g)) false r) : ZR 105 10 [.val (.ref (kad n (22, 0, 0))), .val (.int v1), .val (.int v2), .val (.int v3), .val (.int v4), .val (.int v5), .unset] [] (khp n L σ g) cl r := by
  have hM : zmi[105]? = some _ := rfl
  have l1 := (zix_some z1).2.2
  refine zr_fr hM rfl rfl rfl ?_
  refine zr_fr hM rfl rfl rfl ?_
  refine zr_getf (κ := (22, 0, 0)) hn hM rfl rfl rfl rfl ?_
  refine zr_fr hM rfl rfl rfl ?_
  refine zr_fr hM rfl rfl rfl ?_
  refine zr_fr hM rfl rfl rfl ?_
  refine zr_iald (κ := (23, 0, 0)) hn hM rfl rfl rfl z1 ?_
  refine zr_ict hM rfl rfl h2 ?_
  refine zr_fr hM rfl rfl rfl ?_
  refine zr_fr hM rfl rfl rfl ?_
  refine zr_getf (κ := (22, 0, 0)) hn hM rfl rfl rfl rfl ?_
  refine zr_fr hM rfl rfl rfl ?_
  refine zr_fr hM rfl rfl rfl ?_
  refine zr_fr hM rfl rfl rfl ?_
  refine zr_iald (κ := (23, 0, 0)) hn hM rfl rfl rfl z1 ?_
  refine zr_ict hM rfl rfl h3 ?_
  refine zr_fr hM rfl rfl rfl ?_
  refine zr_getf (κ := (22, 0, 0)) hn hM rfl rfl rfl rfl ?_
  refine zr_fr hM rfl rfl rfl ?_
  refine zr_fr hM rfl rfl rfl ?_
  refine zr_fr hM rfl rfl rfl ?_
  refine zr_fr hM rfl rfl rfl ?_
  refine zr_iald (κ := (23, 0, 0)) hn hM rfl rfl rfl z1 ?_
  refine zr_fr hM rfl rfl rfl ?_
  refine zr_fr hM rfl rfl rfl ?_
  refine zr_iast (κ := (23, 0, 0)) hn hM rfl rfl rfl rfl z1 rfl ?_
  refine zr_fr hM rfl rfl rfl ?_
  refine zr_fr hM rfl rfl rfl ?_
  refine zr_fr hM rfl rfl rfl ?_
  refine zr_fr hM rfl rfl rfl ?_
  refine zr_fr hM rfl rfl rfl ?_
  refine zr_fr hM rfl rfl rfl ?_
  refine zr_fr hM rfl rfl rfl ?_
  refine zr_fr hM rfl rfl rfl ?_
  exact k
set_option maxHeartbeats 4000000 in
theorem s105_88_f {n L : Nat} {σ : Ks} {g : List Nat} {cl : Bool} {r : Zr} {v1 : Int32} {v2 : Int32} {v3 : Int32} {v4 : Int32} {v5 : Int32} {v6 : Int32} {x1 : Nat} {x3 : Nat} {x4 : Nat} (hn : 2 ≤ n ∧ n ≤ 5) (z1 : zix (v4 + (Int32.ofInt 1)) 820 = some x1) (h2 : zcnd .ge v6 ((v4 + (Int32.ofInt 2)) + ((Int32.ofInt 3) * (σ (20 + x1 / 164) (x1 % 164)))) = false) (z3 : zix (v6 + (Int32.ofInt 3)) 820 = some x3) (z4 : zix v6 820 = some x4) (k : ZR 105 88 [.val (.ref (kad n (22, 0, 0))), .val (.int v1), .val (.int v2), .val (.int v3), .val (.int v4), .val (.int v5), .val (.int (v6 + Int32.ofInt 1))] [] (khp n L (kup σ (20 + x4 / 164) (x4 % 164) (σ (20 + x3 / 164) (x3 % 164))) (g)) false r) : ZR 105 88 [.val (.ref (kad n (22, 0, 0))), .val (.int v1), .val (.int v2), .val (.int v3), .val (.int v4), .val (.int v5), .val (.int v6)] [] (khp n L σ g) cl r := by
  have hM : zmi[105]? = some _ := rfl
  have l1 := (zix_some z1).2.2
  have l3 := (zix_some z3).2.2
  have l4 := (zix_some z4).2.2
  refine zr_fr hM rfl rfl rfl ?_
  refine zr_fr hM rfl rfl rfl ?_
  refine zr_fr hM rfl rfl rfl ?_
  refine zr_fr hM rfl rfl rfl ?_
  refine zr_fr hM rfl rfl rfl ?_
  refine zr_fr hM rfl rfl rfl ?_
  refine zr_getf (κ := (22, 0, 0)) hn hM rfl rfl rfl rfl ?_
  refine zr_fr hM rfl rfl rfl ?_
  refine zr_fr hM rfl rfl rfl ?_
  refine zr_fr hM rfl rfl rfl ?_
  refine zr_iald (κ := (23, 0, 0)) hn hM rfl rfl rfl z1 ?_
  refine zr_fr hM rfl rfl rfl ?_
  refine zr_fr hM rfl rfl rfl ?_
  refine zr_icf hM rfl rfl h2 ?_
  refine zr_fr hM rfl rfl rfl ?_
  refine zr_getf (κ := (22, 0, 0)) hn hM rfl rfl rfl rfl ?_
  refine zr_fr hM rfl rfl rfl ?_
  refine zr_fr hM rfl rfl rfl ?_
  refine zr_getf (κ := (22, 0, 0)) hn hM rfl rfl rfl rfl ?_
  refine zr_fr hM rfl rfl rfl ?_
  refine zr_fr hM rfl rfl rfl ?_
  refine zr_fr hM rfl rfl rfl ?_
  refine zr_iald (κ := (23, 0, 0)) hn hM rfl rfl rfl z3 ?_
  refine zr_iast (κ := (23, 0, 0)) hn hM rfl rfl rfl rfl z4 rfl ?_
  refine zr_fr hM rfl rfl rfl ?_
  refine zr_fr hM rfl rfl rfl ?_
  exact k
set_option maxHeartbeats 4000000 in
theorem s105_88_t {n L : Nat} {σ : Ks} {g : List Nat} {cl : Bool} {v1 : Int32} {v2 : Int32} {v3 : Int32} {v4 : Int32} {v5 : Int32} {v6 : Int32} {x1 : Nat} (hn : 2 ≤ n ∧ n ≤ 5) (z1 : zix (v4 + (Int32.ofInt 1)) 820 = some x1) (h2 : zcnd .ge v6 ((v4 + (Int32.ofInt 2)) + ((Int32.ofInt 3) * (σ (20 + x1 / 164) (x1 % 164)))) = true) : ZR 105 88 [.val (.ref (kad n (22, 0, 0))), .val (.int v1), .val (.int v2), .val (.int v3), .val (.int v4), .val (.int v5), .val (.int v6)] [] (khp n L σ g) cl (.inl (some (.int (Int32.ofInt 1))), khp n L σ (g), cl) := by
  have hM : zmi[105]? = some _ := rfl
  have l1 := (zix_some z1).2.2
  refine zr_fr hM rfl rfl rfl ?_
  refine zr_fr hM rfl rfl rfl ?_
  refine zr_fr hM rfl rfl rfl ?_
  refine zr_fr hM rfl rfl rfl ?_
  refine zr_fr hM rfl rfl rfl ?_
  refine zr_fr hM rfl rfl rfl ?_
  refine zr_getf (κ := (22, 0, 0)) hn hM rfl rfl rfl rfl ?_
  refine zr_fr hM rfl rfl rfl ?_
  refine zr_fr hM rfl rfl rfl ?_
  refine zr_fr hM rfl rfl rfl ?_
  refine zr_iald (κ := (23, 0, 0)) hn hM rfl rfl rfl z1 ?_
  refine zr_fr hM rfl rfl rfl ?_
  refine zr_fr hM rfl rfl rfl ?_
  refine zr_ict hM rfl rfl h2 ?_
  refine zr_fr hM rfl rfl rfl ?_
  exact zr_zret2 hM rfl rfl (by decide) rfl
set_option maxHeartbeats 4000000 in
theorem s106_0_f {n L : Nat} {σ : Ks} {g : List Nat} {cl : Bool} {p1 : Int32} {p2 : Int32} {p3 : Int32} {p4 : Int32} {p5 : Int32} {r1 : Int32} {x2 : Nat} (hn : 2 ≤ n ∧ n ≤ 5) (c1_ : ZR 95 0 [.val (.int p2), .val (.int p1)] [] (khp n L σ g) true (.inl (some (.int r1)), khp n L σ g, true)) (z2 : zix ((r1 + ((Int8.ofInt 20).toInt32)) + p3) 820 = some x2) (h3 : zcnd .gt p5 (σ (20 + x2 / 164) (x2 % 164)) = false) : ZR 106 0 [.val (.ref (kad n (22, 0, 0))), .val (.int p1), .val (.int p2), .val (.int p3), .val (.int p4), .val (.int p5), .unset] [] (khp n L σ g) cl (.inl (some (.int (Int32.ofInt 0))), khp n L σ (g), cl) := by
  have hM : zmi[106]? = some _ := rfl
  have l2 := (zix_some z2).2.2
  refine zr_fr hM rfl rfl rfl ?_
  refine zr_fr hM rfl rfl rfl ?_
  refine zr_stat hM rfl rfl rfl rfl rfl rfl ?_
  refine zgo_ret rfl rfl c1_ ?_
  rw [Bool.and_true]
  refine zr_fr hM rfl rfl rfl ?_
  refine zr_fr hM rfl rfl rfl ?_
  refine zr_fr hM rfl rfl rfl ?_
  refine zr_getf (κ := (22, 0, 0)) hn hM rfl rfl rfl rfl ?_
  refine zr_fr hM rfl rfl rfl ?_
  refine zr_fr hM rfl rfl rfl ?_
  refine zr_fr hM rfl rfl rfl ?_
  refine zr_fr hM rfl rfl rfl ?_
  refine zr_fr hM rfl rfl rfl ?_
  refine zr_iald (κ := (23, 0, 0)) hn hM rfl rfl rfl z2 ?_
  refine zr_icf hM rfl rfl h3 ?_
  refine zr_fr hM rfl rfl rfl ?_
  exact zr_zret2 hM rfl rfl (by decide) rfl
set_option maxHeartbeats 4000000 in
theorem s106_0_t {n L : Nat} {σ : Ks} {g : List Nat} {cl : Bool} {p1 : Int32} {p2 : Int32} {p3 : Int32} {p4 : Int32} {p5 : Int32} {r1 : Int32} {x2 : Nat} {x4 : Nat} (hn : 2 ≤ n ∧ n ≤ 5) (c1_ : ZR 95 0 [.val (.int p2), .val (.int p1)] [] (khp n L σ g) true (.inl (some (.int r1)), khp n L σ g, true)) (z2 : zix ((r1 + ((Int8.ofInt 20).toInt32)) + p3) 820 = some x2) (h3 : zcnd .gt p5 (σ (20 + x2 / 164) (x2 % 164)) = true) (z4 : zix ((r1 + ((Int8.ofInt 16).toInt32)) + p3) 820 = some x4) : ZR 106 0 [.val (.ref (kad n (22, 0, 0))), .val (.int p1), .val (.int p2), .val (.int p3), .val (.int p4), .val (.int p5), .unset] [] (khp n L σ g) cl (.inl (some (.int (Int32.ofInt 1))), khp n L (kup (kup σ (20 + x2 / 164) (x2 % 164) p5) (20 + x4 / 164) (x4 % 164) p4) (g), false) := by
  have hM : zmi[106]? = some _ := rfl
  have l2 := (zix_some z2).2.2
  have l4 := (zix_some z4).2.2
  refine zr_fr hM rfl rfl rfl ?_
  refine zr_fr hM rfl rfl rfl ?_
  refine zr_stat hM rfl rfl rfl rfl rfl rfl ?_
  refine zgo_ret rfl rfl c1_ ?_
  rw [Bool.and_true]
  refine zr_fr hM rfl rfl rfl ?_
  refine zr_fr hM rfl rfl rfl ?_
  refine zr_fr hM rfl rfl rfl ?_
  refine zr_getf (κ := (22, 0, 0)) hn hM rfl rfl rfl rfl ?_
  refine zr_fr hM rfl rfl rfl ?_
  refine zr_fr hM rfl rfl rfl ?_
  refine zr_fr hM rfl rfl rfl ?_
  refine zr_fr hM rfl rfl rfl ?_
  refine zr_fr hM rfl rfl rfl ?_
  refine zr_iald (κ := (23, 0, 0)) hn hM rfl rfl rfl z2 ?_
  refine zr_ict hM rfl rfl h3 ?_
  refine zr_fr hM rfl rfl rfl ?_
  refine zr_getf (κ := (22, 0, 0)) hn hM rfl rfl rfl rfl ?_
  refine zr_fr hM rfl rfl rfl ?_
  refine zr_fr hM rfl rfl rfl ?_
  refine zr_fr hM rfl rfl rfl ?_
  refine zr_fr hM rfl rfl rfl ?_
  refine zr_fr hM rfl rfl rfl ?_
  refine zr_fr hM rfl rfl rfl ?_
  refine zr_iast (κ := (23, 0, 0)) hn hM rfl rfl rfl rfl z2 rfl ?_
  refine zr_fr hM rfl rfl rfl ?_
  refine zr_getf (κ := (22, 0, 0)) hn hM rfl rfl rfl rfl ?_
  refine zr_fr hM rfl rfl rfl ?_
  refine zr_fr hM rfl rfl rfl ?_
  refine zr_fr hM rfl rfl rfl ?_
  refine zr_fr hM rfl rfl rfl ?_
  refine zr_fr hM rfl rfl rfl ?_
  refine zr_fr hM rfl rfl rfl ?_
  refine zr_iast (κ := (23, 0, 0)) hn hM rfl rfl rfl rfl z4 rfl ?_
  refine zr_fr hM rfl rfl rfl ?_
  exact zr_zret2 hM rfl rfl (by decide) rfl
set_option maxHeartbeats 4000000 in
theorem s107_0_f {n L : Nat} {σ : Ks} {g : List Nat} {cl : Bool} {p1 : Int32} {p2 : Int32} {p3 : Int32} {p4 : Int32} {r1 : Int32} (hn : 2 ≤ n ∧ n ≤ 5) (c1_ : ZR 108 0 [.val (.ref (kad n (22, 0, 0))), .val (.int p2), .val (.int p1), .val (.int p3), .val (.int p4), .unset, .unset] [] (khp n L σ g) true (.inl (some (.int r1)), khp n L σ g, true)) (h2 : zcnd .ne r1 0 = false) : ZR 107 0 [.val (.ref (kad n (22, 0, 0))), .val (.int p1), .val (.int p2), .val (.int p3), .val (.int p4), .unset] [] (khp n L σ g) cl (.inl (some (.int (Int32.ofInt 0))), khp n L σ (g), cl) := by
  have hM : zmi[107]? = some _ := rfl
  refine zr_fr hM rfl rfl rfl ?_
  refine zr_fr hM rfl rfl rfl ?_
  refine zr_fr hM rfl rfl rfl ?_
  refine zr_fr hM rfl rfl rfl ?_
  refine zr_fr hM rfl rfl rfl ?_
  refine zr_virt (κ := (22, 0, 0)) hn hM rfl rfl rfl rfl rfl rfl rfl rfl rfl ?_
  refine zgo_ret rfl rfl c1_ ?_
  rw [Bool.and_true]
  refine zr_iff hM rfl rfl h2 ?_
  refine zr_fr hM rfl rfl rfl ?_
  exact zr_zret2 hM rfl rfl (by decide) rfl
set_option maxHeartbeats 4000000 in
theorem s107_0_t {n L : Nat} {σ : Ks} {g : List Nat} {cl : Bool} {p1 : Int32} {p2 : Int32} {p3 : Int32} {p4 : Int32} {r1 : Int32} {σ3 : Ks} {c3 : Bool} {r3 : Int32} (hn : 2 ≤ n ∧ n ≤ 5) (c1_ : ZR 108 0 [.val (.ref (kad n (22, 0, 0))), .val (.int p2), .val (.int p1), .val (.int p3), .val (.int p4), .unset, .unset] [] (khp n L σ g) true (.inl (some (.int r1)), khp n L σ g, true)) (h2 : zcnd .ne r1 0 = true) (c3_ : ZR 109 0 [.val (.ref (kad n (22, 0, 0))), .val (.int p2), .val (.int p1), .val (.int p3), .val (.int p4), .unset, .unset, .unset] [] (khp n L σ g) true (.inl (some (.int r3)), khp n L σ3 g, c3)) : ZR 107 0 [.val (.ref (kad n (22, 0, 0))), .val (.int p1), .val (.int p2), .val (.int p3), .val (.int p4), .unset] [] (khp n L σ g) cl (.inl (some (.int (Int32.ofInt 1))), khp n L σ3 (g), cl && c3) := by
  have hM : zmi[107]? = some _ := rfl
  refine zr_fr hM rfl rfl rfl ?_
  refine zr_fr hM rfl rfl rfl ?_
  refine zr_fr hM rfl rfl rfl ?_
  refine zr_fr hM rfl rfl rfl ?_
  refine zr_fr hM rfl rfl rfl ?_
  refine zr_virt (κ := (22, 0, 0)) hn hM rfl rfl rfl rfl rfl rfl rfl rfl rfl ?_
  refine zgo_ret rfl rfl c1_ ?_
  rw [Bool.and_true]
  refine zr_ift hM rfl rfl h2 ?_
  refine zr_fr hM rfl rfl rfl ?_
  refine zr_fr hM rfl rfl rfl ?_
  refine zr_fr hM rfl rfl rfl ?_
  refine zr_fr hM rfl rfl rfl ?_
  refine zr_fr hM rfl rfl rfl ?_
  refine zr_virt (κ := (22, 0, 0)) hn hM rfl rfl rfl rfl rfl rfl rfl rfl rfl ?_
  refine zgo_ret rfl rfl c3_ ?_
  refine zr_fr hM rfl rfl rfl ?_
  refine zr_fr hM rfl rfl rfl ?_
  exact zr_zret2 hM rfl rfl (by decide) rfl
set_option maxHeartbeats 4000000 in
theorem s108_0_ffffff {n L : Nat} {σ : Ks} {g : List Nat} {cl : Bool} {p1 : Int32} {p2 : Int32} {p3 : Int32} {p4 : Int32} {r1 : Int32} {x2 : Nat} {x4 : Nat} {x5 : Nat} {x7 : Nat} {r9 : Int32} {x10 : Nat} (hn : 2 ≤ n ∧ n ≤ 5) (c1_ : ZR 95 0 [.val (.int p1), .val (.int p2)] [] (khp n L σ g) true (.inl (some (.int r1)), khp n L σ g, true)) (z2 : zix (r1 + (Int32.ofInt 1)) 820 = some x2) (h3 : zcnd .eq (σ (20 + x2 / 164) (x2 % 164)) 0 = false) (z4 : zix r1 820 = some x4) (z5 : zix (r1 + (Int32.ofInt 2)) 820 = some x5) (h6 : zcnd .ge (σ (20 + x4 / 164) (x4 % 164)) ((σ (20 + x5 / 164) (x5 % 164)) + ((Int8.ofInt 16).toInt32)) = false) (z7 : zix p1 5 = some x7) (h8 : zcnd .ne (σ 40 x7) 0 = false) (c9_ : ZR 97 0 [.val (.int p1)] [] (khp n L σ g) true (.inl (some (.int r9)), khp n L σ g, true)) (z10 : zix (r9 + p3) 820 = some x10) (h11 : zcnd .lt (σ (20 + x10 / 164) (x10 % 164)) p4 = false) (h12 : zcnd .ge (σ (20 + x2 / 164) (x2 % 164)) (Int32.ofInt 4) = false) (h13 : zcnd .eq (Int32.ofInt 1) 0 = false) : ZR 108 0 [.val (.ref (kad n (22, 0, 0))), .val (.int p1), .val (.int p2), .val (.int p3), .val (.int p4), .unset, .unset] [] (khp n L σ g) cl (.inl (some (.int (Int32.ofInt 1))), khp n L σ (g), cl) := by
  have hM : zmi[108]? = some _ := rfl
  have l2 := (zix_some z2).2.2
  have l4 := (zix_some z4).2.2
  have l5 := (zix_some z5).2.2
  have l7 := (zix_some z7).2.2
  have l10 := (zix_some z10).2.2
  refine zr_fr hM rfl rfl rfl ?_
  refine zr_fr hM rfl rfl rfl ?_
  refine zr_stat hM rfl rfl rfl rfl rfl rfl ?_
  refine zgo_ret rfl rfl c1_ ?_
  rw [Bool.and_true]
  refine zr_fr hM rfl rfl rfl ?_
  refine zr_fr hM rfl rfl rfl ?_
  refine zr_getf (κ := (22, 0, 0)) hn hM rfl rfl rfl rfl ?_
  refine zr_fr hM rfl rfl rfl ?_
  refine zr_fr hM rfl rfl rfl ?_
  refine zr_fr hM rfl rfl rfl ?_
  refine zr_iald (κ := (23, 0, 0)) hn hM rfl rfl rfl z2 ?_
  refine zr_iff hM rfl rfl h3 ?_
  refine zr_fr hM rfl rfl rfl ?_
  refine zr_getf (κ := (22, 0, 0)) hn hM rfl rfl rfl rfl ?_
  refine zr_fr hM rfl rfl rfl ?_
  refine zr_iald (κ := (23, 0, 0)) hn hM rfl rfl rfl z4 ?_
  refine zr_fr hM rfl rfl rfl ?_
  refine zr_getf (κ := (22, 0, 0)) hn hM rfl rfl rfl rfl ?_
  refine zr_fr hM rfl rfl rfl ?_
  refine zr_fr hM rfl rfl rfl ?_
  refine zr_fr hM rfl rfl rfl ?_
  refine zr_iald (κ := (23, 0, 0)) hn hM rfl rfl rfl z5 ?_
  refine zr_fr hM rfl rfl rfl ?_
  refine zr_fr hM rfl rfl rfl ?_
  refine zr_icf hM rfl rfl h6 ?_
  refine zr_fr hM rfl rfl rfl ?_
  refine zr_fr hM rfl rfl rfl ?_
  refine zr_fr hM rfl rfl rfl ?_
  refine zr_fr hM rfl rfl rfl ?_
  refine zr_getf (κ := (22, 0, 0)) hn hM rfl rfl rfl rfl ?_
  refine zr_fr hM rfl rfl rfl ?_
  refine zr_bald (κ := (25, 0, 0)) hn hM rfl rfl rfl z7 ?_
  refine zr_iff hM rfl rfl h8 ?_
  refine zr_fr hM rfl rfl rfl ?_
  refine zr_getf (κ := (22, 0, 0)) hn hM rfl rfl rfl rfl ?_
  refine zr_fr hM rfl rfl rfl ?_
  refine zr_stat hM rfl rfl rfl rfl rfl rfl ?_
  refine zgo_ret rfl rfl c9_ ?_
  rw [Bool.and_true]
  refine zr_fr hM rfl rfl rfl ?_
  refine zr_fr hM rfl rfl rfl ?_
  refine zr_iald (κ := (23, 0, 0)) hn hM rfl rfl rfl z10 ?_
  refine zr_fr hM rfl rfl rfl ?_
  refine zr_icf hM rfl rfl h11 ?_
  refine zr_fr hM rfl rfl rfl ?_
  refine zr_getf (κ := (22, 0, 0)) hn hM rfl rfl rfl rfl ?_
  refine zr_fr hM rfl rfl rfl ?_
  refine zr_fr hM rfl rfl rfl ?_
  refine zr_fr hM rfl rfl rfl ?_
  refine zr_iald (κ := (23, 0, 0)) hn hM rfl rfl rfl z2 ?_
  refine zr_fr hM rfl rfl rfl ?_
  refine zr_icf hM rfl rfl h12 ?_
  refine zr_fr hM rfl rfl rfl ?_
  refine zr_iff hM rfl rfl h13 ?_
  refine zr_fr hM rfl rfl rfl ?_
  refine zr_fr hM rfl rfl rfl ?_
  exact zr_zret2 hM rfl rfl (by decide) rfl
set_option maxHeartbeats 4000000 in
theorem s108_0_ffffft {n L : Nat} {σ : Ks} {g : List Nat} {cl : Bool} {p1 : Int32} {p2 : Int32} {p3 : Int32} {p4 : Int32} {r1 : Int32} {x2 : Nat} {x4 : Nat} {x5 : Nat} {x7 : Nat} {r9 : Int32} {x10 : Nat} (hn : 2 ≤ n ∧ n ≤ 5) (c1_ : ZR 95 0 [.val (.int p1), .val (.int p2)] [] (khp n L σ g) true (.inl (some (.int r1)), khp n L σ g, true)) (z2 : zix (r1 + (Int32.ofInt 1)) 820 = some x2) (h3 : zcnd .eq (σ (20 + x2 / 164) (x2 % 164)) 0 = false) (z4 : zix r1 820 = some x4) (z5 : zix (r1 + (Int32.ofInt 2)) 820 = some x5) (h6 : zcnd .ge (σ (20 + x4 / 164) (x4 % 164)) ((σ (20 + x5 / 164) (x5 % 164)) + ((Int8.ofInt 16).toInt32)) = false) (z7 : zix p1 5 = some x7) (h8 : zcnd .ne (σ 40 x7) 0 = false) (c9_ : ZR 97 0 [.val (.int p1)] [] (khp n L σ g) true (.inl (some (.int r9)), khp n L σ g, true)) (z10 : zix (r9 + p3) 820 = some x10) (h11 : zcnd .lt (σ (20 + x10 / 164) (x10 % 164)) p4 = false) (h12 : zcnd .ge (σ (20 + x2 / 164) (x2 % 164)) (Int32.ofInt 4) = false) (h13 : zcnd .eq (Int32.ofInt 1) 0 = true) : ZR 108 0 [.val (.ref (kad n (22, 0, 0))), .val (.int p1), .val (.int p2), .val (.int p3), .val (.int p4), .unset, .unset] [] (khp n L σ g) cl (.inl (some (.int (Int32.ofInt 0))), khp n L σ (g), cl) := by
  have hM : zmi[108]? = some _ := rfl
  have l2 := (zix_some z2).2.2
  have l4 := (zix_some z4).2.2
  have l5 := (zix_some z5).2.2
  have l7 := (zix_some z7).2.2
  have l10 := (zix_some z10).2.2
  refine zr_fr hM rfl rfl rfl ?_
  refine zr_fr hM rfl rfl rfl ?_
  refine zr_stat hM rfl rfl rfl rfl rfl rfl ?_
  refine zgo_ret rfl rfl c1_ ?_
  rw [Bool.and_true]
  refine zr_fr hM rfl rfl rfl ?_
  refine zr_fr hM rfl rfl rfl ?_
  refine zr_getf (κ := (22, 0, 0)) hn hM rfl rfl rfl rfl ?_
  refine zr_fr hM rfl rfl rfl ?_
  refine zr_fr hM rfl rfl rfl ?_
  refine zr_fr hM rfl rfl rfl ?_
  refine zr_iald (κ := (23, 0, 0)) hn hM rfl rfl rfl z2 ?_
  refine zr_iff hM rfl rfl h3 ?_
  refine zr_fr hM rfl rfl rfl ?_
  refine zr_getf (κ := (22, 0, 0)) hn hM rfl rfl rfl rfl ?_
  refine zr_fr hM rfl rfl rfl ?_
  refine zr_iald (κ := (23, 0, 0)) hn hM rfl rfl rfl z4 ?_
  refine zr_fr hM rfl rfl rfl ?_
  refine zr_getf (κ := (22, 0, 0)) hn hM rfl rfl rfl rfl ?_
  refine zr_fr hM rfl rfl rfl ?_
  refine zr_fr hM rfl rfl rfl ?_
  refine zr_fr hM rfl rfl rfl ?_
  refine zr_iald (κ := (23, 0, 0)) hn hM rfl rfl rfl z5 ?_
  refine zr_fr hM rfl rfl rfl ?_
  refine zr_fr hM rfl rfl rfl ?_
  refine zr_icf hM rfl rfl h6 ?_
  refine zr_fr hM rfl rfl rfl ?_
  refine zr_fr hM rfl rfl rfl ?_
  refine zr_fr hM rfl rfl rfl ?_
  refine zr_fr hM rfl rfl rfl ?_
  refine zr_getf (κ := (22, 0, 0)) hn hM rfl rfl rfl rfl ?_
  refine zr_fr hM rfl rfl rfl ?_
  refine zr_bald (κ := (25, 0, 0)) hn hM rfl rfl rfl z7 ?_
  refine zr_iff hM rfl rfl h8 ?_
  refine zr_fr hM rfl rfl rfl ?_
  refine zr_getf (κ := (22, 0, 0)) hn hM rfl rfl rfl rfl ?_
  refine zr_fr hM rfl rfl rfl ?_
  refine zr_stat hM rfl rfl rfl rfl rfl rfl ?_
  refine zgo_ret rfl rfl c9_ ?_
  rw [Bool.and_true]
  refine zr_fr hM rfl rfl rfl ?_
  refine zr_fr hM rfl rfl rfl ?_
  refine zr_iald (κ := (23, 0, 0)) hn hM rfl rfl rfl z10 ?_
  refine zr_fr hM rfl rfl rfl ?_
  refine zr_icf hM rfl rfl h11 ?_
  refine zr_fr hM rfl rfl rfl ?_
  refine zr_getf (κ := (22, 0, 0)) hn hM rfl rfl rfl rfl ?_
  refine zr_fr hM rfl rfl rfl ?_
  refine zr_fr hM rfl rfl rfl ?_
  refine zr_fr hM rfl rfl rfl ?_
  refine zr_iald (κ := (23, 0, 0)) hn hM rfl rfl rfl z2 ?_
  refine zr_fr hM rfl rfl rfl ?_
  refine zr_icf hM rfl rfl h12 ?_
  refine zr_fr hM rfl rfl rfl ?_
  refine zr_ift hM rfl rfl h13 ?_
  refine zr_fr hM rfl rfl rfl ?_
  exact zr_zret2 hM rfl rfl (by decide) rfl
set_option maxHeartbeats 4000000 in
theorem s108_0_fffft {n L : Nat} {σ : Ks} {g : List Nat} {cl : Bool} {p1 : Int32} {p2 : Int32} {p3 : Int32} {p4 : Int32} {r1 : Int32} {x2 : Nat} {x4 : Nat} {x5 : Nat} {x7 : Nat} {r9 : Int32} {x10 : Nat} (hn : 2 ≤ n ∧ n ≤ 5) (c1_ : ZR 95 0 [.val (.int p1), .val (.int p2)] [] (khp n L σ g) true (.inl (some (.int r1)), khp n L σ g, true)) (z2 : zix (r1 + (Int32.ofInt 1)) 820 = some x2) (h3 : zcnd .eq (σ (20 + x2 / 164) (x2 % 164)) 0 = false) (z4 : zix r1 820 = some x4) (z5 : zix (r1 + (Int32.ofInt 2)) 820 = some x5) (h6 : zcnd .ge (σ (20 + x4 / 164) (x4 % 164)) ((σ (20 + x5 / 164) (x5 % 164)) + ((Int8.ofInt 16).toInt32)) = false) (z7 : zix p1 5 = some x7) (h8 : zcnd .ne (σ 40 x7) 0 = false) (c9_ : ZR 97 0 [.val (.int p1)] [] (khp n L σ g) true (.inl (some (.int r9)), khp n L σ g, true)) (z10 : zix (r9 + p3) 820 = some x10) (h11 : zcnd .lt (σ (20 + x10 / 164) (x10 % 164)) p4 = false) (h12 : zcnd .ge (σ (20 + x2 / 164) (x2 % 164)) (Int32.ofInt 4) = true) : ZR 108 0 [.val (.ref (kad n (22, 0, 0))), .val (.int p1), .val (.int p2), .val (.int p3), .val (.int p4), .unset, .unset] [] (khp n L σ g) cl (.inl (some (.int (Int32.ofInt 0))), khp n L σ (g), cl) := by
  have hM : zmi[108]? = some _ := rfl
  have l2 := (zix_some z2).2.2
  have l4 := (zix_some z4).2.2
  have l5 := (zix_some z5).2.2
  have l7 := (zix_some z7).2.2
  have l10 := (zix_some z10).2.2
  refine zr_fr hM rfl rfl rfl ?_
  refine zr_fr hM rfl rfl rfl ?_
  refine zr_stat hM rfl rfl rfl rfl rfl rfl ?_
  refine zgo_ret rfl rfl c1_ ?_
  rw [Bool.and_true]
  refine zr_fr hM rfl rfl rfl ?_
  refine zr_fr hM rfl rfl rfl ?_
  refine zr_getf (κ := (22, 0, 0)) hn hM rfl rfl rfl rfl ?_
  refine zr_fr hM rfl rfl rfl ?_
  refine zr_fr hM rfl rfl rfl ?_
  refine zr_fr hM rfl rfl rfl ?_
  refine zr_iald (κ := (23, 0, 0)) hn hM rfl rfl rfl z2 ?_
  refine zr_iff hM rfl rfl h3 ?_
  refine zr_fr hM rfl rfl rfl ?_
  refine zr_getf (κ := (22, 0, 0)) hn hM rfl rfl rfl rfl ?_
  refine zr_fr hM rfl rfl rfl ?_
  refine zr_iald (κ := (23, 0, 0)) hn hM rfl rfl rfl z4 ?_
  refine zr_fr hM rfl rfl rfl ?_
  refine zr_getf (κ := (22, 0, 0)) hn hM rfl rfl rfl rfl ?_
  refine zr_fr hM rfl rfl rfl ?_
  refine zr_fr hM rfl rfl rfl ?_
  refine zr_fr hM rfl rfl rfl ?_
  refine zr_iald (κ := (23, 0, 0)) hn hM rfl rfl rfl z5 ?_
  refine zr_fr hM rfl rfl rfl ?_
  refine zr_fr hM rfl rfl rfl ?_
  refine zr_icf hM rfl rfl h6 ?_
  refine zr_fr hM rfl rfl rfl ?_
  refine zr_fr hM rfl rfl rfl ?_
  refine zr_fr hM rfl rfl rfl ?_
  refine zr_fr hM rfl rfl rfl ?_
  refine zr_getf (κ := (22, 0, 0)) hn hM rfl rfl rfl rfl ?_
  refine zr_fr hM rfl rfl rfl ?_
  refine zr_bald (κ := (25, 0, 0)) hn hM rfl rfl rfl z7 ?_
  refine zr_iff hM rfl rfl h8 ?_
  refine zr_fr hM rfl rfl rfl ?_
  refine zr_getf (κ := (22, 0, 0)) hn hM rfl rfl rfl rfl ?_
  refine zr_fr hM rfl rfl rfl ?_
  refine zr_stat hM rfl rfl rfl rfl rfl rfl ?_
  refine zgo_ret rfl rfl c9_ ?_
  rw [Bool.and_true]
  refine zr_fr hM rfl rfl rfl ?_
  refine zr_fr hM rfl rfl rfl ?_
  refine zr_iald (κ := (23, 0, 0)) hn hM rfl rfl rfl z10 ?_
  refine zr_fr hM rfl rfl rfl ?_
  refine zr_icf hM rfl rfl h11 ?_
  refine zr_fr hM rfl rfl rfl ?_
  refine zr_getf (κ := (22, 0, 0)) hn hM rfl rfl rfl rfl ?_
  refine zr_fr hM rfl rfl rfl ?_
  refine zr_fr hM rfl rfl rfl ?_
  refine zr_fr hM rfl rfl rfl ?_
  refine zr_iald (κ := (23, 0, 0)) hn hM rfl rfl rfl z2 ?_
  refine zr_fr hM rfl rfl rfl ?_
  refine zr_ict hM rfl rfl h12 ?_
  refine zr_fr hM rfl rfl rfl ?_
  exact zr_zret2 hM rfl rfl (by decide) rfl
set_option maxHeartbeats 4000000 in
theorem s108_0_ffft {n L : Nat} {σ : Ks} {g : List Nat} {cl : Bool} {p1 : Int32} {p2 : Int32} {p3 : Int32} {p4 : Int32} {r1 : Int32} {x2 : Nat} {x4 : Nat} {x5 : Nat} {x7 : Nat} {r9 : Int32} {x10 : Nat} (hn : 2 ≤ n ∧ n ≤ 5) (c1_ : ZR 95 0 [.val (.int p1), .val (.int p2)] [] (khp n L σ g) true (.inl (some (.int r1)), khp n L σ g, true)) (z2 : zix (r1 + (Int32.ofInt 1)) 820 = some x2) (h3 : zcnd .eq (σ (20 + x2 / 164) (x2 % 164)) 0 = false) (z4 : zix r1 820 = some x4) (z5 : zix (r1 + (Int32.ofInt 2)) 820 = some x5) (h6 : zcnd .ge (σ (20 + x4 / 164) (x4 % 164)) ((σ (20 + x5 / 164) (x5 % 164)) + ((Int8.ofInt 16).toInt32)) = false) (z7 : zix p1 5 = some x7) (h8 : zcnd .ne (σ 40 x7) 0 = false) (c9_ : ZR 97 0 [.val (.int p1)] [] (khp n L σ g) true (.inl (some (.int r9)), khp n L σ g, true)) (z10 : zix (r9 + p3) 820 = some x10) (h11 : zcnd .lt (σ (20 + x10 / 164) (x10 % 164)) p4 = true) : ZR 108 0 [.val (.ref (kad n (22, 0, 0))), .val (.int p1), .val (.int p2), .val (.int p3), .val (.int p4), .unset, .unset] [] (khp n L σ g) cl (.inl (some (.int (Int32.ofInt 0))), khp n L σ (g), cl) := by
  have hM : zmi[108]? = some _ := rfl
  have l2 := (zix_some z2).2.2
  have l4 := (zix_some z4).2.2
  have l5 := (zix_some z5).2.2
  have l7 := (zix_some z7).2.2
  have l10 := (zix_some z10).2.2
  refine zr_fr hM rfl rfl rfl ?_
  refine zr_fr hM rfl rfl rfl ?_
  refine zr_stat hM rfl rfl rfl rfl rfl rfl ?_
  refine zgo_ret rfl rfl c1_ ?_
  rw [Bool.and_true]
  refine zr_fr hM rfl rfl rfl ?_
  refine zr_fr hM rfl rfl rfl ?_
  refine zr_getf (κ := (22, 0, 0)) hn hM rfl rfl rfl rfl ?_
  refine zr_fr hM rfl rfl rfl ?_
  refine zr_fr hM rfl rfl rfl ?_
  refine zr_fr hM rfl rfl rfl ?_
  refine zr_iald (κ := (23, 0, 0)) hn hM rfl rfl rfl z2 ?_
  refine zr_iff hM rfl rfl h3 ?_
  refine zr_fr hM rfl rfl rfl ?_
  refine zr_getf (κ := (22, 0, 0)) hn hM rfl rfl rfl rfl ?_
  refine zr_fr hM rfl rfl rfl ?_
  refine zr_iald (κ := (23, 0, 0)) hn hM rfl rfl rfl z4 ?_
  refine zr_fr hM rfl rfl rfl ?_
  refine zr_getf (κ := (22, 0, 0)) hn hM rfl rfl rfl rfl ?_
  refine zr_fr hM rfl rfl rfl ?_
  refine zr_fr hM rfl rfl rfl ?_
  refine zr_fr hM rfl rfl rfl ?_
  refine zr_iald (κ := (23, 0, 0)) hn hM rfl rfl rfl z5 ?_
  refine zr_fr hM rfl rfl rfl ?_
  refine zr_fr hM rfl rfl rfl ?_
  refine zr_icf hM rfl rfl h6 ?_
  refine zr_fr hM rfl rfl rfl ?_
  refine zr_fr hM rfl rfl rfl ?_
  refine zr_fr hM rfl rfl rfl ?_
  refine zr_fr hM rfl rfl rfl ?_
  refine zr_getf (κ := (22, 0, 0)) hn hM rfl rfl rfl rfl ?_
  refine zr_fr hM rfl rfl rfl ?_
  refine zr_bald (κ := (25, 0, 0)) hn hM rfl rfl rfl z7 ?_
  refine zr_iff hM rfl rfl h8 ?_
  refine zr_fr hM rfl rfl rfl ?_
  refine zr_getf (κ := (22, 0, 0)) hn hM rfl rfl rfl rfl ?_
  refine zr_fr hM rfl rfl rfl ?_
  refine zr_stat hM rfl rfl rfl rfl rfl rfl ?_
  refine zgo_ret rfl rfl c9_ ?_
  rw [Bool.and_true]
  refine zr_fr hM rfl rfl rfl ?_
  refine zr_fr hM rfl rfl rfl ?_
  refine zr_iald (κ := (23, 0, 0)) hn hM rfl rfl rfl z10 ?_
  refine zr_fr hM rfl rfl rfl ?_
  refine zr_ict hM rfl rfl h11 ?_
  refine zr_fr hM rfl rfl rfl ?_
  exact zr_zret2 hM rfl rfl (by decide) rfl
set_option maxHeartbeats 4000000 in
theorem s108_0_fft {n L : Nat} {σ : Ks} {g : List Nat} {cl : Bool} {p1 : Int32} {p2 : Int32} {p3 : Int32} {p4 : Int32} {r1 : Int32} {x2 : Nat} {x4 : Nat} {x5 : Nat} {x7 : Nat} (hn : 2 ≤ n ∧ n ≤ 5) (c1_ : ZR 95 0 [.val (.int p1), .val (.int p2)] [] (khp n L σ g) true (.inl (some (.int r1)), khp n L σ g, true)) (z2 : zix (r1 + (Int32.ofInt 1)) 820 = some x2) (h3 : zcnd .eq (σ (20 + x2 / 164) (x2 % 164)) 0 = false) (z4 : zix r1 820 = some x4) (z5 : zix (r1 + (Int32.ofInt 2)) 820 = some x5) (h6 : zcnd .ge (σ (20 + x4 / 164) (x4 % 164)) ((σ (20 + x5 / 164) (x5 % 164)) + ((Int8.ofInt 16).toInt32)) = false) (z7 : zix p1 5 = some x7) (h8 : zcnd .ne (σ 40 x7) 0 = true) : ZR 108 0 [.val (.ref (kad n (22, 0, 0))), .val (.int p1), .val (.int p2), .val (.int p3), .val (.int p4), .unset, .unset] [] (khp n L σ g) cl (.inl (some (.int (Int32.ofInt 0))), khp n L σ (g), cl) := by
  have hM : zmi[108]? = some _ := rfl
  have l2 := (zix_some z2).2.2
  have l4 := (zix_some z4).2.2
  have l5 := (zix_some z5).2.2
  have l7 := (zix_some z7).2.2
  refine zr_fr hM rfl rfl rfl ?_
  refine zr_fr hM rfl rfl rfl ?_
  refine zr_stat hM rfl rfl rfl rfl rfl rfl ?_
  refine zgo_ret rfl rfl c1_ ?_
  rw [Bool.and_true]
  refine zr_fr hM rfl rfl rfl ?_
  refine zr_fr hM rfl rfl rfl ?_
  refine zr_getf (κ := (22, 0, 0)) hn hM rfl rfl rfl rfl ?_
  refine zr_fr hM rfl rfl rfl ?_
  refine zr_fr hM rfl rfl rfl ?_
  refine zr_fr hM rfl rfl rfl ?_
  refine zr_iald (κ := (23, 0, 0)) hn hM rfl rfl rfl z2 ?_
  refine zr_iff hM rfl rfl h3 ?_
  refine zr_fr hM rfl rfl rfl ?_
  refine zr_getf (κ := (22, 0, 0)) hn hM rfl rfl rfl rfl ?_
  refine zr_fr hM rfl rfl rfl ?_
  refine zr_iald (κ := (23, 0, 0)) hn hM rfl rfl rfl z4 ?_
  refine zr_fr hM rfl rfl rfl ?_
  refine zr_getf (κ := (22, 0, 0)) hn hM rfl rfl rfl rfl ?_
  refine zr_fr hM rfl rfl rfl ?_
  refine zr_fr hM rfl rfl rfl ?_
  refine zr_fr hM rfl rfl rfl ?_
  refine zr_iald (κ := (23, 0, 0)) hn hM rfl rfl rfl z5 ?_
  refine zr_fr hM rfl rfl rfl ?_
  refine zr_fr hM rfl rfl rfl ?_
  refine zr_icf hM rfl rfl h6 ?_
  refine zr_fr hM rfl rfl rfl ?_
  refine zr_fr hM rfl rfl rfl ?_
  refine zr_fr hM rfl rfl rfl ?_
  refine zr_fr hM rfl rfl rfl ?_
  refine zr_getf (κ := (22, 0, 0)) hn hM rfl rfl rfl rfl ?_
  refine zr_fr hM rfl rfl rfl ?_
  refine zr_bald (κ := (25, 0, 0)) hn hM rfl rfl rfl z7 ?_
  refine zr_ift hM rfl rfl h8 ?_
  refine zr_fr hM rfl rfl rfl ?_
  exact zr_zret2 hM rfl rfl (by decide) rfl
set_option maxHeartbeats 4000000 in
theorem s108_0_ftffff {n L : Nat} {σ : Ks} {g : List Nat} {cl : Bool} {p1 : Int32} {p2 : Int32} {p3 : Int32} {p4 : Int32} {r1 : Int32} {x2 : Nat} {x4 : Nat} {x5 : Nat} {x7 : Nat} {r9 : Int32} {x10 : Nat} (hn : 2 ≤ n ∧ n ≤ 5) (c1_ : ZR 95 0 [.val (.int p1), .val (.int p2)] [] (khp n L σ g) true (.inl (some (.int r1)), khp n L σ g, true)) (z2 : zix (r1 + (Int32.ofInt 1)) 820 = some x2) (h3 : zcnd .eq (σ (20 + x2 / 164) (x2 % 164)) 0 = false) (z4 : zix r1 820 = some x4) (z5 : zix (r1 + (Int32.ofInt 2)) 820 = some x5) (h6 : zcnd .ge (σ (20 + x4 / 164) (x4 % 164)) ((σ (20 + x5 / 164) (x5 % 164)) + ((Int8.ofInt 16).toInt32)) = true) (z7 : zix p1 5 = some x7) (h8 : zcnd .ne (σ 40 x7) 0 = false) (c9_ : ZR 97 0 [.val (.int p1)] [] (khp n L σ g) true (.inl (some (.int r9)), khp n L σ g, true)) (z10 : zix (r9 + p3) 820 = some x10) (h11 : zcnd .lt (σ (20 + x10 / 164) (x10 % 164)) p4 = false) (h12 : zcnd .ge (σ (20 + x2 / 164) (x2 % 164)) (Int32.ofInt 4) = false) (h13 : zcnd .eq (Int32.ofInt 0) 0 = false) : ZR 108 0 [.val (.ref (kad n (22, 0, 0))), .val (.int p1), .val (.int p2), .val (.int p3), .val (.int p4), .unset, .unset] [] (khp n L σ g) cl (.inl (some (.int (Int32.ofInt 1))), khp n L σ (g), cl) := by
  have hM : zmi[108]? = some _ := rfl
  have l2 := (zix_some z2).2.2
  have l4 := (zix_some z4).2.2
  have l5 := (zix_some z5).2.2
  have l7 := (zix_some z7).2.2
  have l10 := (zix_some z10).2.2
  refine zr_fr hM rfl rfl rfl ?_
  refine zr_fr hM rfl rfl rfl ?_
  refine zr_stat hM rfl rfl rfl rfl rfl rfl ?_
  refine zgo_ret rfl rfl c1_ ?_
  rw [Bool.and_true]
  refine zr_fr hM rfl rfl rfl ?_
  refine zr_fr hM rfl rfl rfl ?_
  refine zr_getf (κ := (22, 0, 0)) hn hM rfl rfl rfl rfl ?_
  refine zr_fr hM rfl rfl rfl ?_
  refine zr_fr hM rfl rfl rfl ?_
  refine zr_fr hM rfl rfl rfl ?_
  refine zr_iald (κ := (23, 0, 0)) hn hM rfl rfl rfl z2 ?_
  refine zr_iff hM rfl rfl h3 ?_
  refine zr_fr hM rfl rfl rfl ?_
  refine zr_getf (κ := (22, 0, 0)) hn hM rfl rfl rfl rfl ?_
  refine zr_fr hM rfl rfl rfl ?_
  refine zr_iald (κ := (23, 0, 0)) hn hM rfl rfl rfl z4 ?_
  refine zr_fr hM rfl rfl rfl ?_
  refine zr_getf (κ := (22, 0, 0)) hn hM rfl rfl rfl rfl ?_
  refine zr_fr hM rfl rfl rfl ?_
  refine zr_fr hM rfl rfl rfl ?_
  refine zr_fr hM rfl rfl rfl ?_
  refine zr_iald (κ := (23, 0, 0)) hn hM rfl rfl rfl z5 ?_
  refine zr_fr hM rfl rfl rfl ?_
  refine zr_fr hM rfl rfl rfl ?_
  refine zr_ict hM rfl rfl h6 ?_
  refine zr_fr hM rfl rfl rfl ?_
  refine zr_fr hM rfl rfl rfl ?_
  refine zr_fr hM rfl rfl rfl ?_
  refine zr_getf (κ := (22, 0, 0)) hn hM rfl rfl rfl rfl ?_
  refine zr_fr hM rfl rfl rfl ?_
  refine zr_bald (κ := (25, 0, 0)) hn hM rfl rfl rfl z7 ?_
  refine zr_iff hM rfl rfl h8 ?_
  refine zr_fr hM rfl rfl rfl ?_
  refine zr_getf (κ := (22, 0, 0)) hn hM rfl rfl rfl rfl ?_
  refine zr_fr hM rfl rfl rfl ?_
  refine zr_stat hM rfl rfl rfl rfl rfl rfl ?_
  refine zgo_ret rfl rfl c9_ ?_
  rw [Bool.and_true]
  refine zr_fr hM rfl rfl rfl ?_
  refine zr_fr hM rfl rfl rfl ?_
  refine zr_iald (κ := (23, 0, 0)) hn hM rfl rfl rfl z10 ?_
  refine zr_fr hM rfl rfl rfl ?_
  refine zr_icf hM rfl rfl h11 ?_
  refine zr_fr hM rfl rfl rfl ?_
  refine zr_getf (κ := (22, 0, 0)) hn hM rfl rfl rfl rfl ?_
  refine zr_fr hM rfl rfl rfl ?_
  refine zr_fr hM rfl rfl rfl ?_
  refine zr_fr hM rfl rfl rfl ?_
  refine zr_iald (κ := (23, 0, 0)) hn hM rfl rfl rfl z2 ?_
  refine zr_fr hM rfl rfl rfl ?_
  refine zr_icf hM rfl rfl h12 ?_
  refine zr_fr hM rfl rfl rfl ?_
  refine zr_iff hM rfl rfl h13 ?_
  refine zr_fr hM rfl rfl rfl ?_
  refine zr_fr hM rfl rfl rfl ?_
  exact zr_zret2 hM rfl rfl (by decide) rfl
set_option maxHeartbeats 4000000 in
theorem s108_0_ftffft {n L : Nat} {σ : Ks} {g : List Nat} {cl : Bool} {p1 : Int32} {p2 : Int32} {p3 : Int32} {p4 : Int32} {r1 : Int32} {x2 : Nat} {x4 : Nat} {x5 : Nat} {x7 : Nat} {r9 : Int32} {x10 : Nat} (hn : 2 ≤ n ∧ n ≤ 5) (c1_ : ZR 95 0 [.val (.int p1), .val (.int p2)] [] (khp n L σ g) true (.inl (some (.int r1)), khp n L σ g, true)) (z2 : zix (r1 + (Int32.ofInt 1)) 820 = some x2) (h3 : zcnd .eq (σ (20 + x2 / 164) (x2 % 164)) 0 = false) (z4 : zix r1 820 = some x4) (z5 : zix (r1 + (Int32.ofInt 2)) 820 = some x5) (h6 : zcnd .ge (σ (20 + x4 / 164) (x4 % 164)) ((σ (20 + x5 / 164) (x5 % 164)) + ((Int8.ofInt 16).toInt32)) = true) (z7 : zix p1 5 = some x7) (h8 : zcnd .ne (σ 40 x7) 0 = false) (c9_ : ZR 97 0 [.val (.int p1)] [] (khp n L σ g) true (.inl (some (.int r9)), khp n L σ g, true)) (z10 : zix (r9 + p3) 820 = some x10) (h11 : zcnd .lt (σ (20 + x10 / 164) (x10 % 164)) p4 = false) (h12 : zcnd .ge (σ (20 + x2 / 164) (x2 % 164)) (Int32.ofInt 4) = false) (h13 : zcnd .eq (Int32.ofInt 0) 0 = true) : ZR 108 0 [.val (.ref (kad n (22, 0, 0))), .val (.int p1), .val (.int p2), .val (.int p3), .val (.int p4), .unset, .unset] [] (khp n L σ g) cl (.inl (some (.int (Int32.ofInt 0))), khp n L σ (g), cl) := by
  have hM : zmi[108]? = some _ := rfl
  have l2 := (zix_some z2).2.2
  have l4 := (zix_some z4).2.2
  have l5 := (zix_some z5).2.2
  have l7 := (zix_some z7).2.2
  have l10 := (zix_some z10).2.2
  refine zr_fr hM rfl rfl rfl ?_
  refine zr_fr hM rfl rfl rfl ?_
  refine zr_stat hM rfl rfl rfl rfl rfl rfl ?_
  refine zgo_ret rfl rfl c1_ ?_
  rw [Bool.and_true]
  refine zr_fr hM rfl rfl rfl ?_
  refine zr_fr hM rfl rfl rfl ?_
  refine zr_getf (κ := (22, 0, 0)) hn hM rfl rfl rfl rfl ?_
  refine zr_fr hM rfl rfl rfl ?_
  refine zr_fr hM rfl rfl rfl ?_
  refine zr_fr hM rfl rfl rfl ?_
  refine zr_iald (κ := (23, 0, 0)) hn hM rfl rfl rfl z2 ?_
  refine zr_iff hM rfl rfl h3 ?_
  refine zr_fr hM rfl rfl rfl ?_
  refine zr_getf (κ := (22, 0, 0)) hn hM rfl rfl rfl rfl ?_
  refine zr_fr hM rfl rfl rfl ?_
  refine zr_iald (κ := (23, 0, 0)) hn hM rfl rfl rfl z4 ?_
  refine zr_fr hM rfl rfl rfl ?_
  refine zr_getf (κ := (22, 0, 0)) hn hM rfl rfl rfl rfl ?_
  refine zr_fr hM rfl rfl rfl ?_
  refine zr_fr hM rfl rfl rfl ?_
  refine zr_fr hM rfl rfl rfl ?_
  refine zr_iald (κ := (23, 0, 0)) hn hM rfl rfl rfl z5 ?_
  refine zr_fr hM rfl rfl rfl ?_
  refine zr_fr hM rfl rfl rfl ?_
  refine zr_ict hM rfl rfl h6 ?_
  refine zr_fr hM rfl rfl rfl ?_
  refine zr_fr hM rfl rfl rfl ?_
  refine zr_fr hM rfl rfl rfl ?_
  refine zr_getf (κ := (22, 0, 0)) hn hM rfl rfl rfl rfl ?_
  refine zr_fr hM rfl rfl rfl ?_
  refine zr_bald (κ := (25, 0, 0)) hn hM rfl rfl rfl z7 ?_
  refine zr_iff hM rfl rfl h8 ?_
  refine zr_fr hM rfl rfl rfl ?_
  refine zr_getf (κ := (22, 0, 0)) hn hM rfl rfl rfl rfl ?_
  refine zr_fr hM rfl rfl rfl ?_
  refine zr_stat hM rfl rfl rfl rfl rfl rfl ?_
  refine zgo_ret rfl rfl c9_ ?_
  rw [Bool.and_true]
  refine zr_fr hM rfl rfl rfl ?_
  refine zr_fr hM rfl rfl rfl ?_
  refine zr_iald (κ := (23, 0, 0)) hn hM rfl rfl rfl z10 ?_
  refine zr_fr hM rfl rfl rfl ?_
  refine zr_icf hM rfl rfl h11 ?_
  refine zr_fr hM rfl rfl rfl ?_
  refine zr_getf (κ := (22, 0, 0)) hn hM rfl rfl rfl rfl ?_
  refine zr_fr hM rfl rfl rfl ?_
  refine zr_fr hM rfl rfl rfl ?_
  refine zr_fr hM rfl rfl rfl ?_
  refine zr_iald (κ := (23, 0, 0)) hn hM rfl rfl rfl z2 ?_
  refine zr_fr hM rfl rfl rfl ?_
  refine zr_icf hM rfl rfl h12 ?_
  refine zr_fr hM rfl rfl rfl ?_
  refine zr_ift hM rfl rfl h13 ?_
  refine zr_fr hM rfl rfl rfl ?_
  exact zr_zret2 hM rfl rfl (by decide) rfl
set_option maxHeartbeats 4000000 in
theorem s108_0_ftfft {n L : Nat} {σ : Ks} {g : List Nat} {cl : Bool} {p1 : Int32} {p2 : Int32} {p3 : Int32} {p4 : Int32} {r1 : Int32} {x2 : Nat} {x4 : Nat} {x5 : Nat} {x7 : Nat} {r9 : Int32} {x10 : Nat} (hn : 2 ≤ n ∧ n ≤ 5) (c1_ : ZR 95 0 [.val (.int p1), .val (.int p2)] [] (khp n L σ g) true (.inl (some (.int r1)), khp n L σ g, true)) (z2 : zix (r1 + (Int32.ofInt 1)) 820 = some x2) (h3 : zcnd .eq (σ (20 + x2 / 164) (x2 % 164)) 0 = false) (z4 : zix r1 820 = some x4) (z5 : zix (r1 + (Int32.ofInt 2)) 820 = some x5) (h6 : zcnd .ge (σ (20 + x4 / 164) (x4 % 164)) ((σ (20 + x5 / 164) (x5 % 164)) + ((Int8.ofInt 16).toInt32)) = true) (z7 : zix p1 5 = some x7) (h8 : zcnd .ne (σ 40 x7) 0 = false) (c9_ : ZR 97 0 [.val (.int p1)] [] (khp n L σ g) true (.inl (some (.int r9)), khp n L σ g, true)) (z10 : zix (r9 + p3) 820 = some x10) (h11 : zcnd .lt (σ (20 + x10 / 164) (x10 % 164)) p4 = false) (h12 : zcnd .ge (σ (20 + x2 / 164) (x2 % 164)) (Int32.ofInt 4) = true) : ZR 108 0 [.val (.ref (kad n (22, 0, 0))), .val (.int p1), .val (.int p2), .val (.int p3), .val (.int p4), .unset, .unset] [] (khp n L σ g) cl (.inl (some (.int (Int32.ofInt 0))), khp n L σ (g), cl) := by
  have hM : zmi[108]? = some _ := rfl
  have l2 := (zix_some z2).2.2
  have l4 := (zix_some z4).2.2
  have l5 := (zix_some z5).2.2
  have l7 := (zix_some z7).2.2
  have l10 := (zix_some z10).2.2
  refine zr_fr hM rfl rfl rfl ?_
  refine zr_fr hM rfl rfl rfl ?_
  refine zr_stat hM rfl rfl rfl rfl rfl rfl ?_
  refine zgo_ret rfl rfl c1_ ?_
  rw [Bool.and_true]
  refine zr_fr hM rfl rfl rfl ?_
  refine zr_fr hM rfl rfl rfl ?_
  refine zr_getf (κ := (22, 0, 0)) hn hM rfl rfl rfl rfl ?_
  refine zr_fr hM rfl rfl rfl ?_
  refine zr_fr hM rfl rfl rfl ?_
  refine zr_fr hM rfl rfl rfl ?_
  refine zr_iald (κ := (23, 0, 0)) hn hM rfl rfl rfl z2 ?_
  refine zr_iff hM rfl rfl h3 ?_
  refine zr_fr hM rfl rfl rfl ?_
  refine zr_getf (κ := (22, 0, 0)) hn hM rfl rfl rfl rfl ?_
  refine zr_fr hM rfl rfl rfl ?_
  refine zr_iald (κ := (23, 0, 0)) hn hM rfl rfl rfl z4 ?_
  refine zr_fr hM rfl rfl rfl ?_
  refine zr_getf (κ := (22, 0, 0)) hn hM rfl rfl rfl rfl ?_
  refine zr_fr hM rfl rfl rfl ?_
  refine zr_fr hM rfl rfl rfl ?_
  refine zr_fr hM rfl rfl rfl ?_
  refine zr_iald (κ := (23, 0, 0)) hn hM rfl rfl rfl z5 ?_
  refine zr_fr hM rfl rfl rfl ?_
  refine zr_fr hM rfl rfl rfl ?_
  refine zr_ict hM rfl rfl h6 ?_
  refine zr_fr hM rfl rfl rfl ?_
  refine zr_fr hM rfl rfl rfl ?_
  refine zr_fr hM rfl rfl rfl ?_
  refine zr_getf (κ := (22, 0, 0)) hn hM rfl rfl rfl rfl ?_
  refine zr_fr hM rfl rfl rfl ?_
  refine zr_bald (κ := (25, 0, 0)) hn hM rfl rfl rfl z7 ?_
  refine zr_iff hM rfl rfl h8 ?_
  refine zr_fr hM rfl rfl rfl ?_
  refine zr_getf (κ := (22, 0, 0)) hn hM rfl rfl rfl rfl ?_
  refine zr_fr hM rfl rfl rfl ?_
  refine zr_stat hM rfl rfl rfl rfl rfl rfl ?_
  refine zgo_ret rfl rfl c9_ ?_
  rw [Bool.and_true]
  refine zr_fr hM rfl rfl rfl ?_
  refine zr_fr hM rfl rfl rfl ?_
  refine zr_iald (κ := (23, 0, 0)) hn hM rfl rfl rfl z10 ?_
  refine zr_fr hM rfl rfl rfl ?_
  refine zr_icf hM rfl rfl h11 ?_
  refine zr_fr hM rfl rfl rfl ?_
  refine zr_getf (κ := (22, 0, 0)) hn hM rfl rfl rfl rfl ?_
  refine zr_fr hM rfl rfl rfl ?_
  refine zr_fr hM rfl rfl rfl ?_
  refine zr_fr hM rfl rfl rfl ?_
  refine zr_iald (κ := (23, 0, 0)) hn hM rfl rfl rfl z2 ?_
  refine zr_fr hM rfl rfl rfl ?_
  refine zr_ict hM rfl rfl h12 ?_
  refine zr_fr hM rfl rfl rfl ?_
  exact zr_zret2 hM rfl rfl (by decide) rfl
set_option maxHeartbeats 4000000 in
theorem s108_0_ftft {n L : Nat} {σ : Ks} {g : List Nat} {cl : Bool} {p1 : Int32} {p2 : Int32} {p3 : Int32} {p4 : Int32} {r1 : Int32} {x2 : Nat} {x4 : Nat} {x5 : Nat} {x7 : Nat} {r9 : Int32} {x10 : Nat} (hn : 2 ≤ n ∧ n ≤ 5) (c1_ : ZR 95 0 [.val (.int p1), .val (.int p2)] [] (khp n L σ g) true (.inl (some (.int r1)), khp n L σ g, true)) (z2 : zix (r1 + (Int32.ofInt 1)) 820 = some x2) (h3 : zcnd .eq (σ (20 + x2 / 164) (x2 % 164)) 0 = false) (z4 : zix r1 820 = some x4) (z5 : zix (r1 + (Int32.ofInt 2)) 820 = some x5) (h6 : zcnd .ge (σ (20 + x4 / 164) (x4 % 164)) ((σ (20 + x5 / 164) (x5 % 164)) + ((Int8.ofInt 16).toInt32)) = true) (z7 : zix p1 5 = some x7) (h8 : zcnd .ne (σ 40 x7) 0 = false) (c9_ : ZR 97 0 [.val (.int p1)] [] (khp n L σ g) true (.inl (some (.int r9)), khp n L σ g, true)) (z10 : zix (r9 + p3) 820 = some x10) (h11 : zcnd .lt (σ (20 + x10 / 164) (x10 % 164)) p4 = true) : ZR 108 0 [.val (.ref (kad n (22, 0, 0))), .val (.int p1), .val (.int p2), .val (.int p3), .val (.int p4), .unset, .unset] [] (khp n L σ g) cl (.inl (some (.int (Int32.ofInt 0))), khp n L σ (g), cl) := by
  have hM : zmi[108]? = some _ := rfl
  have l2 := (zix_some z2).2.2
  have l4 := (zix_some z4).2.2
  have l5 := (zix_some z5).2.2
  have l7 := (zix_some z7).2.2
  have l10 := (zix_some z10).2.2
  refine zr_fr hM rfl rfl rfl ?_
  refine zr_fr hM rfl rfl rfl ?_
  refine zr_stat hM rfl rfl rfl rfl rfl rfl ?_
  refine zgo_ret rfl rfl c1_ ?_
  rw [Bool.and_true]
  refine zr_fr hM rfl rfl rfl ?_
  refine zr_fr hM rfl rfl rfl ?_
  refine zr_getf (κ := (22, 0, 0)) hn hM rfl rfl rfl rfl ?_
  refine zr_fr hM rfl rfl rfl ?_
  refine zr_fr hM rfl rfl rfl ?_
  refine zr_fr hM rfl rfl rfl ?_
  refine zr_iald (κ := (23, 0, 0)) hn hM rfl rfl rfl z2 ?_
  refine zr_iff hM rfl rfl h3 ?_
  refine zr_fr hM rfl rfl rfl ?_
  refine zr_getf (κ := (22, 0, 0)) hn hM rfl rfl rfl rfl ?_
  refine zr_fr hM rfl rfl rfl ?_
  refine zr_iald (κ := (23, 0, 0)) hn hM rfl rfl rfl z4 ?_
  refine zr_fr hM rfl rfl rfl ?_
  refine zr_getf (κ := (22, 0, 0)) hn hM rfl rfl rfl rfl ?_
  refine zr_fr hM rfl rfl rfl ?_
  refine zr_fr hM rfl rfl rfl ?_
  refine zr_fr hM rfl rfl rfl ?_
  refine zr_iald (κ := (23, 0, 0)) hn hM rfl rfl rfl z5 ?_
  refine zr_fr hM rfl rfl rfl ?_
  refine zr_fr hM rfl rfl rfl ?_
  refine zr_ict hM rfl rfl h6 ?_
  refine zr_fr hM rfl rfl rfl ?_
  refine zr_fr hM rfl rfl rfl ?_
  refine zr_fr hM rfl rfl rfl ?_
  refine zr_getf (κ := (22, 0, 0)) hn hM rfl rfl rfl rfl ?_
  refine zr_fr hM rfl rfl rfl ?_
  refine zr_bald (κ := (25, 0, 0)) hn hM rfl rfl rfl z7 ?_
  refine zr_iff hM rfl rfl h8 ?_
  refine zr_fr hM rfl rfl rfl ?_
  refine zr_getf (κ := (22, 0, 0)) hn hM rfl rfl rfl rfl ?_
  refine zr_fr hM rfl rfl rfl ?_
  refine zr_stat hM rfl rfl rfl rfl rfl rfl ?_
  refine zgo_ret rfl rfl c9_ ?_
  rw [Bool.and_true]
  refine zr_fr hM rfl rfl rfl ?_
  refine zr_fr hM rfl rfl rfl ?_
  refine zr_iald (κ := (23, 0, 0)) hn hM rfl rfl rfl z10 ?_
  refine zr_fr hM rfl rfl rfl ?_
  refine zr_ict hM rfl rfl h11 ?_
  refine zr_fr hM rfl rfl rfl ?_
  exact zr_zret2 hM rfl rfl (by decide) rfl
set_option maxHeartbeats 4000000 in
theorem s108_0_ftt {n L : Nat} {σ : Ks} {g : List Nat} {cl : Bool} {p1 : Int32} {p2 : Int32} {p3 : Int32} {p4 : Int32} {r1 : Int32} {x2 : Nat} {x4 : Nat} {x5 : Nat} {x7 : Nat} (hn : 2 ≤ n ∧ n ≤ 5) (c1_ : ZR 95 0 [.val (.int p1), .val (.int p2)] [] (khp n L σ g) true (.inl (some (.int r1)), khp n L σ g, true)) (z2 : zix (r1 + (Int32.ofInt 1)) 820 = some x2) (h3 : zcnd .eq (σ (20 + x2 / 164) (x2 % 164)) 0 = false) (z4 : zix r1 820 = some x4) (z5 : zix (r1 + (Int32.ofInt 2)) 820 = some x5) (h6 : zcnd .ge (σ (20 + x4 / 164) (x4 % 164)) ((σ (20 + x5 / 164) (x5 % 164)) + ((Int8.ofInt 16).toInt32)) = true) (z7 : zix p1 5 = some x7) (h8 : zcnd .ne (σ 40 x7) 0 = true) : ZR 108 0 [.val (.ref (kad n (22, 0, 0))), .val (.int p1), .val (.int p2), .val (.int p3), .val (.int p4), .unset, .unset] [] (khp n L σ g) cl (.inl (some (.int (Int32.ofInt 0))), khp n L σ (g), cl) := by
  have hM : zmi[108]? = some _ := rfl
  have l2 := (zix_some z2).2.2
  have l4 := (zix_some z4).2.2
  have l5 := (zix_some z5).2.2
  have l7 := (zix_some z7).2.2
  refine zr_fr hM rfl rfl rfl ?_
  refine zr_fr hM rfl rfl rfl ?_
  refine zr_stat hM rfl rfl rfl rfl rfl rfl ?_
  refine zgo_ret rfl rfl c1_ ?_
  rw [Bool.and_true]
  refine zr_fr hM rfl rfl rfl ?_
  refine zr_fr hM rfl rfl rfl ?_
  refine zr_getf (κ := (22, 0, 0)) hn hM rfl rfl rfl rfl ?_
  refine zr_fr hM rfl rfl rfl ?_
  refine zr_fr hM rfl rfl rfl ?_
  refine zr_fr hM rfl rfl rfl ?_
  refine zr_iald (κ := (23, 0, 0)) hn hM rfl rfl rfl z2 ?_
  refine zr_iff hM rfl rfl h3 ?_
  refine zr_fr hM rfl rfl rfl ?_
  refine zr_getf (κ := (22, 0, 0)) hn hM rfl rfl rfl rfl ?_
  refine zr_fr hM rfl rfl rfl ?_
  refine zr_iald (κ := (23, 0, 0)) hn hM rfl rfl rfl z4 ?_
  refine zr_fr hM rfl rfl rfl ?_
  refine zr_getf (κ := (22, 0, 0)) hn hM rfl rfl rfl rfl ?_
  refine zr_fr hM rfl rfl rfl ?_
  refine zr_fr hM rfl rfl rfl ?_
  refine zr_fr hM rfl rfl rfl ?_
  refine zr_iald (κ := (23, 0, 0)) hn hM rfl rfl rfl z5 ?_
  refine zr_fr hM rfl rfl rfl ?_
  refine zr_fr hM rfl rfl rfl ?_
  refine zr_ict hM rfl rfl h6 ?_
  refine zr_fr hM rfl rfl rfl ?_
  refine zr_fr hM rfl rfl rfl ?_
  refine zr_fr hM rfl rfl rfl ?_
  refine zr_getf (κ := (22, 0, 0)) hn hM rfl rfl rfl rfl ?_
  refine zr_fr hM rfl rfl rfl ?_
  refine zr_bald (κ := (25, 0, 0)) hn hM rfl rfl rfl z7 ?_
  refine zr_ift hM rfl rfl h8 ?_
  refine zr_fr hM rfl rfl rfl ?_
  exact zr_zret2 hM rfl rfl (by decide) rfl
set_option maxHeartbeats 4000000 in
theorem s108_0_tffff {n L : Nat} {σ : Ks} {g : List Nat} {cl : Bool} {p1 : Int32} {p2 : Int32} {p3 : Int32} {p4 : Int32} {r1 : Int32} {x2 : Nat} {x4 : Nat} {r6 : Int32} {x7 : Nat} (hn : 2 ≤ n ∧ n ≤ 5) (c1_ : ZR 95 0 [.val (.int p1), .val (.int p2)] [] (khp n L σ g) true (.inl (some (.int r1)), khp n L σ g, true)) (z2 : zix (r1 + (Int32.ofInt 1)) 820 = some x2) (h3 : zcnd .eq (σ (20 + x2 / 164) (x2 % 164)) 0 = true) (z4 : zix p1 5 = some x4) (h5 : zcnd .ne (σ 40 x4) 0 = false) (c6_ : ZR 97 0 [.val (.int p1)] [] (khp n L σ g) true (.inl (some (.int r6)), khp n L σ g, true)) (z7 : zix (r6 + p3) 820 = some x7) (h8 : zcnd .lt (σ (20 + x7 / 164) (x7 % 164)) p4 = false) (h9 : zcnd .ge (σ (20 + x2 / 164) (x2 % 164)) (Int32.ofInt 4) = false) (h10 : zcnd .eq (Int32.ofInt 1) 0 = false) : ZR 108 0 [.val (.ref (kad n (22, 0, 0))), .val (.int p1), .val (.int p2), .val (.int p3), .val (.int p4), .unset, .unset] [] (khp n L σ g) cl (.inl (some (.int (Int32.ofInt 1))), khp n L σ (g), cl) := by
  have hM : zmi[108]? = some _ := rfl
  have l2 := (zix_some z2).2.2
  have l4 := (zix_some z4).2.2
  have l7 := (zix_some z7).2.2
  refine zr_fr hM rfl rfl rfl ?_
  refine zr_fr hM rfl rfl rfl ?_
  refine zr_stat hM rfl rfl rfl rfl rfl rfl ?_
  refine zgo_ret rfl rfl c1_ ?_
  rw [Bool.and_true]
  refine zr_fr hM rfl rfl rfl ?_
  refine zr_fr hM rfl rfl rfl ?_
  refine zr_getf (κ := (22, 0, 0)) hn hM rfl rfl rfl rfl ?_
  refine zr_fr hM rfl rfl rfl ?_
  refine zr_fr hM rfl rfl rfl ?_
  refine zr_fr hM rfl rfl rfl ?_
  refine zr_iald (κ := (23, 0, 0)) hn hM rfl rfl rfl z2 ?_
  refine zr_ift hM rfl rfl h3 ?_
  refine zr_fr hM rfl rfl rfl ?_
  refine zr_fr hM rfl rfl rfl ?_
  refine zr_fr hM rfl rfl rfl ?_
  refine zr_fr hM rfl rfl rfl ?_
  refine zr_getf (κ := (22, 0, 0)) hn hM rfl rfl rfl rfl ?_
  refine zr_fr hM rfl rfl rfl ?_
  refine zr_bald (κ := (25, 0, 0)) hn hM rfl rfl rfl z4 ?_
  refine zr_iff hM rfl rfl h5 ?_
  refine zr_fr hM rfl rfl rfl ?_
  refine zr_getf (κ := (22, 0, 0)) hn hM rfl rfl rfl rfl ?_
  refine zr_fr hM rfl rfl rfl ?_
  refine zr_stat hM rfl rfl rfl rfl rfl rfl ?_
  refine zgo_ret rfl rfl c6_ ?_
  rw [Bool.and_true]
  refine zr_fr hM rfl rfl rfl ?_
  refine zr_fr hM rfl rfl rfl ?_
  refine zr_iald (κ := (23, 0, 0)) hn hM rfl rfl rfl z7 ?_
  refine zr_fr hM rfl rfl rfl ?_
  refine zr_icf hM rfl rfl h8 ?_
  refine zr_fr hM rfl rfl rfl ?_
  refine zr_getf (κ := (22, 0, 0)) hn hM rfl rfl rfl rfl ?_
  refine zr_fr hM rfl rfl rfl ?_
  refine zr_fr hM rfl rfl rfl ?_
  refine zr_fr hM rfl rfl rfl ?_
  refine zr_iald (κ := (23, 0, 0)) hn hM rfl rfl rfl z2 ?_
  refine zr_fr hM rfl rfl rfl ?_
  refine zr_icf hM rfl rfl h9 ?_
  refine zr_fr hM rfl rfl rfl ?_
  refine zr_iff hM rfl rfl h10 ?_
  refine zr_fr hM rfl rfl rfl ?_
  refine zr_fr hM rfl rfl rfl ?_
  exact zr_zret2 hM rfl rfl (by decide) rfl
set_option maxHeartbeats 4000000 in
theorem s108_0_tffft {n L : Nat} {σ : Ks} {g : List Nat} {cl : Bool} {p1 : Int32} {p2 : Int32} {p3 : Int32} {p4 : Int32} {r1 : Int32} {x2 : Nat} {x4 : Nat} {r6 : Int32} {x7 : Nat} (hn : 2 ≤ n ∧ n ≤ 5) (c1_ : ZR 95 0 [.val (.int p1), .val (.int p2)] [] (khp n L σ g) true (.inl (some (.int r1)), khp n L σ g, true)) (z2 : zix (r1 + (Int32.ofInt 1)) 820 = some x2) (h3 : zcnd .eq (σ (20 + x2 / 164) (x2 % 164)) 0 = true) (z4 : zix p1 5 = some x4) (h5 : zcnd .ne (σ 40 x4) 0 = false) (c6_ : ZR 97 0 [.val (.int p1)] [] (khp n L σ g) true (.inl (some (.int r6)), khp n L σ g, true)) (z7 : zix (r6 + p3) 820 = some x7) (h8 : zcnd .lt (σ (20 + x7 / 164) (x7 % 164)) p4 = false) (h9 : zcnd .ge (σ (20 + x2 / 164) (x2 % 164)) (Int32.ofInt 4) = false) (h10 : zcnd .eq (Int32.ofInt 1) 0 = true) : ZR 108 0 [.val (.ref (kad n (22, 0, 0))), .val (.int p1), .val (.int p2), .val (.int p3), .val (.int p4), .unset, .unset] [] (khp n L σ g) cl (.inl (some (.int (Int32.ofInt 0))), khp n L σ (g), cl) := by
  have hM : zmi[108]? = some _ := rfl
  have l2 := (zix_some z2).2.2
  have l4 := (zix_some z4).2.2
  have l7 := (zix_some z7).2.2
  refine zr_fr hM rfl rfl rfl ?_
  refine zr_fr hM rfl rfl rfl ?_
  refine zr_stat hM rfl rfl rfl rfl rfl rfl ?_
  refine zgo_ret rfl rfl c1_ ?_
  rw [Bool.and_true]
  refine zr_fr hM rfl rfl rfl ?_
  refine zr_fr hM rfl rfl rfl ?_
  refine zr_getf (κ := (22, 0, 0)) hn hM rfl rfl rfl rfl ?_
  refine zr_fr hM rfl rfl rfl ?_
  refine zr_fr hM rfl rfl rfl ?_
  refine zr_fr hM rfl rfl rfl ?_
  refine zr_iald (κ := (23, 0, 0)) hn hM rfl rfl rfl z2 ?_
  refine zr_ift hM rfl rfl h3 ?_
  refine zr_fr hM rfl rfl rfl ?_
  refine zr_fr hM rfl rfl rfl ?_
  refine zr_fr hM rfl rfl rfl ?_
  refine zr_fr hM rfl rfl rfl ?_
  refine zr_getf (κ := (22, 0, 0)) hn hM rfl rfl rfl rfl ?_
  refine zr_fr hM rfl rfl rfl ?_
  refine zr_bald (κ := (25, 0, 0)) hn hM rfl rfl rfl z4 ?_
  refine zr_iff hM rfl rfl h5 ?_
  refine zr_fr hM rfl rfl rfl ?_
  refine zr_getf (κ := (22, 0, 0)) hn hM rfl rfl rfl rfl ?_
  refine zr_fr hM rfl rfl rfl ?_
  refine zr_stat hM rfl rfl rfl rfl rfl rfl ?_
  refine zgo_ret rfl rfl c6_ ?_
  rw [Bool.and_true]
  refine zr_fr hM rfl rfl rfl ?_
  refine zr_fr hM rfl rfl rfl ?_
  refine zr_iald (κ := (23, 0, 0)) hn hM rfl rfl rfl z7 ?_
  refine zr_fr hM rfl rfl rfl ?_
  refine zr_icf hM rfl rfl h8 ?_
  refine zr_fr hM rfl rfl rfl ?_
  refine zr_getf (κ := (22, 0, 0)) hn hM rfl rfl rfl rfl ?_
  refine zr_fr hM rfl rfl rfl ?_
  refine zr_fr hM rfl rfl rfl ?_
  refine zr_fr hM rfl rfl rfl ?_
  refine zr_iald (κ := (23, 0, 0)) hn hM rfl rfl rfl z2 ?_
  refine zr_fr hM rfl rfl rfl ?_
  refine zr_icf hM rfl rfl h9 ?_
  refine zr_fr hM rfl rfl rfl ?_
  refine zr_ift hM rfl rfl h10 ?_
  refine zr_fr hM rfl rfl rfl ?_
  exact zr_zret2 hM rfl rfl (by decide) rfl
set_option maxHeartbeats 4000000 in
theorem s108_0_tfft {n L : Nat} {σ : Ks} {g : List Nat} {cl : Bool} {p1 : Int32} {p2 : Int32} {p3 : Int32} {p4 : Int32} {r1 : Int32} {x2 : Nat} {x4 : Nat} {r6 : Int32} {x7 : Nat} (hn : 2 ≤ n ∧ n ≤ 5) (c1_ : ZR 95 0 [.val (.int p1), .val (.int p2)] [] (khp n L σ g) true (.inl (some (.int r1)), khp n L σ g, true)) (z2 : zix (r1 + (Int32.ofInt 1)) 820 = some x2) (h3 : zcnd .eq (σ (20 + x2 / 164) (x2 % 164)) 0 = true) (z4 : zix p1 5 = some x4) (h5 : zcnd .ne (σ 40 x4) 0 = false) (c6_ : ZR 97 0 [.val (.int p1)] [] (khp n L σ g) true (.inl (some (.int r6)), khp n L σ g, true)) (z7 : zix (r6 + p3) 820 = some x7) (h8 : zcnd .lt (σ (20 + x7 / 164) (x7 % 164)) p4 = false) (h9 : zcnd .ge (σ (20 + x2 / 164) (x2 % 164)) (Int32.ofInt 4) = true) : ZR 108 0 [.val (.ref (kad n (22, 0, 0))), .val (.int p1), .val (.int p2), .val (.int p3), .val (.int p4), .unset, .unset] [] (khp n L σ g) cl (.inl (some (.int (Int32.ofInt 0))), khp n L σ (g), cl) := by
  have hM : zmi[108]? = some _ := rfl
  have l2 := (zix_some z2).2.2
  have l4 := (zix_some z4).2.2
  have l7 := (zix_some z7).2.2
  refine zr_fr hM rfl rfl rfl ?_
  refine zr_fr hM rfl rfl rfl ?_
  refine zr_stat hM rfl rfl rfl rfl rfl rfl ?_
  refine zgo_ret rfl rfl c1_ ?_
  rw [Bool.and_true]
  refine zr_fr hM rfl rfl rfl ?_
  refine zr_fr hM rfl rfl rfl ?_
  refine zr_getf (κ := (22, 0, 0)) hn hM rfl rfl rfl rfl ?_
  refine zr_fr hM rfl rfl rfl ?_
  refine zr_fr hM rfl rfl rfl ?_
  refine zr_fr hM rfl rfl rfl ?_
  refine zr_iald (κ := (23, 0, 0)) hn hM rfl rfl rfl z2 ?_
  refine zr_ift hM rfl rfl h3 ?_
  refine zr_fr hM rfl rfl rfl ?_
  refine zr_fr hM rfl rfl rfl ?_
  refine zr_fr hM rfl rfl rfl ?_
  refine zr_fr hM rfl rfl rfl ?_
  refine zr_getf (κ := (22, 0, 0)) hn hM rfl rfl rfl rfl ?_
  refine zr_fr hM rfl rfl rfl ?_
  refine zr_bald (κ := (25, 0, 0)) hn hM rfl rfl rfl z4 ?_
  refine zr_iff hM rfl rfl h5 ?_
  refine zr_fr hM rfl rfl rfl ?_
  refine zr_getf (κ := (22, 0, 0)) hn hM rfl rfl rfl rfl ?_
  refine zr_fr hM rfl rfl rfl ?_
  refine zr_stat hM rfl rfl rfl rfl rfl rfl ?_
  refine zgo_ret rfl rfl c6_ ?_
  rw [Bool.and_true]
  refine zr_fr hM rfl rfl rfl ?_
  refine zr_fr hM rfl rfl rfl ?_
  refine zr_iald (κ := (23, 0, 0)) hn hM rfl rfl rfl z7 ?_
  refine zr_fr hM rfl rfl rfl ?_
  refine zr_icf hM rfl rfl h8 ?_
  refine zr_fr hM rfl rfl rfl ?_
  refine zr_getf (κ := (22, 0, 0)) hn hM rfl rfl rfl rfl ?_
  refine zr_fr hM rfl rfl rfl ?_
  refine zr_fr hM rfl rfl rfl ?_
  refine zr_fr hM rfl rfl rfl ?_
  refine zr_iald (κ := (23, 0, 0)) hn hM rfl rfl rfl z2 ?_
  refine zr_fr hM rfl rfl rfl ?_
  refine zr_ict hM rfl rfl h9 ?_
  refine zr_fr hM rfl rfl rfl ?_
  exact zr_zret2 hM rfl rfl (by decide) rfl
set_option maxHeartbeats 4000000 in
theorem s108_0_tft {n L : Nat} {σ : Ks} {g : List Nat} {cl : Bool} {p1 : Int32} {p2 : Int32} {p3 : Int32} {p4 : Int32} {r1 : Int32} {x2 : Nat} {x4 : Nat} {r6 : Int32} {x7 : Nat} (hn : 2 ≤ n ∧ n ≤ 5) (c1_ : ZR 95 0 [.val (.int p1), .val (.int p2)] [] (khp n L σ g) true (.inl (some (.int r1)), khp n L σ g, true)) (z2 : zix (r1 + (Int32.ofInt 1)) 820 = some x2) (h3 : zcnd .eq (σ (20 + x2 / 164) (x2 % 164)) 0 = true) (z4 : zix p1 5 = some x4) (h5 : zcnd .ne (σ 40 x4) 0 = false) (c6_ : ZR 97 0 [.val (.int p1)] [] (khp n L σ g) true (.inl (some (.int r6)), khp n L σ g, true)) (z7 : zix (r6 + p3) 820 = some x7) (h8 : zcnd .lt (σ (20 + x7 / 164) (x7 % 164)) p4 = true) : ZR 108 0 [.val (.ref (kad n (22, 0, 0))), .val (.int p1), .val (.int p2), .val (.int p3), .val (.int p4), .unset, .unset] [] (khp n L σ g) cl (.inl (some (.int (Int32.ofInt 0))), khp n L σ (g), cl) := by
  have hM : zmi[108]? = some _ := rfl
  have l2 := (zix_some z2).2.2
  have l4 := (zix_some z4).2.2
  have l7 := (zix_some z7).2.2
  refine zr_fr hM rfl rfl rfl ?_
  refine zr_fr hM rfl rfl rfl ?_
  refine zr_stat hM rfl rfl rfl rfl rfl rfl ?_
  refine zgo_ret rfl rfl c1_ ?_
  rw [Bool.and_true]
  refine zr_fr hM rfl rfl rfl ?_
  refine zr_fr hM rfl rfl rfl ?_
  refine zr_getf (κ := (22, 0, 0)) hn hM rfl rfl rfl rfl ?_
  refine zr_fr hM rfl rfl rfl ?_
  refine zr_fr hM rfl rfl rfl ?_
  refine zr_fr hM rfl rfl rfl ?_
  refine zr_iald (κ := (23, 0, 0)) hn hM rfl rfl rfl z2 ?_
  refine zr_ift hM rfl rfl h3 ?_
  refine zr_fr hM rfl rfl rfl ?_
  refine zr_fr hM rfl rfl rfl ?_
  refine zr_fr hM rfl rfl rfl ?_
  refine zr_fr hM rfl rfl rfl ?_
  refine zr_getf (κ := (22, 0, 0)) hn hM rfl rfl rfl rfl ?_
  refine zr_fr hM rfl rfl rfl ?_
  refine zr_bald (κ := (25, 0, 0)) hn hM rfl rfl rfl z4 ?_
  refine zr_iff hM rfl rfl h5 ?_
  refine zr_fr hM rfl rfl rfl ?_
  refine zr_getf (κ := (22, 0, 0)) hn hM rfl rfl rfl rfl ?_
  refine zr_fr hM rfl rfl rfl ?_
  refine zr_stat hM rfl rfl rfl rfl rfl rfl ?_
  refine zgo_ret rfl rfl c6_ ?_
  rw [Bool.and_true]
  refine zr_fr hM rfl rfl rfl ?_
  refine zr_fr hM rfl rfl rfl ?_
  refine zr_iald (κ := (23, 0, 0)) hn hM rfl rfl rfl z7 ?_
  refine zr_fr hM rfl rfl rfl ?_
  refine zr_ict hM rfl rfl h8 ?_
  refine zr_fr hM rfl rfl rfl ?_
  exact zr_zret2 hM rfl rfl (by decide) rfl
set_option maxHeartbeats 4000000 in
theorem s108_0_tt {n L : Nat} {σ : Ks} {g : List Nat} {cl : Bool} {p1 : Int32} {p2 : Int32} {p3 : Int32} {p4 : Int32} {r1 : Int32} {x2 : Nat} {x4 : Nat} (hn : 2 ≤ n ∧ n ≤ 5) (c1_ : ZR 95 0 [.val (.int p1), .val (.int p2)] [] (khp n L σ g) true (.inl (some (.int r1)), khp n L σ g, true)) (z2 : zix (r1 + (Int32.ofInt 1)) 820 = some x2) (h3 : zcnd .eq (σ (20 + x2 / 164) (x2 % 164)) 0 = true) (z4 : zix p1 5 = some x4) (h5 : zcnd .ne (σ 40 x4) 0 = true) : ZR 108 0 [.val (.ref (kad n (22, 0, 0))), .val (.int p1), .val (.int p2), .val (.int p3), .val (.int p4), .unset, .unset] [] (khp n L σ g) cl (.inl (some (.int (Int32.ofInt 0))), khp n L σ (g), cl) := by
  have hM : zmi[108]? = some _ := rfl
  have l2 := (zix_some z2).2.2
  have l4 := (zix_some z4).2.2
  refine zr_fr hM rfl rfl rfl ?_
  refine zr_fr hM rfl rfl rfl ?_
  refine zr_stat hM rfl rfl rfl rfl rfl rfl ?_
  refine zgo_ret rfl rfl c1_ ?_
  rw [Bool.and_true]
  refine zr_fr hM rfl rfl rfl ?_
  refine zr_fr hM rfl rfl rfl ?_
  refine zr_getf (κ := (22, 0, 0)) hn hM rfl rfl rfl rfl ?_
  refine zr_fr hM rfl rfl rfl ?_
  refine zr_fr hM rfl rfl rfl ?_
  refine zr_fr hM rfl rfl rfl ?_
  refine zr_iald (κ := (23, 0, 0)) hn hM rfl rfl rfl z2 ?_
  refine zr_ift hM rfl rfl h3 ?_
  refine zr_fr hM rfl rfl rfl ?_
  refine zr_fr hM rfl rfl rfl ?_
  refine zr_fr hM rfl rfl rfl ?_
  refine zr_fr hM rfl rfl rfl ?_
  refine zr_getf (κ := (22, 0, 0)) hn hM rfl rfl rfl rfl ?_
  refine zr_fr hM rfl rfl rfl ?_
  refine zr_bald (κ := (25, 0, 0)) hn hM rfl rfl rfl z4 ?_
  refine zr_ift hM rfl rfl h5 ?_
  refine zr_fr hM rfl rfl rfl ?_
  exact zr_zret2 hM rfl rfl (by decide) rfl
set_option maxHeartbeats 4000000 in
theorem s109_0_r {n L : Nat} {σ : Ks} {g : List Nat} {cl : Bool} {p1 : Int32} {p2 : Int32} {p3 : Int32} {p4 : Int32} {r1 : Int32} {x2 : Nat} {r3 : Int32} {x4 : Nat} {x5 : Nat} {x6 : Nat} {x7 : Nat} {x8 : Nat} {σ9 : Ks} {c9 : Bool} {σ10 : Ks} {c10 : Bool} (hn : 2 ≤ n ∧ n ≤ 5) (c1_ : ZR 95 0 [.val (.int p1), .val (.int p2)] [] (khp n L σ g) true (.inl (some (.int r1)), khp n L σ g, true)) (z2 : zix r1 820 = some x2) (c3_ : ZR 97 0 [.val (.int p1)] [] (khp n L σ g) true (.inl (some (.int r3)), khp n L σ g, true)) (z4 : zix (r3 + p3) 820 = some x4) (z5 : zix (r1 + (Int32.ofInt 1)) 820 = some x5) (z6 : zix ((r1 + (Int32.ofInt 2)) + ((Int32.ofInt 3) * ((kup σ (20 + x4 / 164) (x4 % 164) ((σ (20 + x4 / 164) (x4 % 164)) - p4)) (20 + x5 / 164) (x5 % 164)))) 820 = some x6) (z7 : zix (((r1 + (Int32.ofInt 2)) + ((Int32.ofInt 3) * ((kup σ (20 + x4 / 164) (x4 % 164) ((σ (20 + x4 / 164) (x4 % 164)) - p4)) (20 + x5 / 164) (x5 % 164)))) + (Int32.ofInt 1)) 820 = some x7) (z8 : zix (((r1 + (Int32.ofInt 2)) + ((Int32.ofInt 3) * ((kup σ (20 + x4 / 164) (x4 % 164) ((σ (20 + x4 / 164) (x4 % 164)) - p4)) (20 + x5 / 164) (x5 % 164)))) + (Int32.ofInt 2)) 820 = some x8) (c9_ : ZR 96 0 [.val (.ref (kad n (22, 0, 0))), .val (.int p1), .unset] [] (khp n L (kup (kup (kup (kup (kup (kup σ (20 + x4 / 164) (x4 % 164) ((σ (20 + x4 / 164) (x4 % 164)) - p4)) (20 + x6 / 164) (x6 % 164) (σ (20 + x2 / 164) (x2 % 164))) (20 + x7 / 164) (x7 % 164) p3) (20 + x8 / 164) (x8 % 164) p4) (20 + x5 / 164) (x5 % 164) (((kup (kup (kup (kup σ (20 + x4 / 164) (x4 % 164) ((σ (20 + x4 / 164) (x4 % 164)) - p4)) (20 + x6 / 164) (x6 % 164) (σ (20 + x2 / 164) (x2 % 164))) (20 + x7 / 164) (x7 % 164) p3) (20 + x8 / 164) (x8 % 164) p4) (20 + x5 / 164) (x5 % 164)) + (Int32.ofInt 1))) (20 + x2 / 164) (x2 % 164) (((kup (kup (kup (kup (kup σ (20 + x4 / 164) (x4 % 164) ((σ (20 + x4 / 164) (x4 % 164)) - p4)) (20 + x6 / 164) (x6 % 164) (σ (20 + x2 / 164) (x2 % 164))) (20 + x7 / 164) (x7 % 164) p3) (20 + x8 / 164) (x8 % 164) p4) (20 + x5 / 164) (x5 % 164) (((kup (kup (kup (kup σ (20 + x4 / 164) (x4 % 164) ((σ (20 + x4 / 164) (x4 % 164)) - p4)) (20 + x6 / 164) (x6 % 164) (σ (20 + x2 / 164) (x2 % 164))) (20 + x7 / 164) (x7 % 164) p3) (20 + x8 / 164) (x8 % 164) p4) (20 + x5 / 164) (x5 % 164)) + (Int32.ofInt 1))) (20 + x2 / 164) (x2 % 164)) + (Int32.ofInt 1))) g) true (.inl (none), khp n L σ9 g, c9)) (c10_ : ZR 104 0 [.val (.ref (kad n (22, 0, 0))), .val (.int (Int32.ofInt 0)), .val (.int p1), .val (.int p2), .val (.int (σ (20 + x2 / 164) (x2 % 164))), .val (.int p3), .val (.int p4), .unset] [] (khp n L σ9 g) true (.inl (none), khp n L σ10 g, c10)) : ZR 109 0 [.val (.ref (kad n (22, 0, 0))), .val (.int p1), .val (.int p2), .val (.int p3), .val (.int p4), .unset, .unset, .unset] [] (khp n L σ g) cl (.inl (some (.int (σ (20 + x2 / 164) (x2 % 164)))), khp n L σ10 (g), false) := by
  have hM : zmi[109]? = some _ := rfl
  have l2 := (zix_some z2).2.2
  have l4 := (zix_some z4).2.2
  have l5 := (zix_some z5).2.2
  have l6 := (zix_some z6).2.2
  have l7 := (zix_some z7).2.2
  have l8 := (zix_some z8).2.2
  refine zr_fr hM rfl rfl rfl ?_
  refine zr_fr hM rfl rfl rfl ?_
  refine zr_stat hM rfl rfl rfl rfl rfl rfl ?_
  refine zgo_ret rfl rfl c1_ ?_
  rw [Bool.and_true]
  refine zr_fr hM rfl rfl rfl ?_
  refine zr_fr hM rfl rfl rfl ?_
  refine zr_getf (κ := (22, 0, 0)) hn hM rfl rfl rfl rfl ?_
  refine zr_fr hM rfl rfl rfl ?_
  refine zr_iald (κ := (23, 0, 0)) hn hM rfl rfl rfl z2 ?_
  refine zr_fr hM rfl rfl rfl ?_
  refine zr_fr hM rfl rfl rfl ?_
  refine zr_getf (κ := (22, 0, 0)) hn hM rfl rfl rfl rfl ?_
  refine zr_fr hM rfl rfl rfl ?_
  refine zr_stat hM rfl rfl rfl rfl rfl rfl ?_
  refine zgo_ret rfl rfl c3_ ?_
  rw [Bool.and_true]
  refine zr_fr hM rfl rfl rfl ?_
  refine zr_fr hM rfl rfl rfl ?_
  refine zr_fr hM rfl rfl rfl ?_
  refine zr_iald (κ := (23, 0, 0)) hn hM rfl rfl rfl z4 ?_
  refine zr_fr hM rfl rfl rfl ?_
  refine zr_fr hM rfl rfl rfl ?_
  refine zr_iast (κ := (23, 0, 0)) hn hM rfl rfl rfl rfl z4 rfl ?_
  refine zr_fr hM rfl rfl rfl ?_
  refine zr_fr hM rfl rfl rfl ?_
  refine zr_fr hM rfl rfl rfl ?_
  refine zr_fr hM rfl rfl rfl ?_
  refine zr_fr hM rfl rfl rfl ?_
  refine zr_getf (κ := (22, 0, 0)) hn hM rfl rfl rfl rfl ?_
  refine zr_fr hM rfl rfl rfl ?_
  refine zr_fr hM rfl rfl rfl ?_
  refine zr_fr hM rfl rfl rfl ?_
  refine zr_iald (κ := (23, 0, 0)) hn hM rfl rfl rfl z5 ?_
  refine zr_fr hM rfl rfl rfl ?_
  refine zr_fr hM rfl rfl rfl ?_
  refine zr_fr hM rfl rfl rfl ?_
  refine zr_fr hM rfl rfl rfl ?_
  refine zr_getf (κ := (22, 0, 0)) hn hM rfl rfl rfl rfl ?_
  refine zr_fr hM rfl rfl rfl ?_
  refine zr_fr hM rfl rfl rfl ?_
  refine zr_iast (κ := (23, 0, 0)) hn hM rfl rfl rfl rfl z6 rfl ?_
  refine zr_fr hM rfl rfl rfl ?_
  refine zr_getf (κ := (22, 0, 0)) hn hM rfl rfl rfl rfl ?_
  refine zr_fr hM rfl rfl rfl ?_
  refine zr_fr hM rfl rfl rfl ?_
  refine zr_fr hM rfl rfl rfl ?_
  refine zr_fr hM rfl rfl rfl ?_
  refine zr_iast (κ := (23, 0, 0)) hn hM rfl rfl rfl rfl z7 rfl ?_
  refine zr_fr hM rfl rfl rfl ?_
  refine zr_getf (κ := (22, 0, 0)) hn hM rfl rfl rfl rfl ?_
  refine zr_fr hM rfl rfl rfl ?_
  refine zr_fr hM rfl rfl rfl ?_
  refine zr_fr hM rfl rfl rfl ?_
  refine zr_fr hM rfl rfl rfl ?_
  refine zr_iast (κ := (23, 0, 0)) hn hM rfl rfl rfl rfl z8 rfl ?_
  refine zr_fr hM rfl rfl rfl ?_
  refine zr_getf (κ := (22, 0, 0)) hn hM rfl rfl rfl rfl ?_
  refine zr_fr hM rfl rfl rfl ?_
  refine zr_fr hM rfl rfl rfl ?_
  refine zr_fr hM rfl rfl rfl ?_
  refine zr_fr hM rfl rfl rfl ?_
  refine zr_iald (κ := (23, 0, 0)) hn hM rfl rfl rfl z5 ?_
  refine zr_fr hM rfl rfl rfl ?_
  refine zr_fr hM rfl rfl rfl ?_
  refine zr_iast (κ := (23, 0, 0)) hn hM rfl rfl rfl rfl z5 rfl ?_
  refine zr_fr hM rfl rfl rfl ?_
  refine zr_getf (κ := (22, 0, 0)) hn hM rfl rfl rfl rfl ?_
  refine zr_fr hM rfl rfl rfl ?_
  refine zr_fr hM rfl rfl rfl ?_
  refine zr_iald (κ := (23, 0, 0)) hn hM rfl rfl rfl z2 ?_
  refine zr_fr hM rfl rfl rfl ?_
  refine zr_fr hM rfl rfl rfl ?_
  refine zr_iast (κ := (23, 0, 0)) hn hM rfl rfl rfl rfl z2 rfl ?_
  refine zr_fr hM rfl rfl rfl ?_
  refine zr_fr hM rfl rfl rfl ?_
  refine zr_virt (κ := (22, 0, 0)) hn hM rfl rfl rfl rfl rfl rfl rfl rfl rfl ?_
  refine zgo_ret rfl rfl c9_ ?_
  rw [Bool.false_and]
  refine zr_fr hM rfl rfl rfl ?_
  refine zr_fr hM rfl rfl rfl ?_
  refine zr_fr hM rfl rfl rfl ?_
  refine zr_fr hM rfl rfl rfl ?_
  refine zr_fr hM rfl rfl rfl ?_
  refine zr_fr hM rfl rfl rfl ?_
  refine zr_fr hM rfl rfl rfl ?_
  refine zr_virt (κ := (22, 0, 0)) hn hM rfl rfl rfl rfl rfl rfl rfl rfl rfl ?_
  refine zgo_ret rfl rfl c10_ ?_
  rw [Bool.false_and]
  refine zr_fr hM rfl rfl rfl ?_
  exact zr_iret2 hM rfl rfl rfl
set_option maxHeartbeats 4000000 in
theorem s110_0_ff {n L : Nat} {σ : Ks} {g : List Nat} {cl : Bool} {p1 : Int32} (hn : 2 ≤ n ∧ n ≤ 5) (h1 : zcnd .lt p1 0 = false) (h2 : zcnd .lt p1 ((kup σ 42 0 (Int32.ofInt 0)) 42 2) = false) : ZR 110 0 [.val (.ref (kad n (22, 0, 0))), .val (.int p1)] [] (khp n L σ g) cl (.inl (some (.int (Int32.ofInt 0))), khp n L (kup σ 42 0 (Int32.ofInt 0)) (g), false) := by
  have hM : zmi[110]? = some _ := rfl
  refine zr_fr hM rfl rfl rfl ?_
  refine zr_fr hM rfl rfl rfl ?_
  refine zr_putf (κ := (22, 0, 0)) hn hM rfl rfl rfl rfl rfl rfl rfl rfl ?_
  refine zr_fr hM rfl rfl rfl ?_
  refine zr_iff hM rfl rfl h1 ?_
  refine zr_fr hM rfl rfl rfl ?_
  refine zr_fr hM rfl rfl rfl ?_
  refine zr_getf (κ := (22, 0, 0)) hn hM rfl rfl rfl rfl ?_
  refine zr_icf hM rfl rfl h2 ?_
  refine zr_fr hM rfl rfl rfl ?_
  exact zr_zret2 hM rfl rfl (by decide) rfl
set_option maxHeartbeats 4000000 in
theorem s110_0_ft {n L : Nat} {σ : Ks} {g : List Nat} {cl : Bool} {p1 : Int32} {σ3 : Ks} {c3 : Bool} (hn : 2 ≤ n ∧ n ≤ 5) (h1 : zcnd .lt p1 0 = false) (h2 : zcnd .lt p1 ((kup σ 42 0 (Int32.ofInt 0)) 42 2) = true) (c3_ : ZR 100 0 [.val (.ref (kad n (22, 0, 0))), .val (.int p1), .unset] [] (khp n L (kup σ 42 0 (Int32.ofInt 0)) g) true (.inl (none), khp n L σ3 g, c3)) : ZR 110 0 [.val (.ref (kad n (22, 0, 0))), .val (.int p1)] [] (khp n L σ g) cl (.inl (some (.int (Int32.ofInt 1))), khp n L σ3 (g), false) := by
  have hM : zmi[110]? = some _ := rfl
  refine zr_fr hM rfl rfl rfl ?_
  refine zr_fr hM rfl rfl rfl ?_
  refine zr_putf (κ := (22, 0, 0)) hn hM rfl rfl rfl rfl rfl rfl rfl rfl ?_
  refine zr_fr hM rfl rfl rfl ?_
  refine zr_iff hM rfl rfl h1 ?_
  refine zr_fr hM rfl rfl rfl ?_
  refine zr_fr hM rfl rfl rfl ?_
  refine zr_getf (κ := (22, 0, 0)) hn hM rfl rfl rfl rfl ?_
  refine zr_ict hM rfl rfl h2 ?_
  refine zr_fr hM rfl rfl rfl ?_
  refine zr_fr hM rfl rfl rfl ?_
  refine zr_virt (κ := (22, 0, 0)) hn hM rfl rfl rfl rfl rfl rfl rfl rfl rfl ?_
  refine zgo_ret rfl rfl c3_ ?_
  rw [Bool.false_and]
  refine zr_fr hM rfl rfl rfl ?_
  exact zr_zret2 hM rfl rfl (by decide) rfl
set_option maxHeartbeats 4000000 in
theorem s110_0_t {n L : Nat} {σ : Ks} {g : List Nat} {cl : Bool} {p1 : Int32} (hn : 2 ≤ n ∧ n ≤ 5) (h1 : zcnd .lt p1 0 = true) : ZR 110 0 [.val (.ref (kad n (22, 0, 0))), .val (.int p1)] [] (khp n L σ g) cl (.inl (some (.int (Int32.ofInt 0))), khp n L (kup σ 42 0 (Int32.ofInt 0)) (g), false) := by
  have hM : zmi[110]? = some _ := rfl
  refine zr_fr hM rfl rfl rfl ?_
  refine zr_fr hM rfl rfl rfl ?_
  refine zr_putf (κ := (22, 0, 0)) hn hM rfl rfl rfl rfl rfl rfl rfl rfl ?_
  refine zr_fr hM rfl rfl rfl ?_
  refine zr_ift hM rfl rfl h1 ?_
  refine zr_fr hM rfl rfl rfl ?_
  exact zr_zret2 hM rfl rfl (by decide) rfl
set_option maxHeartbeats 4000000 in
theorem s111_0_fff {n L : Nat} {σ : Ks} {g : List Nat} {cl : Bool} {p1 : Int32} (hn : 2 ≤ n ∧ n ≤ 5) (h1 : zcnd .lt p1 0 = false) (h2 : zcnd .ge p1 ((kup σ 42 0 (Int32.ofInt 0)) 42 2) = false) (h3 : zcnd .ne ((kup σ 42 0 (Int32.ofInt 0)) 42 2) ((Int8.ofInt 24).toInt32) = false) : ZR 111 0 [.val (.ref (kad n (22, 0, 0))), .val (.int p1), .unset] [] (khp n L σ g) cl (.inl (some (.int (Int32.ofInt 0))), khp n L (kup σ 42 0 (Int32.ofInt 0)) (g), false) := by
  have hM : zmi[111]? = some _ := rfl
  refine zr_fr hM rfl rfl rfl ?_
  refine zr_fr hM rfl rfl rfl ?_
  refine zr_putf (κ := (22, 0, 0)) hn hM rfl rfl rfl rfl rfl rfl rfl rfl ?_
  refine zr_fr hM rfl rfl rfl ?_
  refine zr_iff hM rfl rfl h1 ?_
  refine zr_fr hM rfl rfl rfl ?_
  refine zr_fr hM rfl rfl rfl ?_
  refine zr_getf (κ := (22, 0, 0)) hn hM rfl rfl rfl rfl ?_
  refine zr_icf hM rfl rfl h2 ?_
  refine zr_fr hM rfl rfl rfl ?_
  refine zr_getf (κ := (22, 0, 0)) hn hM rfl rfl rfl rfl ?_
  refine zr_fr hM rfl rfl rfl ?_
  refine zr_icf hM rfl rfl h3 ?_
  refine zr_fr hM rfl rfl rfl ?_
  exact zr_zret2 hM rfl rfl (by decide) rfl
set_option maxHeartbeats 4000000 in
theorem s111_0_fft {n L : Nat} {σ : Ks} {g : List Nat} {cl : Bool} {p1 : Int32} {x4 : Nat} {x5 : Nat} {x6 : Nat} {x7 : Nat} {x8 : Nat} {x9 : Nat} {σ10 : Ks} {c10 : Bool} (hn : 2 ≤ n ∧ n ≤ 5) (h1 : zcnd .lt p1 0 = false) (h2 : zcnd .ge p1 ((kup σ 42 0 (Int32.ofInt 0)) 42 2) = false) (h3 : zcnd .ne ((kup σ 42 0 (Int32.ofInt 0)) 42 2) ((Int8.ofInt 24).toInt32) = true) (z4 : zix (((Int8.ofInt 6).toInt32) * p1) 150 = some x4) (z5 : zix ((((Int8.ofInt 6).toInt32) * p1) + (Int32.ofInt 1)) 150 = some x5) (z6 : zix ((((Int8.ofInt 6).toInt32) * p1) + (Int32.ofInt 2)) 150 = some x6) (z7 : zix ((((Int8.ofInt 6).toInt32) * p1) + (Int32.ofInt 3)) 150 = some x7) (z8 : zix ((((Int8.ofInt 6).toInt32) * p1) + (Int32.ofInt 4)) 150 = some x8) (z9 : zix ((((Int8.ofInt 6).toInt32) * p1) + (Int32.ofInt 5)) 150 = some x9) (c10_ : ZR 104 0 [.val (.ref (kad n (22, 0, 0))), .val (.int ((kup σ 42 0 (Int32.ofInt 0)) 41 x4)), .val (.int ((kup σ 42 0 (Int32.ofInt 0)) 41 x5)), .val (.int ((kup σ 42 0 (Int32.ofInt 0)) 41 x6)), .val (.int ((kup σ 42 0 (Int32.ofInt 0)) 41 x7)), .val (.int ((kup σ 42 0 (Int32.ofInt 0)) 41 x8)), .val (.int ((kup σ 42 0 (Int32.ofInt 0)) 41 x9)), .unset] [] (khp n L (kup σ 42 0 (Int32.ofInt 0)) g) true (.inl (none), khp n L σ10 g, c10)) : ZR 111 0 [.val (.ref (kad n (22, 0, 0))), .val (.int p1), .unset] [] (khp n L σ g) cl (.inl (some (.int (Int32.ofInt 1))), khp n L σ10 (g), false) := by
  have hM : zmi[111]? = some _ := rfl
  have l4 := (zix_some z4).2.2
  have l5 := (zix_some z5).2.2
  have l6 := (zix_some z6).2.2
  have l7 := (zix_some z7).2.2
  have l8 := (zix_some z8).2.2
  have l9 := (zix_some z9).2.2
  refine zr_fr hM rfl rfl rfl ?_
  refine zr_fr hM rfl rfl rfl ?_
  refine zr_putf (κ := (22, 0, 0)) hn hM rfl rfl rfl rfl rfl rfl rfl rfl ?_
  refine zr_fr hM rfl rfl rfl ?_
  refine zr_iff hM rfl rfl h1 ?_
  refine zr_fr hM rfl rfl rfl ?_
  refine zr_fr hM rfl rfl rfl ?_
  refine zr_getf (κ := (22, 0, 0)) hn hM rfl rfl rfl rfl ?_
  refine zr_icf hM rfl rfl h2 ?_
  refine zr_fr hM rfl rfl rfl ?_
  refine zr_getf (κ := (22, 0, 0)) hn hM rfl rfl rfl rfl ?_
  refine zr_fr hM rfl rfl rfl ?_
  refine zr_ict hM rfl rfl h3 ?_
  refine zr_fr hM rfl rfl rfl ?_
  refine zr_fr hM rfl rfl rfl ?_
  refine zr_fr hM rfl rfl rfl ?_
  refine zr_fr hM rfl rfl rfl ?_
  refine zr_fr hM rfl rfl rfl ?_
  refine zr_fr hM rfl rfl rfl ?_
  refine zr_getf (κ := (22, 0, 0)) hn hM rfl rfl rfl rfl ?_
  refine zr_fr hM rfl rfl rfl ?_
  refine zr_iald (κ := (26, 0, 0)) hn hM rfl rfl rfl z4 ?_
  refine zr_fr hM rfl rfl rfl ?_
  refine zr_getf (κ := (22, 0, 0)) hn hM rfl rfl rfl rfl ?_
  refine zr_fr hM rfl rfl rfl ?_
  refine zr_fr hM rfl rfl rfl ?_
  refine zr_fr hM rfl rfl rfl ?_
  refine zr_iald (κ := (26, 0, 0)) hn hM rfl rfl rfl z5 ?_
  refine zr_fr hM rfl rfl rfl ?_
  refine zr_getf (κ := (22, 0, 0)) hn hM rfl rfl rfl rfl ?_
  refine zr_fr hM rfl rfl rfl ?_
  refine zr_fr hM rfl rfl rfl ?_
  refine zr_fr hM rfl rfl rfl ?_
  refine zr_iald (κ := (26, 0, 0)) hn hM rfl rfl rfl z6 ?_
  refine zr_fr hM rfl rfl rfl ?_
  refine zr_getf (κ := (22, 0, 0)) hn hM rfl rfl rfl rfl ?_
  refine zr_fr hM rfl rfl rfl ?_
  refine zr_fr hM rfl rfl rfl ?_
  refine zr_fr hM rfl rfl rfl ?_
  refine zr_iald (κ := (26, 0, 0)) hn hM rfl rfl rfl z7 ?_
  refine zr_fr hM rfl rfl rfl ?_
  refine zr_getf (κ := (22, 0, 0)) hn hM rfl rfl rfl rfl ?_
  refine zr_fr hM rfl rfl rfl ?_
  refine zr_fr hM rfl rfl rfl ?_
  refine zr_fr hM rfl rfl rfl ?_
  refine zr_iald (κ := (26, 0, 0)) hn hM rfl rfl rfl z8 ?_
  refine zr_fr hM rfl rfl rfl ?_
  refine zr_getf (κ := (22, 0, 0)) hn hM rfl rfl rfl rfl ?_
  refine zr_fr hM rfl rfl rfl ?_
  refine zr_fr hM rfl rfl rfl ?_
  refine zr_fr hM rfl rfl rfl ?_
  refine zr_iald (κ := (26, 0, 0)) hn hM rfl rfl rfl z9 ?_
  refine zr_virt (κ := (22, 0, 0)) hn hM rfl rfl rfl rfl rfl rfl rfl rfl rfl ?_
  refine zgo_ret rfl rfl c10_ ?_
  rw [Bool.false_and]
  refine zr_fr hM rfl rfl rfl ?_
  exact zr_zret2 hM rfl rfl (by decide) rfl
set_option maxHeartbeats 4000000 in
theorem s111_0_ft {n L : Nat} {σ : Ks} {g : List Nat} {cl : Bool} {p1 : Int32} (hn : 2 ≤ n ∧ n ≤ 5) (h1 : zcnd .lt p1 0 = false) (h2 : zcnd .ge p1 ((kup σ 42 0 (Int32.ofInt 0)) 42 2) = true) : ZR 111 0 [.val (.ref (kad n (22, 0, 0))), .val (.int p1), .unset] [] (khp n L σ g) cl (.inl (some (.int (Int32.ofInt 0))), khp n L (kup σ 42 0 (Int32.ofInt 0)) (g), false) := by
  have hM : zmi[111]? = some _ := rfl
  refine zr_fr hM rfl rfl rfl ?_
  refine zr_fr hM rfl rfl rfl ?_
  refine zr_putf (κ := (22, 0, 0)) hn hM rfl rfl rfl rfl rfl rfl rfl rfl ?_
  refine zr_fr hM rfl rfl rfl ?_
  refine zr_iff hM rfl rfl h1 ?_
  refine zr_fr hM rfl rfl rfl ?_
  refine zr_fr hM rfl rfl rfl ?_
  refine zr_getf (κ := (22, 0, 0)) hn hM rfl rfl rfl rfl ?_
  refine zr_ict hM rfl rfl h2 ?_
  refine zr_fr hM rfl rfl rfl ?_
  exact zr_zret2 hM rfl rfl (by decide) rfl
set_option maxHeartbeats 4000000 in
theorem s111_0_t {n L : Nat} {σ : Ks} {g : List Nat} {cl : Bool} {p1 : Int32} (hn : 2 ≤ n ∧ n ≤ 5) (h1 : zcnd .lt p1 0 = true) : ZR 111 0 [.val (.ref (kad n (22, 0, 0))), .val (.int p1), .unset] [] (khp n L σ g) cl (.inl (some (.int (Int32.ofInt 0))), khp n L (kup σ 42 0 (Int32.ofInt 0)) (g), false) := by
  have hM : zmi[111]? = some _ := rfl
  refine zr_fr hM rfl rfl rfl ?_
  refine zr_fr hM rfl rfl rfl ?_
  refine zr_putf (κ := (22, 0, 0)) hn hM rfl rfl rfl rfl rfl rfl rfl rfl ?_
  refine zr_fr hM rfl rfl rfl ?_
  refine zr_ift hM rfl rfl h1 ?_
  refine zr_fr hM rfl rfl rfl ?_
  exact zr_zret2 hM rfl rfl (by decide) rfl
set_option maxHeartbeats 4000000 in
theorem s112_0_ffff {n L : Nat} {σ : Ks} {g : List Nat} {cl : Bool} {p1 : Int32} {p2 : Int32} (hn : 2 ≤ n ∧ n ≤ 5) (h1 : zcnd .lt p1 0 = false) (h2 : zcnd .ge p1 ((kup σ 42 0 (Int32.ofInt 0)) 42 2) = false) (h3 : zcnd .lt p2 0 = false) (h4 : zcnd .le p2 (Int32.ofInt 5) = false) : ZR 112 0 [.val (.ref (kad n (22, 0, 0))), .val (.int p1), .val (.int p2)] [] (khp n L σ g) cl (.inl (some (.int (Int32.ofInt (-1)))), khp n L (kup σ 42 0 (Int32.ofInt 0)) (g), false) := by
  have hM : zmi[112]? = some _ := rfl
  refine zr_fr hM rfl rfl rfl ?_
  refine zr_fr hM rfl rfl rfl ?_
  refine zr_putf (κ := (22, 0, 0)) hn hM rfl rfl rfl rfl rfl rfl rfl rfl ?_
  refine zr_fr hM rfl rfl rfl ?_
  refine zr_iff hM rfl rfl h1 ?_
  refine zr_fr hM rfl rfl rfl ?_
  refine zr_fr hM rfl rfl rfl ?_
  refine zr_getf (κ := (22, 0, 0)) hn hM rfl rfl rfl rfl ?_
  refine zr_icf hM rfl rfl h2 ?_
  refine zr_fr hM rfl rfl rfl ?_
  refine zr_iff hM rfl rfl h3 ?_
  refine zr_fr hM rfl rfl rfl ?_
  refine zr_fr hM rfl rfl rfl ?_
  refine zr_icf hM rfl rfl h4 ?_
  refine zr_fr hM rfl rfl rfl ?_
  refine zr_fr hM rfl rfl rfl ?_
  exact zr_iret2 hM rfl rfl rfl
set_option maxHeartbeats 4000000 in
theorem s112_0_ffft {n L : Nat} {σ : Ks} {g : List Nat} {cl : Bool} {p1 : Int32} {p2 : Int32} {x5 : Nat} (hn : 2 ≤ n ∧ n ≤ 5) (h1 : zcnd .lt p1 0 = false) (h2 : zcnd .ge p1 ((kup σ 42 0 (Int32.ofInt 0)) 42 2) = false) (h3 : zcnd .lt p2 0 = false) (h4 : zcnd .le p2 (Int32.ofInt 5) = true) (z5 : zix ((((Int8.ofInt 6).toInt32) * p1) + p2) 150 = some x5) : ZR 112 0 [.val (.ref (kad n (22, 0, 0))), .val (.int p1), .val (.int p2)] [] (khp n L σ g) cl (.inl (some (.int ((kup σ 42 0 (Int32.ofInt 0)) 41 x5))), khp n L (kup σ 42 0 (Int32.ofInt 0)) (g), false) := by
  have hM : zmi[112]? = some _ := rfl
  have l5 := (zix_some z5).2.2
  refine zr_fr hM rfl rfl rfl ?_
  refine zr_fr hM rfl rfl rfl ?_
  refine zr_putf (κ := (22, 0, 0)) hn hM rfl rfl rfl rfl rfl rfl rfl rfl ?_
  refine zr_fr hM rfl rfl rfl ?_
  refine zr_iff hM rfl rfl h1 ?_
  refine zr_fr hM rfl rfl rfl ?_
  refine zr_fr hM rfl rfl rfl ?_
  refine zr_getf (κ := (22, 0, 0)) hn hM rfl rfl rfl rfl ?_
  refine zr_icf hM rfl rfl h2 ?_
  refine zr_fr hM rfl rfl rfl ?_
  refine zr_iff hM rfl rfl h3 ?_
  refine zr_fr hM rfl rfl rfl ?_
  refine zr_fr hM rfl rfl rfl ?_
  refine zr_ict hM rfl rfl h4 ?_
  refine zr_fr hM rfl rfl rfl ?_
  refine zr_getf (κ := (22, 0, 0)) hn hM rfl rfl rfl rfl ?_
  refine zr_fr hM rfl rfl rfl ?_
  refine zr_fr hM rfl rfl rfl ?_
  refine zr_fr hM rfl rfl rfl ?_
  refine zr_fr hM rfl rfl rfl ?_
  refine zr_fr hM rfl rfl rfl ?_
  refine zr_iald (κ := (26, 0, 0)) hn hM rfl rfl rfl z5 ?_
  exact zr_iret2 hM rfl rfl rfl
set_option maxHeartbeats 4000000 in
theorem s112_0_fft {n L : Nat} {σ : Ks} {g : List Nat} {cl : Bool} {p1 : Int32} {p2 : Int32} (hn : 2 ≤ n ∧ n ≤ 5) (h1 : zcnd .lt p1 0 = false) (h2 : zcnd .ge p1 ((kup σ 42 0 (Int32.ofInt 0)) 42 2) = false) (h3 : zcnd .lt p2 0 = true) : ZR 112 0 [.val (.ref (kad n (22, 0, 0))), .val (.int p1), .val (.int p2)] [] (khp n L σ g) cl (.inl (some (.int (Int32.ofInt (-1)))), khp n L (kup σ 42 0 (Int32.ofInt 0)) (g), false) := by
  have hM : zmi[112]? = some _ := rfl
  refine zr_fr hM rfl rfl rfl ?_
  refine zr_fr hM rfl rfl rfl ?_
  refine zr_putf (κ := (22, 0, 0)) hn hM rfl rfl rfl rfl rfl rfl rfl rfl ?_
  refine zr_fr hM rfl rfl rfl ?_
  refine zr_iff hM rfl rfl h1 ?_
  refine zr_fr hM rfl rfl rfl ?_
  refine zr_fr hM rfl rfl rfl ?_
  refine zr_getf (κ := (22, 0, 0)) hn hM rfl rfl rfl rfl ?_
  refine zr_icf hM rfl rfl h2 ?_
  refine zr_fr hM rfl rfl rfl ?_
  refine zr_ift hM rfl rfl h3 ?_
  refine zr_fr hM rfl rfl rfl ?_
  refine zr_fr hM rfl rfl rfl ?_
  exact zr_iret2 hM rfl rfl rfl
set_option maxHeartbeats 4000000 in
theorem s112_0_ft {n L : Nat} {σ : Ks} {g : List Nat} {cl : Bool} {p1 : Int32} {p2 : Int32} (hn : 2 ≤ n ∧ n ≤ 5) (h1 : zcnd .lt p1 0 = false) (h2 : zcnd .ge p1 ((kup σ 42 0 (Int32.ofInt 0)) 42 2) = true) : ZR 112 0 [.val (.ref (kad n (22, 0, 0))), .val (.int p1), .val (.int p2)] [] (khp n L σ g) cl (.inl (some (.int (Int32.ofInt (-1)))), khp n L (kup σ 42 0 (Int32.ofInt 0)) (g), false) := by
  have hM : zmi[112]? = some _ := rfl
  refine zr_fr hM rfl rfl rfl ?_
  refine zr_fr hM rfl rfl rfl ?_
  refine zr_putf (κ := (22, 0, 0)) hn hM rfl rfl rfl rfl rfl rfl rfl rfl ?_
  refine zr_fr hM rfl rfl rfl ?_
  refine zr_iff hM rfl rfl h1 ?_
  refine zr_fr hM rfl rfl rfl ?_
  refine zr_fr hM rfl rfl rfl ?_
  refine zr_getf (κ := (22, 0, 0)) hn hM rfl rfl rfl rfl ?_
  refine zr_ict hM rfl rfl h2 ?_
  refine zr_fr hM rfl rfl rfl ?_
  refine zr_fr hM rfl rfl rfl ?_
  exact zr_iret2 hM rfl rfl rfl
set_option maxHeartbeats 4000000 in
theorem s112_0_t {n L : Nat} {σ : Ks} {g : List Nat} {cl : Bool} {p1 : Int32} {p2 : Int32} (hn : 2 ≤ n ∧ n ≤ 5) (h1 : zcnd .lt p1 0 = true) : ZR 112 0 [.val (.ref (kad n (22, 0, 0))), .val (.int p1), .val (.int p2)] [] (khp n L σ g) cl (.inl (some (.int (Int32.ofInt (-1)))), khp n L (kup σ 42 0 (Int32.ofInt 0)) (g), false) := by
  have hM : zmi[112]? = some _ := rfl
  refine zr_fr hM rfl rfl rfl ?_
  refine zr_fr hM rfl rfl rfl ?_
  refine zr_putf (κ := (22, 0, 0)) hn hM rfl rfl rfl rfl rfl rfl rfl rfl ?_
  refine zr_fr hM rfl rfl rfl ?_
  refine zr_ift hM rfl rfl h1 ?_
  refine zr_fr hM rfl rfl rfl ?_
  refine zr_fr hM rfl rfl rfl ?_
  exact zr_iret2 hM rfl rfl rfl
set_option maxHeartbeats 4000000 in
theorem s113_0_fff {n L : Nat} {σ : Ks} {g : List Nat} {cl : Bool} {p1 : Int32} {p2 : Int32} {r1 : Int32} {r3 : Int32} (hn : 2 ≤ n ∧ n ≤ 5) (c1_ : ZR 114 0 [.val (.int p1)] [] (khp n L σ g) true (.inl (some (.int r1)), khp n L σ g, true)) (h2 : zcnd .eq r1 0 = false) (c3_ : ZR 115 0 [.val (.int p2)] [] (khp n L σ g) true (.inl (some (.int r3)), khp n L σ g, true)) (h4 : zcnd .ne r3 0 = false) (h5 : zcnd .le ((kup σ 42 0 (Int32.ofInt 1)) 42 0) 0 = false) : ZR 113 0 [.val (.ref (kad n (22, 0, 0))), .val (.int p1), .val (.int p2)] [] (khp n L σ g) cl (.inl (some (.int (Int32.ofInt 0))), khp n L (kup σ 42 0 (Int32.ofInt 1)) (g), false) := by
  have hM : zmi[113]? = some _ := rfl
  refine zr_fr hM rfl rfl rfl ?_
  refine zr_fr hM rfl rfl rfl ?_
  refine zr_stat hM rfl rfl rfl rfl rfl rfl ?_
  refine zgo_ret rfl rfl c1_ ?_
  rw [Bool.and_true]
  refine zr_iff hM rfl rfl h2 ?_
  refine zr_fr hM rfl rfl rfl ?_
  refine zr_stat hM rfl rfl rfl rfl rfl rfl ?_
  refine zgo_ret rfl rfl c3_ ?_
  rw [Bool.and_true]
  refine zr_iff hM rfl rfl h4 ?_
  refine zr_fr hM rfl rfl rfl ?_
  refine zr_fr hM rfl rfl rfl ?_
  refine zr_putf (κ := (22, 0, 0)) hn hM rfl rfl rfl rfl rfl rfl rfl rfl ?_
  refine zr_fr hM rfl rfl rfl ?_
  refine zr_getf (κ := (22, 0, 0)) hn hM rfl rfl rfl rfl ?_
  refine zr_iff hM rfl rfl h5 ?_
  refine zr_fr hM rfl rfl rfl ?_
  exact zr_iret2 hM rfl rfl rfl
set_option maxHeartbeats 4000000 in
theorem s113_0_fftfff {n L : Nat} {σ : Ks} {g : List Nat} {cl : Bool} {p1 : Int32} {p2 : Int32} {r1 : Int32} {r3 : Int32} {x6 : Nat} {x8 : Nat} (hn : 2 ≤ n ∧ n ≤ 5) (c1_ : ZR 114 0 [.val (.int p1)] [] (khp n L σ g) true (.inl (some (.int r1)), khp n L σ g, true)) (h2 : zcnd .eq r1 0 = false) (c3_ : ZR 115 0 [.val (.int p2)] [] (khp n L σ g) true (.inl (some (.int r3)), khp n L σ g, true)) (h4 : zcnd .ne r3 0 = false) (h5 : zcnd .le ((kup σ 42 0 (Int32.ofInt 1)) 42 0) 0 = true) (z6 : zix (Int32.ofInt 0) 5 = some x6) (h7 : zcnd .ne ((kup σ 42 0 (Int32.ofInt 1)) 40 x6) 0 = false) (z8 : zix (((Int8.ofInt 12).toInt32) + p1) 820 = some x8) (h9 : zcnd .le (((kup σ 42 0 (Int32.ofInt 1)) (20 + x8 / 164) (x8 % 164)) + p2) (Int32.ofNat 100000000) = false) (h10 : zcnd .le ((kup (kup σ 42 0 (Int32.ofInt 1)) 42 0 (Int32.ofInt 2)) 42 0) 0 = false) : ZR 113 0 [.val (.ref (kad n (22, 0, 0))), .val (.int p1), .val (.int p2)] [] (khp n L σ g) cl (.inl (some (.int (Int32.ofInt 0))), khp n L (kup (kup σ 42 0 (Int32.ofInt 1)) 42 0 (Int32.ofInt 2)) (g), false) := by
  have hM : zmi[113]? = some _ := rfl
  have l6 := (zix_some z6).2.2
  have l8 := (zix_some z8).2.2
  refine zr_fr hM rfl rfl rfl ?_
  refine zr_fr hM rfl rfl rfl ?_
  refine zr_stat hM rfl rfl rfl rfl rfl rfl ?_
  refine zgo_ret rfl rfl c1_ ?_
  rw [Bool.and_true]
  refine zr_iff hM rfl rfl h2 ?_
  refine zr_fr hM rfl rfl rfl ?_
  refine zr_stat hM rfl rfl rfl rfl rfl rfl ?_
  refine zgo_ret rfl rfl c3_ ?_
  rw [Bool.and_true]
  refine zr_iff hM rfl rfl h4 ?_
  refine zr_fr hM rfl rfl rfl ?_
  refine zr_fr hM rfl rfl rfl ?_
  refine zr_putf (κ := (22, 0, 0)) hn hM rfl rfl rfl rfl rfl rfl rfl rfl ?_
  refine zr_fr hM rfl rfl rfl ?_
  refine zr_getf (κ := (22, 0, 0)) hn hM rfl rfl rfl rfl ?_
  refine zr_ift hM rfl rfl h5 ?_
  refine zr_fr hM rfl rfl rfl ?_
  refine zr_fr hM rfl rfl rfl ?_
  refine zr_getf (κ := (22, 0, 0)) hn hM rfl rfl rfl rfl ?_
  refine zr_fr hM rfl rfl rfl ?_
  refine zr_bald (κ := (25, 0, 0)) hn hM rfl rfl rfl z6 ?_
  refine zr_iff hM rfl rfl h7 ?_
  refine zr_fr hM rfl rfl rfl ?_
  refine zr_getf (κ := (22, 0, 0)) hn hM rfl rfl rfl rfl ?_
  refine zr_fr hM rfl rfl rfl ?_
  refine zr_fr hM rfl rfl rfl ?_
  refine zr_fr hM rfl rfl rfl ?_
  refine zr_iald (κ := (23, 0, 0)) hn hM rfl rfl rfl z8 ?_
  refine zr_fr hM rfl rfl rfl ?_
  refine zr_fr hM rfl rfl rfl ?_
  refine zr_ldc hM rfl ?_
  refine zr_icf hM rfl rfl h9 ?_
  refine zr_fr hM rfl rfl rfl ?_
  refine zr_fr hM rfl rfl rfl ?_
  refine zr_putf (κ := (22, 0, 0)) hn hM rfl rfl rfl rfl rfl rfl rfl rfl ?_
  refine zr_fr hM rfl rfl rfl ?_
  refine zr_getf (κ := (22, 0, 0)) hn hM rfl rfl rfl rfl ?_
  refine zr_iff hM rfl rfl h10 ?_
  refine zr_fr hM rfl rfl rfl ?_
  exact zr_iret2 hM rfl rfl rfl
set_option maxHeartbeats 4000000 in
theorem s113_0_fftfft {n L : Nat} {σ : Ks} {g : List Nat} {cl : Bool} {p1 : Int32} {p2 : Int32} {r1 : Int32} {r3 : Int32} {x6 : Nat} {x8 : Nat} {x11 : Nat} {σ12 : Ks} {c12 : Bool} (hn : 2 ≤ n ∧ n ≤ 5) (c1_ : ZR 114 0 [.val (.int p1)] [] (khp n L σ g) true (.inl (some (.int r1)), khp n L σ g, true)) (h2 : zcnd .eq r1 0 = false) (c3_ : ZR 115 0 [.val (.int p2)] [] (khp n L σ g) true (.inl (some (.int r3)), khp n L σ g, true)) (h4 : zcnd .ne r3 0 = false) (h5 : zcnd .le ((kup σ 42 0 (Int32.ofInt 1)) 42 0) 0 = true) (z6 : zix (Int32.ofInt 0) 5 = some x6) (h7 : zcnd .ne ((kup σ 42 0 (Int32.ofInt 1)) 40 x6) 0 = false) (z8 : zix (((Int8.ofInt 12).toInt32) + p1) 820 = some x8) (h9 : zcnd .le (((kup σ 42 0 (Int32.ofInt 1)) (20 + x8 / 164) (x8 % 164)) + p2) (Int32.ofNat 100000000) = false) (h10 : zcnd .le ((kup (kup σ 42 0 (Int32.ofInt 1)) 42 0 (Int32.ofInt 2)) 42 0) 0 = true) (z11 : zix p1 820 = some x11) (c12_ : ZR 96 0 [.val (.ref (kad n (22, 0, 0))), .val (.int (Int32.ofInt 0)), .unset] [] (khp n L (kup (kup (kup (kup σ 42 0 (Int32.ofInt 1)) 42 0 (Int32.ofInt 2)) (20 + x11 / 164) (x11 % 164) (((kup (kup σ 42 0 (Int32.ofInt 1)) 42 0 (Int32.ofInt 2)) (20 + x11 / 164) (x11 % 164)) + p2)) (20 + x8 / 164) (x8 % 164) (((kup (kup (kup σ 42 0 (Int32.ofInt 1)) 42 0 (Int32.ofInt 2)) (20 + x11 / 164) (x11 % 164) (((kup (kup σ 42 0 (Int32.ofInt 1)) 42 0 (Int32.ofInt 2)) (20 + x11 / 164) (x11 % 164)) + p2)) (20 + x8 / 164) (x8 % 164)) + p2)) g) true (.inl (none), khp n L σ12 g, c12)) : ZR 113 0 [.val (.ref (kad n (22, 0, 0))), .val (.int p1), .val (.int p2)] [] (khp n L σ g) cl (.inl (some (.int (σ12 (20 + x11 / 164) (x11 % 164)))), khp n L σ12 (g), false) := by
  have hM : zmi[113]? = some _ := rfl
  have l6 := (zix_some z6).2.2
  have l8 := (zix_some z8).2.2
  have l11 := (zix_some z11).2.2
  refine zr_fr hM rfl rfl rfl ?_
  refine zr_fr hM rfl rfl rfl ?_
  refine zr_stat hM rfl rfl rfl rfl rfl rfl ?_
  refine zgo_ret rfl rfl c1_ ?_
  rw [Bool.and_true]
  refine zr_iff hM rfl rfl h2 ?_
  refine zr_fr hM rfl rfl rfl ?_
  refine zr_stat hM rfl rfl rfl rfl rfl rfl ?_
  refine zgo_ret rfl rfl c3_ ?_
  rw [Bool.and_true]
  refine zr_iff hM rfl rfl h4 ?_
  refine zr_fr hM rfl rfl rfl ?_
  refine zr_fr hM rfl rfl rfl ?_
  refine zr_putf (κ := (22, 0, 0)) hn hM rfl rfl rfl rfl rfl rfl rfl rfl ?_
  refine zr_fr hM rfl rfl rfl ?_
  refine zr_getf (κ := (22, 0, 0)) hn hM rfl rfl rfl rfl ?_
  refine zr_ift hM rfl rfl h5 ?_
  refine zr_fr hM rfl rfl rfl ?_
  refine zr_fr hM rfl rfl rfl ?_
  refine zr_getf (κ := (22, 0, 0)) hn hM rfl rfl rfl rfl ?_
  refine zr_fr hM rfl rfl rfl ?_
  refine zr_bald (κ := (25, 0, 0)) hn hM rfl rfl rfl z6 ?_
  refine zr_iff hM rfl rfl h7 ?_
  refine zr_fr hM rfl rfl rfl ?_
  refine zr_getf (κ := (22, 0, 0)) hn hM rfl rfl rfl rfl ?_
  refine zr_fr hM rfl rfl rfl ?_
  refine zr_fr hM rfl rfl rfl ?_
  refine zr_fr hM rfl rfl rfl ?_
  refine zr_iald (κ := (23, 0, 0)) hn hM rfl rfl rfl z8 ?_
  refine zr_fr hM rfl rfl rfl ?_
  refine zr_fr hM rfl rfl rfl ?_
  refine zr_ldc hM rfl ?_
  refine zr_icf hM rfl rfl h9 ?_
  refine zr_fr hM rfl rfl rfl ?_
  refine zr_fr hM rfl rfl rfl ?_
  refine zr_putf (κ := (22, 0, 0)) hn hM rfl rfl rfl rfl rfl rfl rfl rfl ?_
  refine zr_fr hM rfl rfl rfl ?_
  refine zr_getf (κ := (22, 0, 0)) hn hM rfl rfl rfl rfl ?_
  refine zr_ift hM rfl rfl h10 ?_
  refine zr_fr hM rfl rfl rfl ?_
  refine zr_getf (κ := (22, 0, 0)) hn hM rfl rfl rfl rfl ?_
  refine zr_fr hM rfl rfl rfl ?_
  refine zr_fr hM rfl rfl rfl ?_
  refine zr_iald (κ := (23, 0, 0)) hn hM rfl rfl rfl z11 ?_
  refine zr_fr hM rfl rfl rfl ?_
  refine zr_fr hM rfl rfl rfl ?_
  refine zr_iast (κ := (23, 0, 0)) hn hM rfl rfl rfl rfl z11 rfl ?_
  refine zr_fr hM rfl rfl rfl ?_
  refine zr_getf (κ := (22, 0, 0)) hn hM rfl rfl rfl rfl ?_
  refine zr_fr hM rfl rfl rfl ?_
  refine zr_fr hM rfl rfl rfl ?_
  refine zr_fr hM rfl rfl rfl ?_
  refine zr_fr hM rfl rfl rfl ?_
  refine zr_iald (κ := (23, 0, 0)) hn hM rfl rfl rfl z8 ?_
  refine zr_fr hM rfl rfl rfl ?_
  refine zr_fr hM rfl rfl rfl ?_
  refine zr_iast (κ := (23, 0, 0)) hn hM rfl rfl rfl rfl z8 rfl ?_
  refine zr_fr hM rfl rfl rfl ?_
  refine zr_fr hM rfl rfl rfl ?_
  refine zr_virt (κ := (22, 0, 0)) hn hM rfl rfl rfl rfl rfl rfl rfl rfl rfl ?_
  refine zgo_ret rfl rfl c12_ ?_
  rw [Bool.false_and]
  refine zr_fr hM rfl rfl rfl ?_
  refine zr_getf (κ := (22, 0, 0)) hn hM rfl rfl rfl rfl ?_
  refine zr_fr hM rfl rfl rfl ?_
  refine zr_iald (κ := (23, 0, 0)) hn hM rfl rfl rfl z11 ?_
  exact zr_iret2 hM rfl rfl rfl
set_option maxHeartbeats 4000000 in
theorem s113_0_fftftf {n L : Nat} {σ : Ks} {g : List Nat} {cl : Bool} {p1 : Int32} {p2 : Int32} {r1 : Int32} {r3 : Int32} {x6 : Nat} {x8 : Nat} (hn : 2 ≤ n ∧ n ≤ 5) (c1_ : ZR 114 0 [.val (.int p1)] [] (khp n L σ g) true (.inl (some (.int r1)), khp n L σ g, true)) (h2 : zcnd .eq r1 0 = false) (c3_ : ZR 115 0 [.val (.int p2)] [] (khp n L σ g) true (.inl (some (.int r3)), khp n L σ g, true)) (h4 : zcnd .ne r3 0 = false) (h5 : zcnd .le ((kup σ 42 0 (Int32.ofInt 1)) 42 0) 0 = true) (z6 : zix (Int32.ofInt 0) 5 = some x6) (h7 : zcnd .ne ((kup σ 42 0 (Int32.ofInt 1)) 40 x6) 0 = false) (z8 : zix (((Int8.ofInt 12).toInt32) + p1) 820 = some x8) (h9 : zcnd .le (((kup σ 42 0 (Int32.ofInt 1)) (20 + x8 / 164) (x8 % 164)) + p2) (Int32.ofNat 100000000) = true) (h10 : zcnd .le ((kup (kup σ 42 0 (Int32.ofInt 1)) 42 0 (Int32.ofInt 0)) 42 0) 0 = false) : ZR 113 0 [.val (.ref (kad n (22, 0, 0))), .val (.int p1), .val (.int p2)] [] (khp n L σ g) cl (.inl (some (.int (Int32.ofInt 0))), khp n L (kup (kup σ 42 0 (Int32.ofInt 1)) 42 0 (Int32.ofInt 0)) (g), false) := by
  have hM : zmi[113]? = some _ := rfl
  have l6 := (zix_some z6).2.2
  have l8 := (zix_some z8).2.2
  refine zr_fr hM rfl rfl rfl ?_
  refine zr_fr hM rfl rfl rfl ?_
  refine zr_stat hM rfl rfl rfl rfl rfl rfl ?_
  refine zgo_ret rfl rfl c1_ ?_
  rw [Bool.and_true]
  refine zr_iff hM rfl rfl h2 ?_
  refine zr_fr hM rfl rfl rfl ?_
  refine zr_stat hM rfl rfl rfl rfl rfl rfl ?_
  refine zgo_ret rfl rfl c3_ ?_
  rw [Bool.and_true]
  refine zr_iff hM rfl rfl h4 ?_
  refine zr_fr hM rfl rfl rfl ?_
  refine zr_fr hM rfl rfl rfl ?_
  refine zr_putf (κ := (22, 0, 0)) hn hM rfl rfl rfl rfl rfl rfl rfl rfl ?_
  refine zr_fr hM rfl rfl rfl ?_
  refine zr_getf (κ := (22, 0, 0)) hn hM rfl rfl rfl rfl ?_
  refine zr_ift hM rfl rfl h5 ?_
  refine zr_fr hM rfl rfl rfl ?_
  refine zr_fr hM rfl rfl rfl ?_
  refine zr_getf (κ := (22, 0, 0)) hn hM rfl rfl rfl rfl ?_
  refine zr_fr hM rfl rfl rfl ?_
  refine zr_bald (κ := (25, 0, 0)) hn hM rfl rfl rfl z6 ?_
  refine zr_iff hM rfl rfl h7 ?_
  refine zr_fr hM rfl rfl rfl ?_
  refine zr_getf (κ := (22, 0, 0)) hn hM rfl rfl rfl rfl ?_
  refine zr_fr hM rfl rfl rfl ?_
  refine zr_fr hM rfl rfl rfl ?_
  refine zr_fr hM rfl rfl rfl ?_
  refine zr_iald (κ := (23, 0, 0)) hn hM rfl rfl rfl z8 ?_
  refine zr_fr hM rfl rfl rfl ?_
  refine zr_fr hM rfl rfl rfl ?_
  refine zr_ldc hM rfl ?_
  refine zr_ict hM rfl rfl h9 ?_
  refine zr_fr hM rfl rfl rfl ?_
  refine zr_putf (κ := (22, 0, 0)) hn hM rfl rfl rfl rfl rfl rfl rfl rfl ?_
  refine zr_fr hM rfl rfl rfl ?_
  refine zr_getf (κ := (22, 0, 0)) hn hM rfl rfl rfl rfl ?_
  refine zr_iff hM rfl rfl h10 ?_
  refine zr_fr hM rfl rfl rfl ?_
  exact zr_iret2 hM rfl rfl rfl
set_option maxHeartbeats 4000000 in
theorem s113_0_fftftt {n L : Nat} {σ : Ks} {g : List Nat} {cl : Bool} {p1 : Int32} {p2 : Int32} {r1 : Int32} {r3 : Int32} {x6 : Nat} {x8 : Nat} {x11 : Nat} {σ12 : Ks} {c12 : Bool} (hn : 2 ≤ n ∧ n ≤ 5) (c1_ : ZR 114 0 [.val (.int p1)] [] (khp n L σ g) true (.inl (some (.int r1)), khp n L σ g, true)) (h2 : zcnd .eq r1 0 = false) (c3_ : ZR 115 0 [.val (.int p2)] [] (khp n L σ g) true (.inl (some (.int r3)), khp n L σ g, true)) (h4 : zcnd .ne r3 0 = false) (h5 : zcnd .le ((kup σ 42 0 (Int32.ofInt 1)) 42 0) 0 = true) (z6 : zix (Int32.ofInt 0) 5 = some x6) (h7 : zcnd .ne ((kup σ 42 0 (Int32.ofInt 1)) 40 x6) 0 = false) (z8 : zix (((Int8.ofInt 12).toInt32) + p1) 820 = some x8) (h9 : zcnd .le (((kup σ 42 0 (Int32.ofInt 1)) (20 + x8 / 164) (x8 % 164)) + p2) (Int32.ofNat 100000000) = true) (h10 : zcnd .le ((kup (kup σ 42 0 (Int32.ofInt 1)) 42 0 (Int32.ofInt 0)) 42 0) 0 = true) (z11 : zix p1 820 = some x11) (c12_ : ZR 96 0 [.val (.ref (kad n (22, 0, 0))), .val (.int (Int32.ofInt 0)), .unset] [] (khp n L (kup (kup (kup (kup σ 42 0 (Int32.ofInt 1)) 42 0 (Int32.ofInt 0)) (20 + x11 / 164) (x11 % 164) (((kup (kup σ 42 0 (Int32.ofInt 1)) 42 0 (Int32.ofInt 0)) (20 + x11 / 164) (x11 % 164)) + p2)) (20 + x8 / 164) (x8 % 164) (((kup (kup (kup σ 42 0 (Int32.ofInt 1)) 42 0 (Int32.ofInt 0)) (20 + x11 / 164) (x11 % 164) (((kup (kup σ 42 0 (Int32.ofInt 1)) 42 0 (Int32.ofInt 0)) (20 + x11 / 164) (x11 % 164)) + p2)) (20 + x8 / 164) (x8 % 164)) + p2)) g) true (.inl (none), khp n L σ12 g, c12)) : ZR 113 0 [.val (.ref (kad n (22, 0, 0))), .val (.int p1), .val (.int p2)] [] (khp n L σ g) cl (.inl (some (.int (σ12 (20 + x11 / 164) (x11 % 164)))), khp n L σ12 (g), false) := by
  have hM : zmi[113]? = some _ := rfl
  have l6 := (zix_some z6).2.2
  have l8 := (zix_some z8).2.2
  have l11 := (zix_some z11).2.2
  refine zr_fr hM rfl rfl rfl ?_
  refine zr_fr hM rfl rfl rfl ?_
  refine zr_stat hM rfl rfl rfl rfl rfl rfl ?_
  refine zgo_ret rfl rfl c1_ ?_
  rw [Bool.and_true]
  refine zr_iff hM rfl rfl h2 ?_
  refine zr_fr hM rfl rfl rfl ?_
  refine zr_stat hM rfl rfl rfl rfl rfl rfl ?_
  refine zgo_ret rfl rfl c3_ ?_
  rw [Bool.and_true]
  refine zr_iff hM rfl rfl h4 ?_
  refine zr_fr hM rfl rfl rfl ?_
  refine zr_fr hM rfl rfl rfl ?_
  refine zr_putf (κ := (22, 0, 0)) hn hM rfl rfl rfl rfl rfl rfl rfl rfl ?_
  refine zr_fr hM rfl rfl rfl ?_
  refine zr_getf (κ := (22, 0, 0)) hn hM rfl rfl rfl rfl ?_
  refine zr_ift hM rfl rfl h5 ?_
  refine zr_fr hM rfl rfl rfl ?_
  refine zr_fr hM rfl rfl rfl ?_
  refine zr_getf (κ := (22, 0, 0)) hn hM rfl rfl rfl rfl ?_
  refine zr_fr hM rfl rfl rfl ?_
  refine zr_bald (κ := (25, 0, 0)) hn hM rfl rfl rfl z6 ?_
  refine zr_iff hM rfl rfl h7 ?_
  refine zr_fr hM rfl rfl rfl ?_
  refine zr_getf (κ := (22, 0, 0)) hn hM rfl rfl rfl rfl ?_
  refine zr_fr hM rfl rfl rfl ?_
  refine zr_fr hM rfl rfl rfl ?_
  refine zr_fr hM rfl rfl rfl ?_
  refine zr_iald (κ := (23, 0, 0)) hn hM rfl rfl rfl z8 ?_
  refine zr_fr hM rfl rfl rfl ?_
  refine zr_fr hM rfl rfl rfl ?_
  refine zr_ldc hM rfl ?_
  refine zr_ict hM rfl rfl h9 ?_
  refine zr_fr hM rfl rfl rfl ?_
  refine zr_putf (κ := (22, 0, 0)) hn hM rfl rfl rfl rfl rfl rfl rfl rfl ?_
  refine zr_fr hM rfl rfl rfl ?_
  refine zr_getf (κ := (22, 0, 0)) hn hM rfl rfl rfl rfl ?_
  refine zr_ift hM rfl rfl h10 ?_
  refine zr_fr hM rfl rfl rfl ?_
  refine zr_getf (κ := (22, 0, 0)) hn hM rfl rfl rfl rfl ?_
  refine zr_fr hM rfl rfl rfl ?_
  refine zr_fr hM rfl rfl rfl ?_
  refine zr_iald (κ := (23, 0, 0)) hn hM rfl rfl rfl z11 ?_
  refine zr_fr hM rfl rfl rfl ?_
  refine zr_fr hM rfl rfl rfl ?_
  refine zr_iast (κ := (23, 0, 0)) hn hM rfl rfl rfl rfl z11 rfl ?_
  refine zr_fr hM rfl rfl rfl ?_
  refine zr_getf (κ := (22, 0, 0)) hn hM rfl rfl rfl rfl ?_
  refine zr_fr hM rfl rfl rfl ?_
  refine zr_fr hM rfl rfl rfl ?_
  refine zr_fr hM rfl rfl rfl ?_
  refine zr_fr hM rfl rfl rfl ?_
  refine zr_iald (κ := (23, 0, 0)) hn hM rfl rfl rfl z8 ?_
  refine zr_fr hM rfl rfl rfl ?_
  refine zr_fr hM rfl rfl rfl ?_
  refine zr_iast (κ := (23, 0, 0)) hn hM rfl rfl rfl rfl z8 rfl ?_
  refine zr_fr hM rfl rfl rfl ?_
  refine zr_fr hM rfl rfl rfl ?_
  refine zr_virt (κ := (22, 0, 0)) hn hM rfl rfl rfl rfl rfl rfl rfl rfl rfl ?_
  refine zgo_ret rfl rfl c12_ ?_
  rw [Bool.false_and]
  refine zr_fr hM rfl rfl rfl ?_
  refine zr_getf (κ := (22, 0, 0)) hn hM rfl rfl rfl rfl ?_
  refine zr_fr hM rfl rfl rfl ?_
  refine zr_iald (κ := (23, 0, 0)) hn hM rfl rfl rfl z11 ?_
  exact zr_iret2 hM rfl rfl rfl
set_option maxHeartbeats 4000000 in
theorem s113_0_ffttf {n L : Nat} {σ : Ks} {g : List Nat} {cl : Bool} {p1 : Int32} {p2 : Int32} {r1 : Int32} {r3 : Int32} {x6 : Nat} (hn : 2 ≤ n ∧ n ≤ 5) (c1_ : ZR 114 0 [.val (.int p1)] [] (khp n L σ g) true (.inl (some (.int r1)), khp n L σ g, true)) (h2 : zcnd .eq r1 0 = false) (c3_ : ZR 115 0 [.val (.int p2)] [] (khp n L σ g) true (.inl (some (.int r3)), khp n L σ g, true)) (h4 : zcnd .ne r3 0 = false) (h5 : zcnd .le ((kup σ 42 0 (Int32.ofInt 1)) 42 0) 0 = true) (z6 : zix (Int32.ofInt 0) 5 = some x6) (h7 : zcnd .ne ((kup σ 42 0 (Int32.ofInt 1)) 40 x6) 0 = true) (h8 : zcnd .le ((kup (kup σ 42 0 (Int32.ofInt 1)) 42 0 (Int32.ofInt 2)) 42 0) 0 = false) : ZR 113 0 [.val (.ref (kad n (22, 0, 0))), .val (.int p1), .val (.int p2)] [] (khp n L σ g) cl (.inl (some (.int (Int32.ofInt 0))), khp n L (kup (kup σ 42 0 (Int32.ofInt 1)) 42 0 (Int32.ofInt 2)) (g), false) := by
  have hM : zmi[113]? = some _ := rfl
  have l6 := (zix_some z6).2.2
  refine zr_fr hM rfl rfl rfl ?_
  refine zr_fr hM rfl rfl rfl ?_
  refine zr_stat hM rfl rfl rfl rfl rfl rfl ?_
  refine zgo_ret rfl rfl c1_ ?_
  rw [Bool.and_true]
  refine zr_iff hM rfl rfl h2 ?_
  refine zr_fr hM rfl rfl rfl ?_
  refine zr_stat hM rfl rfl rfl rfl rfl rfl ?_
  refine zgo_ret rfl rfl c3_ ?_
  rw [Bool.and_true]
  refine zr_iff hM rfl rfl h4 ?_
  refine zr_fr hM rfl rfl rfl ?_
  refine zr_fr hM rfl rfl rfl ?_
  refine zr_putf (κ := (22, 0, 0)) hn hM rfl rfl rfl rfl rfl rfl rfl rfl ?_
  refine zr_fr hM rfl rfl rfl ?_
  refine zr_getf (κ := (22, 0, 0)) hn hM rfl rfl rfl rfl ?_
  refine zr_ift hM rfl rfl h5 ?_
  refine zr_fr hM rfl rfl rfl ?_
  refine zr_fr hM rfl rfl rfl ?_
  refine zr_getf (κ := (22, 0, 0)) hn hM rfl rfl rfl rfl ?_
  refine zr_fr hM rfl rfl rfl ?_
  refine zr_bald (κ := (25, 0, 0)) hn hM rfl rfl rfl z6 ?_
  refine zr_ift hM rfl rfl h7 ?_
  refine zr_fr hM rfl rfl rfl ?_
  refine zr_fr hM rfl rfl rfl ?_
  refine zr_putf (κ := (22, 0, 0)) hn hM rfl rfl rfl rfl rfl rfl rfl rfl ?_
  refine zr_fr hM rfl rfl rfl ?_
  refine zr_getf (κ := (22, 0, 0)) hn hM rfl rfl rfl rfl ?_
  refine zr_iff hM rfl rfl h8 ?_
  refine zr_fr hM rfl rfl rfl ?_
  exact zr_iret2 hM rfl rfl rfl
set_option maxHeartbeats 4000000 in
theorem s113_0_ffttt {n L : Nat} {σ : Ks} {g : List Nat} {cl : Bool} {p1 : Int32} {p2 : Int32} {r1 : Int32} {r3 : Int32} {x6 : Nat} {x9 : Nat} {x10 : Nat} {σ11 : Ks} {c11 : Bool} (hn : 2 ≤ n ∧ n ≤ 5) (c1_ : ZR 114 0 [.val (.int p1)] [] (khp n L σ g) true (.inl (some (.int r1)), khp n L σ g, true)) (h2 : zcnd .eq r1 0 = false) (c3_ : ZR 115 0 [.val (.int p2)] [] (khp n L σ g) true (.inl (some (.int r3)), khp n L σ g, true)) (h4 : zcnd .ne r3 0 = false) (h5 : zcnd .le ((kup σ 42 0 (Int32.ofInt 1)) 42 0) 0 = true) (z6 : zix (Int32.ofInt 0) 5 = some x6) (h7 : zcnd .ne ((kup σ 42 0 (Int32.ofInt 1)) 40 x6) 0 = true) (h8 : zcnd .le ((kup (kup σ 42 0 (Int32.ofInt 1)) 42 0 (Int32.ofInt 2)) 42 0) 0 = true) (z9 : zix p1 820 = some x9) (z10 : zix (((Int8.ofInt 12).toInt32) + p1) 820 = some x10) (c11_ : ZR 96 0 [.val (.ref (kad n (22, 0, 0))), .val (.int (Int32.ofInt 0)), .unset] [] (khp n L (kup (kup (kup (kup σ 42 0 (Int32.ofInt 1)) 42 0 (Int32.ofInt 2)) (20 + x9 / 164) (x9 % 164) (((kup (kup σ 42 0 (Int32.ofInt 1)) 42 0 (Int32.ofInt 2)) (20 + x9 / 164) (x9 % 164)) + p2)) (20 + x10 / 164) (x10 % 164) (((kup (kup (kup σ 42 0 (Int32.ofInt 1)) 42 0 (Int32.ofInt 2)) (20 + x9 / 164) (x9 % 164) (((kup (kup σ 42 0 (Int32.ofInt 1)) 42 0 (Int32.ofInt 2)) (20 + x9 / 164) (x9 % 164)) + p2)) (20 + x10 / 164) (x10 % 164)) + p2)) g) true (.inl (none), khp n L σ11 g, c11)) : ZR 113 0 [.val (.ref (kad n (22, 0, 0))), .val (.int p1), .val (.int p2)] [] (khp n L σ g) cl (.inl (some (.int (σ11 (20 + x9 / 164) (x9 % 164)))), khp n L σ11 (g), false) := by
  have hM : zmi[113]? = some _ := rfl
  have l6 := (zix_some z6).2.2
  have l9 := (zix_some z9).2.2
  have l10 := (zix_some z10).2.2
  refine zr_fr hM rfl rfl rfl ?_
  refine zr_fr hM rfl rfl rfl ?_
  refine zr_stat hM rfl rfl rfl rfl rfl rfl ?_
  refine zgo_ret rfl rfl c1_ ?_
  rw [Bool.and_true]
  refine zr_iff hM rfl rfl h2 ?_
  refine zr_fr hM rfl rfl rfl ?_
  refine zr_stat hM rfl rfl rfl rfl rfl rfl ?_
  refine zgo_ret rfl rfl c3_ ?_
  rw [Bool.and_true]
  refine zr_iff hM rfl rfl h4 ?_
  refine zr_fr hM rfl rfl rfl ?_
  refine zr_fr hM rfl rfl rfl ?_
  refine zr_putf (κ := (22, 0, 0)) hn hM rfl rfl rfl rfl rfl rfl rfl rfl ?_
  refine zr_fr hM rfl rfl rfl ?_
  refine zr_getf (κ := (22, 0, 0)) hn hM rfl rfl rfl rfl ?_
  refine zr_ift hM rfl rfl h5 ?_
  refine zr_fr hM rfl rfl rfl ?_
  refine zr_fr hM rfl rfl rfl ?_
  refine zr_getf (κ := (22, 0, 0)) hn hM rfl rfl rfl rfl ?_
  refine zr_fr hM rfl rfl rfl ?_
  refine zr_bald (κ := (25, 0, 0)) hn hM rfl rfl rfl z6 ?_
  refine zr_ift hM rfl rfl h7 ?_
  refine zr_fr hM rfl rfl rfl ?_
  refine zr_fr hM rfl rfl rfl ?_
  refine zr_putf (κ := (22, 0, 0)) hn hM rfl rfl rfl rfl rfl rfl rfl rfl ?_
  refine zr_fr hM rfl rfl rfl ?_
  refine zr_getf (κ := (22, 0, 0)) hn hM rfl rfl rfl rfl ?_
  refine zr_ift hM rfl rfl h8 ?_
  refine zr_fr hM rfl rfl rfl ?_
  refine zr_getf (κ := (22, 0, 0)) hn hM rfl rfl rfl rfl ?_
  refine zr_fr hM rfl rfl rfl ?_
  refine zr_fr hM rfl rfl rfl ?_
  refine zr_iald (κ := (23, 0, 0)) hn hM rfl rfl rfl z9 ?_
  refine zr_fr hM rfl rfl rfl ?_
  refine zr_fr hM rfl rfl rfl ?_
  refine zr_iast (κ := (23, 0, 0)) hn hM rfl rfl rfl rfl z9 rfl ?_
  refine zr_fr hM rfl rfl rfl ?_
  refine zr_getf (κ := (22, 0, 0)) hn hM rfl rfl rfl rfl ?_
  refine zr_fr hM rfl rfl rfl ?_
  refine zr_fr hM rfl rfl rfl ?_
  refine zr_fr hM rfl rfl rfl ?_
  refine zr_fr hM rfl rfl rfl ?_
  refine zr_iald (κ := (23, 0, 0)) hn hM rfl rfl rfl z10 ?_
  refine zr_fr hM rfl rfl rfl ?_
  refine zr_fr hM rfl rfl rfl ?_
  refine zr_iast (κ := (23, 0, 0)) hn hM rfl rfl rfl rfl z10 rfl ?_
  refine zr_fr hM rfl rfl rfl ?_
  refine zr_fr hM rfl rfl rfl ?_
  refine zr_virt (κ := (22, 0, 0)) hn hM rfl rfl rfl rfl rfl rfl rfl rfl rfl ?_
  refine zgo_ret rfl rfl c11_ ?_
  rw [Bool.false_and]
  refine zr_fr hM rfl rfl rfl ?_
  refine zr_getf (κ := (22, 0, 0)) hn hM rfl rfl rfl rfl ?_
  refine zr_fr hM rfl rfl rfl ?_
  refine zr_iald (κ := (23, 0, 0)) hn hM rfl rfl rfl z9 ?_
  exact zr_iret2 hM rfl rfl rfl
set_option maxHeartbeats 4000000 in
theorem s113_0_ftf {n L : Nat} {σ : Ks} {g : List Nat} {cl : Bool} {p1 : Int32} {p2 : Int32} {r1 : Int32} {r3 : Int32} (hn : 2 ≤ n ∧ n ≤ 5) (c1_ : ZR 114 0 [.val (.int p1)] [] (khp n L σ g) true (.inl (some (.int r1)), khp n L σ g, true)) (h2 : zcnd .eq r1 0 = false) (c3_ : ZR 115 0 [.val (.int p2)] [] (khp n L σ g) true (.inl (some (.int r3)), khp n L σ g, true)) (h4 : zcnd .ne r3 0 = true) (h5 : zcnd .le ((kup σ 42 0 (Int32.ofInt 0)) 42 0) 0 = false) : ZR 113 0 [.val (.ref (kad n (22, 0, 0))), .val (.int p1), .val (.int p2)] [] (khp n L σ g) cl (.inl (some (.int (Int32.ofInt 0))), khp n L (kup σ 42 0 (Int32.ofInt 0)) (g), false) := by
  have hM : zmi[113]? = some _ := rfl
  refine zr_fr hM rfl rfl rfl ?_
  refine zr_fr hM rfl rfl rfl ?_
  refine zr_stat hM rfl rfl rfl rfl rfl rfl ?_
  refine zgo_ret rfl rfl c1_ ?_
  rw [Bool.and_true]
  refine zr_iff hM rfl rfl h2 ?_
  refine zr_fr hM rfl rfl rfl ?_
  refine zr_stat hM rfl rfl rfl rfl rfl rfl ?_
  refine zgo_ret rfl rfl c3_ ?_
  rw [Bool.and_true]
  refine zr_ift hM rfl rfl h4 ?_
  refine zr_fr hM rfl rfl rfl ?_
  refine zr_putf (κ := (22, 0, 0)) hn hM rfl rfl rfl rfl rfl rfl rfl rfl ?_
  refine zr_fr hM rfl rfl rfl ?_
  refine zr_getf (κ := (22, 0, 0)) hn hM rfl rfl rfl rfl ?_
  refine zr_iff hM rfl rfl h5 ?_
  refine zr_fr hM rfl rfl rfl ?_
  exact zr_iret2 hM rfl rfl rfl
set_option maxHeartbeats 4000000 in
theorem s113_0_fttfff {n L : Nat} {σ : Ks} {g : List Nat} {cl : Bool} {p1 : Int32} {p2 : Int32} {r1 : Int32} {r3 : Int32} {x6 : Nat} {x8 : Nat} (hn : 2 ≤ n ∧ n ≤ 5) (c1_ : ZR 114 0 [.val (.int p1)] [] (khp n L σ g) true (.inl (some (.int r1)), khp n L σ g, true)) (h2 : zcnd .eq r1 0 = false) (c3_ : ZR 115 0 [.val (.int p2)] [] (khp n L σ g) true (.inl (some (.int r3)), khp n L σ g, true)) (h4 : zcnd .ne r3 0 = true) (h5 : zcnd .le ((kup σ 42 0 (Int32.ofInt 0)) 42 0) 0 = true) (z6 : zix (Int32.ofInt 0) 5 = some x6) (h7 : zcnd .ne ((kup σ 42 0 (Int32.ofInt 0)) 40 x6) 0 = false) (z8 : zix (((Int8.ofInt 12).toInt32) + p1) 820 = some x8) (h9 : zcnd .le (((kup σ 42 0 (Int32.ofInt 0)) (20 + x8 / 164) (x8 % 164)) + p2) (Int32.ofNat 100000000) = false) (h10 : zcnd .le ((kup (kup σ 42 0 (Int32.ofInt 0)) 42 0 (Int32.ofInt 2)) 42 0) 0 = false) : ZR 113 0 [.val (.ref (kad n (22, 0, 0))), .val (.int p1), .val (.int p2)] [] (khp n L σ g) cl (.inl (some (.int (Int32.ofInt 0))), khp n L (kup (kup σ 42 0 (Int32.ofInt 0)) 42 0 (Int32.ofInt 2)) (g), false) := by
  have hM : zmi[113]? = some _ := rfl
  have l6 := (zix_some z6).2.2
  have l8 := (zix_some z8).2.2
  refine zr_fr hM rfl rfl rfl ?_
  refine zr_fr hM rfl rfl rfl ?_
  refine zr_stat hM rfl rfl rfl rfl rfl rfl ?_
  refine zgo_ret rfl rfl c1_ ?_
  rw [Bool.and_true]
  refine zr_iff hM rfl rfl h2 ?_
  refine zr_fr hM rfl rfl rfl ?_
  refine zr_stat hM rfl rfl rfl rfl rfl rfl ?_
  refine zgo_ret rfl rfl c3_ ?_
  rw [Bool.and_true]
  refine zr_ift hM rfl rfl h4 ?_
  refine zr_fr hM rfl rfl rfl ?_
  refine zr_putf (κ := (22, 0, 0)) hn hM rfl rfl rfl rfl rfl rfl rfl rfl ?_
  refine zr_fr hM rfl rfl rfl ?_
  refine zr_getf (κ := (22, 0, 0)) hn hM rfl rfl rfl rfl ?_
  refine zr_ift hM rfl rfl h5 ?_
  refine zr_fr hM rfl rfl rfl ?_
  refine zr_fr hM rfl rfl rfl ?_
  refine zr_getf (κ := (22, 0, 0)) hn hM rfl rfl rfl rfl ?_
  refine zr_fr hM rfl rfl rfl ?_
  refine zr_bald (κ := (25, 0, 0)) hn hM rfl rfl rfl z6 ?_
  refine zr_iff hM rfl rfl h7 ?_
  refine zr_fr hM rfl rfl rfl ?_
  refine zr_getf (κ := (22, 0, 0)) hn hM rfl rfl rfl rfl ?_
  refine zr_fr hM rfl rfl rfl ?_
  refine zr_fr hM rfl rfl rfl ?_
  refine zr_fr hM rfl rfl rfl ?_
  refine zr_iald (κ := (23, 0, 0)) hn hM rfl rfl rfl z8 ?_
  refine zr_fr hM rfl rfl rfl ?_
  refine zr_fr hM rfl rfl rfl ?_
  refine zr_ldc hM rfl ?_
  refine zr_icf hM rfl rfl h9 ?_
  refine zr_fr hM rfl rfl rfl ?_
  refine zr_fr hM rfl rfl rfl ?_
  refine zr_putf (κ := (22, 0, 0)) hn hM rfl rfl rfl rfl rfl rfl rfl rfl ?_
  refine zr_fr hM rfl rfl rfl ?_
  refine zr_getf (κ := (22, 0, 0)) hn hM rfl rfl rfl rfl ?_
  refine zr_iff hM rfl rfl h10 ?_
  refine zr_fr hM rfl rfl rfl ?_
  exact zr_iret2 hM rfl rfl rfl
set_option maxHeartbeats 4000000 in
theorem s113_0_fttfft {n L : Nat} {σ : Ks} {g : List Nat} {cl : Bool} {p1 : Int32} {p2 : Int32} {r1 : Int32} {r3 : Int32} {x6 : Nat} {x8 : Nat} {x11 : Nat} {σ12 : Ks} {c12 : Bool} (hn : 2 ≤ n ∧ n ≤ 5) (c1_ : ZR 114 0 [.val (.int p1)] [] (khp n L σ g) true (.inl (some (.int r1)), khp n L σ g, true)) (h2 : zcnd .eq r1 0 = false) (c3_ : ZR 115 0 [.val (.int p2)] [] (khp n L σ g) true (.inl (some (.int r3)), khp n L σ g, true)) (h4 : zcnd .ne r3 0 = true) (h5 : zcnd .le ((kup σ 42 0 (Int32.ofInt 0)) 42 0) 0 = true) (z6 : zix (Int32.ofInt 0) 5 = some x6) (h7 : zcnd .ne ((kup σ 42 0 (Int32.ofInt 0)) 40 x6) 0 = false) (z8 : zix (((Int8.ofInt 12).toInt32) + p1) 820 = some x8) (h9 : zcnd .le (((kup σ 42 0 (Int32.ofInt 0)) (20 + x8 / 164) (x8 % 164)) + p2) (Int32.ofNat 100000000) = false) (h10 : zcnd .le ((kup (kup σ 42 0 (Int32.ofInt 0)) 42 0 (Int32.ofInt 2)) 42 0) 0 = true) (z11 : zix p1 820 = some x11) (c12_ : ZR 96 0 [.val (.ref (kad n (22, 0, 0))), .val (.int (Int32.ofInt 0)), .unset] [] (khp n L (kup (kup (kup (kup σ 42 0 (Int32.ofInt 0)) 42 0 (Int32.ofInt 2)) (20 + x11 / 164) (x11 % 164) (((kup (kup σ 42 0 (Int32.ofInt 0)) 42 0 (Int32.ofInt 2)) (20 + x11 / 164) (x11 % 164)) + p2)) (20 + x8 / 164) (x8 % 164) (((kup (kup (kup σ 42 0 (Int32.ofInt 0)) 42 0 (Int32.ofInt 2)) (20 + x11 / 164) (x11 % 164) (((kup (kup σ 42 0 (Int32.ofInt 0)) 42 0 (Int32.ofInt 2)) (20 + x11 / 164) (x11 % 164)) + p2)) (20 + x8 / 164) (x8 % 164)) + p2)) g) true (.inl (none), khp n L σ12 g, c12)) : ZR 113 0 [.val (.ref (kad n (22, 0, 0))), .val (.int p1), .val (.int p2)] [] (khp n L σ g) cl (.inl (some (.int (σ12 (20 + x11 / 164) (x11 % 164)))), khp n L σ12 (g), false) := by
  have hM : zmi[113]? = some _ := rfl
  have l6 := (zix_some z6).2.2
  have l8 := (zix_some z8).2.2
  have l11 := (zix_some z11).2.2
  refine zr_fr hM rfl rfl rfl ?_
  refine zr_fr hM rfl rfl rfl ?_
  refine zr_stat hM rfl rfl rfl rfl rfl rfl ?_
  refine zgo_ret rfl rfl c1_ ?_
  rw [Bool.and_true]
  refine zr_iff hM rfl rfl h2 ?_
  refine zr_fr hM rfl rfl rfl ?_
  refine zr_stat hM rfl rfl rfl rfl rfl rfl ?_
  refine zgo_ret rfl rfl c3_ ?_
  rw [Bool.and_true]
  refine zr_ift hM rfl rfl h4 ?_
  refine zr_fr hM rfl rfl rfl ?_
  refine zr_putf (κ := (22, 0, 0)) hn hM rfl rfl rfl rfl rfl rfl rfl rfl ?_
  refine zr_fr hM rfl rfl rfl ?_
  refine zr_getf (κ := (22, 0, 0)) hn hM rfl rfl rfl rfl ?_
  refine zr_ift hM rfl rfl h5 ?_
  refine zr_fr hM rfl rfl rfl ?_
  refine zr_fr hM rfl rfl rfl ?_
  refine zr_getf (κ := (22, 0, 0)) hn hM rfl rfl rfl rfl ?_
  refine zr_fr hM rfl rfl rfl ?_
  refine zr_bald (κ := (25, 0, 0)) hn hM rfl rfl rfl z6 ?_
  refine zr_iff hM rfl rfl h7 ?_
  refine zr_fr hM rfl rfl rfl ?_
  refine zr_getf (κ := (22, 0, 0)) hn hM rfl rfl rfl rfl ?_
  refine zr_fr hM rfl rfl rfl ?_
  refine zr_fr hM rfl rfl rfl ?_
  refine zr_fr hM rfl rfl rfl ?_
  refine zr_iald (κ := (23, 0, 0)) hn hM rfl rfl rfl z8 ?_
  refine zr_fr hM rfl rfl rfl ?_
  refine zr_fr hM rfl rfl rfl ?_
  refine zr_ldc hM rfl ?_
  refine zr_icf hM rfl rfl h9 ?_
  refine zr_fr hM rfl rfl rfl ?_
  refine zr_fr hM rfl rfl rfl ?_
  refine zr_putf (κ := (22, 0, 0)) hn hM rfl rfl rfl rfl rfl rfl rfl rfl ?_
  refine zr_fr hM rfl rfl rfl ?_
  refine zr_getf (κ := (22, 0, 0)) hn hM rfl rfl rfl rfl ?_
  refine zr_ift hM rfl rfl h10 ?_
  refine zr_fr hM rfl rfl rfl ?_
  refine zr_getf (κ := (22, 0, 0)) hn hM rfl rfl rfl rfl ?_
  refine zr_fr hM rfl rfl rfl ?_
  refine zr_fr hM rfl rfl rfl ?_
  refine zr_iald (κ := (23, 0, 0)) hn hM rfl rfl rfl z11 ?_
  refine zr_fr hM rfl rfl rfl ?_
  refine zr_fr hM rfl rfl rfl ?_
  refine zr_iast (κ := (23, 0, 0)) hn hM rfl rfl rfl rfl z11 rfl ?_
  refine zr_fr hM rfl rfl rfl ?_
  refine zr_getf (κ := (22, 0, 0)) hn hM rfl rfl rfl rfl ?_
  refine zr_fr hM rfl rfl rfl ?_
  refine zr_fr hM rfl rfl rfl ?_
  refine zr_fr hM rfl rfl rfl ?_
  refine zr_fr hM rfl rfl rfl ?_
  refine zr_iald (κ := (23, 0, 0)) hn hM rfl rfl rfl z8 ?_
  refine zr_fr hM rfl rfl rfl ?_
  refine zr_fr hM rfl rfl rfl ?_
  refine zr_iast (κ := (23, 0, 0)) hn hM rfl rfl rfl rfl z8 rfl ?_
  refine zr_fr hM rfl rfl rfl ?_
  refine zr_fr hM rfl rfl rfl ?_
  refine zr_virt (κ := (22, 0, 0)) hn hM rfl rfl rfl rfl rfl rfl rfl rfl rfl ?_
  refine zgo_ret rfl rfl c12_ ?_
  rw [Bool.false_and]
  refine zr_fr hM rfl rfl rfl ?_
  refine zr_getf (κ := (22, 0, 0)) hn hM rfl rfl rfl rfl ?_
  refine zr_fr hM rfl rfl rfl ?_
  refine zr_iald (κ := (23, 0, 0)) hn hM rfl rfl rfl z11 ?_
  exact zr_iret2 hM rfl rfl rfl
set_option maxHeartbeats 4000000 in
theorem s113_0_fttftf {n L : Nat} {σ : Ks} {g : List Nat} {cl : Bool} {p1 : Int32} {p2 : Int32} {r1 : Int32} {r3 : Int32} {x6 : Nat} {x8 : Nat} (hn : 2 ≤ n ∧ n ≤ 5) (c1_ : ZR 114 0 [.val (.int p1)] [] (khp n L σ g) true (.inl (some (.int r1)), khp n L σ g, true)) (h2 : zcnd .eq r1 0 = false) (c3_ : ZR 115 0 [.val (.int p2)] [] (khp n L σ g) true (.inl (some (.int r3)), khp n L σ g, true)) (h4 : zcnd .ne r3 0 = true) (h5 : zcnd .le ((kup σ 42 0 (Int32.ofInt 0)) 42 0) 0 = true) (z6 : zix (Int32.ofInt 0) 5 = some x6) (h7 : zcnd .ne ((kup σ 42 0 (Int32.ofInt 0)) 40 x6) 0 = false) (z8 : zix (((Int8.ofInt 12).toInt32) + p1) 820 = some x8) (h9 : zcnd .le (((kup σ 42 0 (Int32.ofInt 0)) (20 + x8 / 164) (x8 % 164)) + p2) (Int32.ofNat 100000000) = true) (h10 : zcnd .le ((kup (kup σ 42 0 (Int32.ofInt 0)) 42 0 (Int32.ofInt 0)) 42 0) 0 = false) : ZR 113 0 [.val (.ref (kad n (22, 0, 0))), .val (.int p1), .val (.int p2)] [] (khp n L σ g) cl (.inl (some (.int (Int32.ofInt 0))), khp n L (kup (kup σ 42 0 (Int32.ofInt 0)) 42 0 (Int32.ofInt 0)) (g), false) := by
  have hM : zmi[113]? = some _ := rfl
  have l6 := (zix_some z6).2.2
  have l8 := (zix_some z8).2.2
  refine zr_fr hM rfl rfl rfl ?_
  refine zr_fr hM rfl rfl rfl ?_
  refine zr_stat hM rfl rfl rfl rfl rfl rfl ?_
  refine zgo_ret rfl rfl c1_ ?_
  rw [Bool.and_true]
  refine zr_iff hM rfl rfl h2 ?_
  refine zr_fr hM rfl rfl rfl ?_
  refine zr_stat hM rfl rfl rfl rfl rfl rfl ?_
  refine zgo_ret rfl rfl c3_ ?_
  rw [Bool.and_true]
  refine zr_ift hM rfl rfl h4 ?_
  refine zr_fr hM rfl rfl rfl ?_
  refine zr_putf (κ := (22, 0, 0)) hn hM rfl rfl rfl rfl rfl rfl rfl rfl ?_
  refine zr_fr hM rfl rfl rfl ?_
  refine zr_getf (κ := (22, 0, 0)) hn hM rfl rfl rfl rfl ?_
  refine zr_ift hM rfl rfl h5 ?_
  refine zr_fr hM rfl rfl rfl ?_
  refine zr_fr hM rfl rfl rfl ?_
  refine zr_getf (κ := (22, 0, 0)) hn hM rfl rfl rfl rfl ?_
  refine zr_fr hM rfl rfl rfl ?_
  refine zr_bald (κ := (25, 0, 0)) hn hM rfl rfl rfl z6 ?_
  refine zr_iff hM rfl rfl h7 ?_
  refine zr_fr hM rfl rfl rfl ?_
  refine zr_getf (κ := (22, 0, 0)) hn hM rfl rfl rfl rfl ?_
  refine zr_fr hM rfl rfl rfl ?_
  refine zr_fr hM rfl rfl rfl ?_
  refine zr_fr hM rfl rfl rfl ?_
  refine zr_iald (κ := (23, 0, 0)) hn hM rfl rfl rfl z8 ?_
  refine zr_fr hM rfl rfl rfl ?_
  refine zr_fr hM rfl rfl rfl ?_
  refine zr_ldc hM rfl ?_
  refine zr_ict hM rfl rfl h9 ?_
  refine zr_fr hM rfl rfl rfl ?_
  refine zr_putf (κ := (22, 0, 0)) hn hM rfl rfl rfl rfl rfl rfl rfl rfl ?_
  refine zr_fr hM rfl rfl rfl ?_
  refine zr_getf (κ := (22, 0, 0)) hn hM rfl rfl rfl rfl ?_
  refine zr_iff hM rfl rfl h10 ?_
  refine zr_fr hM rfl rfl rfl ?_
  exact zr_iret2 hM rfl rfl rfl
set_option maxHeartbeats 4000000 in
theorem s113_0_fttftt {n L : Nat} {σ : Ks} {g : List Nat} {cl : Bool} {p1 : Int32} {p2 : Int32} {r1 : Int32} {r3 : Int32} {x6 : Nat} {x8 : Nat} {x11 : Nat} {σ12 : Ks} {c12 : Bool} (hn : 2 ≤ n ∧ n ≤ 5) (c1_ : ZR 114 0 [.val (.int p1)] [] (khp n L σ g) true (.inl (some (.int r1)), khp n L σ g, true)) (h2 : zcnd .eq r1 0 = false) (c3_ : ZR 115 0 [.val (.int p2)] [] (khp n L σ g) true (.inl (some (.int r3)), khp n L σ g, true)) (h4 : zcnd .ne r3 0 = true) (h5 : zcnd .le ((kup σ 42 0 (Int32.ofInt 0)) 42 0) 0 = true) (z6 : zix (Int32.ofInt 0) 5 = some x6) (h7 : zcnd .ne ((kup σ 42 0 (Int32.ofInt 0)) 40 x6) 0 = false) (z8 : zix (((Int8.ofInt 12).toInt32) + p1) 820 = some x8) (h9 : zcnd .le (((kup σ 42 0 (Int32.ofInt 0)) (20 + x8 / 164) (x8 % 164)) + p2) (Int32.ofNat 100000000) = true) (h10 : zcnd .le ((kup (kup σ 42 0 (Int32.ofInt 0)) 42 0 (Int32.ofInt 0)) 42 0) 0 = true) (z11 : zix p1 820 = some x11) (c12_ : ZR 96 0 [.val (.ref (kad n (22, 0, 0))), .val (.int (Int32.ofInt 0)), .unset] [] (khp n L (kup (kup (kup (kup σ 42 0 (Int32.ofInt 0)) 42 0 (Int32.ofInt 0)) (20 + x11 / 164) (x11 % 164) (((kup (kup σ 42 0 (Int32.ofInt 0)) 42 0 (Int32.ofInt 0)) (20 + x11 / 164) (x11 % 164)) + p2)) (20 + x8 / 164) (x8 % 164) (((kup (kup (kup σ 42 0 (Int32.ofInt 0)) 42 0 (Int32.ofInt 0)) (20 + x11 / 164) (x11 % 164) (((kup (kup σ 42 0 (Int32.ofInt 0)) 42 0 (Int32.ofInt 0)) (20 + x11 / 164) (x11 % 164)) + p2)) (20 + x8 / 164) (x8 % 164)) + p2)) g) true (.inl (none), khp n L σ12 g, c12)) : ZR 113 0 [.val (.ref (kad n (22, 0, 0))), .val (.int p1), .val (.int p2)] [] (khp n L σ g) cl (.inl (some (.int (σ12 (20 + x11 / 164) (x11 % 164)))), khp n L σ12 (g), false) := by
  have hM : zmi[113]? = some _ := rfl
  have l6 := (zix_some z6).2.2
  have l8 := (zix_some z8).2.2
  have l11 := (zix_some z11).2.2
  refine zr_fr hM rfl rfl rfl ?_
  refine zr_fr hM rfl rfl rfl ?_
  refine zr_stat hM rfl rfl rfl rfl rfl rfl ?_
  refine zgo_ret rfl rfl c1_ ?_
  rw [Bool.and_true]
  refine zr_iff hM rfl rfl h2 ?_
  refine zr_fr hM rfl rfl rfl ?_
  refine zr_stat hM rfl rfl rfl rfl rfl rfl ?_
  refine zgo_ret rfl rfl c3_ ?_
  rw [Bool.and_true]
  refine zr_ift hM rfl rfl h4 ?_
  refine zr_fr hM rfl rfl rfl ?_
  refine zr_putf (κ := (22, 0, 0)) hn hM rfl rfl rfl rfl rfl rfl rfl rfl ?_
  refine zr_fr hM rfl rfl rfl ?_
  refine zr_getf (κ := (22, 0, 0)) hn hM rfl rfl rfl rfl ?_
  refine zr_ift hM rfl rfl h5 ?_
  refine zr_fr hM rfl rfl rfl ?_
  refine zr_fr hM rfl rfl rfl ?_
  refine zr_getf (κ := (22, 0, 0)) hn hM rfl rfl rfl rfl ?_
  refine zr_fr hM rfl rfl rfl ?_
  refine zr_bald (κ := (25, 0, 0)) hn hM rfl rfl rfl z6 ?_
  refine zr_iff hM rfl rfl h7 ?_
  refine zr_fr hM rfl rfl rfl ?_
  refine zr_getf (κ := (22, 0, 0)) hn hM rfl rfl rfl rfl ?_
  refine zr_fr hM rfl rfl rfl ?_
  refine zr_fr hM rfl rfl rfl ?_
  refine zr_fr hM rfl rfl rfl ?_
  refine zr_iald (κ := (23, 0, 0)) hn hM rfl rfl rfl z8 ?_
  refine zr_fr hM rfl rfl rfl ?_
  refine zr_fr hM rfl rfl rfl ?_
  refine zr_ldc hM rfl ?_
  refine zr_ict hM rfl rfl h9 ?_
  refine zr_fr hM rfl rfl rfl ?_
  refine zr_putf (κ := (22, 0, 0)) hn hM rfl rfl rfl rfl rfl rfl rfl rfl ?_
  refine zr_fr hM rfl rfl rfl ?_
  refine zr_getf (κ := (22, 0, 0)) hn hM rfl rfl rfl rfl ?_
  refine zr_ift hM rfl rfl h10 ?_
  refine zr_fr hM rfl rfl rfl ?_
  refine zr_getf (κ := (22, 0, 0)) hn hM rfl rfl rfl rfl ?_
  refine zr_fr hM rfl rfl rfl ?_
  refine zr_fr hM rfl rfl rfl ?_
  refine zr_iald (κ := (23, 0, 0)) hn hM rfl rfl rfl z11 ?_
  refine zr_fr hM rfl rfl rfl ?_
  refine zr_fr hM rfl rfl rfl ?_
  refine zr_iast (κ := (23, 0, 0)) hn hM rfl rfl rfl rfl z11 rfl ?_
  refine zr_fr hM rfl rfl rfl ?_
  refine zr_getf (κ := (22, 0, 0)) hn hM rfl rfl rfl rfl ?_
  refine zr_fr hM rfl rfl rfl ?_
  refine zr_fr hM rfl rfl rfl ?_
  refine zr_fr hM rfl rfl rfl ?_
  refine zr_fr hM rfl rfl rfl ?_
  refine zr_iald (κ := (23, 0, 0)) hn hM rfl rfl rfl z8 ?_
  refine zr_fr hM rfl rfl rfl ?_
  refine zr_fr hM rfl rfl rfl ?_
  refine zr_iast (κ := (23, 0, 0)) hn hM rfl rfl rfl rfl z8 rfl ?_
  refine zr_fr hM rfl rfl rfl ?_
  refine zr_fr hM rfl rfl rfl ?_
  refine zr_virt (κ := (22, 0, 0)) hn hM rfl rfl rfl rfl rfl rfl rfl rfl rfl ?_
  refine zgo_ret rfl rfl c12_ ?_
  rw [Bool.false_and]
  refine zr_fr hM rfl rfl rfl ?_
  refine zr_getf (κ := (22, 0, 0)) hn hM rfl rfl rfl rfl ?_
  refine zr_fr hM rfl rfl rfl ?_
  refine zr_iald (κ := (23, 0, 0)) hn hM rfl rfl rfl z11 ?_
  exact zr_iret2 hM rfl rfl rfl
set_option maxHeartbeats 4000000 in
theorem s113_0_ftttf {n L : Nat} {σ : Ks} {g : List Nat} {cl : Bool} {p1 : Int32} {p2 : Int32} {r1 : Int32} {r3 : Int32} {x6 : Nat} (hn : 2 ≤ n ∧ n ≤ 5) (c1_ : ZR 114 0 [.val (.int p1)] [] (khp n L σ g) true (.inl (some (.int r1)), khp n L σ g, true)) (h2 : zcnd .eq r1 0 = false) (c3_ : ZR 115 0 [.val (.int p2)] [] (khp n L σ g) true (.inl (some (.int r3)), khp n L σ g, true)) (h4 : zcnd .ne r3 0 = true) (h5 : zcnd .le ((kup σ 42 0 (Int32.ofInt 0)) 42 0) 0 = true) (z6 : zix (Int32.ofInt 0) 5 = some x6) (h7 : zcnd .ne ((kup σ 42 0 (Int32.ofInt 0)) 40 x6) 0 = true) (h8 : zcnd .le ((kup (kup σ 42 0 (Int32.ofInt 0)) 42 0 (Int32.ofInt 2)) 42 0) 0 = false) : ZR 113 0 [.val (.ref (kad n (22, 0, 0))), .val (.int p1), .val (.int p2)] [] (khp n L σ g) cl (.inl (some (.int (Int32.ofInt 0))), khp n L (kup (kup σ 42 0 (Int32.ofInt 0)) 42 0 (Int32.ofInt 2)) (g), false) := by
  have hM : zmi[113]? = some _ := rfl
  have l6 := (zix_some z6).2.2
  refine zr_fr hM rfl rfl rfl ?_
  refine zr_fr hM rfl rfl rfl ?_
  refine zr_stat hM rfl rfl rfl rfl rfl rfl ?_
  refine zgo_ret rfl rfl c1_ ?_
  rw [Bool.and_true]
  refine zr_iff hM rfl rfl h2 ?_
  refine zr_fr hM rfl rfl rfl ?_
  refine zr_stat hM rfl rfl rfl rfl rfl rfl ?_
  refine zgo_ret rfl rfl c3_ ?_
  rw [Bool.and_true]
  refine zr_ift hM rfl rfl h4 ?_
  refine zr_fr hM rfl rfl rfl ?_
  refine zr_putf (κ := (22, 0, 0)) hn hM rfl rfl rfl rfl rfl rfl rfl rfl ?_
  refine zr_fr hM rfl rfl rfl ?_
  refine zr_getf (κ := (22, 0, 0)) hn hM rfl rfl rfl rfl ?_
  refine zr_ift hM rfl rfl h5 ?_
  refine zr_fr hM rfl rfl rfl ?_
  refine zr_fr hM rfl rfl rfl ?_
  refine zr_getf (κ := (22, 0, 0)) hn hM rfl rfl rfl rfl ?_
  refine zr_fr hM rfl rfl rfl ?_
  refine zr_bald (κ := (25, 0, 0)) hn hM rfl rfl rfl z6 ?_
  refine zr_ift hM rfl rfl h7 ?_
  refine zr_fr hM rfl rfl rfl ?_
  refine zr_fr hM rfl rfl rfl ?_
  refine zr_putf (κ := (22, 0, 0)) hn hM rfl rfl rfl rfl rfl rfl rfl rfl ?_
  refine zr_fr hM rfl rfl rfl ?_
  refine zr_getf (κ := (22, 0, 0)) hn hM rfl rfl rfl rfl ?_
  refine zr_iff hM rfl rfl h8 ?_
  refine zr_fr hM rfl rfl rfl ?_
  exact zr_iret2 hM rfl rfl rfl
set_option maxHeartbeats 4000000 in
theorem s113_0_ftttt {n L : Nat} {σ : Ks} {g : List Nat} {cl : Bool} {p1 : Int32} {p2 : Int32} {r1 : Int32} {r3 : Int32} {x6 : Nat} {x9 : Nat} {x10 : Nat} {σ11 : Ks} {c11 : Bool} (hn : 2 ≤ n ∧ n ≤ 5) (c1_ : ZR 114 0 [.val (.int p1)] [] (khp n L σ g) true (.inl (some (.int r1)), khp n L σ g, true)) (h2 : zcnd .eq r1 0 = false) (c3_ : ZR 115 0 [.val (.int p2)] [] (khp n L σ g) true (.inl (some (.int r3)), khp n L σ g, true)) (h4 : zcnd .ne r3 0 = true) (h5 : zcnd .le ((kup σ 42 0 (Int32.ofInt 0)) 42 0) 0 = true) (z6 : zix (Int32.ofInt 0) 5 = some x6) (h7 : zcnd .ne ((kup σ 42 0 (Int32.ofInt 0)) 40 x6) 0 = true) (h8 : zcnd .le ((kup (kup σ 42 0 (Int32.ofInt 0)) 42 0 (Int32.ofInt 2)) 42 0) 0 = true) (z9 : zix p1 820 = some x9) (z10 : zix (((Int8.ofInt 12).toInt32) + p1) 820 = some x10) (c11_ : ZR 96 0 [.val (.ref (kad n (22, 0, 0))), .val (.int (Int32.ofInt 0)), .unset] [] (khp n L (kup (kup (kup (kup σ 42 0 (Int32.ofInt 0)) 42 0 (Int32.ofInt 2)) (20 + x9 / 164) (x9 % 164) (((kup (kup σ 42 0 (Int32.ofInt 0)) 42 0 (Int32.ofInt 2)) (20 + x9 / 164) (x9 % 164)) + p2)) (20 + x10 / 164) (x10 % 164) (((kup (kup (kup σ 42 0 (Int32.ofInt 0)) 42 0 (Int32.ofInt 2)) (20 + x9 / 164) (x9 % 164) (((kup (kup σ 42 0 (Int32.ofInt 0)) 42 0 (Int32.ofInt 2)) (20 + x9 / 164) (x9 % 164)) + p2)) (20 + x10 / 164) (x10 % 164)) + p2)) g) true (.inl (none), khp n L σ11 g, c11)) : ZR 113 0 [.val (.ref (kad n (22, 0, 0))), .val (.int p1), .val (.int p2)] [] (khp n L σ g) cl (.inl (some (.int (σ11 (20 + x9 / 164) (x9 % 164)))), khp n L σ11 (g), false) := by
  have hM : zmi[113]? = some _ := rfl
  have l6 := (zix_some z6).2.2
  have l9 := (zix_some z9).2.2
  have l10 := (zix_some z10).2.2
  refine zr_fr hM rfl rfl rfl ?_
  refine zr_fr hM rfl rfl rfl ?_
  refine zr_stat hM rfl rfl rfl rfl rfl rfl ?_
  refine zgo_ret rfl rfl c1_ ?_
  rw [Bool.and_true]
  refine zr_iff hM rfl rfl h2 ?_
  refine zr_fr hM rfl rfl rfl ?_
  refine zr_stat hM rfl rfl rfl rfl rfl rfl ?_
  refine zgo_ret rfl rfl c3_ ?_
  rw [Bool.and_true]
  refine zr_ift hM rfl rfl h4 ?_
  refine zr_fr hM rfl rfl rfl ?_
  refine zr_putf (κ := (22, 0, 0)) hn hM rfl rfl rfl rfl rfl rfl rfl rfl ?_
  refine zr_fr hM rfl rfl rfl ?_
  refine zr_getf (κ := (22, 0, 0)) hn hM rfl rfl rfl rfl ?_
  refine zr_ift hM rfl rfl h5 ?_
  refine zr_fr hM rfl rfl rfl ?_
  refine zr_fr hM rfl rfl rfl ?_
  refine zr_getf (κ := (22, 0, 0)) hn hM rfl rfl rfl rfl ?_
  refine zr_fr hM rfl rfl rfl ?_
  refine zr_bald (κ := (25, 0, 0)) hn hM rfl rfl rfl z6 ?_
  refine zr_ift hM rfl rfl h7 ?_
  refine zr_fr hM rfl rfl rfl ?_
  refine zr_fr hM rfl rfl rfl ?_
  refine zr_putf (κ := (22, 0, 0)) hn hM rfl rfl rfl rfl rfl rfl rfl rfl ?_
  refine zr_fr hM rfl rfl rfl ?_
  refine zr_getf (κ := (22, 0, 0)) hn hM rfl rfl rfl rfl ?_
  refine zr_ift hM rfl rfl h8 ?_
  refine zr_fr hM rfl rfl rfl ?_
  refine zr_getf (κ := (22, 0, 0)) hn hM rfl rfl rfl rfl ?_
  refine zr_fr hM rfl rfl rfl ?_
  refine zr_fr hM rfl rfl rfl ?_
  refine zr_iald (κ := (23, 0, 0)) hn hM rfl rfl rfl z9 ?_
  refine zr_fr hM rfl rfl rfl ?_
  refine zr_fr hM rfl rfl rfl ?_
  refine zr_iast (κ := (23, 0, 0)) hn hM rfl rfl rfl rfl z9 rfl ?_
  refine zr_fr hM rfl rfl rfl ?_
  refine zr_getf (κ := (22, 0, 0)) hn hM rfl rfl rfl rfl ?_
  refine zr_fr hM rfl rfl rfl ?_
  refine zr_fr hM rfl rfl rfl ?_
  refine zr_fr hM rfl rfl rfl ?_
  refine zr_fr hM rfl rfl rfl ?_
  refine zr_iald (κ := (23, 0, 0)) hn hM rfl rfl rfl z10 ?_
  refine zr_fr hM rfl rfl rfl ?_
  refine zr_fr hM rfl rfl rfl ?_
  refine zr_iast (κ := (23, 0, 0)) hn hM rfl rfl rfl rfl z10 rfl ?_
  refine zr_fr hM rfl rfl rfl ?_
  refine zr_fr hM rfl rfl rfl ?_
  refine zr_virt (κ := (22, 0, 0)) hn hM rfl rfl rfl rfl rfl rfl rfl rfl rfl ?_
  refine zgo_ret rfl rfl c11_ ?_
  rw [Bool.false_and]
  refine zr_fr hM rfl rfl rfl ?_
  refine zr_getf (κ := (22, 0, 0)) hn hM rfl rfl rfl rfl ?_
  refine zr_fr hM rfl rfl rfl ?_
  refine zr_iald (κ := (23, 0, 0)) hn hM rfl rfl rfl z9 ?_
  exact zr_iret2 hM rfl rfl rfl
