set_option maxHeartbeats 4000000 in
theorem s123_0_ftttf {n L : Nat} {σ : Ks} {g : List Nat} {cl : Bool} {p1 : Int32} {p2 : Int32} {p3 : Int32} {p4 : Int32} {r1 : Int32} {r5 : Int32} {x6 : Nat} (hn : 2 ≤ n ∧ n ≤ 5) (c1_ : ZR 118 0 [.val (.ref (kad n (22, 0, 0))), .val (.int p1), .val (.int p2), .val (.int p3)] [] (khp n L σ g) true (.inl (some (.int r1)), khp n L σ g, true)) (h2 : zcnd .eq r1 0 = false) (h3 : zcnd .lt p4 (Int32.ofInt 1) = true) (h4 : zcnd .le ((kup σ 42 0 (Int32.ofInt 1)) 42 0) 0 = true) (c5_ : ZR 97 0 [.val (.int p1)] [] (khp n L (kup σ 42 0 (Int32.ofInt 1)) g) true (.inl (some (.int r5)), khp n L (kup σ 42 0 (Int32.ofInt 1)) g, true)) (z6 : zix p1 5 = some x6) (h7 : zcnd .ne ((kup σ 42 0 (Int32.ofInt 1)) 40 x6) 0 = true) (h8 : zcnd .le ((kup (kup σ 42 0 (Int32.ofInt 1)) 42 0 (Int32.ofInt 2)) 42 0) 0 = false) : ZR 123 0 [.val (.ref (kad n (22, 0, 0))), .val (.int p1), .val (.int p2), .val (.int p3), .val (.int p4), .unset, .unset] [] (khp n L σ g) cl (.inl (some (.int (Int32.ofInt 0))), khp n L (kup (kup σ 42 0 (Int32.ofInt 1)) 42 0 (Int32.ofInt 2)) (g), false) := by
  have hM : zmi[123]? = some _ := rfl
  have l6 := (zix_some z6).2.2
  refine zr_fr hM rfl rfl rfl ?_
  refine zr_fr hM rfl rfl rfl ?_
  refine zr_fr hM rfl rfl rfl ?_
  refine zr_fr hM rfl rfl rfl ?_
  refine zr_fr hM rfl rfl rfl ?_
  refine zr_virt (κ := (22, 0, 0)) hn hM rfl rfl rfl rfl rfl rfl rfl rfl rfl ?_
  refine zgo_ret rfl rfl c1_ ?_
  rw [Bool.and_true]
  refine zr_iff hM rfl rfl h2 ?_
  refine zr_fr hM rfl rfl rfl ?_
  refine zr_fr hM rfl rfl rfl ?_
  refine zr_ict hM rfl rfl h3 ?_
  refine zr_fr hM rfl rfl rfl ?_
  refine zr_putf (κ := (22, 0, 0)) hn hM rfl rfl rfl rfl rfl rfl rfl rfl ?_
  refine zr_fr hM rfl rfl rfl ?_
  refine zr_getf (κ := (22, 0, 0)) hn hM rfl rfl rfl rfl ?_
  refine zr_ift hM rfl rfl h4 ?_
  refine zr_fr hM rfl rfl rfl ?_
  refine zr_stat hM rfl rfl rfl rfl rfl rfl ?_
  refine zgo_ret rfl rfl c5_ ?_
  rw [Bool.and_true]
  refine zr_fr hM rfl rfl rfl ?_
  refine zr_fr hM rfl rfl rfl ?_
  refine zr_fr hM rfl rfl rfl ?_
  refine zr_getf (κ := (22, 0, 0)) hn hM rfl rfl rfl rfl ?_
  refine zr_fr hM rfl rfl rfl ?_
  refine zr_bald (κ := (25, 0, 0)) hn hM rfl rfl rfl z6 ?_
  refine zr_ift hM rfl rfl h7 ?_
  refine zr_fr hM rfl rfl rfl ?_
  refine zr_fr hM rfl rfl rfl ?_
  refine zr_putf (κ := (22, 0, 0)) hn hM rfl rfl rfl rfl rfl rfl rfl rfl ?_
  refine zr_fr hM rfl rfl rfl ?_
  refine zr_getf (κ := (22, 0, 0)) hn hM rfl rfl rfl rfl ?_
  refine zr_iff hM rfl rfl h8 ?_
  refine zr_fr hM rfl rfl rfl ?_
  exact zr_iret2 hM rfl rfl rfl
set_option maxHeartbeats 4000000 in
theorem s123_0_ftttt {n L : Nat} {σ : Ks} {g : List Nat} {cl : Bool} {p1 : Int32} {p2 : Int32} {p3 : Int32} {p4 : Int32} {r1 : Int32} {r5 : Int32} {x6 : Nat} {x9 : Nat} {x10 : Nat} {x11 : Nat} {x12 : Nat} {x13 : Nat} {x14 : Nat} {x15 : Nat} {x16 : Nat} (hn : 2 ≤ n ∧ n ≤ 5) (c1_ : ZR 118 0 [.val (.ref (kad n (22, 0, 0))), .val (.int p1), .val (.int p2), .val (.int p3)] [] (khp n L σ g) true (.inl (some (.int r1)), khp n L σ g, true)) (h2 : zcnd .eq r1 0 = false) (h3 : zcnd .lt p4 (Int32.ofInt 1) = true) (h4 : zcnd .le ((kup σ 42 0 (Int32.ofInt 1)) 42 0) 0 = true) (c5_ : ZR 97 0 [.val (.int p1)] [] (khp n L (kup σ 42 0 (Int32.ofInt 1)) g) true (.inl (some (.int r5)), khp n L (kup σ 42 0 (Int32.ofInt 1)) g, true)) (z6 : zix p1 5 = some x6) (h7 : zcnd .ne ((kup σ 42 0 (Int32.ofInt 1)) 40 x6) 0 = true) (h8 : zcnd .le ((kup (kup σ 42 0 (Int32.ofInt 1)) 42 0 (Int32.ofInt 2)) 42 0) 0 = true) (z9 : zix (r5 + ((Int8.ofInt 19).toInt32)) 820 = some x9) (z10 : zix (r5 + ((Int8.ofInt 17).toInt32)) 820 = some x10) (z11 : zix ((r5 + ((Int8.ofInt 20).toInt32)) + ((Int32.ofInt 4) * ((kup (kup σ 42 0 (Int32.ofInt 1)) 42 0 (Int32.ofInt 2)) (20 + x9 / 164) (x9 % 164)))) 820 = some x11) (z12 : zix (((r5 + ((Int8.ofInt 20).toInt32)) + ((Int32.ofInt 4) * ((kup (kup σ 42 0 (Int32.ofInt 1)) 42 0 (Int32.ofInt 2)) (20 + x9 / 164) (x9 % 164)))) + (Int32.ofInt 1)) 820 = some x12) (z13 : zix (((r5 + ((Int8.ofInt 20).toInt32)) + ((Int32.ofInt 4) * ((kup (kup σ 42 0 (Int32.ofInt 1)) 42 0 (Int32.ofInt 2)) (20 + x9 / 164) (x9 % 164)))) + (Int32.ofInt 2)) 820 = some x13) (z14 : zix (r5 + ((Int8.ofInt 16).toInt32)) 820 = some x14) (z15 : zix (((r5 + ((Int8.ofInt 20).toInt32)) + ((Int32.ofInt 4) * ((kup (kup σ 42 0 (Int32.ofInt 1)) 42 0 (Int32.ofInt 2)) (20 + x9 / 164) (x9 % 164)))) + (Int32.ofInt 3)) 820 = some x15) (z16 : zix (r5 + p2) 820 = some x16) : ZR 123 0 [.val (.ref (kad n (22, 0, 0))), .val (.int p1), .val (.int p2), .val (.int p3), .val (.int p4), .unset, .unset] [] (khp n L σ g) cl (.inl (some (.int ((kup (kup (kup (kup (kup (kup (kup (kup (kup σ 42 0 (Int32.ofInt 1)) 42 0 (Int32.ofInt 2)) (20 + x11 / 164) (x11 % 164) ((kup (kup σ 42 0 (Int32.ofInt 1)) 42 0 (Int32.ofInt 2)) (20 + x10 / 164) (x10 % 164))) (20 + x12 / 164) (x12 % 164) p2) (20 + x13 / 164) (x13 % 164) p3) (20 + x15 / 164) (x15 % 164) (((kup (kup (kup (kup (kup σ 42 0 (Int32.ofInt 1)) 42 0 (Int32.ofInt 2)) (20 + x11 / 164) (x11 % 164) ((kup (kup σ 42 0 (Int32.ofInt 1)) 42 0 (Int32.ofInt 2)) (20 + x10 / 164) (x10 % 164))) (20 + x12 / 164) (x12 % 164) p2) (20 + x13 / 164) (x13 % 164) p3) (20 + x14 / 164) (x14 % 164)) + p4)) (20 + x16 / 164) (x16 % 164) (((kup (kup (kup (kup (kup (kup σ 42 0 (Int32.ofInt 1)) 42 0 (Int32.ofInt 2)) (20 + x11 / 164) (x11 % 164) ((kup (kup σ 42 0 (Int32.ofInt 1)) 42 0 (Int32.ofInt 2)) (20 + x10 / 164) (x10 % 164))) (20 + x12 / 164) (x12 % 164) p2) (20 + x13 / 164) (x13 % 164) p3) (20 + x15 / 164) (x15 % 164) (((kup (kup (kup (kup (kup σ 42 0 (Int32.ofInt 1)) 42 0 (Int32.ofInt 2)) (20 + x11 / 164) (x11 % 164) ((kup (kup σ 42 0 (Int32.ofInt 1)) 42 0 (Int32.ofInt 2)) (20 + x10 / 164) (x10 % 164))) (20 + x12 / 164) (x12 % 164) p2) (20 + x13 / 164) (x13 % 164) p3) (20 + x14 / 164) (x14 % 164)) + p4)) (20 + x16 / 164) (x16 % 164)) - p3)) (20 + x9 / 164) (x9 % 164) (((kup (kup (kup (kup (kup (kup (kup σ 42 0 (Int32.ofInt 1)) 42 0 (Int32.ofInt 2)) (20 + x11 / 164) (x11 % 164) ((kup (kup σ 42 0 (Int32.ofInt 1)) 42 0 (Int32.ofInt 2)) (20 + x10 / 164) (x10 % 164))) (20 + x12 / 164) (x12 % 164) p2) (20 + x13 / 164) (x13 % 164) p3) (20 + x15 / 164) (x15 % 164) (((kup (kup (kup (kup (kup σ 42 0 (Int32.ofInt 1)) 42 0 (Int32.ofInt 2)) (20 + x11 / 164) (x11 % 164) ((kup (kup σ 42 0 (Int32.ofInt 1)) 42 0 (Int32.ofInt 2)) (20 + x10 / 164) (x10 % 164))) (20 + x12 / 164) (x12 % 164) p2) (20 + x13 / 164) (x13 % 164) p3) (20 + x14 / 164) (x14 % 164)) + p4)) (20 + x16 / 164) (x16 % 164) (((kup (kup (kup (kup (kup (kup σ 42 0 (Int32.ofInt 1)) 42 0 (Int32.ofInt 2)) (20 + x11 / 164) (x11 % 164) ((kup (kup σ 42 0 (Int32.ofInt 1)) 42 0 (Int32.ofInt 2)) (20 + x10 / 164) (x10 % 164))) (20 + x12 / 164) (x12 % 164) p2) (20 + x13 / 164) (x13 % 164) p3) (20 + x15 / 164) (x15 % 164) (((kup (kup (kup (kup (kup σ 42 0 (Int32.ofInt 1)) 42 0 (Int32.ofInt 2)) (20 + x11 / 164) (x11 % 164) ((kup (kup σ 42 0 (Int32.ofInt 1)) 42 0 (Int32.ofInt 2)) (20 + x10 / 164) (x10 % 164))) (20 + x12 / 164) (x12 % 164) p2) (20 + x13 / 164) (x13 % 164) p3) (20 + x14 / 164) (x14 % 164)) + p4)) (20 + x16 / 164) (x16 % 164)) - p3)) (20 + x9 / 164) (x9 % 164)) + (Int32.ofInt 1))) (20 + x10 / 164) (x10 % 164) (((kup (kup (kup (kup (kup (kup (kup (kup σ 42 0 (Int32.ofInt 1)) 42 0 (Int32.ofInt 2)) (20 + x11 / 164) (x11 % 164) ((kup (kup σ 42 0 (Int32.ofInt 1)) 42 0 (Int32.ofInt 2)) (20 + x10 / 164) (x10 % 164))) (20 + x12 / 164) (x12 % 164) p2) (20 + x13 / 164) (x13 % 164) p3) (20 + x15 / 164) (x15 % 164) (((kup (kup (kup (kup (kup σ 42 0 (Int32.ofInt 1)) 42 0 (Int32.ofInt 2)) (20 + x11 / 164) (x11 % 164) ((kup (kup σ 42 0 (Int32.ofInt 1)) 42 0 (Int32.ofInt 2)) (20 + x10 / 164) (x10 % 164))) (20 + x12 / 164) (x12 % 164) p2) (20 + x13 / 164) (x13 % 164) p3) (20 + x14 / 164) (x14 % 164)) + p4)) (20 + x16 / 164) (x16 % 164) (((kup (kup (kup (kup (kup (kup σ 42 0 (Int32.ofInt 1)) 42 0 (Int32.ofInt 2)) (20 + x11 / 164) (x11 % 164) ((kup (kup σ 42 0 (Int32.ofInt 1)) 42 0 (Int32.ofInt 2)) (20 + x10 / 164) (x10 % 164))) (20 + x12 / 164) (x12 % 164) p2) (20 + x13 / 164) (x13 % 164) p3) (20 + x15 / 164) (x15 % 164) (((kup (kup (kup (kup (kup σ 42 0 (Int32.ofInt 1)) 42 0 (Int32.ofInt 2)) (20 + x11 / 164) (x11 % 164) ((kup (kup σ 42 0 (Int32.ofInt 1)) 42 0 (Int32.ofInt 2)) (20 + x10 / 164) (x10 % 164))) (20 + x12 / 164) (x12 % 164) p2) (20 + x13 / 164) (x13 % 164) p3) (20 + x14 / 164) (x14 % 164)) + p4)) (20 + x16 / 164) (x16 % 164)) - p3)) (20 + x9 / 164) (x9 % 164) (((kup (kup (kup (kup (kup (kup (kup σ 42 0 (Int32.ofInt 1)) 42 0 (Int32.ofInt 2)) (20 + x11 / 164) (x11 % 164) ((kup (kup σ 42 0 (Int32.ofInt 1)) 42 0 (Int32.ofInt 2)) (20 + x10 / 164) (x10 % 164))) (20 + x12 / 164) (x12 % 164) p2) (20 + x13 / 164) (x13 % 164) p3) (20 + x15 / 164) (x15 % 164) (((kup (kup (kup (kup (kup σ 42 0 (Int32.ofInt 1)) 42 0 (Int32.ofInt 2)) (20 + x11 / 164) (x11 % 164) ((kup (kup σ 42 0 (Int32.ofInt 1)) 42 0 (Int32.ofInt 2)) (20 + x10 / 164) (x10 % 164))) (20 + x12 / 164) (x12 % 164) p2) (20 + x13 / 164) (x13 % 164) p3) (20 + x14 / 164) (x14 % 164)) + p4)) (20 + x16 / 164) (x16 % 164) (((kup (kup (kup (kup (kup (kup σ 42 0 (Int32.ofInt 1)) 42 0 (Int32.ofInt 2)) (20 + x11 / 164) (x11 % 164) ((kup (kup σ 42 0 (Int32.ofInt 1)) 42 0 (Int32.ofInt 2)) (20 + x10 / 164) (x10 % 164))) (20 + x12 / 164) (x12 % 164) p2) (20 + x13 / 164) (x13 % 164) p3) (20 + x15 / 164) (x15 % 164) (((kup (kup (kup (kup (kup σ 42 0 (Int32.ofInt 1)) 42 0 (Int32.ofInt 2)) (20 + x11 / 164) (x11 % 164) ((kup (kup σ 42 0 (Int32.ofInt 1)) 42 0 (Int32.ofInt 2)) (20 + x10 / 164) (x10 % 164))) (20 + x12 / 164) (x12 % 164) p2) (20 + x13 / 164) (x13 % 164) p3) (20 + x14 / 164) (x14 % 164)) + p4)) (20 + x16 / 164) (x16 % 164)) - p3)) (20 + x9 / 164) (x9 % 164)) + (Int32.ofInt 1))) (20 + x10 / 164) (x10 % 164)) + (Int32.ofInt 1))) (20 + x11 / 164) (x11 % 164)))), khp n L (kup (kup (kup (kup (kup (kup (kup (kup (kup σ 42 0 (Int32.ofInt 1)) 42 0 (Int32.ofInt 2)) (20 + x11 / 164) (x11 % 164) ((kup (kup σ 42 0 (Int32.ofInt 1)) 42 0 (Int32.ofInt 2)) (20 + x10 / 164) (x10 % 164))) (20 + x12 / 164) (x12 % 164) p2) (20 + x13 / 164) (x13 % 164) p3) (20 + x15 / 164) (x15 % 164) (((kup (kup (kup (kup (kup σ 42 0 (Int32.ofInt 1)) 42 0 (Int32.ofInt 2)) (20 + x11 / 164) (x11 % 164) ((kup (kup σ 42 0 (Int32.ofInt 1)) 42 0 (Int32.ofInt 2)) (20 + x10 / 164) (x10 % 164))) (20 + x12 / 164) (x12 % 164) p2) (20 + x13 / 164) (x13 % 164) p3) (20 + x14 / 164) (x14 % 164)) + p4)) (20 + x16 / 164) (x16 % 164) (((kup (kup (kup (kup (kup (kup σ 42 0 (Int32.ofInt 1)) 42 0 (Int32.ofInt 2)) (20 + x11 / 164) (x11 % 164) ((kup (kup σ 42 0 (Int32.ofInt 1)) 42 0 (Int32.ofInt 2)) (20 + x10 / 164) (x10 % 164))) (20 + x12 / 164) (x12 % 164) p2) (20 + x13 / 164) (x13 % 164) p3) (20 + x15 / 164) (x15 % 164) (((kup (kup (kup (kup (kup σ 42 0 (Int32.ofInt 1)) 42 0 (Int32.ofInt 2)) (20 + x11 / 164) (x11 % 164) ((kup (kup σ 42 0 (Int32.ofInt 1)) 42 0 (Int32.ofInt 2)) (20 + x10 / 164) (x10 % 164))) (20 + x12 / 164) (x12 % 164) p2) (20 + x13 / 164) (x13 % 164) p3) (20 + x14 / 164) (x14 % 164)) + p4)) (20 + x16 / 164) (x16 % 164)) - p3)) (20 + x9 / 164) (x9 % 164) (((kup (kup (kup (kup (kup (kup (kup σ 42 0 (Int32.ofInt 1)) 42 0 (Int32.ofInt 2)) (20 + x11 / 164) (x11 % 164) ((kup (kup σ 42 0 (Int32.ofInt 1)) 42 0 (Int32.ofInt 2)) (20 + x10 / 164) (x10 % 164))) (20 + x12 / 164) (x12 % 164) p2) (20 + x13 / 164) (x13 % 164) p3) (20 + x15 / 164) (x15 % 164) (((kup (kup (kup (kup (kup σ 42 0 (Int32.ofInt 1)) 42 0 (Int32.ofInt 2)) (20 + x11 / 164) (x11 % 164) ((kup (kup σ 42 0 (Int32.ofInt 1)) 42 0 (Int32.ofInt 2)) (20 + x10 / 164) (x10 % 164))) (20 + x12 / 164) (x12 % 164) p2) (20 + x13 / 164) (x13 % 164) p3) (20 + x14 / 164) (x14 % 164)) + p4)) (20 + x16 / 164) (x16 % 164) (((kup (kup (kup (kup (kup (kup σ 42 0 (Int32.ofInt 1)) 42 0 (Int32.ofInt 2)) (20 + x11 / 164) (x11 % 164) ((kup (kup σ 42 0 (Int32.ofInt 1)) 42 0 (Int32.ofInt 2)) (20 + x10 / 164) (x10 % 164))) (20 + x12 / 164) (x12 % 164) p2) (20 + x13 / 164) (x13 % 164) p3) (20 + x15 / 164) (x15 % 164) (((kup (kup (kup (kup (kup σ 42 0 (Int32.ofInt 1)) 42 0 (Int32.ofInt 2)) (20 + x11 / 164) (x11 % 164) ((kup (kup σ 42 0 (Int32.ofInt 1)) 42 0 (Int32.ofInt 2)) (20 + x10 / 164) (x10 % 164))) (20 + x12 / 164) (x12 % 164) p2) (20 + x13 / 164) (x13 % 164) p3) (20 + x14 / 164) (x14 % 164)) + p4)) (20 + x16 / 164) (x16 % 164)) - p3)) (20 + x9 / 164) (x9 % 164)) + (Int32.ofInt 1))) (20 + x10 / 164) (x10 % 164) (((kup (kup (kup (kup (kup (kup (kup (kup σ 42 0 (Int32.ofInt 1)) 42 0 (Int32.ofInt 2)) (20 + x11 / 164) (x11 % 164) ((kup (kup σ 42 0 (Int32.ofInt 1)) 42 0 (Int32.ofInt 2)) (20 + x10 / 164) (x10 % 164))) (20 + x12 / 164) (x12 % 164) p2) (20 + x13 / 164) (x13 % 164) p3) (20 + x15 / 164) (x15 % 164) (((kup (kup (kup (kup (kup σ 42 0 (Int32.ofInt 1)) 42 0 (Int32.ofInt 2)) (20 + x11 / 164) (x11 % 164) ((kup (kup σ 42 0 (Int32.ofInt 1)) 42 0 (Int32.ofInt 2)) (20 + x10 / 164) (x10 % 164))) (20 + x12 / 164) (x12 % 164) p2) (20 + x13 / 164) (x13 % 164) p3) (20 + x14 / 164) (x14 % 164)) + p4)) (20 + x16 / 164) (x16 % 164) (((kup (kup (kup (kup (kup (kup σ 42 0 (Int32.ofInt 1)) 42 0 (Int32.ofInt 2)) (20 + x11 / 164) (x11 % 164) ((kup (kup σ 42 0 (Int32.ofInt 1)) 42 0 (Int32.ofInt 2)) (20 + x10 / 164) (x10 % 164))) (20 + x12 / 164) (x12 % 164) p2) (20 + x13 / 164) (x13 % 164) p3) (20 + x15 / 164) (x15 % 164) (((kup (kup (kup (kup (kup σ 42 0 (Int32.ofInt 1)) 42 0 (Int32.ofInt 2)) (20 + x11 / 164) (x11 % 164) ((kup (kup σ 42 0 (Int32.ofInt 1)) 42 0 (Int32.ofInt 2)) (20 + x10 / 164) (x10 % 164))) (20 + x12 / 164) (x12 % 164) p2) (20 + x13 / 164) (x13 % 164) p3) (20 + x14 / 164) (x14 % 164)) + p4)) (20 + x16 / 164) (x16 % 164)) - p3)) (20 + x9 / 164) (x9 % 164) (((kup (kup (kup (kup (kup (kup (kup σ 42 0 (Int32.ofInt 1)) 42 0 (Int32.ofInt 2)) (20 + x11 / 164) (x11 % 164) ((kup (kup σ 42 0 (Int32.ofInt 1)) 42 0 (Int32.ofInt 2)) (20 + x10 / 164) (x10 % 164))) (20 + x12 / 164) (x12 % 164) p2) (20 + x13 / 164) (x13 % 164) p3) (20 + x15 / 164) (x15 % 164) (((kup (kup (kup (kup (kup σ 42 0 (Int32.ofInt 1)) 42 0 (Int32.ofInt 2)) (20 + x11 / 164) (x11 % 164) ((kup (kup σ 42 0 (Int32.ofInt 1)) 42 0 (Int32.ofInt 2)) (20 + x10 / 164) (x10 % 164))) (20 + x12 / 164) (x12 % 164) p2) (20 + x13 / 164) (x13 % 164) p3) (20 + x14 / 164) (x14 % 164)) + p4)) (20 + x16 / 164) (x16 % 164) (((kup (kup (kup (kup (kup (kup σ 42 0 (Int32.ofInt 1)) 42 0 (Int32.ofInt 2)) (20 + x11 / 164) (x11 % 164) ((kup (kup σ 42 0 (Int32.ofInt 1)) 42 0 (Int32.ofInt 2)) (20 + x10 / 164) (x10 % 164))) (20 + x12 / 164) (x12 % 164) p2) (20 + x13 / 164) (x13 % 164) p3) (20 + x15 / 164) (x15 % 164) (((kup (kup (kup (kup (kup σ 42 0 (Int32.ofInt 1)) 42 0 (Int32.ofInt 2)) (20 + x11 / 164) (x11 % 164) ((kup (kup σ 42 0 (Int32.ofInt 1)) 42 0 (Int32.ofInt 2)) (20 + x10 / 164) (x10 % 164))) (20 + x12 / 164) (x12 % 164) p2) (20 + x13 / 164) (x13 % 164) p3) (20 + x14 / 164) (x14 % 164)) + p4)) (20 + x16 / 164) (x16 % 164)) - p3)) (20 + x9 / 164) (x9 % 164)) + (Int32.ofInt 1))) (20 + x10 / 164) (x10 % 164)) + (Int32.ofInt 1))) (g), false) := by
  have hM : zmi[123]? = some _ := rfl
  have l6 := (zix_some z6).2.2
  have l9 := (zix_some z9).2.2
  have l10 := (zix_some z10).2.2
  have l11 := (zix_some z11).2.2
  have l12 := (zix_some z12).2.2
  have l13 := (zix_some z13).2.2
  have l14 := (zix_some z14).2.2
  have l15 := (zix_some z15).2.2
  have l16 := (zix_some z16).2.2
  refine zr_fr hM rfl rfl rfl ?_
  refine zr_fr hM rfl rfl rfl ?_
  refine zr_fr hM rfl rfl rfl ?_
  refine zr_fr hM rfl rfl rfl ?_
  refine zr_fr hM rfl rfl rfl ?_
  refine zr_virt (κ := (22, 0, 0)) hn hM rfl rfl rfl rfl rfl rfl rfl rfl rfl ?_
  refine zgo_ret rfl rfl c1_ ?_
  rw [Bool.and_true]
  refine zr_iff hM rfl rfl h2 ?_
  refine zr_fr hM rfl rfl rfl ?_
  refine zr_fr hM rfl rfl rfl ?_
  refine zr_ict hM rfl rfl h3 ?_
  refine zr_fr hM rfl rfl rfl ?_
  refine zr_putf (κ := (22, 0, 0)) hn hM rfl rfl rfl rfl rfl rfl rfl rfl ?_
  refine zr_fr hM rfl rfl rfl ?_
  refine zr_getf (κ := (22, 0, 0)) hn hM rfl rfl rfl rfl ?_
  refine zr_ift hM rfl rfl h4 ?_
  refine zr_fr hM rfl rfl rfl ?_
  refine zr_stat hM rfl rfl rfl rfl rfl rfl ?_
  refine zgo_ret rfl rfl c5_ ?_
  rw [Bool.and_true]
  refine zr_fr hM rfl rfl rfl ?_
  refine zr_fr hM rfl rfl rfl ?_
  refine zr_fr hM rfl rfl rfl ?_
  refine zr_getf (κ := (22, 0, 0)) hn hM rfl rfl rfl rfl ?_
  refine zr_fr hM rfl rfl rfl ?_
  refine zr_bald (κ := (25, 0, 0)) hn hM rfl rfl rfl z6 ?_
  refine zr_ift hM rfl rfl h7 ?_
  refine zr_fr hM rfl rfl rfl ?_
  refine zr_fr hM rfl rfl rfl ?_
  refine zr_putf (κ := (22, 0, 0)) hn hM rfl rfl rfl rfl rfl rfl rfl rfl ?_
  refine zr_fr hM rfl rfl rfl ?_
  refine zr_getf (κ := (22, 0, 0)) hn hM rfl rfl rfl rfl ?_
  refine zr_ift hM rfl rfl h8 ?_
  refine zr_fr hM rfl rfl rfl ?_
  refine zr_fr hM rfl rfl rfl ?_
  refine zr_fr hM rfl rfl rfl ?_
  refine zr_fr hM rfl rfl rfl ?_
  refine zr_fr hM rfl rfl rfl ?_
  refine zr_getf (κ := (22, 0, 0)) hn hM rfl rfl rfl rfl ?_
  refine zr_fr hM rfl rfl rfl ?_
  refine zr_fr hM rfl rfl rfl ?_
  refine zr_fr hM rfl rfl rfl ?_
  refine zr_iald (κ := (23, 0, 0)) hn hM rfl rfl rfl z9 ?_
  refine zr_fr hM rfl rfl rfl ?_
  refine zr_fr hM rfl rfl rfl ?_
  refine zr_fr hM rfl rfl rfl ?_
  refine zr_fr hM rfl rfl rfl ?_
  refine zr_getf (κ := (22, 0, 0)) hn hM rfl rfl rfl rfl ?_
  refine zr_fr hM rfl rfl rfl ?_
  refine zr_fr hM rfl rfl rfl ?_
  refine zr_getf (κ := (22, 0, 0)) hn hM rfl rfl rfl rfl ?_
  refine zr_fr hM rfl rfl rfl ?_
  refine zr_fr hM rfl rfl rfl ?_
  refine zr_fr hM rfl rfl rfl ?_
  refine zr_iald (κ := (23, 0, 0)) hn hM rfl rfl rfl z10 ?_
  refine zr_iast (κ := (23, 0, 0)) hn hM rfl rfl rfl rfl z11 rfl ?_
  refine zr_fr hM rfl rfl rfl ?_
  refine zr_getf (κ := (22, 0, 0)) hn hM rfl rfl rfl rfl ?_
  refine zr_fr hM rfl rfl rfl ?_
  refine zr_fr hM rfl rfl rfl ?_
  refine zr_fr hM rfl rfl rfl ?_
  refine zr_fr hM rfl rfl rfl ?_
  refine zr_iast (κ := (23, 0, 0)) hn hM rfl rfl rfl rfl z12 rfl ?_
  refine zr_fr hM rfl rfl rfl ?_
  refine zr_getf (κ := (22, 0, 0)) hn hM rfl rfl rfl rfl ?_
  refine zr_fr hM rfl rfl rfl ?_
  refine zr_fr hM rfl rfl rfl ?_
  refine zr_fr hM rfl rfl rfl ?_
  refine zr_fr hM rfl rfl rfl ?_
  refine zr_iast (κ := (23, 0, 0)) hn hM rfl rfl rfl rfl z13 rfl ?_
  refine zr_fr hM rfl rfl rfl ?_
  refine zr_getf (κ := (22, 0, 0)) hn hM rfl rfl rfl rfl ?_
  refine zr_fr hM rfl rfl rfl ?_
  refine zr_fr hM rfl rfl rfl ?_
  refine zr_fr hM rfl rfl rfl ?_
  refine zr_fr hM rfl rfl rfl ?_
  refine zr_getf (κ := (22, 0, 0)) hn hM rfl rfl rfl rfl ?_
  refine zr_fr hM rfl rfl rfl ?_
  refine zr_fr hM rfl rfl rfl ?_
  refine zr_fr hM rfl rfl rfl ?_
  refine zr_iald (κ := (23, 0, 0)) hn hM rfl rfl rfl z14 ?_
  refine zr_fr hM rfl rfl rfl ?_
  refine zr_fr hM rfl rfl rfl ?_
  refine zr_iast (κ := (23, 0, 0)) hn hM rfl rfl rfl rfl z15 rfl ?_
  refine zr_fr hM rfl rfl rfl ?_
  refine zr_getf (κ := (22, 0, 0)) hn hM rfl rfl rfl rfl ?_
  refine zr_fr hM rfl rfl rfl ?_
  refine zr_fr hM rfl rfl rfl ?_
  refine zr_fr hM rfl rfl rfl ?_
  refine zr_fr hM rfl rfl rfl ?_
  refine zr_iald (κ := (23, 0, 0)) hn hM rfl rfl rfl z16 ?_
  refine zr_fr hM rfl rfl rfl ?_
  refine zr_fr hM rfl rfl rfl ?_
  refine zr_iast (κ := (23, 0, 0)) hn hM rfl rfl rfl rfl z16 rfl ?_
  refine zr_fr hM rfl rfl rfl ?_
  refine zr_getf (κ := (22, 0, 0)) hn hM rfl rfl rfl rfl ?_
  refine zr_fr hM rfl rfl rfl ?_
  refine zr_fr hM rfl rfl rfl ?_
  refine zr_fr hM rfl rfl rfl ?_
  refine zr_fr hM rfl rfl rfl ?_
  refine zr_iald (κ := (23, 0, 0)) hn hM rfl rfl rfl z9 ?_
  refine zr_fr hM rfl rfl rfl ?_
  refine zr_fr hM rfl rfl rfl ?_
  refine zr_iast (κ := (23, 0, 0)) hn hM rfl rfl rfl rfl z9 rfl ?_
  refine zr_fr hM rfl rfl rfl ?_
  refine zr_getf (κ := (22, 0, 0)) hn hM rfl rfl rfl rfl ?_
  refine zr_fr hM rfl rfl rfl ?_
  refine zr_fr hM rfl rfl rfl ?_
  refine zr_fr hM rfl rfl rfl ?_
  refine zr_fr hM rfl rfl rfl ?_
  refine zr_iald (κ := (23, 0, 0)) hn hM rfl rfl rfl z10 ?_
  refine zr_fr hM rfl rfl rfl ?_
  refine zr_fr hM rfl rfl rfl ?_
  refine zr_iast (κ := (23, 0, 0)) hn hM rfl rfl rfl rfl z10 rfl ?_
  refine zr_fr hM rfl rfl rfl ?_
  refine zr_getf (κ := (22, 0, 0)) hn hM rfl rfl rfl rfl ?_
  refine zr_fr hM rfl rfl rfl ?_
  refine zr_iald (κ := (23, 0, 0)) hn hM rfl rfl rfl z11 ?_
  exact zr_iret2 hM rfl rfl rfl
set_option maxHeartbeats 4000000 in
theorem s123_0_tf {n L : Nat} {σ : Ks} {g : List Nat} {cl : Bool} {p1 : Int32} {p2 : Int32} {p3 : Int32} {p4 : Int32} {r1 : Int32} (hn : 2 ≤ n ∧ n ≤ 5) (c1_ : ZR 118 0 [.val (.ref (kad n (22, 0, 0))), .val (.int p1), .val (.int p2), .val (.int p3)] [] (khp n L σ g) true (.inl (some (.int r1)), khp n L σ g, true)) (h2 : zcnd .eq r1 0 = true) (h3 : zcnd .le ((kup σ 42 0 (Int32.ofInt 1)) 42 0) 0 = false) : ZR 123 0 [.val (.ref (kad n (22, 0, 0))), .val (.int p1), .val (.int p2), .val (.int p3), .val (.int p4), .unset, .unset] [] (khp n L σ g) cl (.inl (some (.int (Int32.ofInt 0))), khp n L (kup σ 42 0 (Int32.ofInt 1)) (g), false) := by
  have hM : zmi[123]? = some _ := rfl
  refine zr_fr hM rfl rfl rfl ?_
  refine zr_fr hM rfl rfl rfl ?_
  refine zr_fr hM rfl rfl rfl ?_
  refine zr_fr hM rfl rfl rfl ?_
  refine zr_fr hM rfl rfl rfl ?_
  refine zr_virt (κ := (22, 0, 0)) hn hM rfl rfl rfl rfl rfl rfl rfl rfl rfl ?_
  refine zgo_ret rfl rfl c1_ ?_
  rw [Bool.and_true]
  refine zr_ift hM rfl rfl h2 ?_
  refine zr_fr hM rfl rfl rfl ?_
  refine zr_putf (κ := (22, 0, 0)) hn hM rfl rfl rfl rfl rfl rfl rfl rfl ?_
  refine zr_fr hM rfl rfl rfl ?_
  refine zr_getf (κ := (22, 0, 0)) hn hM rfl rfl rfl rfl ?_
  refine zr_iff hM rfl rfl h3 ?_
  refine zr_fr hM rfl rfl rfl ?_
  exact zr_iret2 hM rfl rfl rfl
set_option maxHeartbeats 4000000 in
theorem s123_0_ttffff {n L : Nat} {σ : Ks} {g : List Nat} {cl : Bool} {p1 : Int32} {p2 : Int32} {p3 : Int32} {p4 : Int32} {r1 : Int32} {r4 : Int32} {x5 : Nat} {x7 : Nat} {x9 : Nat} (hn : 2 ≤ n ∧ n ≤ 5) (c1_ : ZR 118 0 [.val (.ref (kad n (22, 0, 0))), .val (.int p1), .val (.int p2), .val (.int p3)] [] (khp n L σ g) true (.inl (some (.int r1)), khp n L σ g, true)) (h2 : zcnd .eq r1 0 = true) (h3 : zcnd .le ((kup σ 42 0 (Int32.ofInt 1)) 42 0) 0 = true) (c4_ : ZR 97 0 [.val (.int p1)] [] (khp n L (kup σ 42 0 (Int32.ofInt 1)) g) true (.inl (some (.int r4)), khp n L (kup σ 42 0 (Int32.ofInt 1)) g, true)) (z5 : zix p1 5 = some x5) (h6 : zcnd .ne ((kup σ 42 0 (Int32.ofInt 1)) 40 x5) 0 = false) (z7 : zix (r4 + p2) 820 = some x7) (h8 : zcnd .lt ((kup σ 42 0 (Int32.ofInt 1)) (20 + x7 / 164) (x7 % 164)) p3 = false) (z9 : zix (r4 + ((Int8.ofInt 19).toInt32)) 820 = some x9) (h10 : zcnd .ne ((kup σ 42 0 (Int32.ofInt 1)) (20 + x9 / 164) (x9 % 164)) ((Int8.ofInt 6).toInt32) = false) (h11 : zcnd .le ((kup (kup σ 42 0 (Int32.ofInt 1)) 42 0 (Int32.ofInt 2)) 42 0) 0 = false) : ZR 123 0 [.val (.ref (kad n (22, 0, 0))), .val (.int p1), .val (.int p2), .val (.int p3), .val (.int p4), .unset, .unset] [] (khp n L σ g) cl (.inl (some (.int (Int32.ofInt 0))), khp n L (kup (kup σ 42 0 (Int32.ofInt 1)) 42 0 (Int32.ofInt 2)) (g), false) := by
  have hM : zmi[123]? = some _ := rfl
  have l5 := (zix_some z5).2.2
  have l7 := (zix_some z7).2.2
  have l9 := (zix_some z9).2.2
  refine zr_fr hM rfl rfl rfl ?_
  refine zr_fr hM rfl rfl rfl ?_
  refine zr_fr hM rfl rfl rfl ?_
  refine zr_fr hM rfl rfl rfl ?_
  refine zr_fr hM rfl rfl rfl ?_
  refine zr_virt (κ := (22, 0, 0)) hn hM rfl rfl rfl rfl rfl rfl rfl rfl rfl ?_
  refine zgo_ret rfl rfl c1_ ?_
  rw [Bool.and_true]
  refine zr_ift hM rfl rfl h2 ?_
  refine zr_fr hM rfl rfl rfl ?_
  refine zr_putf (κ := (22, 0, 0)) hn hM rfl rfl rfl rfl rfl rfl rfl rfl ?_
  refine zr_fr hM rfl rfl rfl ?_
  refine zr_getf (κ := (22, 0, 0)) hn hM rfl rfl rfl rfl ?_
  refine zr_ift hM rfl rfl h3 ?_
  refine zr_fr hM rfl rfl rfl ?_
  refine zr_stat hM rfl rfl rfl rfl rfl rfl ?_
  refine zgo_ret rfl rfl c4_ ?_
  rw [Bool.and_true]
  refine zr_fr hM rfl rfl rfl ?_
  refine zr_fr hM rfl rfl rfl ?_
  refine zr_fr hM rfl rfl rfl ?_
  refine zr_getf (κ := (22, 0, 0)) hn hM rfl rfl rfl rfl ?_
  refine zr_fr hM rfl rfl rfl ?_
  refine zr_bald (κ := (25, 0, 0)) hn hM rfl rfl rfl z5 ?_
  refine zr_iff hM rfl rfl h6 ?_
  refine zr_fr hM rfl rfl rfl ?_
  refine zr_getf (κ := (22, 0, 0)) hn hM rfl rfl rfl rfl ?_
  refine zr_fr hM rfl rfl rfl ?_
  refine zr_fr hM rfl rfl rfl ?_
  refine zr_fr hM rfl rfl rfl ?_
  refine zr_iald (κ := (23, 0, 0)) hn hM rfl rfl rfl z7 ?_
  refine zr_fr hM rfl rfl rfl ?_
  refine zr_icf hM rfl rfl h8 ?_
  refine zr_fr hM rfl rfl rfl ?_
  refine zr_getf (κ := (22, 0, 0)) hn hM rfl rfl rfl rfl ?_
  refine zr_fr hM rfl rfl rfl ?_
  refine zr_fr hM rfl rfl rfl ?_
  refine zr_fr hM rfl rfl rfl ?_
  refine zr_iald (κ := (23, 0, 0)) hn hM rfl rfl rfl z9 ?_
  refine zr_fr hM rfl rfl rfl ?_
  refine zr_icf hM rfl rfl h10 ?_
  refine zr_fr hM rfl rfl rfl ?_
  refine zr_fr hM rfl rfl rfl ?_
  refine zr_putf (κ := (22, 0, 0)) hn hM rfl rfl rfl rfl rfl rfl rfl rfl ?_
  refine zr_fr hM rfl rfl rfl ?_
  refine zr_getf (κ := (22, 0, 0)) hn hM rfl rfl rfl rfl ?_
  refine zr_iff hM rfl rfl h11 ?_
  refine zr_fr hM rfl rfl rfl ?_
  exact zr_iret2 hM rfl rfl rfl
set_option maxHeartbeats 4000000 in
theorem s123_0_ttffft {n L : Nat} {σ : Ks} {g : List Nat} {cl : Bool} {p1 : Int32} {p2 : Int32} {p3 : Int32} {p4 : Int32} {r1 : Int32} {r4 : Int32} {x5 : Nat} {x7 : Nat} {x9 : Nat} {x12 : Nat} {x13 : Nat} {x14 : Nat} {x15 : Nat} {x16 : Nat} {x17 : Nat} (hn : 2 ≤ n ∧ n ≤ 5) (c1_ : ZR 118 0 [.val (.ref (kad n (22, 0, 0))), .val (.int p1), .val (.int p2), .val (.int p3)] [] (khp n L σ g) true (.inl (some (.int r1)), khp n L σ g, true)) (h2 : zcnd .eq r1 0 = true) (h3 : zcnd .le ((kup σ 42 0 (Int32.ofInt 1)) 42 0) 0 = true) (c4_ : ZR 97 0 [.val (.int p1)] [] (khp n L (kup σ 42 0 (Int32.ofInt 1)) g) true (.inl (some (.int r4)), khp n L (kup σ 42 0 (Int32.ofInt 1)) g, true)) (z5 : zix p1 5 = some x5) (h6 : zcnd .ne ((kup σ 42 0 (Int32.ofInt 1)) 40 x5) 0 = false) (z7 : zix (r4 + p2) 820 = some x7) (h8 : zcnd .lt ((kup σ 42 0 (Int32.ofInt 1)) (20 + x7 / 164) (x7 % 164)) p3 = false) (z9 : zix (r4 + ((Int8.ofInt 19).toInt32)) 820 = some x9) (h10 : zcnd .ne ((kup σ 42 0 (Int32.ofInt 1)) (20 + x9 / 164) (x9 % 164)) ((Int8.ofInt 6).toInt32) = false) (h11 : zcnd .le ((kup (kup σ 42 0 (Int32.ofInt 1)) 42 0 (Int32.ofInt 2)) 42 0) 0 = true) (z12 : zix (r4 + ((Int8.ofInt 17).toInt32)) 820 = some x12) (z13 : zix ((r4 + ((Int8.ofInt 20).toInt32)) + ((Int32.ofInt 4) * ((kup (kup σ 42 0 (Int32.ofInt 1)) 42 0 (Int32.ofInt 2)) (20 + x9 / 164) (x9 % 164)))) 820 = some x13) (z14 : zix (((r4 + ((Int8.ofInt 20).toInt32)) + ((Int32.ofInt 4) * ((kup (kup σ 42 0 (Int32.ofInt 1)) 42 0 (Int32.ofInt 2)) (20 + x9 / 164) (x9 % 164)))) + (Int32.ofInt 1)) 820 = some x14) (z15 : zix (((r4 + ((Int8.ofInt 20).toInt32)) + ((Int32.ofInt 4) * ((kup (kup σ 42 0 (Int32.ofInt 1)) 42 0 (Int32.ofInt 2)) (20 + x9 / 164) (x9 % 164)))) + (Int32.ofInt 2)) 820 = some x15) (z16 : zix (r4 + ((Int8.ofInt 16).toInt32)) 820 = some x16) (z17 : zix (((r4 + ((Int8.ofInt 20).toInt32)) + ((Int32.ofInt 4) * ((kup (kup σ 42 0 (Int32.ofInt 1)) 42 0 (Int32.ofInt 2)) (20 + x9 / 164) (x9 % 164)))) + (Int32.ofInt 3)) 820 = some x17) : ZR 123 0 [.val (.ref (kad n (22, 0, 0))), .val (.int p1), .val (.int p2), .val (.int p3), .val (.int p4), .unset, .unset] [] (khp n L σ g) cl (.inl (some (.int ((kup (kup (kup (kup (kup (kup (kup (kup (kup σ 42 0 (Int32.ofInt 1)) 42 0 (Int32.ofInt 2)) (20 + x13 / 164) (x13 % 164) ((kup (kup σ 42 0 (Int32.ofInt 1)) 42 0 (Int32.ofInt 2)) (20 + x12 / 164) (x12 % 164))) (20 + x14 / 164) (x14 % 164) p2) (20 + x15 / 164) (x15 % 164) p3) (20 + x17 / 164) (x17 % 164) (((kup (kup (kup (kup (kup σ 42 0 (Int32.ofInt 1)) 42 0 (Int32.ofInt 2)) (20 + x13 / 164) (x13 % 164) ((kup (kup σ 42 0 (Int32.ofInt 1)) 42 0 (Int32.ofInt 2)) (20 + x12 / 164) (x12 % 164))) (20 + x14 / 164) (x14 % 164) p2) (20 + x15 / 164) (x15 % 164) p3) (20 + x16 / 164) (x16 % 164)) + p4)) (20 + x7 / 164) (x7 % 164) (((kup (kup (kup (kup (kup (kup σ 42 0 (Int32.ofInt 1)) 42 0 (Int32.ofInt 2)) (20 + x13 / 164) (x13 % 164) ((kup (kup σ 42 0 (Int32.ofInt 1)) 42 0 (Int32.ofInt 2)) (20 + x12 / 164) (x12 % 164))) (20 + x14 / 164) (x14 % 164) p2) (20 + x15 / 164) (x15 % 164) p3) (20 + x17 / 164) (x17 % 164) (((kup (kup (kup (kup (kup σ 42 0 (Int32.ofInt 1)) 42 0 (Int32.ofInt 2)) (20 + x13 / 164) (x13 % 164) ((kup (kup σ 42 0 (Int32.ofInt 1)) 42 0 (Int32.ofInt 2)) (20 + x12 / 164) (x12 % 164))) (20 + x14 / 164) (x14 % 164) p2) (20 + x15 / 164) (x15 % 164) p3) (20 + x16 / 164) (x16 % 164)) + p4)) (20 + x7 / 164) (x7 % 164)) - p3)) (20 + x9 / 164) (x9 % 164) (((kup (kup (kup (kup (kup (kup (kup σ 42 0 (Int32.ofInt 1)) 42 0 (Int32.ofInt 2)) (20 + x13 / 164) (x13 % 164) ((kup (kup σ 42 0 (Int32.ofInt 1)) 42 0 (Int32.ofInt 2)) (20 + x12 / 164) (x12 % 164))) (20 + x14 / 164) (x14 % 164) p2) (20 + x15 / 164) (x15 % 164) p3) (20 + x17 / 164) (x17 % 164) (((kup (kup (kup (kup (kup σ 42 0 (Int32.ofInt 1)) 42 0 (Int32.ofInt 2)) (20 + x13 / 164) (x13 % 164) ((kup (kup σ 42 0 (Int32.ofInt 1)) 42 0 (Int32.ofInt 2)) (20 + x12 / 164) (x12 % 164))) (20 + x14 / 164) (x14 % 164) p2) (20 + x15 / 164) (x15 % 164) p3) (20 + x16 / 164) (x16 % 164)) + p4)) (20 + x7 / 164) (x7 % 164) (((kup (kup (kup (kup (kup (kup σ 42 0 (Int32.ofInt 1)) 42 0 (Int32.ofInt 2)) (20 + x13 / 164) (x13 % 164) ((kup (kup σ 42 0 (Int32.ofInt 1)) 42 0 (Int32.ofInt 2)) (20 + x12 / 164) (x12 % 164))) (20 + x14 / 164) (x14 % 164) p2) (20 + x15 / 164) (x15 % 164) p3) (20 + x17 / 164) (x17 % 164) (((kup (kup (kup (kup (kup σ 42 0 (Int32.ofInt 1)) 42 0 (Int32.ofInt 2)) (20 + x13 / 164) (x13 % 164) ((kup (kup σ 42 0 (Int32.ofInt 1)) 42 0 (Int32.ofInt 2)) (20 + x12 / 164) (x12 % 164))) (20 + x14 / 164) (x14 % 164) p2) (20 + x15 / 164) (x15 % 164) p3) (20 + x16 / 164) (x16 % 164)) + p4)) (20 + x7 / 164) (x7 % 164)) - p3)) (20 + x9 / 164) (x9 % 164)) + (Int32.ofInt 1))) (20 + x12 / 164) (x12 % 164) (((kup (kup (kup (kup (kup (kup (kup (kup σ 42 0 (Int32.ofInt 1)) 42 0 (Int32.ofInt 2)) (20 + x13 / 164) (x13 % 164) ((kup (kup σ 42 0 (Int32.ofInt 1)) 42 0 (Int32.ofInt 2)) (20 + x12 / 164) (x12 % 164))) (20 + x14 / 164) (x14 % 164) p2) (20 + x15 / 164) (x15 % 164) p3) (20 + x17 / 164) (x17 % 164) (((kup (kup (kup (kup (kup σ 42 0 (Int32.ofInt 1)) 42 0 (Int32.ofInt 2)) (20 + x13 / 164) (x13 % 164) ((kup (kup σ 42 0 (Int32.ofInt 1)) 42 0 (Int32.ofInt 2)) (20 + x12 / 164) (x12 % 164))) (20 + x14 / 164) (x14 % 164) p2) (20 + x15 / 164) (x15 % 164) p3) (20 + x16 / 164) (x16 % 164)) + p4)) (20 + x7 / 164) (x7 % 164) (((kup (kup (kup (kup (kup (kup σ 42 0 (Int32.ofInt 1)) 42 0 (Int32.ofInt 2)) (20 + x13 / 164) (x13 % 164) ((kup (kup σ 42 0 (Int32.ofInt 1)) 42 0 (Int32.ofInt 2)) (20 + x12 / 164) (x12 % 164))) (20 + x14 / 164) (x14 % 164) p2) (20 + x15 / 164) (x15 % 164) p3) (20 + x17 / 164) (x17 % 164) (((kup (kup (kup (kup (kup σ 42 0 (Int32.ofInt 1)) 42 0 (Int32.ofInt 2)) (20 + x13 / 164) (x13 % 164) ((kup (kup σ 42 0 (Int32.ofInt 1)) 42 0 (Int32.ofInt 2)) (20 + x12 / 164) (x12 % 164))) (20 + x14 / 164) (x14 % 164) p2) (20 + x15 / 164) (x15 % 164) p3) (20 + x16 / 164) (x16 % 164)) + p4)) (20 + x7 / 164) (x7 % 164)) - p3)) (20 + x9 / 164) (x9 % 164) (((kup (kup (kup (kup (kup (kup (kup σ 42 0 (Int32.ofInt 1)) 42 0 (Int32.ofInt 2)) (20 + x13 / 164) (x13 % 164) ((kup (kup σ 42 0 (Int32.ofInt 1)) 42 0 (Int32.ofInt 2)) (20 + x12 / 164) (x12 % 164))) (20 + x14 / 164) (x14 % 164) p2) (20 + x15 / 164) (x15 % 164) p3) (20 + x17 / 164) (x17 % 164) (((kup (kup (kup (kup (kup σ 42 0 (Int32.ofInt 1)) 42 0 (Int32.ofInt 2)) (20 + x13 / 164) (x13 % 164) ((kup (kup σ 42 0 (Int32.ofInt 1)) 42 0 (Int32.ofInt 2)) (20 + x12 / 164) (x12 % 164))) (20 + x14 / 164) (x14 % 164) p2) (20 + x15 / 164) (x15 % 164) p3) (20 + x16 / 164) (x16 % 164)) + p4)) (20 + x7 / 164) (x7 % 164) (((kup (kup (kup (kup (kup (kup σ 42 0 (Int32.ofInt 1)) 42 0 (Int32.ofInt 2)) (20 + x13 / 164) (x13 % 164) ((kup (kup σ 42 0 (Int32.ofInt 1)) 42 0 (Int32.ofInt 2)) (20 + x12 / 164) (x12 % 164))) (20 + x14 / 164) (x14 % 164) p2) (20 + x15 / 164) (x15 % 164) p3) (20 + x17 / 164) (x17 % 164) (((kup (kup (kup (kup (kup σ 42 0 (Int32.ofInt 1)) 42 0 (Int32.ofInt 2)) (20 + x13 / 164) (x13 % 164) ((kup (kup σ 42 0 (Int32.ofInt 1)) 42 0 (Int32.ofInt 2)) (20 + x12 / 164) (x12 % 164))) (20 + x14 / 164) (x14 % 164) p2) (20 + x15 / 164) (x15 % 164) p3) (20 + x16 / 164) (x16 % 164)) + p4)) (20 + x7 / 164) (x7 % 164)) - p3)) (20 + x9 / 164) (x9 % 164)) + (Int32.ofInt 1))) (20 + x12 / 164) (x12 % 164)) + (Int32.ofInt 1))) (20 + x13 / 164) (x13 % 164)))), khp n L (kup (kup (kup (kup (kup (kup (kup (kup (kup σ 42 0 (Int32.ofInt 1)) 42 0 (Int32.ofInt 2)) (20 + x13 / 164) (x13 % 164) ((kup (kup σ 42 0 (Int32.ofInt 1)) 42 0 (Int32.ofInt 2)) (20 + x12 / 164) (x12 % 164))) (20 + x14 / 164) (x14 % 164) p2) (20 + x15 / 164) (x15 % 164) p3) (20 + x17 / 164) (x17 % 164) (((kup (kup (kup (kup (kup σ 42 0 (Int32.ofInt 1)) 42 0 (Int32.ofInt 2)) (20 + x13 / 164) (x13 % 164) ((kup (kup σ 42 0 (Int32.ofInt 1)) 42 0 (Int32.ofInt 2)) (20 + x12 / 164) (x12 % 164))) (20 + x14 / 164) (x14 % 164) p2) (20 + x15 / 164) (x15 % 164) p3) (20 + x16 / 164) (x16 % 164)) + p4)) (20 + x7 / 164) (x7 % 164) (((kup (kup (kup (kup (kup (kup σ 42 0 (Int32.ofInt 1)) 42 0 (Int32.ofInt 2)) (20 + x13 / 164) (x13 % 164) ((kup (kup σ 42 0 (Int32.ofInt 1)) 42 0 (Int32.ofInt 2)) (20 + x12 / 164) (x12 % 164))) (20 + x14 / 164) (x14 % 164) p2) (20 + x15 / 164) (x15 % 164) p3) (20 + x17 / 164) (x17 % 164) (((kup (kup (kup (kup (kup σ 42 0 (Int32.ofInt 1)) 42 0 (Int32.ofInt 2)) (20 + x13 / 164) (x13 % 164) ((kup (kup σ 42 0 (Int32.ofInt 1)) 42 0 (Int32.ofInt 2)) (20 + x12 / 164) (x12 % 164))) (20 + x14 / 164) (x14 % 164) p2) (20 + x15 / 164) (x15 % 164) p3) (20 + x16 / 164) (x16 % 164)) + p4)) (20 + x7 / 164) (x7 % 164)) - p3)) (20 + x9 / 164) (x9 % 164) (((kup (kup (kup (kup (kup (kup (kup σ 42 0 (Int32.ofInt 1)) 42 0 (Int32.ofInt 2)) (20 + x13 / 164) (x13 % 164) ((kup (kup σ 42 0 (Int32.ofInt 1)) 42 0 (Int32.ofInt 2)) (20 + x12 / 164) (x12 % 164))) (20 + x14 / 164) (x14 % 164) p2) (20 + x15 / 164) (x15 % 164) p3) (20 + x17 / 164) (x17 % 164) (((kup (kup (kup (kup (kup σ 42 0 (Int32.ofInt 1)) 42 0 (Int32.ofInt 2)) (20 + x13 / 164) (x13 % 164) ((kup (kup σ 42 0 (Int32.ofInt 1)) 42 0 (Int32.ofInt 2)) (20 + x12 / 164) (x12 % 164))) (20 + x14 / 164) (x14 % 164) p2) (20 + x15 / 164) (x15 % 164) p3) (20 + x16 / 164) (x16 % 164)) + p4)) (20 + x7 / 164) (x7 % 164) (((kup (kup (kup (kup (kup (kup σ 42 0 (Int32.ofInt 1)) 42 0 (Int32.ofInt 2)) (20 + x13 / 164) (x13 % 164) ((kup (kup σ 42 0 (Int32.ofInt 1)) 42 0 (Int32.ofInt 2)) (20 + x12 / 164) (x12 % 164))) (20 + x14 / 164) (x14 % 164) p2) (20 + x15 / 164) (x15 % 164) p3) (20 + x17 / 164) (x17 % 164) (((kup (kup (kup (kup (kup σ 42 0 (Int32.ofInt 1)) 42 0 (Int32.ofInt 2)) (20 + x13 / 164) (x13 % 164) ((kup (kup σ 42 0 (Int32.ofInt 1)) 42 0 (Int32.ofInt 2)) (20 + x12 / 164) (x12 % 164))) (20 + x14 / 164) (x14 % 164) p2) (20 + x15 / 164) (x15 % 164) p3) (20 + x16 / 164) (x16 % 164)) + p4)) (20 + x7 / 164) (x7 % 164)) - p3)) (20 + x9 / 164) (x9 % 164)) + (Int32.ofInt 1))) (20 + x12 / 164) (x12 % 164) (((kup (kup (kup (kup (kup (kup (kup (kup σ 42 0 (Int32.ofInt 1)) 42 0 (Int32.ofInt 2)) (20 + x13 / 164) (x13 % 164) ((kup (kup σ 42 0 (Int32.ofInt 1)) 42 0 (Int32.ofInt 2)) (20 + x12 / 164) (x12 % 164))) (20 + x14 / 164) (x14 % 164) p2) (20 + x15 / 164) (x15 % 164) p3) (20 + x17 / 164) (x17 % 164) (((kup (kup (kup (kup (kup σ 42 0 (Int32.ofInt 1)) 42 0 (Int32.ofInt 2)) (20 + x13 / 164) (x13 % 164) ((kup (kup σ 42 0 (Int32.ofInt 1)) 42 0 (Int32.ofInt 2)) (20 + x12 / 164) (x12 % 164))) (20 + x14 / 164) (x14 % 164) p2) (20 + x15 / 164) (x15 % 164) p3) (20 + x16 / 164) (x16 % 164)) + p4)) (20 + x7 / 164) (x7 % 164) (((kup (kup (kup (kup (kup (kup σ 42 0 (Int32.ofInt 1)) 42 0 (Int32.ofInt 2)) (20 + x13 / 164) (x13 % 164) ((kup (kup σ 42 0 (Int32.ofInt 1)) 42 0 (Int32.ofInt 2)) (20 + x12 / 164) (x12 % 164))) (20 + x14 / 164) (x14 % 164) p2) (20 + x15 / 164) (x15 % 164) p3) (20 + x17 / 164) (x17 % 164) (((kup (kup (kup (kup (kup σ 42 0 (Int32.ofInt 1)) 42 0 (Int32.ofInt 2)) (20 + x13 / 164) (x13 % 164) ((kup (kup σ 42 0 (Int32.ofInt 1)) 42 0 (Int32.ofInt 2)) (20 + x12 / 164) (x12 % 164))) (20 + x14 / 164) (x14 % 164) p2) (20 + x15 / 164) (x15 % 164) p3) (20 + x16 / 164) (x16 % 164)) + p4)) (20 + x7 / 164) (x7 % 164)) - p3)) (20 + x9 / 164) (x9 % 164) (((kup (kup (kup (kup (kup (kup (kup σ 42 0 (Int32.ofInt 1)) 42 0 (Int32.ofInt 2)) (20 + x13 / 164) (x13 % 164) ((kup (kup σ 42 0 (Int32.ofInt 1)) 42 0 (Int32.ofInt 2)) (20 + x12 / 164) (x12 % 164))) (20 + x14 / 164) (x14 % 164) p2) (20 + x15 / 164) (x15 % 164) p3) (20 + x17 / 164) (x17 % 164) (((kup (kup (kup (kup (kup σ 42 0 (Int32.ofInt 1)) 42 0 (Int32.ofInt 2)) (20 + x13 / 164) (x13 % 164) ((kup (kup σ 42 0 (Int32.ofInt 1)) 42 0 (Int32.ofInt 2)) (20 + x12 / 164) (x12 % 164))) (20 + x14 / 164) (x14 % 164) p2) (20 + x15 / 164) (x15 % 164) p3) (20 + x16 / 164) (x16 % 164)) + p4)) (20 + x7 / 164) (x7 % 164) (((kup (kup (kup (kup (kup (kup σ 42 0 (Int32.ofInt 1)) 42 0 (Int32.ofInt 2)) (20 + x13 / 164) (x13 % 164) ((kup (kup σ 42 0 (Int32.ofInt 1)) 42 0 (Int32.ofInt 2)) (20 + x12 / 164) (x12 % 164))) (20 + x14 / 164) (x14 % 164) p2) (20 + x15 / 164) (x15 % 164) p3) (20 + x17 / 164) (x17 % 164) (((kup (kup (kup (kup (kup σ 42 0 (Int32.ofInt 1)) 42 0 (Int32.ofInt 2)) (20 + x13 / 164) (x13 % 164) ((kup (kup σ 42 0 (Int32.ofInt 1)) 42 0 (Int32.ofInt 2)) (20 + x12 / 164) (x12 % 164))) (20 + x14 / 164) (x14 % 164) p2) (20 + x15 / 164) (x15 % 164) p3) (20 + x16 / 164) (x16 % 164)) + p4)) (20 + x7 / 164) (x7 % 164)) - p3)) (20 + x9 / 164) (x9 % 164)) + (Int32.ofInt 1))) (20 + x12 / 164) (x12 % 164)) + (Int32.ofInt 1))) (g), false) := by
  have hM : zmi[123]? = some _ := rfl
  have l5 := (zix_some z5).2.2
  have l7 := (zix_some z7).2.2
  have l9 := (zix_some z9).2.2
  have l12 := (zix_some z12).2.2
  have l13 := (zix_some z13).2.2
  have l14 := (zix_some z14).2.2
  have l15 := (zix_some z15).2.2
  have l16 := (zix_some z16).2.2
  have l17 := (zix_some z17).2.2
  refine zr_fr hM rfl rfl rfl ?_
  refine zr_fr hM rfl rfl rfl ?_
  refine zr_fr hM rfl rfl rfl ?_
  refine zr_fr hM rfl rfl rfl ?_
  refine zr_fr hM rfl rfl rfl ?_
  refine zr_virt (κ := (22, 0, 0)) hn hM rfl rfl rfl rfl rfl rfl rfl rfl rfl ?_
  refine zgo_ret rfl rfl c1_ ?_
  rw [Bool.and_true]
  refine zr_ift hM rfl rfl h2 ?_
  refine zr_fr hM rfl rfl rfl ?_
  refine zr_putf (κ := (22, 0, 0)) hn hM rfl rfl rfl rfl rfl rfl rfl rfl ?_
  refine zr_fr hM rfl rfl rfl ?_
  refine zr_getf (κ := (22, 0, 0)) hn hM rfl rfl rfl rfl ?_
  refine zr_ift hM rfl rfl h3 ?_
  refine zr_fr hM rfl rfl rfl ?_
  refine zr_stat hM rfl rfl rfl rfl rfl rfl ?_
  refine zgo_ret rfl rfl c4_ ?_
  rw [Bool.and_true]
  refine zr_fr hM rfl rfl rfl ?_
  refine zr_fr hM rfl rfl rfl ?_
  refine zr_fr hM rfl rfl rfl ?_
  refine zr_getf (κ := (22, 0, 0)) hn hM rfl rfl rfl rfl ?_
  refine zr_fr hM rfl rfl rfl ?_
  refine zr_bald (κ := (25, 0, 0)) hn hM rfl rfl rfl z5 ?_
  refine zr_iff hM rfl rfl h6 ?_
  refine zr_fr hM rfl rfl rfl ?_
  refine zr_getf (κ := (22, 0, 0)) hn hM rfl rfl rfl rfl ?_
  refine zr_fr hM rfl rfl rfl ?_
  refine zr_fr hM rfl rfl rfl ?_
  refine zr_fr hM rfl rfl rfl ?_
  refine zr_iald (κ := (23, 0, 0)) hn hM rfl rfl rfl z7 ?_
  refine zr_fr hM rfl rfl rfl ?_
  refine zr_icf hM rfl rfl h8 ?_
  refine zr_fr hM rfl rfl rfl ?_
  refine zr_getf (κ := (22, 0, 0)) hn hM rfl rfl rfl rfl ?_
  refine zr_fr hM rfl rfl rfl ?_
  refine zr_fr hM rfl rfl rfl ?_
  refine zr_fr hM rfl rfl rfl ?_
  refine zr_iald (κ := (23, 0, 0)) hn hM rfl rfl rfl z9 ?_
  refine zr_fr hM rfl rfl rfl ?_
  refine zr_icf hM rfl rfl h10 ?_
  refine zr_fr hM rfl rfl rfl ?_
  refine zr_fr hM rfl rfl rfl ?_
  refine zr_putf (κ := (22, 0, 0)) hn hM rfl rfl rfl rfl rfl rfl rfl rfl ?_
  refine zr_fr hM rfl rfl rfl ?_
  refine zr_getf (κ := (22, 0, 0)) hn hM rfl rfl rfl rfl ?_
  refine zr_ift hM rfl rfl h11 ?_
  refine zr_fr hM rfl rfl rfl ?_
  refine zr_fr hM rfl rfl rfl ?_
  refine zr_fr hM rfl rfl rfl ?_
  refine zr_fr hM rfl rfl rfl ?_
  refine zr_fr hM rfl rfl rfl ?_
  refine zr_getf (κ := (22, 0, 0)) hn hM rfl rfl rfl rfl ?_
  refine zr_fr hM rfl rfl rfl ?_
  refine zr_fr hM rfl rfl rfl ?_
  refine zr_fr hM rfl rfl rfl ?_
  refine zr_iald (κ := (23, 0, 0)) hn hM rfl rfl rfl z9 ?_
  refine zr_fr hM rfl rfl rfl ?_
  refine zr_fr hM rfl rfl rfl ?_
  refine zr_fr hM rfl rfl rfl ?_
  refine zr_fr hM rfl rfl rfl ?_
  refine zr_getf (κ := (22, 0, 0)) hn hM rfl rfl rfl rfl ?_
  refine zr_fr hM rfl rfl rfl ?_
  refine zr_fr hM rfl rfl rfl ?_
  refine zr_getf (κ := (22, 0, 0)) hn hM rfl rfl rfl rfl ?_
  refine zr_fr hM rfl rfl rfl ?_
  refine zr_fr hM rfl rfl rfl ?_
  refine zr_fr hM rfl rfl rfl ?_
  refine zr_iald (κ := (23, 0, 0)) hn hM rfl rfl rfl z12 ?_
  refine zr_iast (κ := (23, 0, 0)) hn hM rfl rfl rfl rfl z13 rfl ?_
  refine zr_fr hM rfl rfl rfl ?_
  refine zr_getf (κ := (22, 0, 0)) hn hM rfl rfl rfl rfl ?_
  refine zr_fr hM rfl rfl rfl ?_
  refine zr_fr hM rfl rfl rfl ?_
  refine zr_fr hM rfl rfl rfl ?_
  refine zr_fr hM rfl rfl rfl ?_
  refine zr_iast (κ := (23, 0, 0)) hn hM rfl rfl rfl rfl z14 rfl ?_
  refine zr_fr hM rfl rfl rfl ?_
  refine zr_getf (κ := (22, 0, 0)) hn hM rfl rfl rfl rfl ?_
  refine zr_fr hM rfl rfl rfl ?_
  refine zr_fr hM rfl rfl rfl ?_
  refine zr_fr hM rfl rfl rfl ?_
  refine zr_fr hM rfl rfl rfl ?_
  refine zr_iast (κ := (23, 0, 0)) hn hM rfl rfl rfl rfl z15 rfl ?_
  refine zr_fr hM rfl rfl rfl ?_
  refine zr_getf (κ := (22, 0, 0)) hn hM rfl rfl rfl rfl ?_
  refine zr_fr hM rfl rfl rfl ?_
  refine zr_fr hM rfl rfl rfl ?_
  refine zr_fr hM rfl rfl rfl ?_
  refine zr_fr hM rfl rfl rfl ?_
  refine zr_getf (κ := (22, 0, 0)) hn hM rfl rfl rfl rfl ?_
  refine zr_fr hM rfl rfl rfl ?_
  refine zr_fr hM rfl rfl rfl ?_
  refine zr_fr hM rfl rfl rfl ?_
  refine zr_iald (κ := (23, 0, 0)) hn hM rfl rfl rfl z16 ?_
  refine zr_fr hM rfl rfl rfl ?_
  refine zr_fr hM rfl rfl rfl ?_
  refine zr_iast (κ := (23, 0, 0)) hn hM rfl rfl rfl rfl z17 rfl ?_
  refine zr_fr hM rfl rfl rfl ?_
  refine zr_getf (κ := (22, 0, 0)) hn hM rfl rfl rfl rfl ?_
  refine zr_fr hM rfl rfl rfl ?_
  refine zr_fr hM rfl rfl rfl ?_
  refine zr_fr hM rfl rfl rfl ?_
  refine zr_fr hM rfl rfl rfl ?_
  refine zr_iald (κ := (23, 0, 0)) hn hM rfl rfl rfl z7 ?_
  refine zr_fr hM rfl rfl rfl ?_
  refine zr_fr hM rfl rfl rfl ?_
  refine zr_iast (κ := (23, 0, 0)) hn hM rfl rfl rfl rfl z7 rfl ?_
  refine zr_fr hM rfl rfl rfl ?_
  refine zr_getf (κ := (22, 0, 0)) hn hM rfl rfl rfl rfl ?_
  refine zr_fr hM rfl rfl rfl ?_
  refine zr_fr hM rfl rfl rfl ?_
  refine zr_fr hM rfl rfl rfl ?_
  refine zr_fr hM rfl rfl rfl ?_
  refine zr_iald (κ := (23, 0, 0)) hn hM rfl rfl rfl z9 ?_
  refine zr_fr hM rfl rfl rfl ?_
  refine zr_fr hM rfl rfl rfl ?_
  refine zr_iast (κ := (23, 0, 0)) hn hM rfl rfl rfl rfl z9 rfl ?_
  refine zr_fr hM rfl rfl rfl ?_
  refine zr_getf (κ := (22, 0, 0)) hn hM rfl rfl rfl rfl ?_
  refine zr_fr hM rfl rfl rfl ?_
  refine zr_fr hM rfl rfl rfl ?_
  refine zr_fr hM rfl rfl rfl ?_
  refine zr_fr hM rfl rfl rfl ?_
  refine zr_iald (κ := (23, 0, 0)) hn hM rfl rfl rfl z12 ?_
  refine zr_fr hM rfl rfl rfl ?_
  refine zr_fr hM rfl rfl rfl ?_
  refine zr_iast (κ := (23, 0, 0)) hn hM rfl rfl rfl rfl z12 rfl ?_
  refine zr_fr hM rfl rfl rfl ?_
  refine zr_getf (κ := (22, 0, 0)) hn hM rfl rfl rfl rfl ?_
  refine zr_fr hM rfl rfl rfl ?_
  refine zr_iald (κ := (23, 0, 0)) hn hM rfl rfl rfl z13 ?_
  exact zr_iret2 hM rfl rfl rfl
set_option maxHeartbeats 4000000 in
theorem s123_0_ttfftf {n L : Nat} {σ : Ks} {g : List Nat} {cl : Bool} {p1 : Int32} {p2 : Int32} {p3 : Int32} {p4 : Int32} {r1 : Int32} {r4 : Int32} {x5 : Nat} {x7 : Nat} {x9 : Nat} (hn : 2 ≤ n ∧ n ≤ 5) (c1_ : ZR 118 0 [.val (.ref (kad n (22, 0, 0))), .val (.int p1), .val (.int p2), .val (.int p3)] [] (khp n L σ g) true (.inl (some (.int r1)), khp n L σ g, true)) (h2 : zcnd .eq r1 0 = true) (h3 : zcnd .le ((kup σ 42 0 (Int32.ofInt 1)) 42 0) 0 = true) (c4_ : ZR 97 0 [.val (.int p1)] [] (khp n L (kup σ 42 0 (Int32.ofInt 1)) g) true (.inl (some (.int r4)), khp n L (kup σ 42 0 (Int32.ofInt 1)) g, true)) (z5 : zix p1 5 = some x5) (h6 : zcnd .ne ((kup σ 42 0 (Int32.ofInt 1)) 40 x5) 0 = false) (z7 : zix (r4 + p2) 820 = some x7) (h8 : zcnd .lt ((kup σ 42 0 (Int32.ofInt 1)) (20 + x7 / 164) (x7 % 164)) p3 = false) (z9 : zix (r4 + ((Int8.ofInt 19).toInt32)) 820 = some x9) (h10 : zcnd .ne ((kup σ 42 0 (Int32.ofInt 1)) (20 + x9 / 164) (x9 % 164)) ((Int8.ofInt 6).toInt32) = true) (h11 : zcnd .le ((kup (kup σ 42 0 (Int32.ofInt 1)) 42 0 (Int32.ofInt 0)) 42 0) 0 = false) : ZR 123 0 [.val (.ref (kad n (22, 0, 0))), .val (.int p1), .val (.int p2), .val (.int p3), .val (.int p4), .unset, .unset] [] (khp n L σ g) cl (.inl (some (.int (Int32.ofInt 0))), khp n L (kup (kup σ 42 0 (Int32.ofInt 1)) 42 0 (Int32.ofInt 0)) (g), false) := by
  have hM : zmi[123]? = some _ := rfl
  have l5 := (zix_some z5).2.2
  have l7 := (zix_some z7).2.2
  have l9 := (zix_some z9).2.2
  refine zr_fr hM rfl rfl rfl ?_
  refine zr_fr hM rfl rfl rfl ?_
  refine zr_fr hM rfl rfl rfl ?_
  refine zr_fr hM rfl rfl rfl ?_
  refine zr_fr hM rfl rfl rfl ?_
  refine zr_virt (κ := (22, 0, 0)) hn hM rfl rfl rfl rfl rfl rfl rfl rfl rfl ?_
  refine zgo_ret rfl rfl c1_ ?_
  rw [Bool.and_true]
  refine zr_ift hM rfl rfl h2 ?_
  refine zr_fr hM rfl rfl rfl ?_
  refine zr_putf (κ := (22, 0, 0)) hn hM rfl rfl rfl rfl rfl rfl rfl rfl ?_
  refine zr_fr hM rfl rfl rfl ?_
  refine zr_getf (κ := (22, 0, 0)) hn hM rfl rfl rfl rfl ?_
  refine zr_ift hM rfl rfl h3 ?_
  refine zr_fr hM rfl rfl rfl ?_
  refine zr_stat hM rfl rfl rfl rfl rfl rfl ?_
  refine zgo_ret rfl rfl c4_ ?_
  rw [Bool.and_true]
  refine zr_fr hM rfl rfl rfl ?_
  refine zr_fr hM rfl rfl rfl ?_
  refine zr_fr hM rfl rfl rfl ?_
  refine zr_getf (κ := (22, 0, 0)) hn hM rfl rfl rfl rfl ?_
  refine zr_fr hM rfl rfl rfl ?_
  refine zr_bald (κ := (25, 0, 0)) hn hM rfl rfl rfl z5 ?_
  refine zr_iff hM rfl rfl h6 ?_
  refine zr_fr hM rfl rfl rfl ?_
  refine zr_getf (κ := (22, 0, 0)) hn hM rfl rfl rfl rfl ?_
  refine zr_fr hM rfl rfl rfl ?_
  refine zr_fr hM rfl rfl rfl ?_
  refine zr_fr hM rfl rfl rfl ?_
  refine zr_iald (κ := (23, 0, 0)) hn hM rfl rfl rfl z7 ?_
  refine zr_fr hM rfl rfl rfl ?_
  refine zr_icf hM rfl rfl h8 ?_
  refine zr_fr hM rfl rfl rfl ?_
  refine zr_getf (κ := (22, 0, 0)) hn hM rfl rfl rfl rfl ?_
  refine zr_fr hM rfl rfl rfl ?_
  refine zr_fr hM rfl rfl rfl ?_
  refine zr_fr hM rfl rfl rfl ?_
  refine zr_iald (κ := (23, 0, 0)) hn hM rfl rfl rfl z9 ?_
  refine zr_fr hM rfl rfl rfl ?_
  refine zr_ict hM rfl rfl h10 ?_
  refine zr_fr hM rfl rfl rfl ?_
  refine zr_putf (κ := (22, 0, 0)) hn hM rfl rfl rfl rfl rfl rfl rfl rfl ?_
  refine zr_fr hM rfl rfl rfl ?_
  refine zr_getf (κ := (22, 0, 0)) hn hM rfl rfl rfl rfl ?_
  refine zr_iff hM rfl rfl h11 ?_
  refine zr_fr hM rfl rfl rfl ?_
  exact zr_iret2 hM rfl rfl rfl
set_option maxHeartbeats 4000000 in
theorem s123_0_ttfftt {n L : Nat} {σ : Ks} {g : List Nat} {cl : Bool} {p1 : Int32} {p2 : Int32} {p3 : Int32} {p4 : Int32} {r1 : Int32} {r4 : Int32} {x5 : Nat} {x7 : Nat} {x9 : Nat} {x12 : Nat} {x13 : Nat} {x14 : Nat} {x15 : Nat} {x16 : Nat} {x17 : Nat} (hn : 2 ≤ n ∧ n ≤ 5) (c1_ : ZR 118 0 [.val (.ref (kad n (22, 0, 0))), .val (.int p1), .val (.int p2), .val (.int p3)] [] (khp n L σ g) true (.inl (some (.int r1)), khp n L σ g, true)) (h2 : zcnd .eq r1 0 = true) (h3 : zcnd .le ((kup σ 42 0 (Int32.ofInt 1)) 42 0) 0 = true) (c4_ : ZR 97 0 [.val (.int p1)] [] (khp n L (kup σ 42 0 (Int32.ofInt 1)) g) true (.inl (some (.int r4)), khp n L (kup σ 42 0 (Int32.ofInt 1)) g, true)) (z5 : zix p1 5 = some x5) (h6 : zcnd .ne ((kup σ 42 0 (Int32.ofInt 1)) 40 x5) 0 = false) (z7 : zix (r4 + p2) 820 = some x7) (h8 : zcnd .lt ((kup σ 42 0 (Int32.ofInt 1)) (20 + x7 / 164) (x7 % 164)) p3 = false) (z9 : zix (r4 + ((Int8.ofInt 19).toInt32)) 820 = some x9) (h10 : zcnd .ne ((kup σ 42 0 (Int32.ofInt 1)) (20 + x9 / 164) (x9 % 164)) ((Int8.ofInt 6).toInt32) = true) (h11 : zcnd .le ((kup (kup σ 42 0 (Int32.ofInt 1)) 42 0 (Int32.ofInt 0)) 42 0) 0 = true) (z12 : zix (r4 + ((Int8.ofInt 17).toInt32)) 820 = some x12) (z13 : zix ((r4 + ((Int8.ofInt 20).toInt32)) + ((Int32.ofInt 4) * ((kup (kup σ 42 0 (Int32.ofInt 1)) 42 0 (Int32.ofInt 0)) (20 + x9 / 164) (x9 % 164)))) 820 = some x13) (z14 : zix (((r4 + ((Int8.ofInt 20).toInt32)) + ((Int32.ofInt 4) * ((kup (kup σ 42 0 (Int32.ofInt 1)) 42 0 (Int32.ofInt 0)) (20 + x9 / 164) (x9 % 164)))) + (Int32.ofInt 1)) 820 = some x14) (z15 : zix (((r4 + ((Int8.ofInt 20).toInt32)) + ((Int32.ofInt 4) * ((kup (kup σ 42 0 (Int32.ofInt 1)) 42 0 (Int32.ofInt 0)) (20 + x9 / 164) (x9 % 164)))) + (Int32.ofInt 2)) 820 = some x15) (z16 : zix (r4 + ((Int8.ofInt 16).toInt32)) 820 = some x16) (z17 : zix (((r4 + ((Int8.ofInt 20).toInt32)) + ((Int32.ofInt 4) * ((kup (kup σ 42 0 (Int32.ofInt 1)) 42 0 (Int32.ofInt 0)) (20 + x9 / 164) (x9 % 164)))) + (Int32.ofInt 3)) 820 = some x17) : ZR 123 0 [.val (.ref (kad n (22, 0, 0))), .val (.int p1), .val (.int p2), .val (.int p3), .val (.int p4), .unset, .unset] [] (khp n L σ g) cl (.inl (some (.int ((kup (kup (kup (kup (kup (kup (kup (kup (kup σ 42 0 (Int32.ofInt 1)) 42 0 (Int32.ofInt 0)) (20 + x13 / 164) (x13 % 164) ((kup (kup σ 42 0 (Int32.ofInt 1)) 42 0 (Int32.ofInt 0)) (20 + x12 / 164) (x12 % 164))) (20 + x14 / 164) (x14 % 164) p2) (20 + x15 / 164) (x15 % 164) p3) (20 + x17 / 164) (x17 % 164) (((kup (kup (kup (kup (kup σ 42 0 (Int32.ofInt 1)) 42 0 (Int32.ofInt 0)) (20 + x13 / 164) (x13 % 164) ((kup (kup σ 42 0 (Int32.ofInt 1)) 42 0 (Int32.ofInt 0)) (20 + x12 / 164) (x12 % 164))) (20 + x14 / 164) (x14 % 164) p2) (20 + x15 / 164) (x15 % 164) p3) (20 + x16 / 164) (x16 % 164)) + p4)) (20 + x7 / 164) (x7 % 164) (((kup (kup (kup (kup (kup (kup σ 42 0 (Int32.ofInt 1)) 42 0 (Int32.ofInt 0)) (20 + x13 / 164) (x13 % 164) ((kup (kup σ 42 0 (Int32.ofInt 1)) 42 0 (Int32.ofInt 0)) (20 + x12 / 164) (x12 % 164))) (20 + x14 / 164) (x14 % 164) p2) (20 + x15 / 164) (x15 % 164) p3) (20 + x17 / 164) (x17 % 164) (((kup (kup (kup (kup (kup σ 42 0 (Int32.ofInt 1)) 42 0 (Int32.ofInt 0)) (20 + x13 / 164) (x13 % 164) ((kup (kup σ 42 0 (Int32.ofInt 1)) 42 0 (Int32.ofInt 0)) (20 + x12 / 164) (x12 % 164))) (20 + x14 / 164) (x14 % 164) p2) (20 + x15 / 164) (x15 % 164) p3) (20 + x16 / 164) (x16 % 164)) + p4)) (20 + x7 / 164) (x7 % 164)) - p3)) (20 + x9 / 164) (x9 % 164) (((kup (kup (kup (kup (kup (kup (kup σ 42 0 (Int32.ofInt 1)) 42 0 (Int32.ofInt 0)) (20 + x13 / 164) (x13 % 164) ((kup (kup σ 42 0 (Int32.ofInt 1)) 42 0 (Int32.ofInt 0)) (20 + x12 / 164) (x12 % 164))) (20 + x14 / 164) (x14 % 164) p2) (20 + x15 / 164) (x15 % 164) p3) (20 + x17 / 164) (x17 % 164) (((kup (kup (kup (kup (kup σ 42 0 (Int32.ofInt 1)) 42 0 (Int32.ofInt 0)) (20 + x13 / 164) (x13 % 164) ((kup (kup σ 42 0 (Int32.ofInt 1)) 42 0 (Int32.ofInt 0)) (20 + x12 / 164) (x12 % 164))) (20 + x14 / 164) (x14 % 164) p2) (20 + x15 / 164) (x15 % 164) p3) (20 + x16 / 164) (x16 % 164)) + p4)) (20 + x7 / 164) (x7 % 164) (((kup (kup (kup (kup (kup (kup σ 42 0 (Int32.ofInt 1)) 42 0 (Int32.ofInt 0)) (20 + x13 / 164) (x13 % 164) ((kup (kup σ 42 0 (Int32.ofInt 1)) 42 0 (Int32.ofInt 0)) (20 + x12 / 164) (x12 % 164))) (20 + x14 / 164) (x14 % 164) p2) (20 + x15 / 164) (x15 % 164) p3) (20 + x17 / 164) (x17 % 164) (((kup (kup (kup (kup (kup σ 42 0 (Int32.ofInt 1)) 42 0 (Int32.ofInt 0)) (20 + x13 / 164) (x13 % 164) ((kup (kup σ 42 0 (Int32.ofInt 1)) 42 0 (Int32.ofInt 0)) (20 + x12 / 164) (x12 % 164))) (20 + x14 / 164) (x14 % 164) p2) (20 + x15 / 164) (x15 % 164) p3) (20 + x16 / 164) (x16 % 164)) + p4)) (20 + x7 / 164) (x7 % 164)) - p3)) (20 + x9 / 164) (x9 % 164)) + (Int32.ofInt 1))) (20 + x12 / 164) (x12 % 164) (((kup (kup (kup (kup (kup (kup (kup (kup σ 42 0 (Int32.ofInt 1)) 42 0 (Int32.ofInt 0)) (20 + x13 / 164) (x13 % 164) ((kup (kup σ 42 0 (Int32.ofInt 1)) 42 0 (Int32.ofInt 0)) (20 + x12 / 164) (x12 % 164))) (20 + x14 / 164) (x14 % 164) p2) (20 + x15 / 164) (x15 % 164) p3) (20 + x17 / 164) (x17 % 164) (((kup (kup (kup (kup (kup σ 42 0 (Int32.ofInt 1)) 42 0 (Int32.ofInt 0)) (20 + x13 / 164) (x13 % 164) ((kup (kup σ 42 0 (Int32.ofInt 1)) 42 0 (Int32.ofInt 0)) (20 + x12 / 164) (x12 % 164))) (20 + x14 / 164) (x14 % 164) p2) (20 + x15 / 164) (x15 % 164) p3) (20 + x16 / 164) (x16 % 164)) + p4)) (20 + x7 / 164) (x7 % 164) (((kup (kup (kup (kup (kup (kup σ 42 0 (Int32.ofInt 1)) 42 0 (Int32.ofInt 0)) (20 + x13 / 164) (x13 % 164) ((kup (kup σ 42 0 (Int32.ofInt 1)) 42 0 (Int32.ofInt 0)) (20 + x12 / 164) (x12 % 164))) (20 + x14 / 164) (x14 % 164) p2) (20 + x15 / 164) (x15 % 164) p3) (20 + x17 / 164) (x17 % 164) (((kup (kup (kup (kup (kup σ 42 0 (Int32.ofInt 1)) 42 0 (Int32.ofInt 0)) (20 + x13 / 164) (x13 % 164) ((kup (kup σ 42 0 (Int32.ofInt 1)) 42 0 (Int32.ofInt 0)) (20 + x12 / 164) (x12 % 164))) (20 + x14 / 164) (x14 % 164) p2) (20 + x15 / 164) (x15 % 164) p3) (20 + x16 / 164) (x16 % 164)) + p4)) (20 + x7 / 164) (x7 % 164)) - p3)) (20 + x9 / 164) (x9 % 164) (((kup (kup (kup (kup (kup (kup (kup σ 42 0 (Int32.ofInt 1)) 42 0 (Int32.ofInt 0)) (20 + x13 / 164) (x13 % 164) ((kup (kup σ 42 0 (Int32.ofInt 1)) 42 0 (Int32.ofInt 0)) (20 + x12 / 164) (x12 % 164))) (20 + x14 / 164) (x14 % 164) p2) (20 + x15 / 164) (x15 % 164) p3) (20 + x17 / 164) (x17 % 164) (((kup (kup (kup (kup (kup σ 42 0 (Int32.ofInt 1)) 42 0 (Int32.ofInt 0)) (20 + x13 / 164) (x13 % 164) ((kup (kup σ 42 0 (Int32.ofInt 1)) 42 0 (Int32.ofInt 0)) (20 + x12 / 164) (x12 % 164))) (20 + x14 / 164) (x14 % 164) p2) (20 + x15 / 164) (x15 % 164) p3) (20 + x16 / 164) (x16 % 164)) + p4)) (20 + x7 / 164) (x7 % 164) (((kup (kup (kup (kup (kup (kup σ 42 0 (Int32.ofInt 1)) 42 0 (Int32.ofInt 0)) (20 + x13 / 164) (x13 % 164) ((kup (kup σ 42 0 (Int32.ofInt 1)) 42 0 (Int32.ofInt 0)) (20 + x12 / 164) (x12 % 164))) (20 + x14 / 164) (x14 % 164) p2) (20 + x15 / 164) (x15 % 164) p3) (20 + x17 / 164) (x17 % 164) (((kup (kup (kup (kup (kup σ 42 0 (Int32.ofInt 1)) 42 0 (Int32.ofInt 0)) (20 + x13 / 164) (x13 % 164) ((kup (kup σ 42 0 (Int32.ofInt 1)) 42 0 (Int32.ofInt 0)) (20 + x12 / 164) (x12 % 164))) (20 + x14 / 164) (x14 % 164) p2) (20 + x15 / 164) (x15 % 164) p3) (20 + x16 / 164) (x16 % 164)) + p4)) (20 + x7 / 164) (x7 % 164)) - p3)) (20 + x9 / 164) (x9 % 164)) + (Int32.ofInt 1))) (20 + x12 / 164) (x12 % 164)) + (Int32.ofInt 1))) (20 + x13 / 164) (x13 % 164)))), khp n L (kup (kup (kup (kup (kup (kup (kup (kup (kup σ 42 0 (Int32.ofInt 1)) 42 0 (Int32.ofInt 0)) (20 + x13 / 164) (x13 % 164) ((kup (kup σ 42 0 (Int32.ofInt 1)) 42 0 (Int32.ofInt 0)) (20 + x12 / 164) (x12 % 164))) (20 + x14 / 164) (x14 % 164) p2) (20 + x15 / 164) (x15 % 164) p3) (20 + x17 / 164) (x17 % 164) (((kup (kup (kup (kup (kup σ 42 0 (Int32.ofInt 1)) 42 0 (Int32.ofInt 0)) (20 + x13 / 164) (x13 % 164) ((kup (kup σ 42 0 (Int32.ofInt 1)) 42 0 (Int32.ofInt 0)) (20 + x12 / 164) (x12 % 164))) (20 + x14 / 164) (x14 % 164) p2) (20 + x15 / 164) (x15 % 164) p3) (20 + x16 / 164) (x16 % 164)) + p4)) (20 + x7 / 164) (x7 % 164) (((kup (kup (kup (kup (kup (kup σ 42 0 (Int32.ofInt 1)) 42 0 (Int32.ofInt 0)) (20 + x13 / 164) (x13 % 164) ((kup (kup σ 42 0 (Int32.ofInt 1)) 42 0 (Int32.ofInt 0)) (20 + x12 / 164) (x12 % 164))) (20 + x14 / 164) (x14 % 164) p2) (20 + x15 / 164) (x15 % 164) p3) (20 + x17 / 164) (x17 % 164) (((kup (kup (kup (kup (kup σ 42 0 (Int32.ofInt 1)) 42 0 (Int32.ofInt 0)) (20 + x13 / 164) (x13 % 164) ((kup (kup σ 42 0 (Int32.ofInt 1)) 42 0 (Int32.ofInt 0)) (20 + x12 / 164) (x12 % 164))) (20 + x14 / 164) (x14 % 164) p2) (20 + x15 / 164) (x15 % 164) p3) (20 + x16 / 164) (x16 % 164)) + p4)) (20 + x7 / 164) (x7 % 164)) - p3)) (20 + x9 / 164) (x9 % 164) (((kup (kup (kup (kup (kup (kup (kup σ 42 0 (Int32.ofInt 1)) 42 0 (Int32.ofInt 0)) (20 + x13 / 164) (x13 % 164) ((kup (kup σ 42 0 (Int32.ofInt 1)) 42 0 (Int32.ofInt 0)) (20 + x12 / 164) (x12 % 164))) (20 + x14 / 164) (x14 % 164) p2) (20 + x15 / 164) (x15 % 164) p3) (20 + x17 / 164) (x17 % 164) (((kup (kup (kup (kup (kup σ 42 0 (Int32.ofInt 1)) 42 0 (Int32.ofInt 0)) (20 + x13 / 164) (x13 % 164) ((kup (kup σ 42 0 (Int32.ofInt 1)) 42 0 (Int32.ofInt 0)) (20 + x12 / 164) (x12 % 164))) (20 + x14 / 164) (x14 % 164) p2) (20 + x15 / 164) (x15 % 164) p3) (20 + x16 / 164) (x16 % 164)) + p4)) (20 + x7 / 164) (x7 % 164) (((kup (kup (kup (kup (kup (kup σ 42 0 (Int32.ofInt 1)) 42 0 (Int32.ofInt 0)) (20 + x13 / 164) (x13 % 164) ((kup (kup σ 42 0 (Int32.ofInt 1)) 42 0 (Int32.ofInt 0)) (20 + x12 / 164) (x12 % 164))) (20 + x14 / 164) (x14 % 164) p2) (20 + x15 / 164) (x15 % 164) p3) (20 + x17 / 164) (x17 % 164) (((kup (kup (kup (kup (kup σ 42 0 (Int32.ofInt 1)) 42 0 (Int32.ofInt 0)) (20 + x13 / 164) (x13 % 164) ((kup (kup σ 42 0 (Int32.ofInt 1)) 42 0 (Int32.ofInt 0)) (20 + x12 / 164) (x12 % 164))) (20 + x14 / 164) (x14 % 164) p2) (20 + x15 / 164) (x15 % 164) p3) (20 + x16 / 164) (x16 % 164)) + p4)) (20 + x7 / 164) (x7 % 164)) - p3)) (20 + x9 / 164) (x9 % 164)) + (Int32.ofInt 1))) (20 + x12 / 164) (x12 % 164) (((kup (kup (kup (kup (kup (kup (kup (kup σ 42 0 (Int32.ofInt 1)) 42 0 (Int32.ofInt 0)) (20 + x13 / 164) (x13 % 164) ((kup (kup σ 42 0 (Int32.ofInt 1)) 42 0 (Int32.ofInt 0)) (20 + x12 / 164) (x12 % 164))) (20 + x14 / 164) (x14 % 164) p2) (20 + x15 / 164) (x15 % 164) p3) (20 + x17 / 164) (x17 % 164) (((kup (kup (kup (kup (kup σ 42 0 (Int32.ofInt 1)) 42 0 (Int32.ofInt 0)) (20 + x13 / 164) (x13 % 164) ((kup (kup σ 42 0 (Int32.ofInt 1)) 42 0 (Int32.ofInt 0)) (20 + x12 / 164) (x12 % 164))) (20 + x14 / 164) (x14 % 164) p2) (20 + x15 / 164) (x15 % 164) p3) (20 + x16 / 164) (x16 % 164)) + p4)) (20 + x7 / 164) (x7 % 164) (((kup (kup (kup (kup (kup (kup σ 42 0 (Int32.ofInt 1)) 42 0 (Int32.ofInt 0)) (20 + x13 / 164) (x13 % 164) ((kup (kup σ 42 0 (Int32.ofInt 1)) 42 0 (Int32.ofInt 0)) (20 + x12 / 164) (x12 % 164))) (20 + x14 / 164) (x14 % 164) p2) (20 + x15 / 164) (x15 % 164) p3) (20 + x17 / 164) (x17 % 164) (((kup (kup (kup (kup (kup σ 42 0 (Int32.ofInt 1)) 42 0 (Int32.ofInt 0)) (20 + x13 / 164) (x13 % 164) ((kup (kup σ 42 0 (Int32.ofInt 1)) 42 0 (Int32.ofInt 0)) (20 + x12 / 164) (x12 % 164))) (20 + x14 / 164) (x14 % 164) p2) (20 + x15 / 164) (x15 % 164) p3) (20 + x16 / 164) (x16 % 164)) + p4)) (20 + x7 / 164) (x7 % 164)) - p3)) (20 + x9 / 164) (x9 % 164) (((kup (kup (kup (kup (kup (kup (kup σ 42 0 (Int32.ofInt 1)) 42 0 (Int32.ofInt 0)) (20 + x13 / 164) (x13 % 164) ((kup (kup σ 42 0 (Int32.ofInt 1)) 42 0 (Int32.ofInt 0)) (20 + x12 / 164) (x12 % 164))) (20 + x14 / 164) (x14 % 164) p2) (20 + x15 / 164) (x15 % 164) p3) (20 + x17 / 164) (x17 % 164) (((kup (kup (kup (kup (kup σ 42 0 (Int32.ofInt 1)) 42 0 (Int32.ofInt 0)) (20 + x13 / 164) (x13 % 164) ((kup (kup σ 42 0 (Int32.ofInt 1)) 42 0 (Int32.ofInt 0)) (20 + x12 / 164) (x12 % 164))) (20 + x14 / 164) (x14 % 164) p2) (20 + x15 / 164) (x15 % 164) p3) (20 + x16 / 164) (x16 % 164)) + p4)) (20 + x7 / 164) (x7 % 164) (((kup (kup (kup (kup (kup (kup σ 42 0 (Int32.ofInt 1)) 42 0 (Int32.ofInt 0)) (20 + x13 / 164) (x13 % 164) ((kup (kup σ 42 0 (Int32.ofInt 1)) 42 0 (Int32.ofInt 0)) (20 + x12 / 164) (x12 % 164))) (20 + x14 / 164) (x14 % 164) p2) (20 + x15 / 164) (x15 % 164) p3) (20 + x17 / 164) (x17 % 164) (((kup (kup (kup (kup (kup σ 42 0 (Int32.ofInt 1)) 42 0 (Int32.ofInt 0)) (20 + x13 / 164) (x13 % 164) ((kup (kup σ 42 0 (Int32.ofInt 1)) 42 0 (Int32.ofInt 0)) (20 + x12 / 164) (x12 % 164))) (20 + x14 / 164) (x14 % 164) p2) (20 + x15 / 164) (x15 % 164) p3) (20 + x16 / 164) (x16 % 164)) + p4)) (20 + x7 / 164) (x7 % 164)) - p3)) (20 + x9 / 164) (x9 % 164)) + (Int32.ofInt 1))) (20 + x12 / 164) (x12 % 164)) + (Int32.ofInt 1))) (g), false) := by
  have hM : zmi[123]? = some _ := rfl
  have l5 := (zix_some z5).2.2
  have l7 := (zix_some z7).2.2
  have l9 := (zix_some z9).2.2
  have l12 := (zix_some z12).2.2
  have l13 := (zix_some z13).2.2
  have l14 := (zix_some z14).2.2
  have l15 := (zix_some z15).2.2
  have l16 := (zix_some z16).2.2
  have l17 := (zix_some z17).2.2
  refine zr_fr hM rfl rfl rfl ?_
  refine zr_fr hM rfl rfl rfl ?_
  refine zr_fr hM rfl rfl rfl ?_
  refine zr_fr hM rfl rfl rfl ?_
  refine zr_fr hM rfl rfl rfl ?_
  refine zr_virt (κ := (22, 0, 0)) hn hM rfl rfl rfl rfl rfl rfl rfl rfl rfl ?_
  refine zgo_ret rfl rfl c1_ ?_
  rw [Bool.and_true]
  refine zr_ift hM rfl rfl h2 ?_
  refine zr_fr hM rfl rfl rfl ?_
  refine zr_putf (κ := (22, 0, 0)) hn hM rfl rfl rfl rfl rfl rfl rfl rfl ?_
  refine zr_fr hM rfl rfl rfl ?_
  refine zr_getf (κ := (22, 0, 0)) hn hM rfl rfl rfl rfl ?_
  refine zr_ift hM rfl rfl h3 ?_
  refine zr_fr hM rfl rfl rfl ?_
  refine zr_stat hM rfl rfl rfl rfl rfl rfl ?_
  refine zgo_ret rfl rfl c4_ ?_
  rw [Bool.and_true]
  refine zr_fr hM rfl rfl rfl ?_
  refine zr_fr hM rfl rfl rfl ?_
  refine zr_fr hM rfl rfl rfl ?_
  refine zr_getf (κ := (22, 0, 0)) hn hM rfl rfl rfl rfl ?_
  refine zr_fr hM rfl rfl rfl ?_
  refine zr_bald (κ := (25, 0, 0)) hn hM rfl rfl rfl z5 ?_
  refine zr_iff hM rfl rfl h6 ?_
  refine zr_fr hM rfl rfl rfl ?_
  refine zr_getf (κ := (22, 0, 0)) hn hM rfl rfl rfl rfl ?_
  refine zr_fr hM rfl rfl rfl ?_
  refine zr_fr hM rfl rfl rfl ?_
  refine zr_fr hM rfl rfl rfl ?_
  refine zr_iald (κ := (23, 0, 0)) hn hM rfl rfl rfl z7 ?_
  refine zr_fr hM rfl rfl rfl ?_
  refine zr_icf hM rfl rfl h8 ?_
  refine zr_fr hM rfl rfl rfl ?_
  refine zr_getf (κ := (22, 0, 0)) hn hM rfl rfl rfl rfl ?_
  refine zr_fr hM rfl rfl rfl ?_
  refine zr_fr hM rfl rfl rfl ?_
  refine zr_fr hM rfl rfl rfl ?_
  refine zr_iald (κ := (23, 0, 0)) hn hM rfl rfl rfl z9 ?_
  refine zr_fr hM rfl rfl rfl ?_
  refine zr_ict hM rfl rfl h10 ?_
  refine zr_fr hM rfl rfl rfl ?_
  refine zr_putf (κ := (22, 0, 0)) hn hM rfl rfl rfl rfl rfl rfl rfl rfl ?_
  refine zr_fr hM rfl rfl rfl ?_
  refine zr_getf (κ := (22, 0, 0)) hn hM rfl rfl rfl rfl ?_
  refine zr_ift hM rfl rfl h11 ?_
  refine zr_fr hM rfl rfl rfl ?_
  refine zr_fr hM rfl rfl rfl ?_
  refine zr_fr hM rfl rfl rfl ?_
  refine zr_fr hM rfl rfl rfl ?_
  refine zr_fr hM rfl rfl rfl ?_
  refine zr_getf (κ := (22, 0, 0)) hn hM rfl rfl rfl rfl ?_
  refine zr_fr hM rfl rfl rfl ?_
  refine zr_fr hM rfl rfl rfl ?_
  refine zr_fr hM rfl rfl rfl ?_
  refine zr_iald (κ := (23, 0, 0)) hn hM rfl rfl rfl z9 ?_
  refine zr_fr hM rfl rfl rfl ?_
  refine zr_fr hM rfl rfl rfl ?_
  refine zr_fr hM rfl rfl rfl ?_
  refine zr_fr hM rfl rfl rfl ?_
  refine zr_getf (κ := (22, 0, 0)) hn hM rfl rfl rfl rfl ?_
  refine zr_fr hM rfl rfl rfl ?_
  refine zr_fr hM rfl rfl rfl ?_
  refine zr_getf (κ := (22, 0, 0)) hn hM rfl rfl rfl rfl ?_
  refine zr_fr hM rfl rfl rfl ?_
  refine zr_fr hM rfl rfl rfl ?_
  refine zr_fr hM rfl rfl rfl ?_
  refine zr_iald (κ := (23, 0, 0)) hn hM rfl rfl rfl z12 ?_
  refine zr_iast (κ := (23, 0, 0)) hn hM rfl rfl rfl rfl z13 rfl ?_
  refine zr_fr hM rfl rfl rfl ?_
  refine zr_getf (κ := (22, 0, 0)) hn hM rfl rfl rfl rfl ?_
  refine zr_fr hM rfl rfl rfl ?_
  refine zr_fr hM rfl rfl rfl ?_
  refine zr_fr hM rfl rfl rfl ?_
  refine zr_fr hM rfl rfl rfl ?_
  refine zr_iast (κ := (23, 0, 0)) hn hM rfl rfl rfl rfl z14 rfl ?_
  refine zr_fr hM rfl rfl rfl ?_
  refine zr_getf (κ := (22, 0, 0)) hn hM rfl rfl rfl rfl ?_
  refine zr_fr hM rfl rfl rfl ?_
  refine zr_fr hM rfl rfl rfl ?_
  refine zr_fr hM rfl rfl rfl ?_
  refine zr_fr hM rfl rfl rfl ?_
  refine zr_iast (κ := (23, 0, 0)) hn hM rfl rfl rfl rfl z15 rfl ?_
  refine zr_fr hM rfl rfl rfl ?_
  refine zr_getf (κ := (22, 0, 0)) hn hM rfl rfl rfl rfl ?_
  refine zr_fr hM rfl rfl rfl ?_
  refine zr_fr hM rfl rfl rfl ?_
  refine zr_fr hM rfl rfl rfl ?_
  refine zr_fr hM rfl rfl rfl ?_
  refine zr_getf (κ := (22, 0, 0)) hn hM rfl rfl rfl rfl ?_
  refine zr_fr hM rfl rfl rfl ?_
  refine zr_fr hM rfl rfl rfl ?_
  refine zr_fr hM rfl rfl rfl ?_
  refine zr_iald (κ := (23, 0, 0)) hn hM rfl rfl rfl z16 ?_
  refine zr_fr hM rfl rfl rfl ?_
  refine zr_fr hM rfl rfl rfl ?_
  refine zr_iast (κ := (23, 0, 0)) hn hM rfl rfl rfl rfl z17 rfl ?_
  refine zr_fr hM rfl rfl rfl ?_
  refine zr_getf (κ := (22, 0, 0)) hn hM rfl rfl rfl rfl ?_
  refine zr_fr hM rfl rfl rfl ?_
  refine zr_fr hM rfl rfl rfl ?_
  refine zr_fr hM rfl rfl rfl ?_
  refine zr_fr hM rfl rfl rfl ?_
  refine zr_iald (κ := (23, 0, 0)) hn hM rfl rfl rfl z7 ?_
  refine zr_fr hM rfl rfl rfl ?_
  refine zr_fr hM rfl rfl rfl ?_
  refine zr_iast (κ := (23, 0, 0)) hn hM rfl rfl rfl rfl z7 rfl ?_
  refine zr_fr hM rfl rfl rfl ?_
  refine zr_getf (κ := (22, 0, 0)) hn hM rfl rfl rfl rfl ?_
  refine zr_fr hM rfl rfl rfl ?_
  refine zr_fr hM rfl rfl rfl ?_
  refine zr_fr hM rfl rfl rfl ?_
  refine zr_fr hM rfl rfl rfl ?_
  refine zr_iald (κ := (23, 0, 0)) hn hM rfl rfl rfl z9 ?_
  refine zr_fr hM rfl rfl rfl ?_
  refine zr_fr hM rfl rfl rfl ?_
  refine zr_iast (κ := (23, 0, 0)) hn hM rfl rfl rfl rfl z9 rfl ?_
  refine zr_fr hM rfl rfl rfl ?_
  refine zr_getf (κ := (22, 0, 0)) hn hM rfl rfl rfl rfl ?_
  refine zr_fr hM rfl rfl rfl ?_
  refine zr_fr hM rfl rfl rfl ?_
  refine zr_fr hM rfl rfl rfl ?_
  refine zr_fr hM rfl rfl rfl ?_
  refine zr_iald (κ := (23, 0, 0)) hn hM rfl rfl rfl z12 ?_
  refine zr_fr hM rfl rfl rfl ?_
  refine zr_fr hM rfl rfl rfl ?_
  refine zr_iast (κ := (23, 0, 0)) hn hM rfl rfl rfl rfl z12 rfl ?_
  refine zr_fr hM rfl rfl rfl ?_
  refine zr_getf (κ := (22, 0, 0)) hn hM rfl rfl rfl rfl ?_
  refine zr_fr hM rfl rfl rfl ?_
  refine zr_iald (κ := (23, 0, 0)) hn hM rfl rfl rfl z13 ?_
  exact zr_iret2 hM rfl rfl rfl
set_option maxHeartbeats 4000000 in
theorem s123_0_ttftf {n L : Nat} {σ : Ks} {g : List Nat} {cl : Bool} {p1 : Int32} {p2 : Int32} {p3 : Int32} {p4 : Int32} {r1 : Int32} {r4 : Int32} {x5 : Nat} {x7 : Nat} (hn : 2 ≤ n ∧ n ≤ 5) (c1_ : ZR 118 0 [.val (.ref (kad n (22, 0, 0))), .val (.int p1), .val (.int p2), .val (.int p3)] [] (khp n L σ g) true (.inl (some (.int r1)), khp n L σ g, true)) (h2 : zcnd .eq r1 0 = true) (h3 : zcnd .le ((kup σ 42 0 (Int32.ofInt 1)) 42 0) 0 = true) (c4_ : ZR 97 0 [.val (.int p1)] [] (khp n L (kup σ 42 0 (Int32.ofInt 1)) g) true (.inl (some (.int r4)), khp n L (kup σ 42 0 (Int32.ofInt 1)) g, true)) (z5 : zix p1 5 = some x5) (h6 : zcnd .ne ((kup σ 42 0 (Int32.ofInt 1)) 40 x5) 0 = false) (z7 : zix (r4 + p2) 820 = some x7) (h8 : zcnd .lt ((kup σ 42 0 (Int32.ofInt 1)) (20 + x7 / 164) (x7 % 164)) p3 = true) (h9 : zcnd .le ((kup (kup σ 42 0 (Int32.ofInt 1)) 42 0 (Int32.ofInt 2)) 42 0) 0 = false) : ZR 123 0 [.val (.ref (kad n (22, 0, 0))), .val (.int p1), .val (.int p2), .val (.int p3), .val (.int p4), .unset, .unset] [] (khp n L σ g) cl (.inl (some (.int (Int32.ofInt 0))), khp n L (kup (kup σ 42 0 (Int32.ofInt 1)) 42 0 (Int32.ofInt 2)) (g), false) := by
  have hM : zmi[123]? = some _ := rfl
  have l5 := (zix_some z5).2.2
  have l7 := (zix_some z7).2.2
  refine zr_fr hM rfl rfl rfl ?_
  refine zr_fr hM rfl rfl rfl ?_
  refine zr_fr hM rfl rfl rfl ?_
  refine zr_fr hM rfl rfl rfl ?_
  refine zr_fr hM rfl rfl rfl ?_
  refine zr_virt (κ := (22, 0, 0)) hn hM rfl rfl rfl rfl rfl rfl rfl rfl rfl ?_
  refine zgo_ret rfl rfl c1_ ?_
  rw [Bool.and_true]
  refine zr_ift hM rfl rfl h2 ?_
  refine zr_fr hM rfl rfl rfl ?_
  refine zr_putf (κ := (22, 0, 0)) hn hM rfl rfl rfl rfl rfl rfl rfl rfl ?_
  refine zr_fr hM rfl rfl rfl ?_
  refine zr_getf (κ := (22, 0, 0)) hn hM rfl rfl rfl rfl ?_
  refine zr_ift hM rfl rfl h3 ?_
  refine zr_fr hM rfl rfl rfl ?_
  refine zr_stat hM rfl rfl rfl rfl rfl rfl ?_
  refine zgo_ret rfl rfl c4_ ?_
  rw [Bool.and_true]
  refine zr_fr hM rfl rfl rfl ?_
  refine zr_fr hM rfl rfl rfl ?_
  refine zr_fr hM rfl rfl rfl ?_
  refine zr_getf (κ := (22, 0, 0)) hn hM rfl rfl rfl rfl ?_
  refine zr_fr hM rfl rfl rfl ?_
  refine zr_bald (κ := (25, 0, 0)) hn hM rfl rfl rfl z5 ?_
  refine zr_iff hM rfl rfl h6 ?_
  refine zr_fr hM rfl rfl rfl ?_
  refine zr_getf (κ := (22, 0, 0)) hn hM rfl rfl rfl rfl ?_
  refine zr_fr hM rfl rfl rfl ?_
  refine zr_fr hM rfl rfl rfl ?_
  refine zr_fr hM rfl rfl rfl ?_
  refine zr_iald (κ := (23, 0, 0)) hn hM rfl rfl rfl z7 ?_
  refine zr_fr hM rfl rfl rfl ?_
  refine zr_ict hM rfl rfl h8 ?_
  refine zr_fr hM rfl rfl rfl ?_
  refine zr_fr hM rfl rfl rfl ?_
  refine zr_putf (κ := (22, 0, 0)) hn hM rfl rfl rfl rfl rfl rfl rfl rfl ?_
  refine zr_fr hM rfl rfl rfl ?_
  refine zr_getf (κ := (22, 0, 0)) hn hM rfl rfl rfl rfl ?_
  refine zr_iff hM rfl rfl h9 ?_
  refine zr_fr hM rfl rfl rfl ?_
  exact zr_iret2 hM rfl rfl rfl
set_option maxHeartbeats 4000000 in
theorem s123_0_ttftt {n L : Nat} {σ : Ks} {g : List Nat} {cl : Bool} {p1 : Int32} {p2 : Int32} {p3 : Int32} {p4 : Int32} {r1 : Int32} {r4 : Int32} {x5 : Nat} {x7 : Nat} {x10 : Nat} {x11 : Nat} {x12 : Nat} {x13 : Nat} {x14 : Nat} {x15 : Nat} {x16 : Nat} (hn : 2 ≤ n ∧ n ≤ 5) (c1_ : ZR 118 0 [.val (.ref (kad n (22, 0, 0))), .val (.int p1), .val (.int p2), .val (.int p3)] [] (khp n L σ g) true (.inl (some (.int r1)), khp n L σ g, true)) (h2 : zcnd .eq r1 0 = true) (h3 : zcnd .le ((kup σ 42 0 (Int32.ofInt 1)) 42 0) 0 = true) (c4_ : ZR 97 0 [.val (.int p1)] [] (khp n L (kup σ 42 0 (Int32.ofInt 1)) g) true (.inl (some (.int r4)), khp n L (kup σ 42 0 (Int32.ofInt 1)) g, true)) (z5 : zix p1 5 = some x5) (h6 : zcnd .ne ((kup σ 42 0 (Int32.ofInt 1)) 40 x5) 0 = false) (z7 : zix (r4 + p2) 820 = some x7) (h8 : zcnd .lt ((kup σ 42 0 (Int32.ofInt 1)) (20 + x7 / 164) (x7 % 164)) p3 = true) (h9 : zcnd .le ((kup (kup σ 42 0 (Int32.ofInt 1)) 42 0 (Int32.ofInt 2)) 42 0) 0 = true) (z10 : zix (r4 + ((Int8.ofInt 19).toInt32)) 820 = some x10) (z11 : zix (r4 + ((Int8.ofInt 17).toInt32)) 820 = some x11) (z12 : zix ((r4 + ((Int8.ofInt 20).toInt32)) + ((Int32.ofInt 4) * ((kup (kup σ 42 0 (Int32.ofInt 1)) 42 0 (Int32.ofInt 2)) (20 + x10 / 164) (x10 % 164)))) 820 = some x12) (z13 : zix (((r4 + ((Int8.ofInt 20).toInt32)) + ((Int32.ofInt 4) * ((kup (kup σ 42 0 (Int32.ofInt 1)) 42 0 (Int32.ofInt 2)) (20 + x10 / 164) (x10 % 164)))) + (Int32.ofInt 1)) 820 = some x13) (z14 : zix (((r4 + ((Int8.ofInt 20).toInt32)) + ((Int32.ofInt 4) * ((kup (kup σ 42 0 (Int32.ofInt 1)) 42 0 (Int32.ofInt 2)) (20 + x10 / 164) (x10 % 164)))) + (Int32.ofInt 2)) 820 = some x14) (z15 : zix (r4 + ((Int8.ofInt 16).toInt32)) 820 = some x15) (z16 : zix (((r4 + ((Int8.ofInt 20).toInt32)) + ((Int32.ofInt 4) * ((kup (kup σ 42 0 (Int32.ofInt 1)) 42 0 (Int32.ofInt 2)) (20 + x10 / 164) (x10 % 164)))) + (Int32.ofInt 3)) 820 = some x16) : ZR 123 0 [.val (.ref (kad n (22, 0, 0))), .val (.int p1), .val (.int p2), .val (.int p3), .val (.int p4), .unset, .unset] [] (khp n L σ g) cl (.inl (some (.int ((kup (kup (kup (kup (kup (kup (kup (kup (kup σ 42 0 (Int32.ofInt 1)) 42 0 (Int32.ofInt 2)) (20 + x12 / 164) (x12 % 164) ((kup (kup σ 42 0 (Int32.ofInt 1)) 42 0 (Int32.ofInt 2)) (20 + x11 / 164) (x11 % 164))) (20 + x13 / 164) (x13 % 164) p2) (20 + x14 / 164) (x14 % 164) p3) (20 + x16 / 164) (x16 % 164) (((kup (kup (kup (kup (kup σ 42 0 (Int32.ofInt 1)) 42 0 (Int32.ofInt 2)) (20 + x12 / 164) (x12 % 164) ((kup (kup σ 42 0 (Int32.ofInt 1)) 42 0 (Int32.ofInt 2)) (20 + x11 / 164) (x11 % 164))) (20 + x13 / 164) (x13 % 164) p2) (20 + x14 / 164) (x14 % 164) p3) (20 + x15 / 164) (x15 % 164)) + p4)) (20 + x7 / 164) (x7 % 164) (((kup (kup (kup (kup (kup (kup σ 42 0 (Int32.ofInt 1)) 42 0 (Int32.ofInt 2)) (20 + x12 / 164) (x12 % 164) ((kup (kup σ 42 0 (Int32.ofInt 1)) 42 0 (Int32.ofInt 2)) (20 + x11 / 164) (x11 % 164))) (20 + x13 / 164) (x13 % 164) p2) (20 + x14 / 164) (x14 % 164) p3) (20 + x16 / 164) (x16 % 164) (((kup (kup (kup (kup (kup σ 42 0 (Int32.ofInt 1)) 42 0 (Int32.ofInt 2)) (20 + x12 / 164) (x12 % 164) ((kup (kup σ 42 0 (Int32.ofInt 1)) 42 0 (Int32.ofInt 2)) (20 + x11 / 164) (x11 % 164))) (20 + x13 / 164) (x13 % 164) p2) (20 + x14 / 164) (x14 % 164) p3) (20 + x15 / 164) (x15 % 164)) + p4)) (20 + x7 / 164) (x7 % 164)) - p3)) (20 + x10 / 164) (x10 % 164) (((kup (kup (kup (kup (kup (kup (kup σ 42 0 (Int32.ofInt 1)) 42 0 (Int32.ofInt 2)) (20 + x12 / 164) (x12 % 164) ((kup (kup σ 42 0 (Int32.ofInt 1)) 42 0 (Int32.ofInt 2)) (20 + x11 / 164) (x11 % 164))) (20 + x13 / 164) (x13 % 164) p2) (20 + x14 / 164) (x14 % 164) p3) (20 + x16 / 164) (x16 % 164) (((kup (kup (kup (kup (kup σ 42 0 (Int32.ofInt 1)) 42 0 (Int32.ofInt 2)) (20 + x12 / 164) (x12 % 164) ((kup (kup σ 42 0 (Int32.ofInt 1)) 42 0 (Int32.ofInt 2)) (20 + x11 / 164) (x11 % 164))) (20 + x13 / 164) (x13 % 164) p2) (20 + x14 / 164) (x14 % 164) p3) (20 + x15 / 164) (x15 % 164)) + p4)) (20 + x7 / 164) (x7 % 164) (((kup (kup (kup (kup (kup (kup σ 42 0 (Int32.ofInt 1)) 42 0 (Int32.ofInt 2)) (20 + x12 / 164) (x12 % 164) ((kup (kup σ 42 0 (Int32.ofInt 1)) 42 0 (Int32.ofInt 2)) (20 + x11 / 164) (x11 % 164))) (20 + x13 / 164) (x13 % 164) p2) (20 + x14 / 164) (x14 % 164) p3) (20 + x16 / 164) (x16 % 164) (((kup (kup (kup (kup (kup σ 42 0 (Int32.ofInt 1)) 42 0 (Int32.ofInt 2)) (20 + x12 / 164) (x12 % 164) ((kup (kup σ 42 0 (Int32.ofInt 1)) 42 0 (Int32.ofInt 2)) (20 + x11 / 164) (x11 % 164))) (20 + x13 / 164) (x13 % 164) p2) (20 + x14 / 164) (x14 % 164) p3) (20 + x15 / 164) (x15 % 164)) + p4)) (20 + x7 / 164) (x7 % 164)) - p3)) (20 + x10 / 164) (x10 % 164)) + (Int32.ofInt 1))) (20 + x11 / 164) (x11 % 164) (((kup (kup (kup (kup (kup (kup (kup (kup σ 42 0 (Int32.ofInt 1)) 42 0 (Int32.ofInt 2)) (20 + x12 / 164) (x12 % 164) ((kup (kup σ 42 0 (Int32.ofInt 1)) 42 0 (Int32.ofInt 2)) (20 + x11 / 164) (x11 % 164))) (20 + x13 / 164) (x13 % 164) p2) (20 + x14 / 164) (x14 % 164) p3) (20 + x16 / 164) (x16 % 164) (((kup (kup (kup (kup (kup σ 42 0 (Int32.ofInt 1)) 42 0 (Int32.ofInt 2)) (20 + x12 / 164) (x12 % 164) ((kup (kup σ 42 0 (Int32.ofInt 1)) 42 0 (Int32.ofInt 2)) (20 + x11 / 164) (x11 % 164))) (20 + x13 / 164) (x13 % 164) p2) (20 + x14 / 164) (x14 % 164) p3) (20 + x15 / 164) (x15 % 164)) + p4)) (20 + x7 / 164) (x7 % 164) (((kup (kup (kup (kup (kup (kup σ 42 0 (Int32.ofInt 1)) 42 0 (Int32.ofInt 2)) (20 + x12 / 164) (x12 % 164) ((kup (kup σ 42 0 (Int32.ofInt 1)) 42 0 (Int32.ofInt 2)) (20 + x11 / 164) (x11 % 164))) (20 + x13 / 164) (x13 % 164) p2) (20 + x14 / 164) (x14 % 164) p3) (20 + x16 / 164) (x16 % 164) (((kup (kup (kup (kup (kup σ 42 0 (Int32.ofInt 1)) 42 0 (Int32.ofInt 2)) (20 + x12 / 164) (x12 % 164) ((kup (kup σ 42 0 (Int32.ofInt 1)) 42 0 (Int32.ofInt 2)) (20 + x11 / 164) (x11 % 164))) (20 + x13 / 164) (x13 % 164) p2) (20 + x14 / 164) (x14 % 164) p3) (20 + x15 / 164) (x15 % 164)) + p4)) (20 + x7 / 164) (x7 % 164)) - p3)) (20 + x10 / 164) (x10 % 164) (((kup (kup (kup (kup (kup (kup (kup σ 42 0 (Int32.ofInt 1)) 42 0 (Int32.ofInt 2)) (20 + x12 / 164) (x12 % 164) ((kup (kup σ 42 0 (Int32.ofInt 1)) 42 0 (Int32.ofInt 2)) (20 + x11 / 164) (x11 % 164))) (20 + x13 / 164) (x13 % 164) p2) (20 + x14 / 164) (x14 % 164) p3) (20 + x16 / 164) (x16 % 164) (((kup (kup (kup (kup (kup σ 42 0 (Int32.ofInt 1)) 42 0 (Int32.ofInt 2)) (20 + x12 / 164) (x12 % 164) ((kup (kup σ 42 0 (Int32.ofInt 1)) 42 0 (Int32.ofInt 2)) (20 + x11 / 164) (x11 % 164))) (20 + x13 / 164) (x13 % 164) p2) (20 + x14 / 164) (x14 % 164) p3) (20 + x15 / 164) (x15 % 164)) + p4)) (20 + x7 / 164) (x7 % 164) (((kup (kup (kup (kup (kup (kup σ 42 0 (Int32.ofInt 1)) 42 0 (Int32.ofInt 2)) (20 + x12 / 164) (x12 % 164) ((kup (kup σ 42 0 (Int32.ofInt 1)) 42 0 (Int32.ofInt 2)) (20 + x11 / 164) (x11 % 164))) (20 + x13 / 164) (x13 % 164) p2) (20 + x14 / 164) (x14 % 164) p3) (20 + x16 / 164) (x16 % 164) (((kup (kup (kup (kup (kup σ 42 0 (Int32.ofInt 1)) 42 0 (Int32.ofInt 2)) (20 + x12 / 164) (x12 % 164) ((kup (kup σ 42 0 (Int32.ofInt 1)) 42 0 (Int32.ofInt 2)) (20 + x11 / 164) (x11 % 164))) (20 + x13 / 164) (x13 % 164) p2) (20 + x14 / 164) (x14 % 164) p3) (20 + x15 / 164) (x15 % 164)) + p4)) (20 + x7 / 164) (x7 % 164)) - p3)) (20 + x10 / 164) (x10 % 164)) + (Int32.ofInt 1))) (20 + x11 / 164) (x11 % 164)) + (Int32.ofInt 1))) (20 + x12 / 164) (x12 % 164)))), khp n L (kup (kup (kup (kup (kup (kup (kup (kup (kup σ 42 0 (Int32.ofInt 1)) 42 0 (Int32.ofInt 2)) (20 + x12 / 164) (x12 % 164) ((kup (kup σ 42 0 (Int32.ofInt 1)) 42 0 (Int32.ofInt 2)) (20 + x11 / 164) (x11 % 164))) (20 + x13 / 164) (x13 % 164) p2) (20 + x14 / 164) (x14 % 164) p3) (20 + x16 / 164) (x16 % 164) (((kup (kup (kup (kup (kup σ 42 0 (Int32.ofInt 1)) 42 0 (Int32.ofInt 2)) (20 + x12 / 164) (x12 % 164) ((kup (kup σ 42 0 (Int32.ofInt 1)) 42 0 (Int32.ofInt 2)) (20 + x11 / 164) (x11 % 164))) (20 + x13 / 164) (x13 % 164) p2) (20 + x14 / 164) (x14 % 164) p3) (20 + x15 / 164) (x15 % 164)) + p4)) (20 + x7 / 164) (x7 % 164) (((kup (kup (kup (kup (kup (kup σ 42 0 (Int32.ofInt 1)) 42 0 (Int32.ofInt 2)) (20 + x12 / 164) (x12 % 164) ((kup (kup σ 42 0 (Int32.ofInt 1)) 42 0 (Int32.ofInt 2)) (20 + x11 / 164) (x11 % 164))) (20 + x13 / 164) (x13 % 164) p2) (20 + x14 / 164) (x14 % 164) p3) (20 + x16 / 164) (x16 % 164) (((kup (kup (kup (kup (kup σ 42 0 (Int32.ofInt 1)) 42 0 (Int32.ofInt 2)) (20 + x12 / 164) (x12 % 164) ((kup (kup σ 42 0 (Int32.ofInt 1)) 42 0 (Int32.ofInt 2)) (20 + x11 / 164) (x11 % 164))) (20 + x13 / 164) (x13 % 164) p2) (20 + x14 / 164) (x14 % 164) p3) (20 + x15 / 164) (x15 % 164)) + p4)) (20 + x7 / 164) (x7 % 164)) - p3)) (20 + x10 / 164) (x10 % 164) (((kup (kup (kup (kup (kup (kup (kup σ 42 0 (Int32.ofInt 1)) 42 0 (Int32.ofInt 2)) (20 + x12 / 164) (x12 % 164) ((kup (kup σ 42 0 (Int32.ofInt 1)) 42 0 (Int32.ofInt 2)) (20 + x11 / 164) (x11 % 164))) (20 + x13 / 164) (x13 % 164) p2) (20 + x14 / 164) (x14 % 164) p3) (20 + x16 / 164) (x16 % 164) (((kup (kup (kup (kup (kup σ 42 0 (Int32.ofInt 1)) 42 0 (Int32.ofInt 2)) (20 + x12 / 164) (x12 % 164) ((kup (kup σ 42 0 (Int32.ofInt 1)) 42 0 (Int32.ofInt 2)) (20 + x11 / 164) (x11 % 164))) (20 + x13 / 164) (x13 % 164) p2) (20 + x14 / 164) (x14 % 164) p3) (20 + x15 / 164) (x15 % 164)) + p4)) (20 + x7 / 164) (x7 % 164) (((kup (kup (kup (kup (kup (kup σ 42 0 (Int32.ofInt 1)) 42 0 (Int32.ofInt 2)) (20 + x12 / 164) (x12 % 164) ((kup (kup σ 42 0 (Int32.ofInt 1)) 42 0 (Int32.ofInt 2)) (20 + x11 / 164) (x11 % 164))) (20 + x13 / 164) (x13 % 164) p2) (20 + x14 / 164) (x14 % 164) p3) (20 + x16 / 164) (x16 % 164) (((kup (kup (kup (kup (kup σ 42 0 (Int32.ofInt 1)) 42 0 (Int32.ofInt 2)) (20 + x12 / 164) (x12 % 164) ((kup (kup σ 42 0 (Int32.ofInt 1)) 42 0 (Int32.ofInt 2)) (20 + x11 / 164) (x11 % 164))) (20 + x13 / 164) (x13 % 164) p2) (20 + x14 / 164) (x14 % 164) p3) (20 + x15 / 164) (x15 % 164)) + p4)) (20 + x7 / 164) (x7 % 164)) - p3)) (20 + x10 / 164) (x10 % 164)) + (Int32.ofInt 1))) (20 + x11 / 164) (x11 % 164) (((kup (kup (kup (kup (kup (kup (kup (kup σ 42 0 (Int32.ofInt 1)) 42 0 (Int32.ofInt 2)) (20 + x12 / 164) (x12 % 164) ((kup (kup σ 42 0 (Int32.ofInt 1)) 42 0 (Int32.ofInt 2)) (20 + x11 / 164) (x11 % 164))) (20 + x13 / 164) (x13 % 164) p2) (20 + x14 / 164) (x14 % 164) p3) (20 + x16 / 164) (x16 % 164) (((kup (kup (kup (kup (kup σ 42 0 (Int32.ofInt 1)) 42 0 (Int32.ofInt 2)) (20 + x12 / 164) (x12 % 164) ((kup (kup σ 42 0 (Int32.ofInt 1)) 42 0 (Int32.ofInt 2)) (20 + x11 / 164) (x11 % 164))) (20 + x13 / 164) (x13 % 164) p2) (20 + x14 / 164) (x14 % 164) p3) (20 + x15 / 164) (x15 % 164)) + p4)) (20 + x7 / 164) (x7 % 164) (((kup (kup (kup (kup (kup (kup σ 42 0 (Int32.ofInt 1)) 42 0 (Int32.ofInt 2)) (20 + x12 / 164) (x12 % 164) ((kup (kup σ 42 0 (Int32.ofInt 1)) 42 0 (Int32.ofInt 2)) (20 + x11 / 164) (x11 % 164))) (20 + x13 / 164) (x13 % 164) p2) (20 + x14 / 164) (x14 % 164) p3) (20 + x16 / 164) (x16 % 164) (((kup (kup (kup (kup (kup σ 42 0 (Int32.ofInt 1)) 42 0 (Int32.ofInt 2)) (20 + x12 / 164) (x12 % 164) ((kup (kup σ 42 0 (Int32.ofInt 1)) 42 0 (Int32.ofInt 2)) (20 + x11 / 164) (x11 % 164))) (20 + x13 / 164) (x13 % 164) p2) (20 + x14 / 164) (x14 % 164) p3) (20 + x15 / 164) (x15 % 164)) + p4)) (20 + x7 / 164) (x7 % 164)) - p3)) (20 + x10 / 164) (x10 % 164) (((kup (kup (kup (kup (kup (kup (kup σ 42 0 (Int32.ofInt 1)) 42 0 (Int32.ofInt 2)) (20 + x12 / 164) (x12 % 164) ((kup (kup σ 42 0 (Int32.ofInt 1)) 42 0 (Int32.ofInt 2)) (20 + x11 / 164) (x11 % 164))) (20 + x13 / 164) (x13 % 164) p2) (20 + x14 / 164) (x14 % 164) p3) (20 + x16 / 164) (x16 % 164) (((kup (kup (kup (kup (kup σ 42 0 (Int32.ofInt 1)) 42 0 (Int32.ofInt 2)) (20 + x12 / 164) (x12 % 164) ((kup (kup σ 42 0 (Int32.ofInt 1)) 42 0 (Int32.ofInt 2)) (20 + x11 / 164) (x11 % 164))) (20 + x13 / 164) (x13 % 164) p2) (20 + x14 / 164) (x14 % 164) p3) (20 + x15 / 164) (x15 % 164)) + p4)) (20 + x7 / 164) (x7 % 164) (((kup (kup (kup (kup (kup (kup σ 42 0 (Int32.ofInt 1)) 42 0 (Int32.ofInt 2)) (20 + x12 / 164) (x12 % 164) ((kup (kup σ 42 0 (Int32.ofInt 1)) 42 0 (Int32.ofInt 2)) (20 + x11 / 164) (x11 % 164))) (20 + x13 / 164) (x13 % 164) p2) (20 + x14 / 164) (x14 % 164) p3) (20 + x16 / 164) (x16 % 164) (((kup (kup (kup (kup (kup σ 42 0 (Int32.ofInt 1)) 42 0 (Int32.ofInt 2)) (20 + x12 / 164) (x12 % 164) ((kup (kup σ 42 0 (Int32.ofInt 1)) 42 0 (Int32.ofInt 2)) (20 + x11 / 164) (x11 % 164))) (20 + x13 / 164) (x13 % 164) p2) (20 + x14 / 164) (x14 % 164) p3) (20 + x15 / 164) (x15 % 164)) + p4)) (20 + x7 / 164) (x7 % 164)) - p3)) (20 + x10 / 164) (x10 % 164)) + (Int32.ofInt 1))) (20 + x11 / 164) (x11 % 164)) + (Int32.ofInt 1))) (g), false) := by
  have hM : zmi[123]? = some _ := rfl
  have l5 := (zix_some z5).2.2
  have l7 := (zix_some z7).2.2
  have l10 := (zix_some z10).2.2
  have l11 := (zix_some z11).2.2
  have l12 := (zix_some z12).2.2
  have l13 := (zix_some z13).2.2
  have l14 := (zix_some z14).2.2
  have l15 := (zix_some z15).2.2
  have l16 := (zix_some z16).2.2
  refine zr_fr hM rfl rfl rfl ?_
  refine zr_fr hM rfl rfl rfl ?_
  refine zr_fr hM rfl rfl rfl ?_
  refine zr_fr hM rfl rfl rfl ?_
  refine zr_fr hM rfl rfl rfl ?_
  refine zr_virt (κ := (22, 0, 0)) hn hM rfl rfl rfl rfl rfl rfl rfl rfl rfl ?_
  refine zgo_ret rfl rfl c1_ ?_
  rw [Bool.and_true]
  refine zr_ift hM rfl rfl h2 ?_
  refine zr_fr hM rfl rfl rfl ?_
  refine zr_putf (κ := (22, 0, 0)) hn hM rfl rfl rfl rfl rfl rfl rfl rfl ?_
  refine zr_fr hM rfl rfl rfl ?_
  refine zr_getf (κ := (22, 0, 0)) hn hM rfl rfl rfl rfl ?_
  refine zr_ift hM rfl rfl h3 ?_
  refine zr_fr hM rfl rfl rfl ?_
  refine zr_stat hM rfl rfl rfl rfl rfl rfl ?_
  refine zgo_ret rfl rfl c4_ ?_
  rw [Bool.and_true]
  refine zr_fr hM rfl rfl rfl ?_
  refine zr_fr hM rfl rfl rfl ?_
  refine zr_fr hM rfl rfl rfl ?_
  refine zr_getf (κ := (22, 0, 0)) hn hM rfl rfl rfl rfl ?_
  refine zr_fr hM rfl rfl rfl ?_
  refine zr_bald (κ := (25, 0, 0)) hn hM rfl rfl rfl z5 ?_
  refine zr_iff hM rfl rfl h6 ?_
  refine zr_fr hM rfl rfl rfl ?_
  refine zr_getf (κ := (22, 0, 0)) hn hM rfl rfl rfl rfl ?_
  refine zr_fr hM rfl rfl rfl ?_
  refine zr_fr hM rfl rfl rfl ?_
  refine zr_fr hM rfl rfl rfl ?_
  refine zr_iald (κ := (23, 0, 0)) hn hM rfl rfl rfl z7 ?_
  refine zr_fr hM rfl rfl rfl ?_
  refine zr_ict hM rfl rfl h8 ?_
  refine zr_fr hM rfl rfl rfl ?_
  refine zr_fr hM rfl rfl rfl ?_
  refine zr_putf (κ := (22, 0, 0)) hn hM rfl rfl rfl rfl rfl rfl rfl rfl ?_
  refine zr_fr hM rfl rfl rfl ?_
  refine zr_getf (κ := (22, 0, 0)) hn hM rfl rfl rfl rfl ?_
  refine zr_ift hM rfl rfl h9 ?_
  refine zr_fr hM rfl rfl rfl ?_
  refine zr_fr hM rfl rfl rfl ?_
  refine zr_fr hM rfl rfl rfl ?_
  refine zr_fr hM rfl rfl rfl ?_
  refine zr_fr hM rfl rfl rfl ?_
  refine zr_getf (κ := (22, 0, 0)) hn hM rfl rfl rfl rfl ?_
  refine zr_fr hM rfl rfl rfl ?_
  refine zr_fr hM rfl rfl rfl ?_
  refine zr_fr hM rfl rfl rfl ?_
  refine zr_iald (κ := (23, 0, 0)) hn hM rfl rfl rfl z10 ?_
  refine zr_fr hM rfl rfl rfl ?_
  refine zr_fr hM rfl rfl rfl ?_
  refine zr_fr hM rfl rfl rfl ?_
  refine zr_fr hM rfl rfl rfl ?_
  refine zr_getf (κ := (22, 0, 0)) hn hM rfl rfl rfl rfl ?_
  refine zr_fr hM rfl rfl rfl ?_
  refine zr_fr hM rfl rfl rfl ?_
  refine zr_getf (κ := (22, 0, 0)) hn hM rfl rfl rfl rfl ?_
  refine zr_fr hM rfl rfl rfl ?_
  refine zr_fr hM rfl rfl rfl ?_
  refine zr_fr hM rfl rfl rfl ?_
  refine zr_iald (κ := (23, 0, 0)) hn hM rfl rfl rfl z11 ?_
  refine zr_iast (κ := (23, 0, 0)) hn hM rfl rfl rfl rfl z12 rfl ?_
  refine zr_fr hM rfl rfl rfl ?_
  refine zr_getf (κ := (22, 0, 0)) hn hM rfl rfl rfl rfl ?_
  refine zr_fr hM rfl rfl rfl ?_
  refine zr_fr hM rfl rfl rfl ?_
  refine zr_fr hM rfl rfl rfl ?_
  refine zr_fr hM rfl rfl rfl ?_
  refine zr_iast (κ := (23, 0, 0)) hn hM rfl rfl rfl rfl z13 rfl ?_
  refine zr_fr hM rfl rfl rfl ?_
  refine zr_getf (κ := (22, 0, 0)) hn hM rfl rfl rfl rfl ?_
  refine zr_fr hM rfl rfl rfl ?_
  refine zr_fr hM rfl rfl rfl ?_
  refine zr_fr hM rfl rfl rfl ?_
  refine zr_fr hM rfl rfl rfl ?_
  refine zr_iast (κ := (23, 0, 0)) hn hM rfl rfl rfl rfl z14 rfl ?_
  refine zr_fr hM rfl rfl rfl ?_
  refine zr_getf (κ := (22, 0, 0)) hn hM rfl rfl rfl rfl ?_
  refine zr_fr hM rfl rfl rfl ?_
  refine zr_fr hM rfl rfl rfl ?_
  refine zr_fr hM rfl rfl rfl ?_
  refine zr_fr hM rfl rfl rfl ?_
  refine zr_getf (κ := (22, 0, 0)) hn hM rfl rfl rfl rfl ?_
  refine zr_fr hM rfl rfl rfl ?_
  refine zr_fr hM rfl rfl rfl ?_
  refine zr_fr hM rfl rfl rfl ?_
  refine zr_iald (κ := (23, 0, 0)) hn hM rfl rfl rfl z15 ?_
  refine zr_fr hM rfl rfl rfl ?_
  refine zr_fr hM rfl rfl rfl ?_
  refine zr_iast (κ := (23, 0, 0)) hn hM rfl rfl rfl rfl z16 rfl ?_
  refine zr_fr hM rfl rfl rfl ?_
  refine zr_getf (κ := (22, 0, 0)) hn hM rfl rfl rfl rfl ?_
  refine zr_fr hM rfl rfl rfl ?_
  refine zr_fr hM rfl rfl rfl ?_
  refine zr_fr hM rfl rfl rfl ?_
  refine zr_fr hM rfl rfl rfl ?_
  refine zr_iald (κ := (23, 0, 0)) hn hM rfl rfl rfl z7 ?_
  refine zr_fr hM rfl rfl rfl ?_
  refine zr_fr hM rfl rfl rfl ?_
  refine zr_iast (κ := (23, 0, 0)) hn hM rfl rfl rfl rfl z7 rfl ?_
  refine zr_fr hM rfl rfl rfl ?_
  refine zr_getf (κ := (22, 0, 0)) hn hM rfl rfl rfl rfl ?_
  refine zr_fr hM rfl rfl rfl ?_
  refine zr_fr hM rfl rfl rfl ?_
  refine zr_fr hM rfl rfl rfl ?_
  refine zr_fr hM rfl rfl rfl ?_
  refine zr_iald (κ := (23, 0, 0)) hn hM rfl rfl rfl z10 ?_
  refine zr_fr hM rfl rfl rfl ?_
  refine zr_fr hM rfl rfl rfl ?_
  refine zr_iast (κ := (23, 0, 0)) hn hM rfl rfl rfl rfl z10 rfl ?_
  refine zr_fr hM rfl rfl rfl ?_
  refine zr_getf (κ := (22, 0, 0)) hn hM rfl rfl rfl rfl ?_
  refine zr_fr hM rfl rfl rfl ?_
  refine zr_fr hM rfl rfl rfl ?_
  refine zr_fr hM rfl rfl rfl ?_
  refine zr_fr hM rfl rfl rfl ?_
  refine zr_iald (κ := (23, 0, 0)) hn hM rfl rfl rfl z11 ?_
  refine zr_fr hM rfl rfl rfl ?_
  refine zr_fr hM rfl rfl rfl ?_
  refine zr_iast (κ := (23, 0, 0)) hn hM rfl rfl rfl rfl z11 rfl ?_
  refine zr_fr hM rfl rfl rfl ?_
  refine zr_getf (κ := (22, 0, 0)) hn hM rfl rfl rfl rfl ?_
  refine zr_fr hM rfl rfl rfl ?_
  refine zr_iald (κ := (23, 0, 0)) hn hM rfl rfl rfl z12 ?_
  exact zr_iret2 hM rfl rfl rfl
set_option maxHeartbeats 4000000 in
theorem s123_0_tttf {n L : Nat} {σ : Ks} {g : List Nat} {cl : Bool} {p1 : Int32} {p2 : Int32} {p3 : Int32} {p4 : Int32} {r1 : Int32} {r4 : Int32} {x5 : Nat} (hn : 2 ≤ n ∧ n ≤ 5) (c1_ : ZR 118 0 [.val (.ref (kad n (22, 0, 0))), .val (.int p1), .val (.int p2), .val (.int p3)] [] (khp n L σ g) true (.inl (some (.int r1)), khp n L σ g, true)) (h2 : zcnd .eq r1 0 = true) (h3 : zcnd .le ((kup σ 42 0 (Int32.ofInt 1)) 42 0) 0 = true) (c4_ : ZR 97 0 [.val (.int p1)] [] (khp n L (kup σ 42 0 (Int32.ofInt 1)) g) true (.inl (some (.int r4)), khp n L (kup σ 42 0 (Int32.ofInt 1)) g, true)) (z5 : zix p1 5 = some x5) (h6 : zcnd .ne ((kup σ 42 0 (Int32.ofInt 1)) 40 x5) 0 = true) (h7 : zcnd .le ((kup (kup σ 42 0 (Int32.ofInt 1)) 42 0 (Int32.ofInt 2)) 42 0) 0 = false) : ZR 123 0 [.val (.ref (kad n (22, 0, 0))), .val (.int p1), .val (.int p2), .val (.int p3), .val (.int p4), .unset, .unset] [] (khp n L σ g) cl (.inl (some (.int (Int32.ofInt 0))), khp n L (kup (kup σ 42 0 (Int32.ofInt 1)) 42 0 (Int32.ofInt 2)) (g), false) := by
  have hM : zmi[123]? = some _ := rfl
  have l5 := (zix_some z5).2.2
  refine zr_fr hM rfl rfl rfl ?_
  refine zr_fr hM rfl rfl rfl ?_
  refine zr_fr hM rfl rfl rfl ?_
  refine zr_fr hM rfl rfl rfl ?_
  refine zr_fr hM rfl rfl rfl ?_
  refine zr_virt (κ := (22, 0, 0)) hn hM rfl rfl rfl rfl rfl rfl rfl rfl rfl ?_
  refine zgo_ret rfl rfl c1_ ?_
  rw [Bool.and_true]
  refine zr_ift hM rfl rfl h2 ?_
  refine zr_fr hM rfl rfl rfl ?_
  refine zr_putf (κ := (22, 0, 0)) hn hM rfl rfl rfl rfl rfl rfl rfl rfl ?_
  refine zr_fr hM rfl rfl rfl ?_
  refine zr_getf (κ := (22, 0, 0)) hn hM rfl rfl rfl rfl ?_
  refine zr_ift hM rfl rfl h3 ?_
  refine zr_fr hM rfl rfl rfl ?_
  refine zr_stat hM rfl rfl rfl rfl rfl rfl ?_
  refine zgo_ret rfl rfl c4_ ?_
  rw [Bool.and_true]
  refine zr_fr hM rfl rfl rfl ?_
  refine zr_fr hM rfl rfl rfl ?_
  refine zr_fr hM rfl rfl rfl ?_
  refine zr_getf (κ := (22, 0, 0)) hn hM rfl rfl rfl rfl ?_
  refine zr_fr hM rfl rfl rfl ?_
  refine zr_bald (κ := (25, 0, 0)) hn hM rfl rfl rfl z5 ?_
  refine zr_ift hM rfl rfl h6 ?_
  refine zr_fr hM rfl rfl rfl ?_
  refine zr_fr hM rfl rfl rfl ?_
  refine zr_putf (κ := (22, 0, 0)) hn hM rfl rfl rfl rfl rfl rfl rfl rfl ?_
  refine zr_fr hM rfl rfl rfl ?_
  refine zr_getf (κ := (22, 0, 0)) hn hM rfl rfl rfl rfl ?_
  refine zr_iff hM rfl rfl h7 ?_
  refine zr_fr hM rfl rfl rfl ?_
  exact zr_iret2 hM rfl rfl rfl
set_option maxHeartbeats 4000000 in
theorem s123_0_tttt {n L : Nat} {σ : Ks} {g : List Nat} {cl : Bool} {p1 : Int32} {p2 : Int32} {p3 : Int32} {p4 : Int32} {r1 : Int32} {r4 : Int32} {x5 : Nat} {x8 : Nat} {x9 : Nat} {x10 : Nat} {x11 : Nat} {x12 : Nat} {x13 : Nat} {x14 : Nat} {x15 : Nat} (hn : 2 ≤ n ∧ n ≤ 5) (c1_ : ZR 118 0 [.val (.ref (kad n (22, 0, 0))), .val (.int p1), .val (.int p2), .val (.int p3)] [] (khp n L σ g) true (.inl (some (.int r1)), khp n L σ g, true)) (h2 : zcnd .eq r1 0 = true) (h3 : zcnd .le ((kup σ 42 0 (Int32.ofInt 1)) 42 0) 0 = true) (c4_ : ZR 97 0 [.val (.int p1)] [] (khp n L (kup σ 42 0 (Int32.ofInt 1)) g) true (.inl (some (.int r4)), khp n L (kup σ 42 0 (Int32.ofInt 1)) g, true)) (z5 : zix p1 5 = some x5) (h6 : zcnd .ne ((kup σ 42 0 (Int32.ofInt 1)) 40 x5) 0 = true) (h7 : zcnd .le ((kup (kup σ 42 0 (Int32.ofInt 1)) 42 0 (Int32.ofInt 2)) 42 0) 0 = true) (z8 : zix (r4 + ((Int8.ofInt 19).toInt32)) 820 = some x8) (z9 : zix (r4 + ((Int8.ofInt 17).toInt32)) 820 = some x9) (z10 : zix ((r4 + ((Int8.ofInt 20).toInt32)) + ((Int32.ofInt 4) * ((kup (kup σ 42 0 (Int32.ofInt 1)) 42 0 (Int32.ofInt 2)) (20 + x8 / 164) (x8 % 164)))) 820 = some x10) (z11 : zix (((r4 + ((Int8.ofInt 20).toInt32)) + ((Int32.ofInt 4) * ((kup (kup σ 42 0 (Int32.ofInt 1)) 42 0 (Int32.ofInt 2)) (20 + x8 / 164) (x8 % 164)))) + (Int32.ofInt 1)) 820 = some x11) (z12 : zix (((r4 + ((Int8.ofInt 20).toInt32)) + ((Int32.ofInt 4) * ((kup (kup σ 42 0 (Int32.ofInt 1)) 42 0 (Int32.ofInt 2)) (20 + x8 / 164) (x8 % 164)))) + (Int32.ofInt 2)) 820 = some x12) (z13 : zix (r4 + ((Int8.ofInt 16).toInt32)) 820 = some x13) (z14 : zix (((r4 + ((Int8.ofInt 20).toInt32)) + ((Int32.ofInt 4) * ((kup (kup σ 42 0 (Int32.ofInt 1)) 42 0 (Int32.ofInt 2)) (20 + x8 / 164) (x8 % 164)))) + (Int32.ofInt 3)) 820 = some x14) (z15 : zix (r4 + p2) 820 = some x15) : ZR 123 0 [.val (.ref (kad n (22, 0, 0))), .val (.int p1), .val (.int p2), .val (.int p3), .val (.int p4), .unset, .unset] [] (khp n L σ g) cl (.inl (some (.int ((kup (kup (kup (kup (kup (kup (kup (kup (kup σ 42 0 (Int32.ofInt 1)) 42 0 (Int32.ofInt 2)) (20 + x10 / 164) (x10 % 164) ((kup (kup σ 42 0 (Int32.ofInt 1)) 42 0 (Int32.ofInt 2)) (20 + x9 / 164) (x9 % 164))) (20 + x11 / 164) (x11 % 164) p2) (20 + x12 / 164) (x12 % 164) p3) (20 + x14 / 164) (x14 % 164) (((kup (kup (kup (kup (kup σ 42 0 (Int32.ofInt 1)) 42 0 (Int32.ofInt 2)) (20 + x10 / 164) (x10 % 164) ((kup (kup σ 42 0 (Int32.ofInt 1)) 42 0 (Int32.ofInt 2)) (20 + x9 / 164) (x9 % 164))) (20 + x11 / 164) (x11 % 164) p2) (20 + x12 / 164) (x12 % 164) p3) (20 + x13 / 164) (x13 % 164)) + p4)) (20 + x15 / 164) (x15 % 164) (((kup (kup (kup (kup (kup (kup σ 42 0 (Int32.ofInt 1)) 42 0 (Int32.ofInt 2)) (20 + x10 / 164) (x10 % 164) ((kup (kup σ 42 0 (Int32.ofInt 1)) 42 0 (Int32.ofInt 2)) (20 + x9 / 164) (x9 % 164))) (20 + x11 / 164) (x11 % 164) p2) (20 + x12 / 164) (x12 % 164) p3) (20 + x14 / 164) (x14 % 164) (((kup (kup (kup (kup (kup σ 42 0 (Int32.ofInt 1)) 42 0 (Int32.ofInt 2)) (20 + x10 / 164) (x10 % 164) ((kup (kup σ 42 0 (Int32.ofInt 1)) 42 0 (Int32.ofInt 2)) (20 + x9 / 164) (x9 % 164))) (20 + x11 / 164) (x11 % 164) p2) (20 + x12 / 164) (x12 % 164) p3) (20 + x13 / 164) (x13 % 164)) + p4)) (20 + x15 / 164) (x15 % 164)) - p3)) (20 + x8 / 164) (x8 % 164) (((kup (kup (kup (kup (kup (kup (kup σ 42 0 (Int32.ofInt 1)) 42 0 (Int32.ofInt 2)) (20 + x10 / 164) (x10 % 164) ((kup (kup σ 42 0 (Int32.ofInt 1)) 42 0 (Int32.ofInt 2)) (20 + x9 / 164) (x9 % 164))) (20 + x11 / 164) (x11 % 164) p2) (20 + x12 / 164) (x12 % 164) p3) (20 + x14 / 164) (x14 % 164) (((kup (kup (kup (kup (kup σ 42 0 (Int32.ofInt 1)) 42 0 (Int32.ofInt 2)) (20 + x10 / 164) (x10 % 164) ((kup (kup σ 42 0 (Int32.ofInt 1)) 42 0 (Int32.ofInt 2)) (20 + x9 / 164) (x9 % 164))) (20 + x11 / 164) (x11 % 164) p2) (20 + x12 / 164) (x12 % 164) p3) (20 + x13 / 164) (x13 % 164)) + p4)) (20 + x15 / 164) (x15 % 164) (((kup (kup (kup (kup (kup (kup σ 42 0 (Int32.ofInt 1)) 42 0 (Int32.ofInt 2)) (20 + x10 / 164) (x10 % 164) ((kup (kup σ 42 0 (Int32.ofInt 1)) 42 0 (Int32.ofInt 2)) (20 + x9 / 164) (x9 % 164))) (20 + x11 / 164) (x11 % 164) p2) (20 + x12 / 164) (x12 % 164) p3) (20 + x14 / 164) (x14 % 164) (((kup (kup (kup (kup (kup σ 42 0 (Int32.ofInt 1)) 42 0 (Int32.ofInt 2)) (20 + x10 / 164) (x10 % 164) ((kup (kup σ 42 0 (Int32.ofInt 1)) 42 0 (Int32.ofInt 2)) (20 + x9 / 164) (x9 % 164))) (20 + x11 / 164) (x11 % 164) p2) (20 + x12 / 164) (x12 % 164) p3) (20 + x13 / 164) (x13 % 164)) + p4)) (20 + x15 / 164) (x15 % 164)) - p3)) (20 + x8 / 164) (x8 % 164)) + (Int32.ofInt 1))) (20 + x9 / 164) (x9 % 164) (((kup (kup (kup (kup (kup (kup (kup (kup σ 42 0 (Int32.ofInt 1)) 42 0 (Int32.ofInt 2)) (20 + x10 / 164) (x10 % 164) ((kup (kup σ 42 0 (Int32.ofInt 1)) 42 0 (Int32.ofInt 2)) (20 + x9 / 164) (x9 % 164))) (20 + x11 / 164) (x11 % 164) p2) (20 + x12 / 164) (x12 % 164) p3) (20 + x14 / 164) (x14 % 164) (((kup (kup (kup (kup (kup σ 42 0 (Int32.ofInt 1)) 42 0 (Int32.ofInt 2)) (20 + x10 / 164) (x10 % 164) ((kup (kup σ 42 0 (Int32.ofInt 1)) 42 0 (Int32.ofInt 2)) (20 + x9 / 164) (x9 % 164))) (20 + x11 / 164) (x11 % 164) p2) (20 + x12 / 164) (x12 % 164) p3) (20 + x13 / 164) (x13 % 164)) + p4)) (20 + x15 / 164) (x15 % 164) (((kup (kup (kup (kup (kup (kup σ 42 0 (Int32.ofInt 1)) 42 0 (Int32.ofInt 2)) (20 + x10 / 164) (x10 % 164) ((kup (kup σ 42 0 (Int32.ofInt 1)) 42 0 (Int32.ofInt 2)) (20 + x9 / 164) (x9 % 164))) (20 + x11 / 164) (x11 % 164) p2) (20 + x12 / 164) (x12 % 164) p3) (20 + x14 / 164) (x14 % 164) (((kup (kup (kup (kup (kup σ 42 0 (Int32.ofInt 1)) 42 0 (Int32.ofInt 2)) (20 + x10 / 164) (x10 % 164) ((kup (kup σ 42 0 (Int32.ofInt 1)) 42 0 (Int32.ofInt 2)) (20 + x9 / 164) (x9 % 164))) (20 + x11 / 164) (x11 % 164) p2) (20 + x12 / 164) (x12 % 164) p3) (20 + x13 / 164) (x13 % 164)) + p4)) (20 + x15 / 164) (x15 % 164)) - p3)) (20 + x8 / 164) (x8 % 164) (((kup (kup (kup (kup (kup (kup (kup σ 42 0 (Int32.ofInt 1)) 42 0 (Int32.ofInt 2)) (20 + x10 / 164) (x10 % 164) ((kup (kup σ 42 0 (Int32.ofInt 1)) 42 0 (Int32.ofInt 2)) (20 + x9 / 164) (x9 % 164))) (20 + x11 / 164) (x11 % 164) p2) (20 + x12 / 164) (x12 % 164) p3) (20 + x14 / 164) (x14 % 164) (((kup (kup (kup (kup (kup σ 42 0 (Int32.ofInt 1)) 42 0 (Int32.ofInt 2)) (20 + x10 / 164) (x10 % 164) ((kup (kup σ 42 0 (Int32.ofInt 1)) 42 0 (Int32.ofInt 2)) (20 + x9 / 164) (x9 % 164))) (20 + x11 / 164) (x11 % 164) p2) (20 + x12 / 164) (x12 % 164) p3) (20 + x13 / 164) (x13 % 164)) + p4)) (20 + x15 / 164) (x15 % 164) (((kup (kup (kup (kup (kup (kup σ 42 0 (Int32.ofInt 1)) 42 0 (Int32.ofInt 2)) (20 + x10 / 164) (x10 % 164) ((kup (kup σ 42 0 (Int32.ofInt 1)) 42 0 (Int32.ofInt 2)) (20 + x9 / 164) (x9 % 164))) (20 + x11 / 164) (x11 % 164) p2) (20 + x12 / 164) (x12 % 164) p3) (20 + x14 / 164) (x14 % 164) (((kup (kup (kup (kup (kup σ 42 0 (Int32.ofInt 1)) 42 0 (Int32.ofInt 2)) (20 + x10 / 164) (x10 % 164) ((kup (kup σ 42 0 (Int32.ofInt 1)) 42 0 (Int32.ofInt 2)) (20 + x9 / 164) (x9 % 164))) (20 + x11 / 164) (x11 % 164) p2) (20 + x12 / 164) (x12 % 164) p3) (20 + x13 / 164) (x13 % 164)) + p4)) (20 + x15 / 164) (x15 % 164)) - p3)) (20 + x8 / 164) (x8 % 164)) + (Int32.ofInt 1))) (20 + x9 / 164) (x9 % 164)) + (Int32.ofInt 1))) (20 + x10 / 164) (x10 % 164)))), khp n L (kup (kup (kup (kup (kup (kup (kup (kup (kup σ 42 0 (Int32.ofInt 1)) 42 0 (Int32.ofInt 2)) (20 + x10 / 164) (x10 % 164) ((kup (kup σ 42 0 (Int32.ofInt 1)) 42 0 (Int32.ofInt 2)) (20 + x9 / 164) (x9 % 164))) (20 + x11 / 164) (x11 % 164) p2) (20 + x12 / 164) (x12 % 164) p3) (20 + x14 / 164) (x14 % 164) (((kup (kup (kup (kup (kup σ 42 0 (Int32.ofInt 1)) 42 0 (Int32.ofInt 2)) (20 + x10 / 164) (x10 % 164) ((kup (kup σ 42 0 (Int32.ofInt 1)) 42 0 (Int32.ofInt 2)) (20 + x9 / 164) (x9 % 164))) (20 + x11 / 164) (x11 % 164) p2) (20 + x12 / 164) (x12 % 164) p3) (20 + x13 / 164) (x13 % 164)) + p4)) (20 + x15 / 164) (x15 % 164) (((kup (kup (kup (kup (kup (kup σ 42 0 (Int32.ofInt 1)) 42 0 (Int32.ofInt 2)) (20 + x10 / 164) (x10 % 164) ((kup (kup σ 42 0 (Int32.ofInt 1)) 42 0 (Int32.ofInt 2)) (20 + x9 / 164) (x9 % 164))) (20 + x11 / 164) (x11 % 164) p2) (20 + x12 / 164) (x12 % 164) p3) (20 + x14 / 164) (x14 % 164) (((kup (kup (kup (kup (kup σ 42 0 (Int32.ofInt 1)) 42 0 (Int32.ofInt 2)) (20 + x10 / 164) (x10 % 164) ((kup (kup σ 42 0 (Int32.ofInt 1)) 42 0 (Int32.ofInt 2)) (20 + x9 / 164) (x9 % 164))) (20 + x11 / 164) (x11 % 164) p2) (20 + x12 / 164) (x12 % 164) p3) (20 + x13 / 164) (x13 % 164)) + p4)) (20 + x15 / 164) (x15 % 164)) - p3)) (20 + x8 / 164) (x8 % 164) (((kup (kup (kup (kup (kup (kup (kup σ 42 0 (Int32.ofInt 1)) 42 0 (Int32.ofInt 2)) (20 + x10 / 164) (x10 % 164) ((kup (kup σ 42 0 (Int32.ofInt 1)) 42 0 (Int32.ofInt 2)) (20 + x9 / 164) (x9 % 164))) (20 + x11 / 164) (x11 % 164) p2) (20 + x12 / 164) (x12 % 164) p3) (20 + x14 / 164) (x14 % 164) (((kup (kup (kup (kup (kup σ 42 0 (Int32.ofInt 1)) 42 0 (Int32.ofInt 2)) (20 + x10 / 164) (x10 % 164) ((kup (kup σ 42 0 (Int32.ofInt 1)) 42 0 (Int32.ofInt 2)) (20 + x9 / 164) (x9 % 164))) (20 + x11 / 164) (x11 % 164) p2) (20 + x12 / 164) (x12 % 164) p3) (20 + x13 / 164) (x13 % 164)) + p4)) (20 + x15 / 164) (x15 % 164) (((kup (kup (kup (kup (kup (kup σ 42 0 (Int32.ofInt 1)) 42 0 (Int32.ofInt 2)) (20 + x10 / 164) (x10 % 164) ((kup (kup σ 42 0 (Int32.ofInt 1)) 42 0 (Int32.ofInt 2)) (20 + x9 / 164) (x9 % 164))) (20 + x11 / 164) (x11 % 164) p2) (20 + x12 / 164) (x12 % 164) p3) (20 + x14 / 164) (x14 % 164) (((kup (kup (kup (kup (kup σ 42 0 (Int32.ofInt 1)) 42 0 (Int32.ofInt 2)) (20 + x10 / 164) (x10 % 164) ((kup (kup σ 42 0 (Int32.ofInt 1)) 42 0 (Int32.ofInt 2)) (20 + x9 / 164) (x9 % 164))) (20 + x11 / 164) (x11 % 164) p2) (20 + x12 / 164) (x12 % 164) p3) (20 + x13 / 164) (x13 % 164)) + p4)) (20 + x15 / 164) (x15 % 164)) - p3)) (20 + x8 / 164) (x8 % 164)) + (Int32.ofInt 1))) (20 + x9 / 164) (x9 % 164) (((kup (kup (kup (kup (kup (kup (kup (kup σ 42 0 (Int32.ofInt 1)) 42 0 (Int32.ofInt 2)) (20 + x10 / 164) (x10 % 164) ((kup (kup σ 42 0 (Int32.ofInt 1)) 42 0 (Int32.ofInt 2)) (20 + x9 / 164) (x9 % 164))) (20 + x11 / 164) (x11 % 164) p2) (20 + x12 / 164) (x12 % 164) p3) (20 + x14 / 164) (x14 % 164) (((kup (kup (kup (kup (kup σ 42 0 (Int32.ofInt 1)) 42 0 (Int32.ofInt 2)) (20 + x10 / 164) (x10 % 164) ((kup (kup σ 42 0 (Int32.ofInt 1)) 42 0 (Int32.ofInt 2)) (20 + x9 / 164) (x9 % 164))) (20 + x11 / 164) (x11 % 164) p2) (20 + x12 / 164) (x12 % 164) p3) (20 + x13 / 164) (x13 % 164)) + p4)) (20 + x15 / 164) (x15 % 164) (((kup (kup (kup (kup (kup (kup σ 42 0 (Int32.ofInt 1)) 42 0 (Int32.ofInt 2)) (20 + x10 / 164) (x10 % 164) ((kup (kup σ 42 0 (Int32.ofInt 1)) 42 0 (Int32.ofInt 2)) (20 + x9 / 164) (x9 % 164))) (20 + x11 / 164) (x11 % 164) p2) (20 + x12 / 164) (x12 % 164) p3) (20 + x14 / 164) (x14 % 164) (((kup (kup (kup (kup (kup σ 42 0 (Int32.ofInt 1)) 42 0 (Int32.ofInt 2)) (20 + x10 / 164) (x10 % 164) ((kup (kup σ 42 0 (Int32.ofInt 1)) 42 0 (Int32.ofInt 2)) (20 + x9 / 164) (x9 % 164))) (20 + x11 / 164) (x11 % 164) p2) (20 + x12 / 164) (x12 % 164) p3) (20 + x13 / 164) (x13 % 164)) + p4)) (20 + x15 / 164) (x15 % 164)) - p3)) (20 + x8 / 164) (x8 % 164) (((kup (kup (kup (kup (kup (kup (kup σ 42 0 (Int32.ofInt 1)) 42 0 (Int32.ofInt 2)) (20 + x10 / 164) (x10 % 164) ((kup (kup σ 42 0 (Int32.ofInt 1)) 42 0 (Int32.ofInt 2)) (20 + x9 / 164) (x9 % 164))) (20 + x11 / 164) (x11 % 164) p2) (20 + x12 / 164) (x12 % 164) p3) (20 + x14 / 164) (x14 % 164) (((kup (kup (kup (kup (kup σ 42 0 (Int32.ofInt 1)) 42 0 (Int32.ofInt 2)) (20 + x10 / 164) (x10 % 164) ((kup (kup σ 42 0 (Int32.ofInt 1)) 42 0 (Int32.ofInt 2)) (20 + x9 / 164) (x9 % 164))) (20 + x11 / 164) (x11 % 164) p2) (20 + x12 / 164) (x12 % 164) p3) (20 + x13 / 164) (x13 % 164)) + p4)) (20 + x15 / 164) (x15 % 164) (((kup (kup (kup (kup (kup (kup σ 42 0 (Int32.ofInt 1)) 42 0 (Int32.ofInt 2)) (20 + x10 / 164) (x10 % 164) ((kup (kup σ 42 0 (Int32.ofInt 1)) 42 0 (Int32.ofInt 2)) (20 + x9 / 164) (x9 % 164))) (20 + x11 / 164) (x11 % 164) p2) (20 + x12 / 164) (x12 % 164) p3) (20 + x14 / 164) (x14 % 164) (((kup (kup (kup (kup (kup σ 42 0 (Int32.ofInt 1)) 42 0 (Int32.ofInt 2)) (20 + x10 / 164) (x10 % 164) ((kup (kup σ 42 0 (Int32.ofInt 1)) 42 0 (Int32.ofInt 2)) (20 + x9 / 164) (x9 % 164))) (20 + x11 / 164) (x11 % 164) p2) (20 + x12 / 164) (x12 % 164) p3) (20 + x13 / 164) (x13 % 164)) + p4)) (20 + x15 / 164) (x15 % 164)) - p3)) (20 + x8 / 164) (x8 % 164)) + (Int32.ofInt 1))) (20 + x9 / 164) (x9 % 164)) + (Int32.ofInt 1))) (g), false) := by
  have hM : zmi[123]? = some _ := rfl
  have l5 := (zix_some z5).2.2
  have l8 := (zix_some z8).2.2
  have l9 := (zix_some z9).2.2
  have l10 := (zix_some z10).2.2
  have l11 := (zix_some z11).2.2
  have l12 := (zix_some z12).2.2
  have l13 := (zix_some z13).2.2
  have l14 := (zix_some z14).2.2
  have l15 := (zix_some z15).2.2
  refine zr_fr hM rfl rfl rfl ?_
  refine zr_fr hM rfl rfl rfl ?_
  refine zr_fr hM rfl rfl rfl ?_
  refine zr_fr hM rfl rfl rfl ?_
  refine zr_fr hM rfl rfl rfl ?_
  refine zr_virt (κ := (22, 0, 0)) hn hM rfl rfl rfl rfl rfl rfl rfl rfl rfl ?_
  refine zgo_ret rfl rfl c1_ ?_
  rw [Bool.and_true]
  refine zr_ift hM rfl rfl h2 ?_
  refine zr_fr hM rfl rfl rfl ?_
  refine zr_putf (κ := (22, 0, 0)) hn hM rfl rfl rfl rfl rfl rfl rfl rfl ?_
  refine zr_fr hM rfl rfl rfl ?_
  refine zr_getf (κ := (22, 0, 0)) hn hM rfl rfl rfl rfl ?_
  refine zr_ift hM rfl rfl h3 ?_
  refine zr_fr hM rfl rfl rfl ?_
  refine zr_stat hM rfl rfl rfl rfl rfl rfl ?_
  refine zgo_ret rfl rfl c4_ ?_
  rw [Bool.and_true]
  refine zr_fr hM rfl rfl rfl ?_
  refine zr_fr hM rfl rfl rfl ?_
  refine zr_fr hM rfl rfl rfl ?_
  refine zr_getf (κ := (22, 0, 0)) hn hM rfl rfl rfl rfl ?_
  refine zr_fr hM rfl rfl rfl ?_
  refine zr_bald (κ := (25, 0, 0)) hn hM rfl rfl rfl z5 ?_
  refine zr_ift hM rfl rfl h6 ?_
  refine zr_fr hM rfl rfl rfl ?_
  refine zr_fr hM rfl rfl rfl ?_
  refine zr_putf (κ := (22, 0, 0)) hn hM rfl rfl rfl rfl rfl rfl rfl rfl ?_
  refine zr_fr hM rfl rfl rfl ?_
  refine zr_getf (κ := (22, 0, 0)) hn hM rfl rfl rfl rfl ?_
  refine zr_ift hM rfl rfl h7 ?_
  refine zr_fr hM rfl rfl rfl ?_
  refine zr_fr hM rfl rfl rfl ?_
  refine zr_fr hM rfl rfl rfl ?_
  refine zr_fr hM rfl rfl rfl ?_
  refine zr_fr hM rfl rfl rfl ?_
  refine zr_getf (κ := (22, 0, 0)) hn hM rfl rfl rfl rfl ?_
  refine zr_fr hM rfl rfl rfl ?_
  refine zr_fr hM rfl rfl rfl ?_
  refine zr_fr hM rfl rfl rfl ?_
  refine zr_iald (κ := (23, 0, 0)) hn hM rfl rfl rfl z8 ?_
  refine zr_fr hM rfl rfl rfl ?_
  refine zr_fr hM rfl rfl rfl ?_
  refine zr_fr hM rfl rfl rfl ?_
  refine zr_fr hM rfl rfl rfl ?_
  refine zr_getf (κ := (22, 0, 0)) hn hM rfl rfl rfl rfl ?_
  refine zr_fr hM rfl rfl rfl ?_
  refine zr_fr hM rfl rfl rfl ?_
  refine zr_getf (κ := (22, 0, 0)) hn hM rfl rfl rfl rfl ?_
  refine zr_fr hM rfl rfl rfl ?_
  refine zr_fr hM rfl rfl rfl ?_
  refine zr_fr hM rfl rfl rfl ?_
  refine zr_iald (κ := (23, 0, 0)) hn hM rfl rfl rfl z9 ?_
  refine zr_iast (κ := (23, 0, 0)) hn hM rfl rfl rfl rfl z10 rfl ?_
  refine zr_fr hM rfl rfl rfl ?_
  refine zr_getf (κ := (22, 0, 0)) hn hM rfl rfl rfl rfl ?_
  refine zr_fr hM rfl rfl rfl ?_
  refine zr_fr hM rfl rfl rfl ?_
  refine zr_fr hM rfl rfl rfl ?_
  refine zr_fr hM rfl rfl rfl ?_
  refine zr_iast (κ := (23, 0, 0)) hn hM rfl rfl rfl rfl z11 rfl ?_
  refine zr_fr hM rfl rfl rfl ?_
  refine zr_getf (κ := (22, 0, 0)) hn hM rfl rfl rfl rfl ?_
  refine zr_fr hM rfl rfl rfl ?_
  refine zr_fr hM rfl rfl rfl ?_
  refine zr_fr hM rfl rfl rfl ?_
  refine zr_fr hM rfl rfl rfl ?_
  refine zr_iast (κ := (23, 0, 0)) hn hM rfl rfl rfl rfl z12 rfl ?_
  refine zr_fr hM rfl rfl rfl ?_
  refine zr_getf (κ := (22, 0, 0)) hn hM rfl rfl rfl rfl ?_
  refine zr_fr hM rfl rfl rfl ?_
  refine zr_fr hM rfl rfl rfl ?_
  refine zr_fr hM rfl rfl rfl ?_
  refine zr_fr hM rfl rfl rfl ?_
  refine zr_getf (κ := (22, 0, 0)) hn hM rfl rfl rfl rfl ?_
  refine zr_fr hM rfl rfl rfl ?_
  refine zr_fr hM rfl rfl rfl ?_
  refine zr_fr hM rfl rfl rfl ?_
  refine zr_iald (κ := (23, 0, 0)) hn hM rfl rfl rfl z13 ?_
  refine zr_fr hM rfl rfl rfl ?_
  refine zr_fr hM rfl rfl rfl ?_
  refine zr_iast (κ := (23, 0, 0)) hn hM rfl rfl rfl rfl z14 rfl ?_
  refine zr_fr hM rfl rfl rfl ?_
  refine zr_getf (κ := (22, 0, 0)) hn hM rfl rfl rfl rfl ?_
  refine zr_fr hM rfl rfl rfl ?_
  refine zr_fr hM rfl rfl rfl ?_
  refine zr_fr hM rfl rfl rfl ?_
  refine zr_fr hM rfl rfl rfl ?_
  refine zr_iald (κ := (23, 0, 0)) hn hM rfl rfl rfl z15 ?_
  refine zr_fr hM rfl rfl rfl ?_
  refine zr_fr hM rfl rfl rfl ?_
  refine zr_iast (κ := (23, 0, 0)) hn hM rfl rfl rfl rfl z15 rfl ?_
  refine zr_fr hM rfl rfl rfl ?_
  refine zr_getf (κ := (22, 0, 0)) hn hM rfl rfl rfl rfl ?_
  refine zr_fr hM rfl rfl rfl ?_
  refine zr_fr hM rfl rfl rfl ?_
  refine zr_fr hM rfl rfl rfl ?_
  refine zr_fr hM rfl rfl rfl ?_
  refine zr_iald (κ := (23, 0, 0)) hn hM rfl rfl rfl z8 ?_
  refine zr_fr hM rfl rfl rfl ?_
  refine zr_fr hM rfl rfl rfl ?_
  refine zr_iast (κ := (23, 0, 0)) hn hM rfl rfl rfl rfl z8 rfl ?_
  refine zr_fr hM rfl rfl rfl ?_
  refine zr_getf (κ := (22, 0, 0)) hn hM rfl rfl rfl rfl ?_
  refine zr_fr hM rfl rfl rfl ?_
  refine zr_fr hM rfl rfl rfl ?_
  refine zr_fr hM rfl rfl rfl ?_
  refine zr_fr hM rfl rfl rfl ?_
  refine zr_iald (κ := (23, 0, 0)) hn hM rfl rfl rfl z9 ?_
  refine zr_fr hM rfl rfl rfl ?_
  refine zr_fr hM rfl rfl rfl ?_
  refine zr_iast (κ := (23, 0, 0)) hn hM rfl rfl rfl rfl z9 rfl ?_
  refine zr_fr hM rfl rfl rfl ?_
  refine zr_getf (κ := (22, 0, 0)) hn hM rfl rfl rfl rfl ?_
  refine zr_fr hM rfl rfl rfl ?_
  refine zr_iald (κ := (23, 0, 0)) hn hM rfl rfl rfl z10 ?_
  exact zr_iret2 hM rfl rfl rfl
set_option maxHeartbeats 4000000 in
theorem s124_0_f {n L : Nat} {σ : Ks} {g : List Nat} {cl : Bool} {p1 : Int32} {p2 : Int32} {r1 : Int32} (hn : 2 ≤ n ∧ n ≤ 5) (c1_ : ZR 119 0 [.val (.ref (kad n (22, 0, 0))), .val (.int p1)] [] (khp n L (kup σ 42 0 (Int32.ofInt 0)) g) true (.inl (some (.int r1)), khp n L (kup σ 42 0 (Int32.ofInt 0)) g, true)) (h2 : zcnd .ne r1 0 = false) : ZR 124 0 [.val (.ref (kad n (22, 0, 0))), .val (.int p1), .val (.int p2), .unset, .unset, .unset] [] (khp n L σ g) cl (.inl (some (.int (Int32.ofInt 0))), khp n L (kup σ 42 0 (Int32.ofInt 0)) (g), false) := by
  have hM : zmi[124]? = some _ := rfl
  refine zr_fr hM rfl rfl rfl ?_
  refine zr_fr hM rfl rfl rfl ?_
  refine zr_putf (κ := (22, 0, 0)) hn hM rfl rfl rfl rfl rfl rfl rfl rfl ?_
  refine zr_fr hM rfl rfl rfl ?_
  refine zr_fr hM rfl rfl rfl ?_
  refine zr_virt (κ := (22, 0, 0)) hn hM rfl rfl rfl rfl rfl rfl rfl rfl rfl ?_
  refine zgo_ret rfl rfl c1_ ?_
  rw [Bool.and_true]
  refine zr_iff hM rfl rfl h2 ?_
  refine zr_fr hM rfl rfl rfl ?_
  exact zr_zret2 hM rfl rfl (by decide) rfl
set_option maxHeartbeats 4000000 in
theorem s124_0_t {n L : Nat} {σ : Ks} {g : List Nat} {cl : Bool} {r : Zr} {p1 : Int32} {p2 : Int32} {r1 : Int32} {r3 : Int32} (hn : 2 ≤ n ∧ n ≤ 5) (c1_ : ZR 119 0 [.val (.ref (kad n (22, 0, 0))), .val (.int p1)] [] (khp n L (kup σ 42 0 (Int32.ofInt 0)) g) true (.inl (some (.int r1)), khp n L (kup σ 42 0 (Int32.ofInt 0)) g, true)) (h2 : zcnd .ne r1 0 = true) (c3_ : ZR 97 0 [.val (.int p1)] [] (khp n L (kup σ 42 0 (Int32.ofInt 0)) g) true (.inl (some (.int r3)), khp n L (kup σ 42 0 (Int32.ofInt 0)) g, true)) (k : ZR 124 23 [.val (.ref (kad n (22, 0, 0))), .val (.int p1), .val (.int p2), .val (.int r3), .val (.int (Int32.ofInt 0)), .unset] [] (khp n L (kup σ 42 0 (Int32.ofInt 0)) (g)) false r) : ZR 124 0 [.val (.ref (kad n (22, 0, 0))), .val (.int p1), .val (.int p2), .unset, .unset, .unset] [] (khp n L σ g) cl r := by
  have hM : zmi[124]? = some _ := rfl
  refine zr_fr hM rfl rfl rfl ?_
  refine zr_fr hM rfl rfl rfl ?_
  refine zr_putf (κ := (22, 0, 0)) hn hM rfl rfl rfl rfl rfl rfl rfl rfl ?_
  refine zr_fr hM rfl rfl rfl ?_
  refine zr_fr hM rfl rfl rfl ?_
  refine zr_virt (κ := (22, 0, 0)) hn hM rfl rfl rfl rfl rfl rfl rfl rfl rfl ?_
  refine zgo_ret rfl rfl c1_ ?_
  rw [Bool.and_true]
  refine zr_ift hM rfl rfl h2 ?_
  refine zr_fr hM rfl rfl rfl ?_
  refine zr_stat hM rfl rfl rfl rfl rfl rfl ?_
  refine zgo_ret rfl rfl c3_ ?_
  rw [Bool.and_true]
  refine zr_fr hM rfl rfl rfl ?_
  refine zr_fr hM rfl rfl rfl ?_
  refine zr_fr hM rfl rfl rfl ?_
  exact k
set_option maxHeartbeats 4000000 in
theorem s124_23_ff {n L : Nat} {σ : Ks} {g : List Nat} {cl : Bool} {r : Zr} {v1 : Int32} {v2 : Int32} {v3 : Int32} {v4 : Int32} {x1 : Nat} {x3 : Nat} (hn : 2 ≤ n ∧ n ≤ 5) (z1 : zix (v3 + ((Int8.ofInt 19).toInt32)) 820 = some x1) (h2 : zcnd .ge v4 (σ (20 + x1 / 164) (x1 % 164)) = false) (z3 : zix ((v3 + ((Int8.ofInt 20).toInt32)) + ((Int32.ofInt 4) * v4)) 820 = some x3) (h4 : zcnd .eq (σ (20 + x3 / 164) (x3 % 164)) v2 = false) (k : ZR 124 23 [.val (.ref (kad n (22, 0, 0))), .val (.int v1), .val (.int v2), .val (.int v3), .val (.int (v4 + Int32.ofInt 1)), .unset] [] (khp n L σ (g)) cl r) : ZR 124 23 [.val (.ref (kad n (22, 0, 0))), .val (.int v1), .val (.int v2), .val (.int v3), .val (.int v4), .unset] [] (khp n L σ g) cl r := by
  have hM : zmi[124]? = some _ := rfl
  have l1 := (zix_some z1).2.2
  have l3 := (zix_some z3).2.2
  refine zr_fr hM rfl rfl rfl ?_
  refine zr_fr hM rfl rfl rfl ?_
  refine zr_getf (κ := (22, 0, 0)) hn hM rfl rfl rfl rfl ?_
  refine zr_fr hM rfl rfl rfl ?_
  refine zr_fr hM rfl rfl rfl ?_
  refine zr_fr hM rfl rfl rfl ?_
  refine zr_iald (κ := (23, 0, 0)) hn hM rfl rfl rfl z1 ?_
  refine zr_icf hM rfl rfl h2 ?_
  refine zr_fr hM rfl rfl rfl ?_
  refine zr_getf (κ := (22, 0, 0)) hn hM rfl rfl rfl rfl ?_
  refine zr_fr hM rfl rfl rfl ?_
  refine zr_fr hM rfl rfl rfl ?_
  refine zr_fr hM rfl rfl rfl ?_
  refine zr_fr hM rfl rfl rfl ?_
  refine zr_fr hM rfl rfl rfl ?_
  refine zr_fr hM rfl rfl rfl ?_
  refine zr_fr hM rfl rfl rfl ?_
  refine zr_iald (κ := (23, 0, 0)) hn hM rfl rfl rfl z3 ?_
  refine zr_fr hM rfl rfl rfl ?_
  refine zr_icf hM rfl rfl h4 ?_
  refine zr_fr hM rfl rfl rfl ?_
  refine zr_fr hM rfl rfl rfl ?_
  exact k
set_option maxHeartbeats 4000000 in
theorem s124_23_ftff {n L : Nat} {σ : Ks} {g : List Nat} {cl : Bool} {v1 : Int32} {v2 : Int32} {v3 : Int32} {v4 : Int32} {x1 : Nat} {x3 : Nat} {x5 : Nat} (hn : 2 ≤ n ∧ n ≤ 5) (z1 : zix (v3 + ((Int8.ofInt 19).toInt32)) 820 = some x1) (h2 : zcnd .ge v4 (σ (20 + x1 / 164) (x1 % 164)) = false) (z3 : zix ((v3 + ((Int8.ofInt 20).toInt32)) + ((Int32.ofInt 4) * v4)) 820 = some x3) (h4 : zcnd .eq (σ (20 + x3 / 164) (x3 % 164)) v2 = true) (z5 : zix v1 5 = some x5) (h6 : zcnd .ne (σ 40 x5) 0 = false) (h7 : zcnd .ne v4 (σ (20 + x1 / 164) (x1 % 164)) = false) : ZR 124 23 [.val (.ref (kad n (22, 0, 0))), .val (.int v1), .val (.int v2), .val (.int v3), .val (.int v4), .unset] [] (khp n L σ g) cl (.inl (some (.int (Int32.ofInt 0))), khp n L σ (g), cl) := by
  have hM : zmi[124]? = some _ := rfl
  have l1 := (zix_some z1).2.2
  have l3 := (zix_some z3).2.2
  have l5 := (zix_some z5).2.2
  refine zr_fr hM rfl rfl rfl ?_
  refine zr_fr hM rfl rfl rfl ?_
  refine zr_getf (κ := (22, 0, 0)) hn hM rfl rfl rfl rfl ?_
  refine zr_fr hM rfl rfl rfl ?_
  refine zr_fr hM rfl rfl rfl ?_
  refine zr_fr hM rfl rfl rfl ?_
  refine zr_iald (κ := (23, 0, 0)) hn hM rfl rfl rfl z1 ?_
  refine zr_icf hM rfl rfl h2 ?_
  refine zr_fr hM rfl rfl rfl ?_
  refine zr_getf (κ := (22, 0, 0)) hn hM rfl rfl rfl rfl ?_
  refine zr_fr hM rfl rfl rfl ?_
  refine zr_fr hM rfl rfl rfl ?_
  refine zr_fr hM rfl rfl rfl ?_
  refine zr_fr hM rfl rfl rfl ?_
  refine zr_fr hM rfl rfl rfl ?_
  refine zr_fr hM rfl rfl rfl ?_
  refine zr_fr hM rfl rfl rfl ?_
  refine zr_iald (κ := (23, 0, 0)) hn hM rfl rfl rfl z3 ?_
  refine zr_fr hM rfl rfl rfl ?_
  refine zr_ict hM rfl rfl h4 ?_
  refine zr_fr hM rfl rfl rfl ?_
  refine zr_getf (κ := (22, 0, 0)) hn hM rfl rfl rfl rfl ?_
  refine zr_fr hM rfl rfl rfl ?_
  refine zr_bald (κ := (25, 0, 0)) hn hM rfl rfl rfl z5 ?_
  refine zr_iff hM rfl rfl h6 ?_
  refine zr_fr hM rfl rfl rfl ?_
  refine zr_fr hM rfl rfl rfl ?_
  refine zr_getf (κ := (22, 0, 0)) hn hM rfl rfl rfl rfl ?_
  refine zr_fr hM rfl rfl rfl ?_
  refine zr_fr hM rfl rfl rfl ?_
  refine zr_fr hM rfl rfl rfl ?_
  refine zr_iald (κ := (23, 0, 0)) hn hM rfl rfl rfl z1 ?_
  refine zr_icf hM rfl rfl h7 ?_
  refine zr_fr hM rfl rfl rfl ?_
  exact zr_zret2 hM rfl rfl (by decide) rfl
set_option maxHeartbeats 4000000 in
theorem s124_23_ftft {n L : Nat} {σ : Ks} {g : List Nat} {cl : Bool} {v1 : Int32} {v2 : Int32} {v3 : Int32} {v4 : Int32} {x1 : Nat} {x3 : Nat} {x5 : Nat} {x8 : Nat} {x9 : Nat} {x10 : Nat} {σ11 : Ks} {c11 : Bool} (hn : 2 ≤ n ∧ n ≤ 5) (z1 : zix (v3 + ((Int8.ofInt 19).toInt32)) 820 = some x1) (h2 : zcnd .ge v4 (σ (20 + x1 / 164) (x1 % 164)) = false) (z3 : zix ((v3 + ((Int8.ofInt 20).toInt32)) + ((Int32.ofInt 4) * v4)) 820 = some x3) (h4 : zcnd .eq (σ (20 + x3 / 164) (x3 % 164)) v2 = true) (z5 : zix v1 5 = some x5) (h6 : zcnd .ne (σ 40 x5) 0 = false) (h7 : zcnd .ne v4 (σ (20 + x1 / 164) (x1 % 164)) = true) (z8 : zix (((v3 + ((Int8.ofInt 20).toInt32)) + ((Int32.ofInt 4) * v4)) + (Int32.ofInt 1)) 820 = some x8) (z9 : zix ((v3 + (Int32.ofInt 4)) + (σ (20 + x8 / 164) (x8 % 164))) 820 = some x9) (z10 : zix (((v3 + ((Int8.ofInt 20).toInt32)) + ((Int32.ofInt 4) * v4)) + (Int32.ofInt 2)) 820 = some x10) (c11_ : ZR 125 0 [.val (.ref (kad n (22, 0, 0))), .val (.int v1), .val (.int v4), .unset, .unset] [] (khp n L (kup σ (20 + x9 / 164) (x9 % 164) ((σ (20 + x9 / 164) (x9 % 164)) + (σ (20 + x10 / 164) (x10 % 164)))) g) true (.inl (none), khp n L σ11 g, c11)) : ZR 124 23 [.val (.ref (kad n (22, 0, 0))), .val (.int v1), .val (.int v2), .val (.int v3), .val (.int v4), .unset] [] (khp n L σ g) cl (.inl (some (.int (Int32.ofInt 1))), khp n L σ11 (g), false) := by
  have hM : zmi[124]? = some _ := rfl
  have l1 := (zix_some z1).2.2
  have l3 := (zix_some z3).2.2
  have l5 := (zix_some z5).2.2
  have l8 := (zix_some z8).2.2
  have l9 := (zix_some z9).2.2
  have l10 := (zix_some z10).2.2
  refine zr_fr hM rfl rfl rfl ?_
  refine zr_fr hM rfl rfl rfl ?_
  refine zr_getf (κ := (22, 0, 0)) hn hM rfl rfl rfl rfl ?_
  refine zr_fr hM rfl rfl rfl ?_
  refine zr_fr hM rfl rfl rfl ?_
  refine zr_fr hM rfl rfl rfl ?_
  refine zr_iald (κ := (23, 0, 0)) hn hM rfl rfl rfl z1 ?_
  refine zr_icf hM rfl rfl h2 ?_
  refine zr_fr hM rfl rfl rfl ?_
  refine zr_getf (κ := (22, 0, 0)) hn hM rfl rfl rfl rfl ?_
  refine zr_fr hM rfl rfl rfl ?_
  refine zr_fr hM rfl rfl rfl ?_
  refine zr_fr hM rfl rfl rfl ?_
  refine zr_fr hM rfl rfl rfl ?_
  refine zr_fr hM rfl rfl rfl ?_
  refine zr_fr hM rfl rfl rfl ?_
  refine zr_fr hM rfl rfl rfl ?_
  refine zr_iald (κ := (23, 0, 0)) hn hM rfl rfl rfl z3 ?_
  refine zr_fr hM rfl rfl rfl ?_
  refine zr_ict hM rfl rfl h4 ?_
  refine zr_fr hM rfl rfl rfl ?_
  refine zr_getf (κ := (22, 0, 0)) hn hM rfl rfl rfl rfl ?_
  refine zr_fr hM rfl rfl rfl ?_
  refine zr_bald (κ := (25, 0, 0)) hn hM rfl rfl rfl z5 ?_
  refine zr_iff hM rfl rfl h6 ?_
  refine zr_fr hM rfl rfl rfl ?_
  refine zr_fr hM rfl rfl rfl ?_
  refine zr_getf (κ := (22, 0, 0)) hn hM rfl rfl rfl rfl ?_
  refine zr_fr hM rfl rfl rfl ?_
  refine zr_fr hM rfl rfl rfl ?_
  refine zr_fr hM rfl rfl rfl ?_
  refine zr_iald (κ := (23, 0, 0)) hn hM rfl rfl rfl z1 ?_
  refine zr_ict hM rfl rfl h7 ?_
  refine zr_fr hM rfl rfl rfl ?_
  refine zr_getf (κ := (22, 0, 0)) hn hM rfl rfl rfl rfl ?_
  refine zr_fr hM rfl rfl rfl ?_
  refine zr_fr hM rfl rfl rfl ?_
  refine zr_fr hM rfl rfl rfl ?_
  refine zr_fr hM rfl rfl rfl ?_
  refine zr_fr hM rfl rfl rfl ?_
  refine zr_fr hM rfl rfl rfl ?_
  refine zr_fr hM rfl rfl rfl ?_
  refine zr_fr hM rfl rfl rfl ?_
  refine zr_fr hM rfl rfl rfl ?_
  refine zr_iald (κ := (23, 0, 0)) hn hM rfl rfl rfl z8 ?_
  refine zr_fr hM rfl rfl rfl ?_
  refine zr_fr hM rfl rfl rfl ?_
  refine zr_getf (κ := (22, 0, 0)) hn hM rfl rfl rfl rfl ?_
  refine zr_fr hM rfl rfl rfl ?_
  refine zr_fr hM rfl rfl rfl ?_
  refine zr_fr hM rfl rfl rfl ?_
  refine zr_fr hM rfl rfl rfl ?_
  refine zr_fr hM rfl rfl rfl ?_
  refine zr_fr hM rfl rfl rfl ?_
  refine zr_iald (κ := (23, 0, 0)) hn hM rfl rfl rfl z9 ?_
  refine zr_fr hM rfl rfl rfl ?_
  refine zr_getf (κ := (22, 0, 0)) hn hM rfl rfl rfl rfl ?_
  refine zr_fr hM rfl rfl rfl ?_
  refine zr_fr hM rfl rfl rfl ?_
  refine zr_fr hM rfl rfl rfl ?_
  refine zr_fr hM rfl rfl rfl ?_
  refine zr_fr hM rfl rfl rfl ?_
  refine zr_fr hM rfl rfl rfl ?_
  refine zr_fr hM rfl rfl rfl ?_
  refine zr_fr hM rfl rfl rfl ?_
  refine zr_fr hM rfl rfl rfl ?_
  refine zr_iald (κ := (23, 0, 0)) hn hM rfl rfl rfl z10 ?_
  refine zr_fr hM rfl rfl rfl ?_
  refine zr_iast (κ := (23, 0, 0)) hn hM rfl rfl rfl rfl z9 rfl ?_
  refine zr_fr hM rfl rfl rfl ?_
  refine zr_fr hM rfl rfl rfl ?_
  refine zr_fr hM rfl rfl rfl ?_
  refine zr_virt (κ := (22, 0, 0)) hn hM rfl rfl rfl rfl rfl rfl rfl rfl rfl ?_
  refine zgo_ret rfl rfl c11_ ?_
  rw [Bool.false_and]
  refine zr_fr hM rfl rfl rfl ?_
  exact zr_zret2 hM rfl rfl (by decide) rfl
set_option maxHeartbeats 4000000 in
theorem s124_23_ftt {n L : Nat} {σ : Ks} {g : List Nat} {cl : Bool} {v1 : Int32} {v2 : Int32} {v3 : Int32} {v4 : Int32} {x1 : Nat} {x3 : Nat} {x5 : Nat} (hn : 2 ≤ n ∧ n ≤ 5) (z1 : zix (v3 + ((Int8.ofInt 19).toInt32)) 820 = some x1) (h2 : zcnd .ge v4 (σ (20 + x1 / 164) (x1 % 164)) = false) (z3 : zix ((v3 + ((Int8.ofInt 20).toInt32)) + ((Int32.ofInt 4) * v4)) 820 = some x3) (h4 : zcnd .eq (σ (20 + x3 / 164) (x3 % 164)) v2 = true) (z5 : zix v1 5 = some x5) (h6 : zcnd .ne (σ 40 x5) 0 = true) : ZR 124 23 [.val (.ref (kad n (22, 0, 0))), .val (.int v1), .val (.int v2), .val (.int v3), .val (.int v4), .unset] [] (khp n L σ g) cl (.inl (some (.int (Int32.ofInt 0))), khp n L σ (g), cl) := by
  have hM : zmi[124]? = some _ := rfl
  have l1 := (zix_some z1).2.2
  have l3 := (zix_some z3).2.2
  have l5 := (zix_some z5).2.2
  refine zr_fr hM rfl rfl rfl ?_
  refine zr_fr hM rfl rfl rfl ?_
  refine zr_getf (κ := (22, 0, 0)) hn hM rfl rfl rfl rfl ?_
  refine zr_fr hM rfl rfl rfl ?_
  refine zr_fr hM rfl rfl rfl ?_
  refine zr_fr hM rfl rfl rfl ?_
  refine zr_iald (κ := (23, 0, 0)) hn hM rfl rfl rfl z1 ?_
  refine zr_icf hM rfl rfl h2 ?_
  refine zr_fr hM rfl rfl rfl ?_
  refine zr_getf (κ := (22, 0, 0)) hn hM rfl rfl rfl rfl ?_
  refine zr_fr hM rfl rfl rfl ?_
  refine zr_fr hM rfl rfl rfl ?_
  refine zr_fr hM rfl rfl rfl ?_
  refine zr_fr hM rfl rfl rfl ?_
  refine zr_fr hM rfl rfl rfl ?_
  refine zr_fr hM rfl rfl rfl ?_
  refine zr_fr hM rfl rfl rfl ?_
  refine zr_iald (κ := (23, 0, 0)) hn hM rfl rfl rfl z3 ?_
  refine zr_fr hM rfl rfl rfl ?_
  refine zr_ict hM rfl rfl h4 ?_
  refine zr_fr hM rfl rfl rfl ?_
  refine zr_getf (κ := (22, 0, 0)) hn hM rfl rfl rfl rfl ?_
  refine zr_fr hM rfl rfl rfl ?_
  refine zr_bald (κ := (25, 0, 0)) hn hM rfl rfl rfl z5 ?_
  refine zr_ift hM rfl rfl h6 ?_
  refine zr_fr hM rfl rfl rfl ?_
  exact zr_zret2 hM rfl rfl (by decide) rfl
set_option maxHeartbeats 4000000 in
theorem s124_23_tff {n L : Nat} {σ : Ks} {g : List Nat} {cl : Bool} {v1 : Int32} {v2 : Int32} {v3 : Int32} {v4 : Int32} {x1 : Nat} {x3 : Nat} (hn : 2 ≤ n ∧ n ≤ 5) (z1 : zix (v3 + ((Int8.ofInt 19).toInt32)) 820 = some x1) (h2 : zcnd .ge v4 (σ (20 + x1 / 164) (x1 % 164)) = true) (z3 : zix v1 5 = some x3) (h4 : zcnd .ne (σ 40 x3) 0 = false) (h5 : zcnd .ne v4 (σ (20 + x1 / 164) (x1 % 164)) = false) : ZR 124 23 [.val (.ref (kad n (22, 0, 0))), .val (.int v1), .val (.int v2), .val (.int v3), .val (.int v4), .unset] [] (khp n L σ g) cl (.inl (some (.int (Int32.ofInt 0))), khp n L σ (g), cl) := by
  have hM : zmi[124]? = some _ := rfl
  have l1 := (zix_some z1).2.2
  have l3 := (zix_some z3).2.2
  refine zr_fr hM rfl rfl rfl ?_
  refine zr_fr hM rfl rfl rfl ?_
  refine zr_getf (κ := (22, 0, 0)) hn hM rfl rfl rfl rfl ?_
  refine zr_fr hM rfl rfl rfl ?_
  refine zr_fr hM rfl rfl rfl ?_
  refine zr_fr hM rfl rfl rfl ?_
  refine zr_iald (κ := (23, 0, 0)) hn hM rfl rfl rfl z1 ?_
  refine zr_ict hM rfl rfl h2 ?_
  refine zr_fr hM rfl rfl rfl ?_
  refine zr_getf (κ := (22, 0, 0)) hn hM rfl rfl rfl rfl ?_
  refine zr_fr hM rfl rfl rfl ?_
  refine zr_bald (κ := (25, 0, 0)) hn hM rfl rfl rfl z3 ?_
  refine zr_iff hM rfl rfl h4 ?_
  refine zr_fr hM rfl rfl rfl ?_
  refine zr_fr hM rfl rfl rfl ?_
  refine zr_getf (κ := (22, 0, 0)) hn hM rfl rfl rfl rfl ?_
  refine zr_fr hM rfl rfl rfl ?_
  refine zr_fr hM rfl rfl rfl ?_
  refine zr_fr hM rfl rfl rfl ?_
  refine zr_iald (κ := (23, 0, 0)) hn hM rfl rfl rfl z1 ?_
  refine zr_icf hM rfl rfl h5 ?_
  refine zr_fr hM rfl rfl rfl ?_
  exact zr_zret2 hM rfl rfl (by decide) rfl
set_option maxHeartbeats 4000000 in
theorem s124_23_tft {n L : Nat} {σ : Ks} {g : List Nat} {cl : Bool} {v1 : Int32} {v2 : Int32} {v3 : Int32} {v4 : Int32} {x1 : Nat} {x3 : Nat} {x6 : Nat} {x7 : Nat} {x8 : Nat} {σ9 : Ks} {c9 : Bool} (hn : 2 ≤ n ∧ n ≤ 5) (z1 : zix (v3 + ((Int8.ofInt 19).toInt32)) 820 = some x1) (h2 : zcnd .ge v4 (σ (20 + x1 / 164) (x1 % 164)) = true) (z3 : zix v1 5 = some x3) (h4 : zcnd .ne (σ 40 x3) 0 = false) (h5 : zcnd .ne v4 (σ (20 + x1 / 164) (x1 % 164)) = true) (z6 : zix (((v3 + ((Int8.ofInt 20).toInt32)) + ((Int32.ofInt 4) * v4)) + (Int32.ofInt 1)) 820 = some x6) (z7 : zix ((v3 + (Int32.ofInt 4)) + (σ (20 + x6 / 164) (x6 % 164))) 820 = some x7) (z8 : zix (((v3 + ((Int8.ofInt 20).toInt32)) + ((Int32.ofInt 4) * v4)) + (Int32.ofInt 2)) 820 = some x8) (c9_ : ZR 125 0 [.val (.ref (kad n (22, 0, 0))), .val (.int v1), .val (.int v4), .unset, .unset] [] (khp n L (kup σ (20 + x7 / 164) (x7 % 164) ((σ (20 + x7 / 164) (x7 % 164)) + (σ (20 + x8 / 164) (x8 % 164)))) g) true (.inl (none), khp n L σ9 g, c9)) : ZR 124 23 [.val (.ref (kad n (22, 0, 0))), .val (.int v1), .val (.int v2), .val (.int v3), .val (.int v4), .unset] [] (khp n L σ g) cl (.inl (some (.int (Int32.ofInt 1))), khp n L σ9 (g), false) := by
  have hM : zmi[124]? = some _ := rfl
  have l1 := (zix_some z1).2.2
  have l3 := (zix_some z3).2.2
  have l6 := (zix_some z6).2.2
  have l7 := (zix_some z7).2.2
  have l8 := (zix_some z8).2.2
  refine zr_fr hM rfl rfl rfl ?_
  refine zr_fr hM rfl rfl rfl ?_
  refine zr_getf (κ := (22, 0, 0)) hn hM rfl rfl rfl rfl ?_
  refine zr_fr hM rfl rfl rfl ?_
  refine zr_fr hM rfl rfl rfl ?_
  refine zr_fr hM rfl rfl rfl ?_
  refine zr_iald (κ := (23, 0, 0)) hn hM rfl rfl rfl z1 ?_
  refine zr_ict hM rfl rfl h2 ?_
  refine zr_fr hM rfl rfl rfl ?_
  refine zr_getf (κ := (22, 0, 0)) hn hM rfl rfl rfl rfl ?_
  refine zr_fr hM rfl rfl rfl ?_
  refine zr_bald (κ := (25, 0, 0)) hn hM rfl rfl rfl z3 ?_
  refine zr_iff hM rfl rfl h4 ?_
  refine zr_fr hM rfl rfl rfl ?_
  refine zr_fr hM rfl rfl rfl ?_
  refine zr_getf (κ := (22, 0, 0)) hn hM rfl rfl rfl rfl ?_
  refine zr_fr hM rfl rfl rfl ?_
  refine zr_fr hM rfl rfl rfl ?_
  refine zr_fr hM rfl rfl rfl ?_
  refine zr_iald (κ := (23, 0, 0)) hn hM rfl rfl rfl z1 ?_
  refine zr_ict hM rfl rfl h5 ?_
  refine zr_fr hM rfl rfl rfl ?_
  refine zr_getf (κ := (22, 0, 0)) hn hM rfl rfl rfl rfl ?_
  refine zr_fr hM rfl rfl rfl ?_
  refine zr_fr hM rfl rfl rfl ?_
  refine zr_fr hM rfl rfl rfl ?_
  refine zr_fr hM rfl rfl rfl ?_
  refine zr_fr hM rfl rfl rfl ?_
  refine zr_fr hM rfl rfl rfl ?_
  refine zr_fr hM rfl rfl rfl ?_
  refine zr_fr hM rfl rfl rfl ?_
  refine zr_fr hM rfl rfl rfl ?_
  refine zr_iald (κ := (23, 0, 0)) hn hM rfl rfl rfl z6 ?_
  refine zr_fr hM rfl rfl rfl ?_
  refine zr_fr hM rfl rfl rfl ?_
  refine zr_getf (κ := (22, 0, 0)) hn hM rfl rfl rfl rfl ?_
  refine zr_fr hM rfl rfl rfl ?_
  refine zr_fr hM rfl rfl rfl ?_
  refine zr_fr hM rfl rfl rfl ?_
  refine zr_fr hM rfl rfl rfl ?_
  refine zr_fr hM rfl rfl rfl ?_
  refine zr_fr hM rfl rfl rfl ?_
  refine zr_iald (κ := (23, 0, 0)) hn hM rfl rfl rfl z7 ?_
  refine zr_fr hM rfl rfl rfl ?_
  refine zr_getf (κ := (22, 0, 0)) hn hM rfl rfl rfl rfl ?_
  refine zr_fr hM rfl rfl rfl ?_
  refine zr_fr hM rfl rfl rfl ?_
  refine zr_fr hM rfl rfl rfl ?_
  refine zr_fr hM rfl rfl rfl ?_
  refine zr_fr hM rfl rfl rfl ?_
  refine zr_fr hM rfl rfl rfl ?_
  refine zr_fr hM rfl rfl rfl ?_
  refine zr_fr hM rfl rfl rfl ?_
  refine zr_fr hM rfl rfl rfl ?_
  refine zr_iald (κ := (23, 0, 0)) hn hM rfl rfl rfl z8 ?_
  refine zr_fr hM rfl rfl rfl ?_
  refine zr_iast (κ := (23, 0, 0)) hn hM rfl rfl rfl rfl z7 rfl ?_
  refine zr_fr hM rfl rfl rfl ?_
  refine zr_fr hM rfl rfl rfl ?_
  refine zr_fr hM rfl rfl rfl ?_
  refine zr_virt (κ := (22, 0, 0)) hn hM rfl rfl rfl rfl rfl rfl rfl rfl rfl ?_
  refine zgo_ret rfl rfl c9_ ?_
  rw [Bool.false_and]
  refine zr_fr hM rfl rfl rfl ?_
  exact zr_zret2 hM rfl rfl (by decide) rfl
set_option maxHeartbeats 4000000 in
theorem s124_23_tt {n L : Nat} {σ : Ks} {g : List Nat} {cl : Bool} {v1 : Int32} {v2 : Int32} {v3 : Int32} {v4 : Int32} {x1 : Nat} {x3 : Nat} (hn : 2 ≤ n ∧ n ≤ 5) (z1 : zix (v3 + ((Int8.ofInt 19).toInt32)) 820 = some x1) (h2 : zcnd .ge v4 (σ (20 + x1 / 164) (x1 % 164)) = true) (z3 : zix v1 5 = some x3) (h4 : zcnd .ne (σ 40 x3) 0 = true) : ZR 124 23 [.val (.ref (kad n (22, 0, 0))), .val (.int v1), .val (.int v2), .val (.int v3), .val (.int v4), .unset] [] (khp n L σ g) cl (.inl (some (.int (Int32.ofInt 0))), khp n L σ (g), cl) := by
  have hM : zmi[124]? = some _ := rfl
  have l1 := (zix_some z1).2.2
  have l3 := (zix_some z3).2.2
  refine zr_fr hM rfl rfl rfl ?_
  refine zr_fr hM rfl rfl rfl ?_
  refine zr_getf (κ := (22, 0, 0)) hn hM rfl rfl rfl rfl ?_
  refine zr_fr hM rfl rfl rfl ?_
  refine zr_fr hM rfl rfl rfl ?_
  refine zr_fr hM rfl rfl rfl ?_
  refine zr_iald (κ := (23, 0, 0)) hn hM rfl rfl rfl z1 ?_
  refine zr_ict hM rfl rfl h2 ?_
  refine zr_fr hM rfl rfl rfl ?_
  refine zr_getf (κ := (22, 0, 0)) hn hM rfl rfl rfl rfl ?_
  refine zr_fr hM rfl rfl rfl ?_
  refine zr_bald (κ := (25, 0, 0)) hn hM rfl rfl rfl z3 ?_
  refine zr_ift hM rfl rfl h4 ?_
  refine zr_fr hM rfl rfl rfl ?_
  exact zr_zret2 hM rfl rfl (by decide) rfl
set_option maxHeartbeats 4000000 in
theorem s125_0_r {n L : Nat} {σ : Ks} {g : List Nat} {cl : Bool} {r : Zr} {p1 : Int32} {p2 : Int32} {r1 : Int32} {x2 : Nat} (hn : 2 ≤ n ∧ n ≤ 5) (c1_ : ZR 97 0 [.val (.int p1)] [] (khp n L σ g) true (.inl (some (.int r1)), khp n L σ g, true)) (z2 : zix (r1 + ((Int8.ofInt 19).toInt32)) 820 = some x2) (k : ZR 125 28 [.val (.ref (kad n (22, 0, 0))), .val (.int p1), .val (.int p2), .val (.int r1), .val (.int ((r1 + ((Int8.ofInt 20).toInt32)) + ((Int32.ofInt 4) * p2)))] [] (khp n L (kup σ (20 + x2 / 164) (x2 % 164) ((σ (20 + x2 / 164) (x2 % 164)) - (Int32.ofInt 1))) (g)) false r) : ZR 125 0 [.val (.ref (kad n (22, 0, 0))), .val (.int p1), .val (.int p2), .unset, .unset] [] (khp n L σ g) cl r := by
  have hM : zmi[125]? = some _ := rfl
  have l2 := (zix_some z2).2.2
  refine zr_fr hM rfl rfl rfl ?_
  refine zr_stat hM rfl rfl rfl rfl rfl rfl ?_
  refine zgo_ret rfl rfl c1_ ?_
  rw [Bool.and_true]
  refine zr_fr hM rfl rfl rfl ?_
  refine zr_fr hM rfl rfl rfl ?_
  refine zr_getf (κ := (22, 0, 0)) hn hM rfl rfl rfl rfl ?_
  refine zr_fr hM rfl rfl rfl ?_
  refine zr_fr hM rfl rfl rfl ?_
  refine zr_fr hM rfl rfl rfl ?_
  refine zr_fr hM rfl rfl rfl ?_
  refine zr_iald (κ := (23, 0, 0)) hn hM rfl rfl rfl z2 ?_
  refine zr_fr hM rfl rfl rfl ?_
  refine zr_fr hM rfl rfl rfl ?_
  refine zr_iast (κ := (23, 0, 0)) hn hM rfl rfl rfl rfl z2 rfl ?_
  refine zr_fr hM rfl rfl rfl ?_
  refine zr_fr hM rfl rfl rfl ?_
  refine zr_fr hM rfl rfl rfl ?_
  refine zr_fr hM rfl rfl rfl ?_
  refine zr_fr hM rfl rfl rfl ?_
  refine zr_fr hM rfl rfl rfl ?_
  refine zr_fr hM rfl rfl rfl ?_
  refine zr_fr hM rfl rfl rfl ?_
  exact k
set_option maxHeartbeats 4000000 in
theorem s125_28_f {n L : Nat} {σ : Ks} {g : List Nat} {cl : Bool} {r : Zr} {v1 : Int32} {v2 : Int32} {v3 : Int32} {v4 : Int32} {x1 : Nat} {x3 : Nat} {x4 : Nat} (hn : 2 ≤ n ∧ n ≤ 5) (z1 : zix (v3 + ((Int8.ofInt 19).toInt32)) 820 = some x1) (h2 : zcnd .ge v4 ((v3 + ((Int8.ofInt 20).toInt32)) + ((Int32.ofInt 4) * (σ (20 + x1 / 164) (x1 % 164)))) = false) (z3 : zix (v4 + (Int32.ofInt 4)) 820 = some x3) (z4 : zix v4 820 = some x4) (k : ZR 125 28 [.val (.ref (kad n (22, 0, 0))), .val (.int v1), .val (.int v2), .val (.int v3), .val (.int (v4 + Int32.ofInt 1))] [] (khp n L (kup σ (20 + x4 / 164) (x4 % 164) (σ (20 + x3 / 164) (x3 % 164))) (g)) false r) : ZR 125 28 [.val (.ref (kad n (22, 0, 0))), .val (.int v1), .val (.int v2), .val (.int v3), .val (.int v4)] [] (khp n L σ g) cl r := by
  have hM : zmi[125]? = some _ := rfl
  have l1 := (zix_some z1).2.2
  have l3 := (zix_some z3).2.2
  have l4 := (zix_some z4).2.2
  refine zr_fr hM rfl rfl rfl ?_
  refine zr_fr hM rfl rfl rfl ?_
  refine zr_fr hM rfl rfl rfl ?_
  refine zr_fr hM rfl rfl rfl ?_
  refine zr_fr hM rfl rfl rfl ?_
  refine zr_fr hM rfl rfl rfl ?_
  refine zr_getf (κ := (22, 0, 0)) hn hM rfl rfl rfl rfl ?_
  refine zr_fr hM rfl rfl rfl ?_
  refine zr_fr hM rfl rfl rfl ?_
  refine zr_fr hM rfl rfl rfl ?_
  refine zr_iald (κ := (23, 0, 0)) hn hM rfl rfl rfl z1 ?_
  refine zr_fr hM rfl rfl rfl ?_
  refine zr_fr hM rfl rfl rfl ?_
  refine zr_icf hM rfl rfl h2 ?_
  refine zr_fr hM rfl rfl rfl ?_
  refine zr_getf (κ := (22, 0, 0)) hn hM rfl rfl rfl rfl ?_
  refine zr_fr hM rfl rfl rfl ?_
  refine zr_fr hM rfl rfl rfl ?_
  refine zr_getf (κ := (22, 0, 0)) hn hM rfl rfl rfl rfl ?_
  refine zr_fr hM rfl rfl rfl ?_
  refine zr_fr hM rfl rfl rfl ?_
  refine zr_fr hM rfl rfl rfl ?_
  refine zr_iald (κ := (23, 0, 0)) hn hM rfl rfl rfl z3 ?_
  refine zr_iast (κ := (23, 0, 0)) hn hM rfl rfl rfl rfl z4 rfl ?_
  refine zr_fr hM rfl rfl rfl ?_
  refine zr_fr hM rfl rfl rfl ?_
  exact k
set_option maxHeartbeats 4000000 in
theorem s125_28_t {n L : Nat} {σ : Ks} {g : List Nat} {cl : Bool} {v1 : Int32} {v2 : Int32} {v3 : Int32} {v4 : Int32} {x1 : Nat} (hn : 2 ≤ n ∧ n ≤ 5) (z1 : zix (v3 + ((Int8.ofInt 19).toInt32)) 820 = some x1) (h2 : zcnd .ge v4 ((v3 + ((Int8.ofInt 20).toInt32)) + ((Int32.ofInt 4) * (σ (20 + x1 / 164) (x1 % 164)))) = true) : ZR 125 28 [.val (.ref (kad n (22, 0, 0))), .val (.int v1), .val (.int v2), .val (.int v3), .val (.int v4)] [] (khp n L σ g) cl (.inl (none), khp n L σ (g), cl) := by
  have hM : zmi[125]? = some _ := rfl
  have l1 := (zix_some z1).2.2
  refine zr_fr hM rfl rfl rfl ?_
  refine zr_fr hM rfl rfl rfl ?_
  refine zr_fr hM rfl rfl rfl ?_
  refine zr_fr hM rfl rfl rfl ?_
  refine zr_fr hM rfl rfl rfl ?_
  refine zr_fr hM rfl rfl rfl ?_
  refine zr_getf (κ := (22, 0, 0)) hn hM rfl rfl rfl rfl ?_
  refine zr_fr hM rfl rfl rfl ?_
  refine zr_fr hM rfl rfl rfl ?_
  refine zr_fr hM rfl rfl rfl ?_
  refine zr_iald (κ := (23, 0, 0)) hn hM rfl rfl rfl z1 ?_
  refine zr_fr hM rfl rfl rfl ?_
  refine zr_fr hM rfl rfl rfl ?_
  refine zr_ict hM rfl rfl h2 ?_
  exact zr_vret2 hM rfl rfl rfl
set_option maxHeartbeats 4000000 in
theorem s126_0_ffff {n L : Nat} {σ : Ks} {g : List Nat} {cl : Bool} {p1 : Int32} {p2 : Int32} {r1 : Int32} (hn : 2 ≤ n ∧ n ≤ 5) (c1_ : ZR 119 0 [.val (.ref (kad n (22, 0, 0))), .val (.int p1)] [] (khp n L σ g) true (.inl (some (.int r1)), khp n L σ g, true)) (h2 : zcnd .eq r1 0 = false) (h3 : zcnd .lt p2 0 = false) (h4 : zcnd .le p2 ((Int8.ofInt 30).toInt32) = false) (h5 : zcnd .le ((kup σ 42 0 (Int32.ofInt 1)) 42 0) 0 = false) : ZR 126 0 [.val (.ref (kad n (22, 0, 0))), .val (.int p1), .val (.int p2), .unset, .unset] [] (khp n L σ g) cl (.inl (some (.int (Int32.ofInt 0))), khp n L (kup σ 42 0 (Int32.ofInt 1)) (g), false) := by
  have hM : zmi[126]? = some _ := rfl
  refine zr_fr hM rfl rfl rfl ?_
  refine zr_fr hM rfl rfl rfl ?_
  refine zr_fr hM rfl rfl rfl ?_
  refine zr_virt (κ := (22, 0, 0)) hn hM rfl rfl rfl rfl rfl rfl rfl rfl rfl ?_
  refine zgo_ret rfl rfl c1_ ?_
  rw [Bool.and_true]
  refine zr_iff hM rfl rfl h2 ?_
  refine zr_fr hM rfl rfl rfl ?_
  refine zr_iff hM rfl rfl h3 ?_
  refine zr_fr hM rfl rfl rfl ?_
  refine zr_fr hM rfl rfl rfl ?_
  refine zr_icf hM rfl rfl h4 ?_
  refine zr_fr hM rfl rfl rfl ?_
  refine zr_fr hM rfl rfl rfl ?_
  refine zr_putf (κ := (22, 0, 0)) hn hM rfl rfl rfl rfl rfl rfl rfl rfl ?_
  refine zr_fr hM rfl rfl rfl ?_
  refine zr_getf (κ := (22, 0, 0)) hn hM rfl rfl rfl rfl ?_
  refine zr_iff hM rfl rfl h5 ?_
  refine zr_fr hM rfl rfl rfl ?_
  exact zr_iret2 hM rfl rfl rfl
set_option maxHeartbeats 4000000 in
theorem s126_0_ffftf {n L : Nat} {σ : Ks} {g : List Nat} {cl : Bool} {r : Zr} {p1 : Int32} {p2 : Int32} {r1 : Int32} {x6 : Nat} (hn : 2 ≤ n ∧ n ≤ 5) (c1_ : ZR 119 0 [.val (.ref (kad n (22, 0, 0))), .val (.int p1)] [] (khp n L σ g) true (.inl (some (.int r1)), khp n L σ g, true)) (h2 : zcnd .eq r1 0 = false) (h3 : zcnd .lt p2 0 = false) (h4 : zcnd .le p2 ((Int8.ofInt 30).toInt32) = false) (h5 : zcnd .le ((kup σ 42 0 (Int32.ofInt 1)) 42 0) 0 = true) (z6 : zix p1 5 = some x6) (h7 : zcnd .eq ((kup σ 42 0 (Int32.ofInt 1)) 40 x6) 0 = false) (k : ZR 126 59 [.val (.ref (kad n (22, 0, 0))), .val (.int p1), .val (.int p2), .val (.int (Int32.ofInt 0)), .val (.int (Int32.ofInt 0))] [] (khp n L (kup (kup σ 42 0 (Int32.ofInt 1)) 42 0 (Int32.ofInt 2)) (g)) false r) : ZR 126 0 [.val (.ref (kad n (22, 0, 0))), .val (.int p1), .val (.int p2), .unset, .unset] [] (khp n L σ g) cl r := by
  have hM : zmi[126]? = some _ := rfl
  have l6 := (zix_some z6).2.2
  refine zr_fr hM rfl rfl rfl ?_
  refine zr_fr hM rfl rfl rfl ?_
  refine zr_fr hM rfl rfl rfl ?_
  refine zr_virt (κ := (22, 0, 0)) hn hM rfl rfl rfl rfl rfl rfl rfl rfl rfl ?_
  refine zgo_ret rfl rfl c1_ ?_
  rw [Bool.and_true]
  refine zr_iff hM rfl rfl h2 ?_
  refine zr_fr hM rfl rfl rfl ?_
  refine zr_iff hM rfl rfl h3 ?_
  refine zr_fr hM rfl rfl rfl ?_
  refine zr_fr hM rfl rfl rfl ?_
  refine zr_icf hM rfl rfl h4 ?_
  refine zr_fr hM rfl rfl rfl ?_
  refine zr_fr hM rfl rfl rfl ?_
  refine zr_putf (κ := (22, 0, 0)) hn hM rfl rfl rfl rfl rfl rfl rfl rfl ?_
  refine zr_fr hM rfl rfl rfl ?_
  refine zr_getf (κ := (22, 0, 0)) hn hM rfl rfl rfl rfl ?_
  refine zr_ift hM rfl rfl h5 ?_
  refine zr_fr hM rfl rfl rfl ?_
  refine zr_fr hM rfl rfl rfl ?_
  refine zr_getf (κ := (22, 0, 0)) hn hM rfl rfl rfl rfl ?_
  refine zr_fr hM rfl rfl rfl ?_
  refine zr_bald (κ := (25, 0, 0)) hn hM rfl rfl rfl z6 ?_
  refine zr_iff hM rfl rfl h7 ?_
  refine zr_fr hM rfl rfl rfl ?_
  refine zr_fr hM rfl rfl rfl ?_
  refine zr_putf (κ := (22, 0, 0)) hn hM rfl rfl rfl rfl rfl rfl rfl rfl ?_
  refine zr_fr hM rfl rfl rfl ?_
  refine zr_fr hM rfl rfl rfl ?_
  refine zr_fr hM rfl rfl rfl ?_
  refine zr_fr hM rfl rfl rfl ?_
  exact k
set_option maxHeartbeats 4000000 in
theorem s126_0_ffftt {n L : Nat} {σ : Ks} {g : List Nat} {cl : Bool} {r : Zr} {p1 : Int32} {p2 : Int32} {r1 : Int32} {x6 : Nat} (hn : 2 ≤ n ∧ n ≤ 5) (c1_ : ZR 119 0 [.val (.ref (kad n (22, 0, 0))), .val (.int p1)] [] (khp n L σ g) true (.inl (some (.int r1)), khp n L σ g, true)) (h2 : zcnd .eq r1 0 = false) (h3 : zcnd .lt p2 0 = false) (h4 : zcnd .le p2 ((Int8.ofInt 30).toInt32) = false) (h5 : zcnd .le ((kup σ 42 0 (Int32.ofInt 1)) 42 0) 0 = true) (z6 : zix p1 5 = some x6) (h7 : zcnd .eq ((kup σ 42 0 (Int32.ofInt 1)) 40 x6) 0 = true) (k : ZR 126 59 [.val (.ref (kad n (22, 0, 0))), .val (.int p1), .val (.int p2), .val (.int (Int32.ofInt 0)), .val (.int (Int32.ofInt 0))] [] (khp n L (kup (kup σ 42 0 (Int32.ofInt 1)) 42 0 (Int32.ofInt 0)) (g)) false r) : ZR 126 0 [.val (.ref (kad n (22, 0, 0))), .val (.int p1), .val (.int p2), .unset, .unset] [] (khp n L σ g) cl r := by
  have hM : zmi[126]? = some _ := rfl
  have l6 := (zix_some z6).2.2
  refine zr_fr hM rfl rfl rfl ?_
  refine zr_fr hM rfl rfl rfl ?_
  refine zr_fr hM rfl rfl rfl ?_
  refine zr_virt (κ := (22, 0, 0)) hn hM rfl rfl rfl rfl rfl rfl rfl rfl rfl ?_
  refine zgo_ret rfl rfl c1_ ?_
  rw [Bool.and_true]
  refine zr_iff hM rfl rfl h2 ?_
  refine zr_fr hM rfl rfl rfl ?_
  refine zr_iff hM rfl rfl h3 ?_
  refine zr_fr hM rfl rfl rfl ?_
  refine zr_fr hM rfl rfl rfl ?_
  refine zr_icf hM rfl rfl h4 ?_
  refine zr_fr hM rfl rfl rfl ?_
  refine zr_fr hM rfl rfl rfl ?_
  refine zr_putf (κ := (22, 0, 0)) hn hM rfl rfl rfl rfl rfl rfl rfl rfl ?_
  refine zr_fr hM rfl rfl rfl ?_
  refine zr_getf (κ := (22, 0, 0)) hn hM rfl rfl rfl rfl ?_
  refine zr_ift hM rfl rfl h5 ?_
  refine zr_fr hM rfl rfl rfl ?_
  refine zr_fr hM rfl rfl rfl ?_
  refine zr_getf (κ := (22, 0, 0)) hn hM rfl rfl rfl rfl ?_
  refine zr_fr hM rfl rfl rfl ?_
  refine zr_bald (κ := (25, 0, 0)) hn hM rfl rfl rfl z6 ?_
  refine zr_ift hM rfl rfl h7 ?_
  refine zr_fr hM rfl rfl rfl ?_
  refine zr_putf (κ := (22, 0, 0)) hn hM rfl rfl rfl rfl rfl rfl rfl rfl ?_
  refine zr_fr hM rfl rfl rfl ?_
  refine zr_fr hM rfl rfl rfl ?_
  refine zr_fr hM rfl rfl rfl ?_
  refine zr_fr hM rfl rfl rfl ?_
  exact k
set_option maxHeartbeats 4000000 in
theorem s126_0_fftf {n L : Nat} {σ : Ks} {g : List Nat} {cl : Bool} {p1 : Int32} {p2 : Int32} {r1 : Int32} (hn : 2 ≤ n ∧ n ≤ 5) (c1_ : ZR 119 0 [.val (.ref (kad n (22, 0, 0))), .val (.int p1)] [] (khp n L σ g) true (.inl (some (.int r1)), khp n L σ g, true)) (h2 : zcnd .eq r1 0 = false) (h3 : zcnd .lt p2 0 = false) (h4 : zcnd .le p2 ((Int8.ofInt 30).toInt32) = true) (h5 : zcnd .le ((kup σ 42 0 (Int32.ofInt 0)) 42 0) 0 = false) : ZR 126 0 [.val (.ref (kad n (22, 0, 0))), .val (.int p1), .val (.int p2), .unset, .unset] [] (khp n L σ g) cl (.inl (some (.int (Int32.ofInt 0))), khp n L (kup σ 42 0 (Int32.ofInt 0)) (g), false) := by
  have hM : zmi[126]? = some _ := rfl
  refine zr_fr hM rfl rfl rfl ?_
  refine zr_fr hM rfl rfl rfl ?_
  refine zr_fr hM rfl rfl rfl ?_
  refine zr_virt (κ := (22, 0, 0)) hn hM rfl rfl rfl rfl rfl rfl rfl rfl rfl ?_
  refine zgo_ret rfl rfl c1_ ?_
  rw [Bool.and_true]
  refine zr_iff hM rfl rfl h2 ?_
  refine zr_fr hM rfl rfl rfl ?_
  refine zr_iff hM rfl rfl h3 ?_
  refine zr_fr hM rfl rfl rfl ?_
  refine zr_fr hM rfl rfl rfl ?_
  refine zr_ict hM rfl rfl h4 ?_
  refine zr_fr hM rfl rfl rfl ?_
  refine zr_putf (κ := (22, 0, 0)) hn hM rfl rfl rfl rfl rfl rfl rfl rfl ?_
  refine zr_fr hM rfl rfl rfl ?_
  refine zr_getf (κ := (22, 0, 0)) hn hM rfl rfl rfl rfl ?_
  refine zr_iff hM rfl rfl h5 ?_
  refine zr_fr hM rfl rfl rfl ?_
  exact zr_iret2 hM rfl rfl rfl
set_option maxHeartbeats 4000000 in
theorem s126_0_ffttf {n L : Nat} {σ : Ks} {g : List Nat} {cl : Bool} {r : Zr} {p1 : Int32} {p2 : Int32} {r1 : Int32} {x6 : Nat} (hn : 2 ≤ n ∧ n ≤ 5) (c1_ : ZR 119 0 [.val (.ref (kad n (22, 0, 0))), .val (.int p1)] [] (khp n L σ g) true (.inl (some (.int r1)), khp n L σ g, true)) (h2 : zcnd .eq r1 0 = false) (h3 : zcnd .lt p2 0 = false) (h4 : zcnd .le p2 ((Int8.ofInt 30).toInt32) = true) (h5 : zcnd .le ((kup σ 42 0 (Int32.ofInt 0)) 42 0) 0 = true) (z6 : zix p1 5 = some x6) (h7 : zcnd .eq ((kup σ 42 0 (Int32.ofInt 0)) 40 x6) 0 = false) (k : ZR 126 59 [.val (.ref (kad n (22, 0, 0))), .val (.int p1), .val (.int p2), .val (.int (Int32.ofInt 0)), .val (.int (Int32.ofInt 0))] [] (khp n L (kup (kup σ 42 0 (Int32.ofInt 0)) 42 0 (Int32.ofInt 2)) (g)) false r) : ZR 126 0 [.val (.ref (kad n (22, 0, 0))), .val (.int p1), .val (.int p2), .unset, .unset] [] (khp n L σ g) cl r := by
  have hM : zmi[126]? = some _ := rfl
  have l6 := (zix_some z6).2.2
  refine zr_fr hM rfl rfl rfl ?_
  refine zr_fr hM rfl rfl rfl ?_
  refine zr_fr hM rfl rfl rfl ?_
  refine zr_virt (κ := (22, 0, 0)) hn hM rfl rfl rfl rfl rfl rfl rfl rfl rfl ?_
  refine zgo_ret rfl rfl c1_ ?_
  rw [Bool.and_true]
  refine zr_iff hM rfl rfl h2 ?_
  refine zr_fr hM rfl rfl rfl ?_
  refine zr_iff hM rfl rfl h3 ?_
  refine zr_fr hM rfl rfl rfl ?_
  refine zr_fr hM rfl rfl rfl ?_
  refine zr_ict hM rfl rfl h4 ?_
  refine zr_fr hM rfl rfl rfl ?_
  refine zr_putf (κ := (22, 0, 0)) hn hM rfl rfl rfl rfl rfl rfl rfl rfl ?_
  refine zr_fr hM rfl rfl rfl ?_
  refine zr_getf (κ := (22, 0, 0)) hn hM rfl rfl rfl rfl ?_
  refine zr_ift hM rfl rfl h5 ?_
  refine zr_fr hM rfl rfl rfl ?_
  refine zr_fr hM rfl rfl rfl ?_
  refine zr_getf (κ := (22, 0, 0)) hn hM rfl rfl rfl rfl ?_
  refine zr_fr hM rfl rfl rfl ?_
  refine zr_bald (κ := (25, 0, 0)) hn hM rfl rfl rfl z6 ?_
  refine zr_iff hM rfl rfl h7 ?_
  refine zr_fr hM rfl rfl rfl ?_
  refine zr_fr hM rfl rfl rfl ?_
  refine zr_putf (κ := (22, 0, 0)) hn hM rfl rfl rfl rfl rfl rfl rfl rfl ?_
  refine zr_fr hM rfl rfl rfl ?_
  refine zr_fr hM rfl rfl rfl ?_
  refine zr_fr hM rfl rfl rfl ?_
  refine zr_fr hM rfl rfl rfl ?_
  exact k
set_option maxHeartbeats 4000000 in
theorem s126_0_ffttt {n L : Nat} {σ : Ks} {g : List Nat} {cl : Bool} {r : Zr} {p1 : Int32} {p2 : Int32} {r1 : Int32} {x6 : Nat} (hn : 2 ≤ n ∧ n ≤ 5) (c1_ : ZR 119 0 [.val (.ref (kad n (22, 0, 0))), .val (.int p1)] [] (khp n L σ g) true (.inl (some (.int r1)), khp n L σ g, true)) (h2 : zcnd .eq r1 0 = false) (h3 : zcnd .lt p2 0 = false) (h4 : zcnd .le p2 ((Int8.ofInt 30).toInt32) = true) (h5 : zcnd .le ((kup σ 42 0 (Int32.ofInt 0)) 42 0) 0 = true) (z6 : zix p1 5 = some x6) (h7 : zcnd .eq ((kup σ 42 0 (Int32.ofInt 0)) 40 x6) 0 = true) (k : ZR 126 59 [.val (.ref (kad n (22, 0, 0))), .val (.int p1), .val (.int p2), .val (.int (Int32.ofInt 0)), .val (.int (Int32.ofInt 0))] [] (khp n L (kup (kup σ 42 0 (Int32.ofInt 0)) 42 0 (Int32.ofInt 0)) (g)) false r) : ZR 126 0 [.val (.ref (kad n (22, 0, 0))), .val (.int p1), .val (.int p2), .unset, .unset] [] (khp n L σ g) cl r := by
  have hM : zmi[126]? = some _ := rfl
  have l6 := (zix_some z6).2.2
  refine zr_fr hM rfl rfl rfl ?_
  refine zr_fr hM rfl rfl rfl ?_
  refine zr_fr hM rfl rfl rfl ?_
  refine zr_virt (κ := (22, 0, 0)) hn hM rfl rfl rfl rfl rfl rfl rfl rfl rfl ?_
  refine zgo_ret rfl rfl c1_ ?_
  rw [Bool.and_true]
  refine zr_iff hM rfl rfl h2 ?_
  refine zr_fr hM rfl rfl rfl ?_
  refine zr_iff hM rfl rfl h3 ?_
  refine zr_fr hM rfl rfl rfl ?_
  refine zr_fr hM rfl rfl rfl ?_
  refine zr_ict hM rfl rfl h4 ?_
  refine zr_fr hM rfl rfl rfl ?_
  refine zr_putf (κ := (22, 0, 0)) hn hM rfl rfl rfl rfl rfl rfl rfl rfl ?_
  refine zr_fr hM rfl rfl rfl ?_
  refine zr_getf (κ := (22, 0, 0)) hn hM rfl rfl rfl rfl ?_
  refine zr_ift hM rfl rfl h5 ?_
  refine zr_fr hM rfl rfl rfl ?_
  refine zr_fr hM rfl rfl rfl ?_
  refine zr_getf (κ := (22, 0, 0)) hn hM rfl rfl rfl rfl ?_
  refine zr_fr hM rfl rfl rfl ?_
  refine zr_bald (κ := (25, 0, 0)) hn hM rfl rfl rfl z6 ?_
  refine zr_ift hM rfl rfl h7 ?_
  refine zr_fr hM rfl rfl rfl ?_
  refine zr_putf (κ := (22, 0, 0)) hn hM rfl rfl rfl rfl rfl rfl rfl rfl ?_
  refine zr_fr hM rfl rfl rfl ?_
  refine zr_fr hM rfl rfl rfl ?_
  refine zr_fr hM rfl rfl rfl ?_
  refine zr_fr hM rfl rfl rfl ?_
  exact k
set_option maxHeartbeats 4000000 in
theorem s126_0_ftf {n L : Nat} {σ : Ks} {g : List Nat} {cl : Bool} {p1 : Int32} {p2 : Int32} {r1 : Int32} (hn : 2 ≤ n ∧ n ≤ 5) (c1_ : ZR 119 0 [.val (.ref (kad n (22, 0, 0))), .val (.int p1)] [] (khp n L σ g) true (.inl (some (.int r1)), khp n L σ g, true)) (h2 : zcnd .eq r1 0 = false) (h3 : zcnd .lt p2 0 = true) (h4 : zcnd .le ((kup σ 42 0 (Int32.ofInt 1)) 42 0) 0 = false) : ZR 126 0 [.val (.ref (kad n (22, 0, 0))), .val (.int p1), .val (.int p2), .unset, .unset] [] (khp n L σ g) cl (.inl (some (.int (Int32.ofInt 0))), khp n L (kup σ 42 0 (Int32.ofInt 1)) (g), false) := by
  have hM : zmi[126]? = some _ := rfl
  refine zr_fr hM rfl rfl rfl ?_
  refine zr_fr hM rfl rfl rfl ?_
  refine zr_fr hM rfl rfl rfl ?_
  refine zr_virt (κ := (22, 0, 0)) hn hM rfl rfl rfl rfl rfl rfl rfl rfl rfl ?_
  refine zgo_ret rfl rfl c1_ ?_
  rw [Bool.and_true]
  refine zr_iff hM rfl rfl h2 ?_
  refine zr_fr hM rfl rfl rfl ?_
  refine zr_ift hM rfl rfl h3 ?_
  refine zr_fr hM rfl rfl rfl ?_
  refine zr_fr hM rfl rfl rfl ?_
  refine zr_putf (κ := (22, 0, 0)) hn hM rfl rfl rfl rfl rfl rfl rfl rfl ?_
  refine zr_fr hM rfl rfl rfl ?_
  refine zr_getf (κ := (22, 0, 0)) hn hM rfl rfl rfl rfl ?_
  refine zr_iff hM rfl rfl h4 ?_
  refine zr_fr hM rfl rfl rfl ?_
  exact zr_iret2 hM rfl rfl rfl
set_option maxHeartbeats 4000000 in
theorem s126_0_fttf {n L : Nat} {σ : Ks} {g : List Nat} {cl : Bool} {r : Zr} {p1 : Int32} {p2 : Int32} {r1 : Int32} {x5 : Nat} (hn : 2 ≤ n ∧ n ≤ 5) (c1_ : ZR 119 0 [.val (.ref (kad n (22, 0, 0))), .val (.int p1)] [] (khp n L σ g) true (.inl (some (.int r1)), khp n L σ g, true)) (h2 : zcnd .eq r1 0 = false) (h3 : zcnd .lt p2 0 = true) (h4 : zcnd .le ((kup σ 42 0 (Int32.ofInt 1)) 42 0) 0 = true) (z5 : zix p1 5 = some x5) (h6 : zcnd .eq ((kup σ 42 0 (Int32.ofInt 1)) 40 x5) 0 = false) (k : ZR 126 59 [.val (.ref (kad n (22, 0, 0))), .val (.int p1), .val (.int p2), .val (.int (Int32.ofInt 0)), .val (.int (Int32.ofInt 0))] [] (khp n L (kup (kup σ 42 0 (Int32.ofInt 1)) 42 0 (Int32.ofInt 2)) (g)) false r) : ZR 126 0 [.val (.ref (kad n (22, 0, 0))), .val (.int p1), .val (.int p2), .unset, .unset] [] (khp n L σ g) cl r := by
  have hM : zmi[126]? = some _ := rfl
  have l5 := (zix_some z5).2.2
  refine zr_fr hM rfl rfl rfl ?_
  refine zr_fr hM rfl rfl rfl ?_
  refine zr_fr hM rfl rfl rfl ?_
  refine zr_virt (κ := (22, 0, 0)) hn hM rfl rfl rfl rfl rfl rfl rfl rfl rfl ?_
  refine zgo_ret rfl rfl c1_ ?_
  rw [Bool.and_true]
  refine zr_iff hM rfl rfl h2 ?_
  refine zr_fr hM rfl rfl rfl ?_
  refine zr_ift hM rfl rfl h3 ?_
  refine zr_fr hM rfl rfl rfl ?_
  refine zr_fr hM rfl rfl rfl ?_
  refine zr_putf (κ := (22, 0, 0)) hn hM rfl rfl rfl rfl rfl rfl rfl rfl ?_
  refine zr_fr hM rfl rfl rfl ?_
  refine zr_getf (κ := (22, 0, 0)) hn hM rfl rfl rfl rfl ?_
  refine zr_ift hM rfl rfl h4 ?_
  refine zr_fr hM rfl rfl rfl ?_
  refine zr_fr hM rfl rfl rfl ?_
  refine zr_getf (κ := (22, 0, 0)) hn hM rfl rfl rfl rfl ?_
  refine zr_fr hM rfl rfl rfl ?_
  refine zr_bald (κ := (25, 0, 0)) hn hM rfl rfl rfl z5 ?_
  refine zr_iff hM rfl rfl h6 ?_
  refine zr_fr hM rfl rfl rfl ?_
  refine zr_fr hM rfl rfl rfl ?_
  refine zr_putf (κ := (22, 0, 0)) hn hM rfl rfl rfl rfl rfl rfl rfl rfl ?_
  refine zr_fr hM rfl rfl rfl ?_
  refine zr_fr hM rfl rfl rfl ?_
  refine zr_fr hM rfl rfl rfl ?_
  refine zr_fr hM rfl rfl rfl ?_
  exact k
set_option maxHeartbeats 4000000 in
theorem s126_0_fttt {n L : Nat} {σ : Ks} {g : List Nat} {cl : Bool} {r : Zr} {p1 : Int32} {p2 : Int32} {r1 : Int32} {x5 : Nat} (hn : 2 ≤ n ∧ n ≤ 5) (c1_ : ZR 119 0 [.val (.ref (kad n (22, 0, 0))), .val (.int p1)] [] (khp n L σ g) true (.inl (some (.int r1)), khp n L σ g, true)) (h2 : zcnd .eq r1 0 = false) (h3 : zcnd .lt p2 0 = true) (h4 : zcnd .le ((kup σ 42 0 (Int32.ofInt 1)) 42 0) 0 = true) (z5 : zix p1 5 = some x5) (h6 : zcnd .eq ((kup σ 42 0 (Int32.ofInt 1)) 40 x5) 0 = true) (k : ZR 126 59 [.val (.ref (kad n (22, 0, 0))), .val (.int p1), .val (.int p2), .val (.int (Int32.ofInt 0)), .val (.int (Int32.ofInt 0))] [] (khp n L (kup (kup σ 42 0 (Int32.ofInt 1)) 42 0 (Int32.ofInt 0)) (g)) false r) : ZR 126 0 [.val (.ref (kad n (22, 0, 0))), .val (.int p1), .val (.int p2), .unset, .unset] [] (khp n L σ g) cl r := by
  have hM : zmi[126]? = some _ := rfl
  have l5 := (zix_some z5).2.2
  refine zr_fr hM rfl rfl rfl ?_
  refine zr_fr hM rfl rfl rfl ?_
  refine zr_fr hM rfl rfl rfl ?_
  refine zr_virt (κ := (22, 0, 0)) hn hM rfl rfl rfl rfl rfl rfl rfl rfl rfl ?_
  refine zgo_ret rfl rfl c1_ ?_
  rw [Bool.and_true]
  refine zr_iff hM rfl rfl h2 ?_
  refine zr_fr hM rfl rfl rfl ?_
  refine zr_ift hM rfl rfl h3 ?_
  refine zr_fr hM rfl rfl rfl ?_
  refine zr_fr hM rfl rfl rfl ?_
  refine zr_putf (κ := (22, 0, 0)) hn hM rfl rfl rfl rfl rfl rfl rfl rfl ?_
  refine zr_fr hM rfl rfl rfl ?_
  refine zr_getf (κ := (22, 0, 0)) hn hM rfl rfl rfl rfl ?_
  refine zr_ift hM rfl rfl h4 ?_
  refine zr_fr hM rfl rfl rfl ?_
  refine zr_fr hM rfl rfl rfl ?_
  refine zr_getf (κ := (22, 0, 0)) hn hM rfl rfl rfl rfl ?_
  refine zr_fr hM rfl rfl rfl ?_
  refine zr_bald (κ := (25, 0, 0)) hn hM rfl rfl rfl z5 ?_
  refine zr_ift hM rfl rfl h6 ?_
  refine zr_fr hM rfl rfl rfl ?_
  refine zr_putf (κ := (22, 0, 0)) hn hM rfl rfl rfl rfl rfl rfl rfl rfl ?_
  refine zr_fr hM rfl rfl rfl ?_
  refine zr_fr hM rfl rfl rfl ?_
  refine zr_fr hM rfl rfl rfl ?_
  refine zr_fr hM rfl rfl rfl ?_
  exact k
set_option maxHeartbeats 4000000 in
theorem s126_0_tf {n L : Nat} {σ : Ks} {g : List Nat} {cl : Bool} {p1 : Int32} {p2 : Int32} {r1 : Int32} (hn : 2 ≤ n ∧ n ≤ 5) (c1_ : ZR 119 0 [.val (.ref (kad n (22, 0, 0))), .val (.int p1)] [] (khp n L σ g) true (.inl (some (.int r1)), khp n L σ g, true)) (h2 : zcnd .eq r1 0 = true) (h3 : zcnd .le ((kup σ 42 0 (Int32.ofInt 1)) 42 0) 0 = false) : ZR 126 0 [.val (.ref (kad n (22, 0, 0))), .val (.int p1), .val (.int p2), .unset, .unset] [] (khp n L σ g) cl (.inl (some (.int (Int32.ofInt 0))), khp n L (kup σ 42 0 (Int32.ofInt 1)) (g), false) := by
  have hM : zmi[126]? = some _ := rfl
  refine zr_fr hM rfl rfl rfl ?_
  refine zr_fr hM rfl rfl rfl ?_
  refine zr_fr hM rfl rfl rfl ?_
  refine zr_virt (κ := (22, 0, 0)) hn hM rfl rfl rfl rfl rfl rfl rfl rfl rfl ?_
  refine zgo_ret rfl rfl c1_ ?_
  rw [Bool.and_true]
  refine zr_ift hM rfl rfl h2 ?_
  refine zr_fr hM rfl rfl rfl ?_
  refine zr_fr hM rfl rfl rfl ?_
  refine zr_putf (κ := (22, 0, 0)) hn hM rfl rfl rfl rfl rfl rfl rfl rfl ?_
  refine zr_fr hM rfl rfl rfl ?_
  refine zr_getf (κ := (22, 0, 0)) hn hM rfl rfl rfl rfl ?_
  refine zr_iff hM rfl rfl h3 ?_
  refine zr_fr hM rfl rfl rfl ?_
  exact zr_iret2 hM rfl rfl rfl
set_option maxHeartbeats 4000000 in
theorem s126_0_ttf {n L : Nat} {σ : Ks} {g : List Nat} {cl : Bool} {r : Zr} {p1 : Int32} {p2 : Int32} {r1 : Int32} {x4 : Nat} (hn : 2 ≤ n ∧ n ≤ 5) (c1_ : ZR 119 0 [.val (.ref (kad n (22, 0, 0))), .val (.int p1)] [] (khp n L σ g) true (.inl (some (.int r1)), khp n L σ g, true)) (h2 : zcnd .eq r1 0 = true) (h3 : zcnd .le ((kup σ 42 0 (Int32.ofInt 1)) 42 0) 0 = true) (z4 : zix p1 5 = some x4) (h5 : zcnd .eq ((kup σ 42 0 (Int32.ofInt 1)) 40 x4) 0 = false) (k : ZR 126 59 [.val (.ref (kad n (22, 0, 0))), .val (.int p1), .val (.int p2), .val (.int (Int32.ofInt 0)), .val (.int (Int32.ofInt 0))] [] (khp n L (kup (kup σ 42 0 (Int32.ofInt 1)) 42 0 (Int32.ofInt 2)) (g)) false r) : ZR 126 0 [.val (.ref (kad n (22, 0, 0))), .val (.int p1), .val (.int p2), .unset, .unset] [] (khp n L σ g) cl r := by
  have hM : zmi[126]? = some _ := rfl
  have l4 := (zix_some z4).2.2
  refine zr_fr hM rfl rfl rfl ?_
  refine zr_fr hM rfl rfl rfl ?_
  refine zr_fr hM rfl rfl rfl ?_
  refine zr_virt (κ := (22, 0, 0)) hn hM rfl rfl rfl rfl rfl rfl rfl rfl rfl ?_
  refine zgo_ret rfl rfl c1_ ?_
  rw [Bool.and_true]
  refine zr_ift hM rfl rfl h2 ?_
  refine zr_fr hM rfl rfl rfl ?_
  refine zr_fr hM rfl rfl rfl ?_
  refine zr_putf (κ := (22, 0, 0)) hn hM rfl rfl rfl rfl rfl rfl rfl rfl ?_
  refine zr_fr hM rfl rfl rfl ?_
  refine zr_getf (κ := (22, 0, 0)) hn hM rfl rfl rfl rfl ?_
  refine zr_ift hM rfl rfl h3 ?_
  refine zr_fr hM rfl rfl rfl ?_
  refine zr_fr hM rfl rfl rfl ?_
  refine zr_getf (κ := (22, 0, 0)) hn hM rfl rfl rfl rfl ?_
  refine zr_fr hM rfl rfl rfl ?_
  refine zr_bald (κ := (25, 0, 0)) hn hM rfl rfl rfl z4 ?_
  refine zr_iff hM rfl rfl h5 ?_
  refine zr_fr hM rfl rfl rfl ?_
  refine zr_fr hM rfl rfl rfl ?_
  refine zr_putf (κ := (22, 0, 0)) hn hM rfl rfl rfl rfl rfl rfl rfl rfl ?_
  refine zr_fr hM rfl rfl rfl ?_
  refine zr_fr hM rfl rfl rfl ?_
  refine zr_fr hM rfl rfl rfl ?_
  refine zr_fr hM rfl rfl rfl ?_
  exact k
set_option maxHeartbeats 4000000 in
theorem s126_0_ttt {n L : Nat} {σ : Ks} {g : List Nat} {cl : Bool} {r : Zr} {p1 : Int32} {p2 : Int32} {r1 : Int32} {x4 : Nat} (hn : 2 ≤ n ∧ n ≤ 5) (c1_ : ZR 119 0 [.val (.ref (kad n (22, 0, 0))), .val (.int p1)] [] (khp n L σ g) true (.inl (some (.int r1)), khp n L σ g, true)) (h2 : zcnd .eq r1 0 = true) (h3 : zcnd .le ((kup σ 42 0 (Int32.ofInt 1)) 42 0) 0 = true) (z4 : zix p1 5 = some x4) (h5 : zcnd .eq ((kup σ 42 0 (Int32.ofInt 1)) 40 x4) 0 = true) (k : ZR 126 59 [.val (.ref (kad n (22, 0, 0))), .val (.int p1), .val (.int p2), .val (.int (Int32.ofInt 0)), .val (.int (Int32.ofInt 0))] [] (khp n L (kup (kup σ 42 0 (Int32.ofInt 1)) 42 0 (Int32.ofInt 0)) (g)) false r) : ZR 126 0 [.val (.ref (kad n (22, 0, 0))), .val (.int p1), .val (.int p2), .unset, .unset] [] (khp n L σ g) cl r := by
  have hM : zmi[126]? = some _ := rfl
  have l4 := (zix_some z4).2.2
  refine zr_fr hM rfl rfl rfl ?_
  refine zr_fr hM rfl rfl rfl ?_
  refine zr_fr hM rfl rfl rfl ?_
  refine zr_virt (κ := (22, 0, 0)) hn hM rfl rfl rfl rfl rfl rfl rfl rfl rfl ?_
  refine zgo_ret rfl rfl c1_ ?_
  rw [Bool.and_true]
  refine zr_ift hM rfl rfl h2 ?_
  refine zr_fr hM rfl rfl rfl ?_
  refine zr_fr hM rfl rfl rfl ?_
  refine zr_putf (κ := (22, 0, 0)) hn hM rfl rfl rfl rfl rfl rfl rfl rfl ?_
  refine zr_fr hM rfl rfl rfl ?_
  refine zr_getf (κ := (22, 0, 0)) hn hM rfl rfl rfl rfl ?_
  refine zr_ift hM rfl rfl h3 ?_
  refine zr_fr hM rfl rfl rfl ?_
  refine zr_fr hM rfl rfl rfl ?_
  refine zr_getf (κ := (22, 0, 0)) hn hM rfl rfl rfl rfl ?_
  refine zr_fr hM rfl rfl rfl ?_
  refine zr_bald (κ := (25, 0, 0)) hn hM rfl rfl rfl z4 ?_
  refine zr_ift hM rfl rfl h5 ?_
  refine zr_fr hM rfl rfl rfl ?_
  refine zr_putf (κ := (22, 0, 0)) hn hM rfl rfl rfl rfl rfl rfl rfl rfl ?_
  refine zr_fr hM rfl rfl rfl ?_
  refine zr_fr hM rfl rfl rfl ?_
  refine zr_fr hM rfl rfl rfl ?_
  refine zr_fr hM rfl rfl rfl ?_
  exact k
set_option maxHeartbeats 4000000 in
theorem s126_59_ff {n L : Nat} {σ : Ks} {g : List Nat} {cl : Bool} {r : Zr} {v1 : Int32} {v2 : Int32} {v3 : Int32} {v4 : Int32} {σ3 : Ks} {c3 : Bool} {r3 : Int32} (hn : 2 ≤ n ∧ n ≤ 5) (h1 : zcnd .ge v4 v2 = false) (h2 : zcnd .ne (σ 42 0) 0 = false) (c3_ : ZR 127 0 [.val (.ref (kad n (22, 0, 0))), .val (.int v1), .unset, .unset, .unset, .unset, .unset, .unset] [] (khp n L σ g) true (.inl (some (.int r3)), khp n L σ3 g, c3)) (k : ZR 126 59 [.val (.ref (kad n (22, 0, 0))), .val (.int v1), .val (.int v2), .val (.int (v3 + r3)), .val (.int (v4 + Int32.ofInt 1))] [] (khp n L σ3 (g)) (cl && c3) r) : ZR 126 59 [.val (.ref (kad n (22, 0, 0))), .val (.int v1), .val (.int v2), .val (.int v3), .val (.int v4)] [] (khp n L σ g) cl r := by
  have hM : zmi[126]? = some _ := rfl
  refine zr_fr hM rfl rfl rfl ?_
  refine zr_fr hM rfl rfl rfl ?_
  refine zr_icf hM rfl rfl h1 ?_
  refine zr_fr hM rfl rfl rfl ?_
  refine zr_getf (κ := (22, 0, 0)) hn hM rfl rfl rfl rfl ?_
  refine zr_iff hM rfl rfl h2 ?_
  refine zr_fr hM rfl rfl rfl ?_
  refine zr_fr hM rfl rfl rfl ?_
  refine zr_fr hM rfl rfl rfl ?_
  refine zr_virt (κ := (22, 0, 0)) hn hM rfl rfl rfl rfl rfl rfl rfl rfl rfl ?_
  refine zgo_ret rfl rfl c3_ ?_
  refine zr_fr hM rfl rfl rfl ?_
  refine zr_fr hM rfl rfl rfl ?_
  refine zr_fr hM rfl rfl rfl ?_
  refine zr_fr hM rfl rfl rfl ?_
  exact k
set_option maxHeartbeats 4000000 in
theorem s126_59_ft {n L : Nat} {σ : Ks} {g : List Nat} {cl : Bool} {v1 : Int32} {v2 : Int32} {v3 : Int32} {v4 : Int32} (hn : 2 ≤ n ∧ n ≤ 5) (h1 : zcnd .ge v4 v2 = false) (h2 : zcnd .ne (σ 42 0) 0 = true) : ZR 126 59 [.val (.ref (kad n (22, 0, 0))), .val (.int v1), .val (.int v2), .val (.int v3), .val (.int v4)] [] (khp n L σ g) cl (.inl (some (.int v3)), khp n L σ (g), cl) := by
  have hM : zmi[126]? = some _ := rfl
  refine zr_fr hM rfl rfl rfl ?_
  refine zr_fr hM rfl rfl rfl ?_
  refine zr_icf hM rfl rfl h1 ?_
  refine zr_fr hM rfl rfl rfl ?_
  refine zr_getf (κ := (22, 0, 0)) hn hM rfl rfl rfl rfl ?_
  refine zr_ift hM rfl rfl h2 ?_
  refine zr_fr hM rfl rfl rfl ?_
  exact zr_iret2 hM rfl rfl rfl
set_option maxHeartbeats 4000000 in
theorem s126_59_t {n L : Nat} {σ : Ks} {g : List Nat} {cl : Bool} {v1 : Int32} {v2 : Int32} {v3 : Int32} {v4 : Int32} (hn : 2 ≤ n ∧ n ≤ 5) (h1 : zcnd .ge v4 v2 = true) : ZR 126 59 [.val (.ref (kad n (22, 0, 0))), .val (.int v1), .val (.int v2), .val (.int v3), .val (.int v4)] [] (khp n L σ g) cl (.inl (some (.int v3)), khp n L σ (g), cl) := by
  have hM : zmi[126]? = some _ := rfl
  refine zr_fr hM rfl rfl rfl ?_
  refine zr_fr hM rfl rfl rfl ?_
  refine zr_ict hM rfl rfl h1 ?_
  refine zr_fr hM rfl rfl rfl ?_
  exact zr_iret2 hM rfl rfl rfl
set_option maxHeartbeats 4000000 in
theorem s127_0_r {n L : Nat} {σ : Ks} {g : List Nat} {cl : Bool} {r : Zr} {p1 : Int32} {r1 : Int32} {x2 : Nat} {σ3 : Ks} {c3 : Bool} {r3 : Int32} (hn : 2 ≤ n ∧ n ≤ 5) (c1_ : ZR 97 0 [.val (.int p1)] [] (khp n L σ g) true (.inl (some (.int r1)), khp n L σ g, true)) (z2 : zix (r1 + ((Int8.ofInt 16).toInt32)) 820 = some x2) (c3_ : ZR 128 0 [.val (.ref (kad n (22, 0, 0))), .val (.int p1), .unset, .unset, .unset, .unset, .unset] [] (khp n L (kup σ (20 + x2 / 164) (x2 % 164) ((σ (20 + x2 / 164) (x2 % 164)) + (Int32.ofInt 1))) g) true (.inl (some (.int r3)), khp n L σ3 g, c3)) (k : ZR 127 27 [.val (.ref (kad n (22, 0, 0))), .val (.int p1), .val (.int r1), .val (.int r3), .val (.int (Int32.ofInt 0)), .unset, .unset, .unset] [] (khp n L σ3 (g)) false r) : ZR 127 0 [.val (.ref (kad n (22, 0, 0))), .val (.int p1), .unset, .unset, .unset, .unset, .unset, .unset] [] (khp n L σ g) cl r := by
  have hM : zmi[127]? = some _ := rfl
  have l2 := (zix_some z2).2.2
  refine zr_fr hM rfl rfl rfl ?_
  refine zr_stat hM rfl rfl rfl rfl rfl rfl ?_
  refine zgo_ret rfl rfl c1_ ?_
  rw [Bool.and_true]
  refine zr_fr hM rfl rfl rfl ?_
  refine zr_fr hM rfl rfl rfl ?_
  refine zr_getf (κ := (22, 0, 0)) hn hM rfl rfl rfl rfl ?_
  refine zr_fr hM rfl rfl rfl ?_
  refine zr_fr hM rfl rfl rfl ?_
  refine zr_fr hM rfl rfl rfl ?_
  refine zr_fr hM rfl rfl rfl ?_
  refine zr_iald (κ := (23, 0, 0)) hn hM rfl rfl rfl z2 ?_
  refine zr_fr hM rfl rfl rfl ?_
  refine zr_fr hM rfl rfl rfl ?_
  refine zr_iast (κ := (23, 0, 0)) hn hM rfl rfl rfl rfl z2 rfl ?_
  refine zr_fr hM rfl rfl rfl ?_
  refine zr_fr hM rfl rfl rfl ?_
  refine zr_virt (κ := (22, 0, 0)) hn hM rfl rfl rfl rfl rfl rfl rfl rfl rfl ?_
  refine zgo_ret rfl rfl c3_ ?_
  rw [Bool.false_and]
  refine zr_fr hM rfl rfl rfl ?_
  refine zr_fr hM rfl rfl rfl ?_
  refine zr_fr hM rfl rfl rfl ?_
  exact k
set_option maxHeartbeats 4000000 in
theorem s127_27_f {n L : Nat} {σ : Ks} {g : List Nat} {cl : Bool} {r : Zr} {v1 : Int32} {v2 : Int32} {v3 : Int32} {v4 : Int32} {w5 : Option Int32} {w6 : Option Int32} {w7 : Option Int32} {r2 : Int32} (hn : 2 ≤ n ∧ n ≤ 5) (h1 : zcnd .ge v4 (σ 42 1) = false) (c2_ : ZR 95 0 [.val (.int v1), .val (.int v4)] [] (khp n L σ g) true (.inl (some (.int r2)), khp n L σ g, true)) (k : ZR 127 47 [.val (.ref (kad n (22, 0, 0))), .val (.int v1), .val (.int v2), .val (.int v3), .val (.int v4), .val (.int r2), .val (.int (Int32.ofInt 0)), zop w7] [] (khp n L σ (g)) cl r) : ZR 127 27 [.val (.ref (kad n (22, 0, 0))), .val (.int v1), .val (.int v2), .val (.int v3), .val (.int v4), zop w5, zop w6, zop w7] [] (khp n L σ g) cl r := by
  have hM : zmi[127]? = some _ := rfl
  refine zr_fr hM rfl rfl rfl ?_
  refine zr_fr hM rfl rfl rfl ?_
  refine zr_getf (κ := (22, 0, 0)) hn hM rfl rfl rfl rfl ?_
  refine zr_icf hM rfl rfl h1 ?_
  refine zr_fr hM rfl rfl rfl ?_
  refine zr_fr hM rfl rfl rfl ?_
  refine zr_stat hM rfl rfl rfl rfl rfl rfl ?_
  refine zgo_ret rfl rfl c2_ ?_
  rw [Bool.and_true]
  refine zr_fr (ls' := [.val (.ref (kad n (22, 0, 0))), .val (.int v1), .val (.int v2), .val (.int v3), .val (.int v4), .val (.int r2), zop w6, zop w7]) hM rfl rfl (by cases w5 <;> rfl) ?_
  refine zr_fr hM rfl rfl rfl ?_
  refine zr_fr (ls' := [.val (.ref (kad n (22, 0, 0))), .val (.int v1), .val (.int v2), .val (.int v3), .val (.int v4), .val (.int r2), .val (.int (Int32.ofInt 0)), zop w7]) hM rfl rfl (by cases w6 <;> rfl) ?_
  exact k
set_option maxHeartbeats 4000000 in
theorem s127_27_tf {n L : Nat} {σ : Ks} {g : List Nat} {cl : Bool} {v1 : Int32} {v2 : Int32} {v3 : Int32} {v4 : Int32} {w5 : Option Int32} {w6 : Option Int32} {w7 : Option Int32} {x2 : Nat} {x7 : Nat} {x8 : Nat} {σ9 : Ks} {c9 : Bool} (hn : 2 ≤ n ∧ n ≤ 5) (h1 : zcnd .ge v4 (σ 42 1) = true) (z2 : zix (v2 + ((Int8.ofInt 16).toInt32)) 820 = some x2) (d3 : ¬ (σ 42 1) = 0) (d4 : ¬ (σ 42 1) = 0) (d5 : ¬ (Int32.ofInt 4) = 0) (h6 : zcnd .eq ((σ (20 + x2 / 164) (x2 % 164)) - (σ (20 + x2 / 164) (x2 % 164)) / (σ 42 1) * (σ 42 1)) v1 = false) (z7 : zix (v2 + (((σ (20 + x2 / 164) (x2 % 164)) / (σ 42 1)) - ((σ (20 + x2 / 164) (x2 % 164)) / (σ 42 1)) / (Int32.ofInt 4) * (Int32.ofInt 4))) 820 = some x7) (z8 : zix (v2 + ((Int8.ofInt 18).toInt32)) 820 = some x8) (c9_ : ZR 104 0 [.val (.ref (kad n (22, 0, 0))), .val (.int (Int32.ofInt 2)), .val (.int v1), .val (.int ((σ (20 + x2 / 164) (x2 % 164)) - (σ (20 + x2 / 164) (x2 % 164)) / (σ 42 1) * (σ 42 1))), .val (.int (((σ (20 + x2 / 164) (x2 % 164)) / (σ 42 1)) - ((σ (20 + x2 / 164) (x2 % 164)) / (σ 42 1)) / (Int32.ofInt 4) * (Int32.ofInt 4))), .val (.int (σ (20 + x7 / 164) (x7 % 164))), .val (.int (σ (20 + x8 / 164) (x8 % 164))), .unset] [] (khp n L σ g) true (.inl (none), khp n L σ9 g, c9)) : ZR 127 27 [.val (.ref (kad n (22, 0, 0))), .val (.int v1), .val (.int v2), .val (.int v3), .val (.int v4), zop w5, zop w6, zop w7] [] (khp n L σ g) cl (.inl (some (.int v3)), khp n L (kup σ9 (20 + x8 / 164) (x8 % 164) ((σ9 (20 + x8 / 164) (x8 % 164)) + (Int32.ofInt 1))) (g), false) := by
  have hM : zmi[127]? = some _ := rfl
  have l2 := (zix_some z2).2.2
  have l7 := (zix_some z7).2.2
  have l8 := (zix_some z8).2.2
  refine zr_fr hM rfl rfl rfl ?_
  refine zr_fr hM rfl rfl rfl ?_
  refine zr_getf (κ := (22, 0, 0)) hn hM rfl rfl rfl rfl ?_
  refine zr_ict hM rfl rfl h1 ?_
  refine zr_fr hM rfl rfl rfl ?_
  refine zr_getf (κ := (22, 0, 0)) hn hM rfl rfl rfl rfl ?_
  refine zr_fr hM rfl rfl rfl ?_
  refine zr_fr hM rfl rfl rfl ?_
  refine zr_fr hM rfl rfl rfl ?_
  refine zr_iald (κ := (23, 0, 0)) hn hM rfl rfl rfl z2 ?_
  refine zr_fr hM rfl rfl rfl ?_
  refine zr_getf (κ := (22, 0, 0)) hn hM rfl rfl rfl rfl ?_
  refine zr_fr hM rfl rfl (if_neg d3) ?_
  refine zr_fr hM rfl rfl rfl ?_
  refine zr_fr hM rfl rfl rfl ?_
  refine zr_getf (κ := (22, 0, 0)) hn hM rfl rfl rfl rfl ?_
  refine zr_fr hM rfl rfl rfl ?_
  refine zr_fr hM rfl rfl rfl ?_
  refine zr_fr hM rfl rfl rfl ?_
  refine zr_iald (κ := (23, 0, 0)) hn hM rfl rfl rfl z2 ?_
  refine zr_fr hM rfl rfl rfl ?_
  refine zr_getf (κ := (22, 0, 0)) hn hM rfl rfl rfl rfl ?_
  refine zr_fr hM rfl rfl (if_neg d4) ?_
  refine zr_fr hM rfl rfl rfl ?_
  refine zr_fr hM rfl rfl rfl ?_
  refine zr_fr (ls' := [.val (.ref (kad n (22, 0, 0))), .val (.int v1), .val (.int v2), .val (.int v3), .val (.int ((σ (20 + x2 / 164) (x2 % 164)) - (σ (20 + x2 / 164) (x2 % 164)) / (σ 42 1) * (σ 42 1))), .val (.int (((σ (20 + x2 / 164) (x2 % 164)) / (σ 42 1)) - ((σ (20 + x2 / 164) (x2 % 164)) / (σ 42 1)) / (Int32.ofInt 4) * (Int32.ofInt 4))), zop w6, zop w7]) hM rfl rfl (by cases w5 <;> rfl) ?_
  refine zr_fr hM rfl rfl rfl ?_
  refine zr_fr hM rfl rfl rfl ?_
  refine zr_icf hM rfl rfl h6 ?_
  refine zr_fr hM rfl rfl rfl ?_
  refine zr_fr hM rfl rfl rfl ?_
  refine zr_fr hM rfl rfl rfl ?_
  refine zr_fr hM rfl rfl rfl ?_
  refine zr_fr hM rfl rfl rfl ?_
  refine zr_fr hM rfl rfl rfl ?_
  refine zr_getf (κ := (22, 0, 0)) hn hM rfl rfl rfl rfl ?_
  refine zr_fr hM rfl rfl rfl ?_
  refine zr_fr hM rfl rfl rfl ?_
  refine zr_fr hM rfl rfl rfl ?_
  refine zr_iald (κ := (23, 0, 0)) hn hM rfl rfl rfl z7 ?_
  refine zr_fr hM rfl rfl rfl ?_
  refine zr_getf (κ := (22, 0, 0)) hn hM rfl rfl rfl rfl ?_
  refine zr_fr hM rfl rfl rfl ?_
  refine zr_fr hM rfl rfl rfl ?_
  refine zr_fr hM rfl rfl rfl ?_
  refine zr_iald (κ := (23, 0, 0)) hn hM rfl rfl rfl z8 ?_
  refine zr_virt (κ := (22, 0, 0)) hn hM rfl rfl rfl rfl rfl rfl rfl rfl rfl ?_
  refine zgo_ret rfl rfl c9_ ?_
  refine zr_fr hM rfl rfl rfl ?_
  refine zr_getf (κ := (22, 0, 0)) hn hM rfl rfl rfl rfl ?_
  refine zr_fr hM rfl rfl rfl ?_
  refine zr_fr hM rfl rfl rfl ?_
  refine zr_fr hM rfl rfl rfl ?_
  refine zr_fr hM rfl rfl rfl ?_
  refine zr_iald (κ := (23, 0, 0)) hn hM rfl rfl rfl z8 ?_
  refine zr_fr hM rfl rfl rfl ?_
  refine zr_fr hM rfl rfl rfl ?_
  refine zr_iast (κ := (23, 0, 0)) hn hM rfl rfl rfl rfl z8 rfl ?_
  refine zr_fr hM rfl rfl rfl ?_
  exact zr_iret2 hM rfl rfl rfl
set_option maxHeartbeats 4000000 in
theorem s127_27_tt {n L : Nat} {σ : Ks} {g : List Nat} {cl : Bool} {v1 : Int32} {v2 : Int32} {v3 : Int32} {v4 : Int32} {w5 : Option Int32} {w6 : Option Int32} {w7 : Option Int32} {x2 : Nat} (hn : 2 ≤ n ∧ n ≤ 5) (h1 : zcnd .ge v4 (σ 42 1) = true) (z2 : zix (v2 + ((Int8.ofInt 16).toInt32)) 820 = some x2) (d3 : ¬ (σ 42 1) = 0) (d4 : ¬ (σ 42 1) = 0) (d5 : ¬ (Int32.ofInt 4) = 0) (h6 : zcnd .eq ((σ (20 + x2 / 164) (x2 % 164)) - (σ (20 + x2 / 164) (x2 % 164)) / (σ 42 1) * (σ 42 1)) v1 = true) : ZR 127 27 [.val (.ref (kad n (22, 0, 0))), .val (.int v1), .val (.int v2), .val (.int v3), .val (.int v4), zop w5, zop w6, zop w7] [] (khp n L σ g) cl (.inl (some (.int v3)), khp n L σ (g), cl) := by
  have hM : zmi[127]? = some _ := rfl
  have l2 := (zix_some z2).2.2
  refine zr_fr hM rfl rfl rfl ?_
  refine zr_fr hM rfl rfl rfl ?_
  refine zr_getf (κ := (22, 0, 0)) hn hM rfl rfl rfl rfl ?_
  refine zr_ict hM rfl rfl h1 ?_
  refine zr_fr hM rfl rfl rfl ?_
  refine zr_getf (κ := (22, 0, 0)) hn hM rfl rfl rfl rfl ?_
  refine zr_fr hM rfl rfl rfl ?_
  refine zr_fr hM rfl rfl rfl ?_
  refine zr_fr hM rfl rfl rfl ?_
  refine zr_iald (κ := (23, 0, 0)) hn hM rfl rfl rfl z2 ?_
  refine zr_fr hM rfl rfl rfl ?_
  refine zr_getf (κ := (22, 0, 0)) hn hM rfl rfl rfl rfl ?_
  refine zr_fr hM rfl rfl (if_neg d3) ?_
  refine zr_fr hM rfl rfl rfl ?_
  refine zr_fr hM rfl rfl rfl ?_
  refine zr_getf (κ := (22, 0, 0)) hn hM rfl rfl rfl rfl ?_
  refine zr_fr hM rfl rfl rfl ?_
  refine zr_fr hM rfl rfl rfl ?_
  refine zr_fr hM rfl rfl rfl ?_
  refine zr_iald (κ := (23, 0, 0)) hn hM rfl rfl rfl z2 ?_
  refine zr_fr hM rfl rfl rfl ?_
  refine zr_getf (κ := (22, 0, 0)) hn hM rfl rfl rfl rfl ?_
  refine zr_fr hM rfl rfl (if_neg d4) ?_
  refine zr_fr hM rfl rfl rfl ?_
  refine zr_fr hM rfl rfl rfl ?_
  refine zr_fr (ls' := [.val (.ref (kad n (22, 0, 0))), .val (.int v1), .val (.int v2), .val (.int v3), .val (.int ((σ (20 + x2 / 164) (x2 % 164)) - (σ (20 + x2 / 164) (x2 % 164)) / (σ 42 1) * (σ 42 1))), .val (.int (((σ (20 + x2 / 164) (x2 % 164)) / (σ 42 1)) - ((σ (20 + x2 / 164) (x2 % 164)) / (σ 42 1)) / (Int32.ofInt 4) * (Int32.ofInt 4))), zop w6, zop w7]) hM rfl rfl (by cases w5 <;> rfl) ?_
  refine zr_fr hM rfl rfl rfl ?_
  refine zr_fr hM rfl rfl rfl ?_
  refine zr_ict hM rfl rfl h6 ?_
  refine zr_fr hM rfl rfl rfl ?_
  exact zr_iret2 hM rfl rfl rfl
set_option maxHeartbeats 4000000 in
theorem s127_47_f {n L : Nat} {σ : Ks} {g : List Nat} {cl : Bool} {r : Zr} {v1 : Int32} {v2 : Int32} {v3 : Int32} {v4 : Int32} {v5 : Int32} {v6 : Int32} {w7 : Option Int32} {x1 : Nat} {x3 : Nat} {x4 : Nat} {x5 : Nat} {σ6 : Ks} {c6 : Bool} (hn : 2 ≤ n ∧ n ≤ 5) (z1 : zix (v5 + (Int32.ofInt 1)) 820 = some x1) (h2 : zcnd .ge v6 (σ (20 + x1 / 164) (x1 % 164)) = false) (z3 : zix ((v5 + (Int32.ofInt 2)) + ((Int32.ofInt 3) * v6)) 820 = some x3) (z4 : zix (((v5 + (Int32.ofInt 2)) + ((Int32.ofInt 3) * v6)) + (Int32.ofInt 1)) 820 = some x4) (z5 : zix (((v5 + (Int32.ofInt 2)) + ((Int32.ofInt 3) * v6)) + (Int32.ofInt 2)) 820 = some x5) (c6_ : ZR 104 0 [.val (.ref (kad n (22, 0, 0))), .val (.int (Int32.ofInt 0)), .val (.int v1), .val (.int v4), .val (.int (σ (20 + x3 / 164) (x3 % 164))), .val (.int (σ (20 + x4 / 164) (x4 % 164))), .val (.int (σ (20 + x5 / 164) (x5 % 164))), .unset] [] (khp n L σ g) true (.inl (none), khp n L σ6 g, c6)) (k : ZR 127 47 [.val (.ref (kad n (22, 0, 0))), .val (.int v1), .val (.int v2), .val (.int v3), .val (.int v4), .val (.int v5), .val (.int (v6 + Int32.ofInt 1)), .val (.int ((v5 + (Int32.ofInt 2)) + ((Int32.ofInt 3) * v6)))] [] (khp n L σ6 (g)) (cl && c6) r) : ZR 127 47 [.val (.ref (kad n (22, 0, 0))), .val (.int v1), .val (.int v2), .val (.int v3), .val (.int v4), .val (.int v5), .val (.int v6), zop w7] [] (khp n L σ g) cl r := by
  have hM : zmi[127]? = some _ := rfl
  have l1 := (zix_some z1).2.2
  have l3 := (zix_some z3).2.2
  have l4 := (zix_some z4).2.2
  have l5 := (zix_some z5).2.2
  refine zr_fr hM rfl rfl rfl ?_
  refine zr_fr hM rfl rfl rfl ?_
  refine zr_getf (κ := (22, 0, 0)) hn hM rfl rfl rfl rfl ?_
  refine zr_fr hM rfl rfl rfl ?_
  refine zr_fr hM rfl rfl rfl ?_
  refine zr_fr hM rfl rfl rfl ?_
  refine zr_iald (κ := (23, 0, 0)) hn hM rfl rfl rfl z1 ?_
  refine zr_icf hM rfl rfl h2 ?_
  refine zr_fr hM rfl rfl rfl ?_
  refine zr_fr hM rfl rfl rfl ?_
  refine zr_fr hM rfl rfl rfl ?_
  refine zr_fr hM rfl rfl rfl ?_
  refine zr_fr hM rfl rfl rfl ?_
  refine zr_fr hM rfl rfl rfl ?_
  refine zr_fr hM rfl rfl rfl ?_
  refine zr_fr (ls' := [.val (.ref (kad n (22, 0, 0))), .val (.int v1), .val (.int v2), .val (.int v3), .val (.int v4), .val (.int v5), .val (.int v6), .val (.int ((v5 + (Int32.ofInt 2)) + ((Int32.ofInt 3) * v6)))]) hM rfl rfl (by cases w7 <;> rfl) ?_
  refine zr_fr hM rfl rfl rfl ?_
  refine zr_fr hM rfl rfl rfl ?_
  refine zr_fr hM rfl rfl rfl ?_
  refine zr_fr hM rfl rfl rfl ?_
  refine zr_fr hM rfl rfl rfl ?_
  refine zr_getf (κ := (22, 0, 0)) hn hM rfl rfl rfl rfl ?_
  refine zr_fr hM rfl rfl rfl ?_
  refine zr_iald (κ := (23, 0, 0)) hn hM rfl rfl rfl z3 ?_
  refine zr_fr hM rfl rfl rfl ?_
  refine zr_getf (κ := (22, 0, 0)) hn hM rfl rfl rfl rfl ?_
  refine zr_fr hM rfl rfl rfl ?_
  refine zr_fr hM rfl rfl rfl ?_
  refine zr_fr hM rfl rfl rfl ?_
  refine zr_iald (κ := (23, 0, 0)) hn hM rfl rfl rfl z4 ?_
  refine zr_fr hM rfl rfl rfl ?_
  refine zr_getf (κ := (22, 0, 0)) hn hM rfl rfl rfl rfl ?_
  refine zr_fr hM rfl rfl rfl ?_
  refine zr_fr hM rfl rfl rfl ?_
  refine zr_fr hM rfl rfl rfl ?_
  refine zr_iald (κ := (23, 0, 0)) hn hM rfl rfl rfl z5 ?_
  refine zr_virt (κ := (22, 0, 0)) hn hM rfl rfl rfl rfl rfl rfl rfl rfl rfl ?_
  refine zgo_ret rfl rfl c6_ ?_
  refine zr_fr hM rfl rfl rfl ?_
  refine zr_fr hM rfl rfl rfl ?_
  exact k
set_option maxHeartbeats 4000000 in
theorem s127_47_t {n L : Nat} {σ : Ks} {g : List Nat} {cl : Bool} {r : Zr} {v1 : Int32} {v2 : Int32} {v3 : Int32} {v4 : Int32} {v5 : Int32} {v6 : Int32} {w7 : Option Int32} {x1 : Nat} (hn : 2 ≤ n ∧ n ≤ 5) (z1 : zix (v5 + (Int32.ofInt 1)) 820 = some x1) (h2 : zcnd .ge v6 (σ (20 + x1 / 164) (x1 % 164)) = true) (k : ZR 127 27 [.val (.ref (kad n (22, 0, 0))), .val (.int v1), .val (.int v2), .val (.int v3), .val (.int (v4 + Int32.ofInt 1)), .val (.int v5), .val (.int v6), zop w7] [] (khp n L σ (g)) cl r) : ZR 127 47 [.val (.ref (kad n (22, 0, 0))), .val (.int v1), .val (.int v2), .val (.int v3), .val (.int v4), .val (.int v5), .val (.int v6), zop w7] [] (khp n L σ g) cl r := by
  have hM : zmi[127]? = some _ := rfl
  have l1 := (zix_some z1).2.2
  refine zr_fr hM rfl rfl rfl ?_
  refine zr_fr hM rfl rfl rfl ?_
  refine zr_getf (κ := (22, 0, 0)) hn hM rfl rfl rfl rfl ?_
  refine zr_fr hM rfl rfl rfl ?_
  refine zr_fr hM rfl rfl rfl ?_
  refine zr_fr hM rfl rfl rfl ?_
  refine zr_iald (κ := (23, 0, 0)) hn hM rfl rfl rfl z1 ?_
  refine zr_ict hM rfl rfl h2 ?_
  refine zr_fr hM rfl rfl rfl ?_
  refine zr_fr hM rfl rfl rfl ?_
  exact k
set_option maxHeartbeats 4000000 in
theorem s128_0_r {n L : Nat} {σ : Ks} {g : List Nat} {cl : Bool} {r : Zr} {p1 : Int32} {r1 : Int32} (hn : 2 ≤ n ∧ n ≤ 5) (c1_ : ZR 97 0 [.val (.int p1)] [] (khp n L σ g) true (.inl (some (.int r1)), khp n L σ g, true)) (k : ZR 128 10 [.val (.ref (kad n (22, 0, 0))), .val (.int p1), .val (.int r1), .val (.int (Int32.ofInt 0)), .val (.int (Int32.ofInt 0)), .unset, .unset] [] (khp n L σ (g)) cl r) : ZR 128 0 [.val (.ref (kad n (22, 0, 0))), .val (.int p1), .unset, .unset, .unset, .unset, .unset] [] (khp n L σ g) cl r := by
  have hM : zmi[128]? = some _ := rfl
  refine zr_fr hM rfl rfl rfl ?_
  refine zr_stat hM rfl rfl rfl rfl rfl rfl ?_
  refine zgo_ret rfl rfl c1_ ?_
  rw [Bool.and_true]
  refine zr_fr hM rfl rfl rfl ?_
  refine zr_fr hM rfl rfl rfl ?_
  refine zr_fr hM rfl rfl rfl ?_
  refine zr_fr hM rfl rfl rfl ?_
  refine zr_fr hM rfl rfl rfl ?_
  exact k
set_option maxHeartbeats 4000000 in
theorem s128_10_ff {n L : Nat} {σ : Ks} {g : List Nat} {cl : Bool} {r : Zr} {v1 : Int32} {v2 : Int32} {v3 : Int32} {v4 : Int32} {w5 : Option Int32} {w6 : Option Int32} {x1 : Nat} {x3 : Nat} {x4 : Nat} {x6 : Nat} {x7 : Nat} {x8 : Nat} {σ9 : Ks} {c9 : Bool} (hn : 2 ≤ n ∧ n ≤ 5) (z1 : zix (v2 + ((Int8.ofInt 19).toInt32)) 820 = some x1) (h2 : zcnd .ge v4 (σ (20 + x1 / 164) (x1 % 164)) = false) (z3 : zix (((v2 + ((Int8.ofInt 20).toInt32)) + ((Int32.ofInt 4) * v4)) + (Int32.ofInt 3)) 820 = some x3) (z4 : zix (v2 + ((Int8.ofInt 16).toInt32)) 820 = some x4) (h5 : zcnd .gt (σ (20 + x3 / 164) (x3 % 164)) (σ (20 + x4 / 164) (x4 % 164)) = false) (z6 : zix (((v2 + ((Int8.ofInt 20).toInt32)) + ((Int32.ofInt 4) * v4)) + (Int32.ofInt 1)) 820 = some x6) (z7 : zix (v2 + (σ (20 + x6 / 164) (x6 % 164))) 820 = some x7) (z8 : zix (((v2 + ((Int8.ofInt 20).toInt32)) + ((Int32.ofInt 4) * v4)) + (Int32.ofInt 2)) 820 = some x8) (c9_ : ZR 125 0 [.val (.ref (kad n (22, 0, 0))), .val (.int v1), .val (.int v4), .unset, .unset] [] (khp n L (kup σ (20 + x7 / 164) (x7 % 164) ((σ (20 + x7 / 164) (x7 % 164)) + (σ (20 + x8 / 164) (x8 % 164)))) g) true (.inl (none), khp n L σ9 g, c9)) (k : ZR 128 10 [.val (.ref (kad n (22, 0, 0))), .val (.int v1), .val (.int v2), .val (.int (v3 + Int32.ofInt 1)), .val (.int v4), .val (.int ((v2 + ((Int8.ofInt 20).toInt32)) + ((Int32.ofInt 4) * v4))), .val (.int (σ (20 + x6 / 164) (x6 % 164)))] [] (khp n L σ9 (g)) false r) : ZR 128 10 [.val (.ref (kad n (22, 0, 0))), .val (.int v1), .val (.int v2), .val (.int v3), .val (.int v4), zop w5, zop w6] [] (khp n L σ g) cl r := by
  have hM : zmi[128]? = some _ := rfl
  have l1 := (zix_some z1).2.2
  have l3 := (zix_some z3).2.2
  have l4 := (zix_some z4).2.2
  have l6 := (zix_some z6).2.2
  have l7 := (zix_some z7).2.2
  have l8 := (zix_some z8).2.2
  refine zr_fr hM rfl rfl rfl ?_
  refine zr_fr hM rfl rfl rfl ?_
  refine zr_getf (κ := (22, 0, 0)) hn hM rfl rfl rfl rfl ?_
  refine zr_fr hM rfl rfl rfl ?_
  refine zr_fr hM rfl rfl rfl ?_
  refine zr_fr hM rfl rfl rfl ?_
  refine zr_iald (κ := (23, 0, 0)) hn hM rfl rfl rfl z1 ?_
  refine zr_icf hM rfl rfl h2 ?_
  refine zr_fr hM rfl rfl rfl ?_
  refine zr_fr hM rfl rfl rfl ?_
  refine zr_fr hM rfl rfl rfl ?_
  refine zr_fr hM rfl rfl rfl ?_
  refine zr_fr hM rfl rfl rfl ?_
  refine zr_fr hM rfl rfl rfl ?_
  refine zr_fr hM rfl rfl rfl ?_
  refine zr_fr (ls' := [.val (.ref (kad n (22, 0, 0))), .val (.int v1), .val (.int v2), .val (.int v3), .val (.int v4), .val (.int ((v2 + ((Int8.ofInt 20).toInt32)) + ((Int32.ofInt 4) * v4))), zop w6]) hM rfl rfl (by cases w5 <;> rfl) ?_
  refine zr_fr hM rfl rfl rfl ?_
  refine zr_getf (κ := (22, 0, 0)) hn hM rfl rfl rfl rfl ?_
  refine zr_fr hM rfl rfl rfl ?_
  refine zr_fr hM rfl rfl rfl ?_
  refine zr_fr hM rfl rfl rfl ?_
  refine zr_iald (κ := (23, 0, 0)) hn hM rfl rfl rfl z3 ?_
  refine zr_fr hM rfl rfl rfl ?_
  refine zr_getf (κ := (22, 0, 0)) hn hM rfl rfl rfl rfl ?_
  refine zr_fr hM rfl rfl rfl ?_
  refine zr_fr hM rfl rfl rfl ?_
  refine zr_fr hM rfl rfl rfl ?_
  refine zr_iald (κ := (23, 0, 0)) hn hM rfl rfl rfl z4 ?_
  refine zr_icf hM rfl rfl h5 ?_
  refine zr_fr hM rfl rfl rfl ?_
  refine zr_getf (κ := (22, 0, 0)) hn hM rfl rfl rfl rfl ?_
  refine zr_fr hM rfl rfl rfl ?_
  refine zr_fr hM rfl rfl rfl ?_
  refine zr_fr hM rfl rfl rfl ?_
  refine zr_iald (κ := (23, 0, 0)) hn hM rfl rfl rfl z6 ?_
  refine zr_fr (ls' := [.val (.ref (kad n (22, 0, 0))), .val (.int v1), .val (.int v2), .val (.int v3), .val (.int v4), .val (.int ((v2 + ((Int8.ofInt 20).toInt32)) + ((Int32.ofInt 4) * v4))), .val (.int (σ (20 + x6 / 164) (x6 % 164)))]) hM rfl rfl (by cases w6 <;> rfl) ?_
  refine zr_fr hM rfl rfl rfl ?_
  refine zr_getf (κ := (22, 0, 0)) hn hM rfl rfl rfl rfl ?_
  refine zr_fr hM rfl rfl rfl ?_
  refine zr_fr hM rfl rfl rfl ?_
  refine zr_fr hM rfl rfl rfl ?_
  refine zr_fr hM rfl rfl rfl ?_
  refine zr_iald (κ := (23, 0, 0)) hn hM rfl rfl rfl z7 ?_
  refine zr_fr hM rfl rfl rfl ?_
  refine zr_getf (κ := (22, 0, 0)) hn hM rfl rfl rfl rfl ?_
  refine zr_fr hM rfl rfl rfl ?_
  refine zr_fr hM rfl rfl rfl ?_
  refine zr_fr hM rfl rfl rfl ?_
  refine zr_iald (κ := (23, 0, 0)) hn hM rfl rfl rfl z8 ?_
  refine zr_fr hM rfl rfl rfl ?_
  refine zr_iast (κ := (23, 0, 0)) hn hM rfl rfl rfl rfl z7 rfl ?_
  refine zr_fr hM rfl rfl rfl ?_
  refine zr_fr hM rfl rfl rfl ?_
  refine zr_fr hM rfl rfl rfl ?_
  refine zr_virt (κ := (22, 0, 0)) hn hM rfl rfl rfl rfl rfl rfl rfl rfl rfl ?_
  refine zgo_ret rfl rfl c9_ ?_
  rw [Bool.false_and]
  refine zr_fr hM rfl rfl rfl ?_
  refine zr_fr hM rfl rfl rfl ?_
  refine zr_fr hM rfl rfl rfl ?_
  exact k
set_option maxHeartbeats 4000000 in
theorem s128_10_ft {n L : Nat} {σ : Ks} {g : List Nat} {cl : Bool} {r : Zr} {v1 : Int32} {v2 : Int32} {v3 : Int32} {v4 : Int32} {w5 : Option Int32} {w6 : Option Int32} {x1 : Nat} {x3 : Nat} {x4 : Nat} (hn : 2 ≤ n ∧ n ≤ 5) (z1 : zix (v2 + ((Int8.ofInt 19).toInt32)) 820 = some x1) (h2 : zcnd .ge v4 (σ (20 + x1 / 164) (x1 % 164)) = false) (z3 : zix (((v2 + ((Int8.ofInt 20).toInt32)) + ((Int32.ofInt 4) * v4)) + (Int32.ofInt 3)) 820 = some x3) (z4 : zix (v2 + ((Int8.ofInt 16).toInt32)) 820 = some x4) (h5 : zcnd .gt (σ (20 + x3 / 164) (x3 % 164)) (σ (20 + x4 / 164) (x4 % 164)) = true) (k : ZR 128 10 [.val (.ref (kad n (22, 0, 0))), .val (.int v1), .val (.int v2), .val (.int v3), .val (.int (v4 + Int32.ofInt 1)), .val (.int ((v2 + ((Int8.ofInt 20).toInt32)) + ((Int32.ofInt 4) * v4))), zop w6] [] (khp n L σ (g)) cl r) : ZR 128 10 [.val (.ref (kad n (22, 0, 0))), .val (.int v1), .val (.int v2), .val (.int v3), .val (.int v4), zop w5, zop w6] [] (khp n L σ g) cl r := by
  have hM : zmi[128]? = some _ := rfl
  have l1 := (zix_some z1).2.2
  have l3 := (zix_some z3).2.2
  have l4 := (zix_some z4).2.2
  refine zr_fr hM rfl rfl rfl ?_
  refine zr_fr hM rfl rfl rfl ?_
  refine zr_getf (κ := (22, 0, 0)) hn hM rfl rfl rfl rfl ?_
  refine zr_fr hM rfl rfl rfl ?_
  refine zr_fr hM rfl rfl rfl ?_
  refine zr_fr hM rfl rfl rfl ?_
  refine zr_iald (κ := (23, 0, 0)) hn hM rfl rfl rfl z1 ?_
  refine zr_icf hM rfl rfl h2 ?_
  refine zr_fr hM rfl rfl rfl ?_
  refine zr_fr hM rfl rfl rfl ?_
  refine zr_fr hM rfl rfl rfl ?_
  refine zr_fr hM rfl rfl rfl ?_
  refine zr_fr hM rfl rfl rfl ?_
  refine zr_fr hM rfl rfl rfl ?_
  refine zr_fr hM rfl rfl rfl ?_
  refine zr_fr (ls' := [.val (.ref (kad n (22, 0, 0))), .val (.int v1), .val (.int v2), .val (.int v3), .val (.int v4), .val (.int ((v2 + ((Int8.ofInt 20).toInt32)) + ((Int32.ofInt 4) * v4))), zop w6]) hM rfl rfl (by cases w5 <;> rfl) ?_
  refine zr_fr hM rfl rfl rfl ?_
  refine zr_getf (κ := (22, 0, 0)) hn hM rfl rfl rfl rfl ?_
  refine zr_fr hM rfl rfl rfl ?_
  refine zr_fr hM rfl rfl rfl ?_
  refine zr_fr hM rfl rfl rfl ?_
  refine zr_iald (κ := (23, 0, 0)) hn hM rfl rfl rfl z3 ?_
  refine zr_fr hM rfl rfl rfl ?_
  refine zr_getf (κ := (22, 0, 0)) hn hM rfl rfl rfl rfl ?_
  refine zr_fr hM rfl rfl rfl ?_
  refine zr_fr hM rfl rfl rfl ?_
  refine zr_fr hM rfl rfl rfl ?_
  refine zr_iald (κ := (23, 0, 0)) hn hM rfl rfl rfl z4 ?_
  refine zr_ict hM rfl rfl h5 ?_
  refine zr_fr hM rfl rfl rfl ?_
  refine zr_fr hM rfl rfl rfl ?_
  exact k
set_option maxHeartbeats 4000000 in
theorem s128_10_t {n L : Nat} {σ : Ks} {g : List Nat} {cl : Bool} {v1 : Int32} {v2 : Int32} {v3 : Int32} {v4 : Int32} {w5 : Option Int32} {w6 : Option Int32} {x1 : Nat} (hn : 2 ≤ n ∧ n ≤ 5) (z1 : zix (v2 + ((Int8.ofInt 19).toInt32)) 820 = some x1) (h2 : zcnd .ge v4 (σ (20 + x1 / 164) (x1 % 164)) = true) : ZR 128 10 [.val (.ref (kad n (22, 0, 0))), .val (.int v1), .val (.int v2), .val (.int v3), .val (.int v4), zop w5, zop w6] [] (khp n L σ g) cl (.inl (some (.int v3)), khp n L σ (g), cl) := by
  have hM : zmi[128]? = some _ := rfl
  have l1 := (zix_some z1).2.2
  refine zr_fr hM rfl rfl rfl ?_
  refine zr_fr hM rfl rfl rfl ?_
  refine zr_getf (κ := (22, 0, 0)) hn hM rfl rfl rfl rfl ?_
  refine zr_fr hM rfl rfl rfl ?_
  refine zr_fr hM rfl rfl rfl ?_
  refine zr_fr hM rfl rfl rfl ?_
  refine zr_iald (κ := (23, 0, 0)) hn hM rfl rfl rfl z1 ?_
  refine zr_ict hM rfl rfl h2 ?_
  refine zr_fr hM rfl rfl rfl ?_
  exact zr_iret2 hM rfl rfl rfl
set_option maxHeartbeats 4000000 in
theorem s129_0_ffff {n L : Nat} {σ : Ks} {g : List Nat} {cl : Bool} {p1 : Int32} {p2 : Int32} {p3 : Int32} {p4 : Int32} {r1 : Int32} {r3 : Int32} (hn : 2 ≤ n ∧ n ≤ 5) (c1_ : ZR 118 0 [.val (.ref (kad n (22, 0, 0))), .val (.int p1), .val (.int p3), .val (.int p4)] [] (khp n L σ g) true (.inl (some (.int r1)), khp n L σ g, true)) (h2 : zcnd .eq r1 0 = false) (c3_ : ZR 119 0 [.val (.ref (kad n (22, 0, 0))), .val (.int p2)] [] (khp n L σ g) true (.inl (some (.int r3)), khp n L σ g, true)) (h4 : zcnd .eq r3 0 = false) (h5 : zcnd .eq p2 p1 = false) (h6 : zcnd .le ((kup σ 42 0 (Int32.ofInt 0)) 42 0) 0 = false) : ZR 129 0 [.val (.ref (kad n (22, 0, 0))), .val (.int p1), .val (.int p2), .val (.int p3), .val (.int p4)] [] (khp n L σ g) cl (.inl (some (.int (Int32.ofInt 0))), khp n L (kup σ 42 0 (Int32.ofInt 0)) (g), false) := by
  have hM : zmi[129]? = some _ := rfl
  refine zr_fr hM rfl rfl rfl ?_
  refine zr_fr hM rfl rfl rfl ?_
  refine zr_fr hM rfl rfl rfl ?_
  refine zr_fr hM rfl rfl rfl ?_
  refine zr_fr hM rfl rfl rfl ?_
  refine zr_virt (κ := (22, 0, 0)) hn hM rfl rfl rfl rfl rfl rfl rfl rfl rfl ?_
  refine zgo_ret rfl rfl c1_ ?_
  rw [Bool.and_true]
  refine zr_iff hM rfl rfl h2 ?_
  refine zr_fr hM rfl rfl rfl ?_
  refine zr_fr hM rfl rfl rfl ?_
  refine zr_virt (κ := (22, 0, 0)) hn hM rfl rfl rfl rfl rfl rfl rfl rfl rfl ?_
  refine zgo_ret rfl rfl c3_ ?_
  rw [Bool.and_true]
  refine zr_iff hM rfl rfl h4 ?_
  refine zr_fr hM rfl rfl rfl ?_
  refine zr_fr hM rfl rfl rfl ?_
  refine zr_icf hM rfl rfl h5 ?_
  refine zr_fr hM rfl rfl rfl ?_
  refine zr_fr hM rfl rfl rfl ?_
  refine zr_putf (κ := (22, 0, 0)) hn hM rfl rfl rfl rfl rfl rfl rfl rfl ?_
  refine zr_fr hM rfl rfl rfl ?_
  refine zr_getf (κ := (22, 0, 0)) hn hM rfl rfl rfl rfl ?_
  refine zr_iff hM rfl rfl h6 ?_
  refine zr_fr hM rfl rfl rfl ?_
  exact zr_iret2 hM rfl rfl rfl
set_option maxHeartbeats 4000000 in
theorem s129_0_ffftff {n L : Nat} {σ : Ks} {g : List Nat} {cl : Bool} {p1 : Int32} {p2 : Int32} {p3 : Int32} {p4 : Int32} {r1 : Int32} {r3 : Int32} {r7 : Int32} (hn : 2 ≤ n ∧ n ≤ 5) (c1_ : ZR 118 0 [.val (.ref (kad n (22, 0, 0))), .val (.int p1), .val (.int p3), .val (.int p4)] [] (khp n L σ g) true (.inl (some (.int r1)), khp n L σ g, true)) (h2 : zcnd .eq r1 0 = false) (c3_ : ZR 119 0 [.val (.ref (kad n (22, 0, 0))), .val (.int p2)] [] (khp n L σ g) true (.inl (some (.int r3)), khp n L σ g, true)) (h4 : zcnd .eq r3 0 = false) (h5 : zcnd .eq p2 p1 = false) (h6 : zcnd .le ((kup σ 42 0 (Int32.ofInt 0)) 42 0) 0 = true) (c7_ : ZR 108 0 [.val (.ref (kad n (22, 0, 0))), .val (.int p1), .val (.int p2), .val (.int p3), .val (.int p4), .unset, .unset] [] (khp n L (kup σ 42 0 (Int32.ofInt 0)) g) true (.inl (some (.int r7)), khp n L (kup σ 42 0 (Int32.ofInt 0)) g, true)) (h8 : zcnd .eq r7 0 = false) (h9 : zcnd .le ((kup (kup σ 42 0 (Int32.ofInt 0)) 42 0 (Int32.ofInt 0)) 42 0) 0 = false) : ZR 129 0 [.val (.ref (kad n (22, 0, 0))), .val (.int p1), .val (.int p2), .val (.int p3), .val (.int p4)] [] (khp n L σ g) cl (.inl (some (.int (Int32.ofInt 0))), khp n L (kup (kup σ 42 0 (Int32.ofInt 0)) 42 0 (Int32.ofInt 0)) (g), false) := by
  have hM : zmi[129]? = some _ := rfl
  refine zr_fr hM rfl rfl rfl ?_
  refine zr_fr hM rfl rfl rfl ?_
  refine zr_fr hM rfl rfl rfl ?_
  refine zr_fr hM rfl rfl rfl ?_
  refine zr_fr hM rfl rfl rfl ?_
  refine zr_virt (κ := (22, 0, 0)) hn hM rfl rfl rfl rfl rfl rfl rfl rfl rfl ?_
  refine zgo_ret rfl rfl c1_ ?_
  rw [Bool.and_true]
  refine zr_iff hM rfl rfl h2 ?_
  refine zr_fr hM rfl rfl rfl ?_
  refine zr_fr hM rfl rfl rfl ?_
  refine zr_virt (κ := (22, 0, 0)) hn hM rfl rfl rfl rfl rfl rfl rfl rfl rfl ?_
  refine zgo_ret rfl rfl c3_ ?_
  rw [Bool.and_true]
  refine zr_iff hM rfl rfl h4 ?_
  refine zr_fr hM rfl rfl rfl ?_
  refine zr_fr hM rfl rfl rfl ?_
  refine zr_icf hM rfl rfl h5 ?_
  refine zr_fr hM rfl rfl rfl ?_
  refine zr_fr hM rfl rfl rfl ?_
  refine zr_putf (κ := (22, 0, 0)) hn hM rfl rfl rfl rfl rfl rfl rfl rfl ?_
  refine zr_fr hM rfl rfl rfl ?_
  refine zr_getf (κ := (22, 0, 0)) hn hM rfl rfl rfl rfl ?_
  refine zr_ift hM rfl rfl h6 ?_
  refine zr_fr hM rfl rfl rfl ?_
  refine zr_fr hM rfl rfl rfl ?_
  refine zr_fr hM rfl rfl rfl ?_
  refine zr_fr hM rfl rfl rfl ?_
  refine zr_fr hM rfl rfl rfl ?_
  refine zr_fr hM rfl rfl rfl ?_
  refine zr_virt (κ := (22, 0, 0)) hn hM rfl rfl rfl rfl rfl rfl rfl rfl rfl ?_
  refine zgo_ret rfl rfl c7_ ?_
  rw [Bool.and_true]
  refine zr_iff hM rfl rfl h8 ?_
  refine zr_fr hM rfl rfl rfl ?_
  refine zr_fr hM rfl rfl rfl ?_
  refine zr_putf (κ := (22, 0, 0)) hn hM rfl rfl rfl rfl rfl rfl rfl rfl ?_
  refine zr_fr hM rfl rfl rfl ?_
  refine zr_getf (κ := (22, 0, 0)) hn hM rfl rfl rfl rfl ?_
  refine zr_iff hM rfl rfl h9 ?_
  refine zr_fr hM rfl rfl rfl ?_
  refine zr_fr hM rfl rfl rfl ?_
  exact zr_iret2 hM rfl rfl rfl
set_option maxHeartbeats 4000000 in
theorem s129_0_ffftft {n L : Nat} {σ : Ks} {g : List Nat} {cl : Bool} {p1 : Int32} {p2 : Int32} {p3 : Int32} {p4 : Int32} {r1 : Int32} {r3 : Int32} {r7 : Int32} {σ10 : Ks} {c10 : Bool} {r10 : Int32} (hn : 2 ≤ n ∧ n ≤ 5) (c1_ : ZR 118 0 [.val (.ref (kad n (22, 0, 0))), .val (.int p1), .val (.int p3), .val (.int p4)] [] (khp n L σ g) true (.inl (some (.int r1)), khp n L σ g, true)) (h2 : zcnd .eq r1 0 = false) (c3_ : ZR 119 0 [.val (.ref (kad n (22, 0, 0))), .val (.int p2)] [] (khp n L σ g) true (.inl (some (.int r3)), khp n L σ g, true)) (h4 : zcnd .eq r3 0 = false) (h5 : zcnd .eq p2 p1 = false) (h6 : zcnd .le ((kup σ 42 0 (Int32.ofInt 0)) 42 0) 0 = true) (c7_ : ZR 108 0 [.val (.ref (kad n (22, 0, 0))), .val (.int p1), .val (.int p2), .val (.int p3), .val (.int p4), .unset, .unset] [] (khp n L (kup σ 42 0 (Int32.ofInt 0)) g) true (.inl (some (.int r7)), khp n L (kup σ 42 0 (Int32.ofInt 0)) g, true)) (h8 : zcnd .eq r7 0 = false) (h9 : zcnd .le ((kup (kup σ 42 0 (Int32.ofInt 0)) 42 0 (Int32.ofInt 0)) 42 0) 0 = true) (c10_ : ZR 109 0 [.val (.ref (kad n (22, 0, 0))), .val (.int p1), .val (.int p2), .val (.int p3), .val (.int p4), .unset, .unset, .unset] [] (khp n L (kup (kup σ 42 0 (Int32.ofInt 0)) 42 0 (Int32.ofInt 0)) g) true (.inl (some (.int r10)), khp n L σ10 g, c10)) : ZR 129 0 [.val (.ref (kad n (22, 0, 0))), .val (.int p1), .val (.int p2), .val (.int p3), .val (.int p4)] [] (khp n L σ g) cl (.inl (some (.int r10)), khp n L σ10 (g), false) := by
  have hM : zmi[129]? = some _ := rfl
  refine zr_fr hM rfl rfl rfl ?_
  refine zr_fr hM rfl rfl rfl ?_
  refine zr_fr hM rfl rfl rfl ?_
  refine zr_fr hM rfl rfl rfl ?_
  refine zr_fr hM rfl rfl rfl ?_
  refine zr_virt (κ := (22, 0, 0)) hn hM rfl rfl rfl rfl rfl rfl rfl rfl rfl ?_
  refine zgo_ret rfl rfl c1_ ?_
  rw [Bool.and_true]
  refine zr_iff hM rfl rfl h2 ?_
  refine zr_fr hM rfl rfl rfl ?_
  refine zr_fr hM rfl rfl rfl ?_
  refine zr_virt (κ := (22, 0, 0)) hn hM rfl rfl rfl rfl rfl rfl rfl rfl rfl ?_
  refine zgo_ret rfl rfl c3_ ?_
  rw [Bool.and_true]
  refine zr_iff hM rfl rfl h4 ?_
  refine zr_fr hM rfl rfl rfl ?_
  refine zr_fr hM rfl rfl rfl ?_
  refine zr_icf hM rfl rfl h5 ?_
  refine zr_fr hM rfl rfl rfl ?_
  refine zr_fr hM rfl rfl rfl ?_
  refine zr_putf (κ := (22, 0, 0)) hn hM rfl rfl rfl rfl rfl rfl rfl rfl ?_
  refine zr_fr hM rfl rfl rfl ?_
  refine zr_getf (κ := (22, 0, 0)) hn hM rfl rfl rfl rfl ?_
  refine zr_ift hM rfl rfl h6 ?_
  refine zr_fr hM rfl rfl rfl ?_
  refine zr_fr hM rfl rfl rfl ?_
  refine zr_fr hM rfl rfl rfl ?_
  refine zr_fr hM rfl rfl rfl ?_
  refine zr_fr hM rfl rfl rfl ?_
  refine zr_fr hM rfl rfl rfl ?_
  refine zr_virt (κ := (22, 0, 0)) hn hM rfl rfl rfl rfl rfl rfl rfl rfl rfl ?_
  refine zgo_ret rfl rfl c7_ ?_
  rw [Bool.and_true]
  refine zr_iff hM rfl rfl h8 ?_
  refine zr_fr hM rfl rfl rfl ?_
  refine zr_fr hM rfl rfl rfl ?_
  refine zr_putf (κ := (22, 0, 0)) hn hM rfl rfl rfl rfl rfl rfl rfl rfl ?_
  refine zr_fr hM rfl rfl rfl ?_
  refine zr_getf (κ := (22, 0, 0)) hn hM rfl rfl rfl rfl ?_
  refine zr_ift hM rfl rfl h9 ?_
  refine zr_fr hM rfl rfl rfl ?_
  refine zr_fr hM rfl rfl rfl ?_
  refine zr_fr hM rfl rfl rfl ?_
  refine zr_fr hM rfl rfl rfl ?_
  refine zr_fr hM rfl rfl rfl ?_
  refine zr_virt (κ := (22, 0, 0)) hn hM rfl rfl rfl rfl rfl rfl rfl rfl rfl ?_
  refine zgo_ret rfl rfl c10_ ?_
  rw [Bool.false_and]
  exact zr_iret2 hM rfl rfl rfl
set_option maxHeartbeats 4000000 in
theorem s129_0_fffttf {n L : Nat} {σ : Ks} {g : List Nat} {cl : Bool} {p1 : Int32} {p2 : Int32} {p3 : Int32} {p4 : Int32} {r1 : Int32} {r3 : Int32} {r7 : Int32} (hn : 2 ≤ n ∧ n ≤ 5) (c1_ : ZR 118 0 [.val (.ref (kad n (22, 0, 0))), .val (.int p1), .val (.int p3), .val (.int p4)] [] (khp n L σ g) true (.inl (some (.int r1)), khp n L σ g, true)) (h2 : zcnd .eq r1 0 = false) (c3_ : ZR 119 0 [.val (.ref (kad n (22, 0, 0))), .val (.int p2)] [] (khp n L σ g) true (.inl (some (.int r3)), khp n L σ g, true)) (h4 : zcnd .eq r3 0 = false) (h5 : zcnd .eq p2 p1 = false) (h6 : zcnd .le ((kup σ 42 0 (Int32.ofInt 0)) 42 0) 0 = true) (c7_ : ZR 108 0 [.val (.ref (kad n (22, 0, 0))), .val (.int p1), .val (.int p2), .val (.int p3), .val (.int p4), .unset, .unset] [] (khp n L (kup σ 42 0 (Int32.ofInt 0)) g) true (.inl (some (.int r7)), khp n L (kup σ 42 0 (Int32.ofInt 0)) g, true)) (h8 : zcnd .eq r7 0 = true) (h9 : zcnd .le ((kup (kup σ 42 0 (Int32.ofInt 0)) 42 0 (Int32.ofInt 2)) 42 0) 0 = false) : ZR 129 0 [.val (.ref (kad n (22, 0, 0))), .val (.int p1), .val (.int p2), .val (.int p3), .val (.int p4)] [] (khp n L σ g) cl (.inl (some (.int (Int32.ofInt 0))), khp n L (kup (kup σ 42 0 (Int32.ofInt 0)) 42 0 (Int32.ofInt 2)) (g), false) := by
  have hM : zmi[129]? = some _ := rfl
  refine zr_fr hM rfl rfl rfl ?_
  refine zr_fr hM rfl rfl rfl ?_
  refine zr_fr hM rfl rfl rfl ?_
  refine zr_fr hM rfl rfl rfl ?_
  refine zr_fr hM rfl rfl rfl ?_
  refine zr_virt (κ := (22, 0, 0)) hn hM rfl rfl rfl rfl rfl rfl rfl rfl rfl ?_
  refine zgo_ret rfl rfl c1_ ?_
  rw [Bool.and_true]
  refine zr_iff hM rfl rfl h2 ?_
  refine zr_fr hM rfl rfl rfl ?_
  refine zr_fr hM rfl rfl rfl ?_
  refine zr_virt (κ := (22, 0, 0)) hn hM rfl rfl rfl rfl rfl rfl rfl rfl rfl ?_
  refine zgo_ret rfl rfl c3_ ?_
  rw [Bool.and_true]
  refine zr_iff hM rfl rfl h4 ?_
  refine zr_fr hM rfl rfl rfl ?_
  refine zr_fr hM rfl rfl rfl ?_
  refine zr_icf hM rfl rfl h5 ?_
  refine zr_fr hM rfl rfl rfl ?_
  refine zr_fr hM rfl rfl rfl ?_
  refine zr_putf (κ := (22, 0, 0)) hn hM rfl rfl rfl rfl rfl rfl rfl rfl ?_
  refine zr_fr hM rfl rfl rfl ?_
  refine zr_getf (κ := (22, 0, 0)) hn hM rfl rfl rfl rfl ?_
  refine zr_ift hM rfl rfl h6 ?_
  refine zr_fr hM rfl rfl rfl ?_
  refine zr_fr hM rfl rfl rfl ?_
  refine zr_fr hM rfl rfl rfl ?_
  refine zr_fr hM rfl rfl rfl ?_
  refine zr_fr hM rfl rfl rfl ?_
  refine zr_fr hM rfl rfl rfl ?_
  refine zr_virt (κ := (22, 0, 0)) hn hM rfl rfl rfl rfl rfl rfl rfl rfl rfl ?_
  refine zgo_ret rfl rfl c7_ ?_
  rw [Bool.and_true]
  refine zr_ift hM rfl rfl h8 ?_
  refine zr_fr hM rfl rfl rfl ?_
  refine zr_putf (κ := (22, 0, 0)) hn hM rfl rfl rfl rfl rfl rfl rfl rfl ?_
  refine zr_fr hM rfl rfl rfl ?_
  refine zr_getf (κ := (22, 0, 0)) hn hM rfl rfl rfl rfl ?_
  refine zr_iff hM rfl rfl h9 ?_
  refine zr_fr hM rfl rfl rfl ?_
  refine zr_fr hM rfl rfl rfl ?_
  exact zr_iret2 hM rfl rfl rfl
set_option maxHeartbeats 4000000 in
theorem s129_0_fffttt {n L : Nat} {σ : Ks} {g : List Nat} {cl : Bool} {p1 : Int32} {p2 : Int32} {p3 : Int32} {p4 : Int32} {r1 : Int32} {r3 : Int32} {r7 : Int32} {σ10 : Ks} {c10 : Bool} {r10 : Int32} (hn : 2 ≤ n ∧ n ≤ 5) (c1_ : ZR 118 0 [.val (.ref (kad n (22, 0, 0))), .val (.int p1), .val (.int p3), .val (.int p4)] [] (khp n L σ g) true (.inl (some (.int r1)), khp n L σ g, true)) (h2 : zcnd .eq r1 0 = false) (c3_ : ZR 119 0 [.val (.ref (kad n (22, 0, 0))), .val (.int p2)] [] (khp n L σ g) true (.inl (some (.int r3)), khp n L σ g, true)) (h4 : zcnd .eq r3 0 = false) (h5 : zcnd .eq p2 p1 = false) (h6 : zcnd .le ((kup σ 42 0 (Int32.ofInt 0)) 42 0) 0 = true) (c7_ : ZR 108 0 [.val (.ref (kad n (22, 0, 0))), .val (.int p1), .val (.int p2), .val (.int p3), .val (.int p4), .unset, .unset] [] (khp n L (kup σ 42 0 (Int32.ofInt 0)) g) true (.inl (some (.int r7)), khp n L (kup σ 42 0 (Int32.ofInt 0)) g, true)) (h8 : zcnd .eq r7 0 = true) (h9 : zcnd .le ((kup (kup σ 42 0 (Int32.ofInt 0)) 42 0 (Int32.ofInt 2)) 42 0) 0 = true) (c10_ : ZR 109 0 [.val (.ref (kad n (22, 0, 0))), .val (.int p1), .val (.int p2), .val (.int p3), .val (.int p4), .unset, .unset, .unset] [] (khp n L (kup (kup σ 42 0 (Int32.ofInt 0)) 42 0 (Int32.ofInt 2)) g) true (.inl (some (.int r10)), khp n L σ10 g, c10)) : ZR 129 0 [.val (.ref (kad n (22, 0, 0))), .val (.int p1), .val (.int p2), .val (.int p3), .val (.int p4)] [] (khp n L σ g) cl (.inl (some (.int r10)), khp n L σ10 (g), false) := by
  have hM : zmi[129]? = some _ := rfl
  refine zr_fr hM rfl rfl rfl ?_
  refine zr_fr hM rfl rfl rfl ?_
  refine zr_fr hM rfl rfl rfl ?_
  refine zr_fr hM rfl rfl rfl ?_
  refine zr_fr hM rfl rfl rfl ?_
  refine zr_virt (κ := (22, 0, 0)) hn hM rfl rfl rfl rfl rfl rfl rfl rfl rfl ?_
  refine zgo_ret rfl rfl c1_ ?_
  rw [Bool.and_true]
  refine zr_iff hM rfl rfl h2 ?_
  refine zr_fr hM rfl rfl rfl ?_
  refine zr_fr hM rfl rfl rfl ?_
  refine zr_virt (κ := (22, 0, 0)) hn hM rfl rfl rfl rfl rfl rfl rfl rfl rfl ?_
  refine zgo_ret rfl rfl c3_ ?_
  rw [Bool.and_true]
  refine zr_iff hM rfl rfl h4 ?_
  refine zr_fr hM rfl rfl rfl ?_
  refine zr_fr hM rfl rfl rfl ?_
  refine zr_icf hM rfl rfl h5 ?_
  refine zr_fr hM rfl rfl rfl ?_
  refine zr_fr hM rfl rfl rfl ?_
  refine zr_putf (κ := (22, 0, 0)) hn hM rfl rfl rfl rfl rfl rfl rfl rfl ?_
  refine zr_fr hM rfl rfl rfl ?_
  refine zr_getf (κ := (22, 0, 0)) hn hM rfl rfl rfl rfl ?_
  refine zr_ift hM rfl rfl h6 ?_
  refine zr_fr hM rfl rfl rfl ?_
  refine zr_fr hM rfl rfl rfl ?_
  refine zr_fr hM rfl rfl rfl ?_
  refine zr_fr hM rfl rfl rfl ?_
  refine zr_fr hM rfl rfl rfl ?_
  refine zr_fr hM rfl rfl rfl ?_
  refine zr_virt (κ := (22, 0, 0)) hn hM rfl rfl rfl rfl rfl rfl rfl rfl rfl ?_
  refine zgo_ret rfl rfl c7_ ?_
  rw [Bool.and_true]
  refine zr_ift hM rfl rfl h8 ?_
  refine zr_fr hM rfl rfl rfl ?_
  refine zr_putf (κ := (22, 0, 0)) hn hM rfl rfl rfl rfl rfl rfl rfl rfl ?_
  refine zr_fr hM rfl rfl rfl ?_
  refine zr_getf (κ := (22, 0, 0)) hn hM rfl rfl rfl rfl ?_
  refine zr_ift hM rfl rfl h9 ?_
  refine zr_fr hM rfl rfl rfl ?_
  refine zr_fr hM rfl rfl rfl ?_
  refine zr_fr hM rfl rfl rfl ?_
  refine zr_fr hM rfl rfl rfl ?_
  refine zr_fr hM rfl rfl rfl ?_
  refine zr_virt (κ := (22, 0, 0)) hn hM rfl rfl rfl rfl rfl rfl rfl rfl rfl ?_
  refine zgo_ret rfl rfl c10_ ?_
  rw [Bool.false_and]
  exact zr_iret2 hM rfl rfl rfl
set_option maxHeartbeats 4000000 in
theorem s129_0_fftf {n L : Nat} {σ : Ks} {g : List Nat} {cl : Bool} {p1 : Int32} {p2 : Int32} {p3 : Int32} {p4 : Int32} {r1 : Int32} {r3 : Int32} (hn : 2 ≤ n ∧ n ≤ 5) (c1_ : ZR 118 0 [.val (.ref (kad n (22, 0, 0))), .val (.int p1), .val (.int p3), .val (.int p4)] [] (khp n L σ g) true (.inl (some (.int r1)), khp n L σ g, true)) (h2 : zcnd .eq r1 0 = false) (c3_ : ZR 119 0 [.val (.ref (kad n (22, 0, 0))), .val (.int p2)] [] (khp n L σ g) true (.inl (some (.int r3)), khp n L σ g, true)) (h4 : zcnd .eq r3 0 = false) (h5 : zcnd .eq p2 p1 = true) (h6 : zcnd .le ((kup σ 42 0 (Int32.ofInt 1)) 42 0) 0 = false) : ZR 129 0 [.val (.ref (kad n (22, 0, 0))), .val (.int p1), .val (.int p2), .val (.int p3), .val (.int p4)] [] (khp n L σ g) cl (.inl (some (.int (Int32.ofInt 0))), khp n L (kup σ 42 0 (Int32.ofInt 1)) (g), false) := by
  have hM : zmi[129]? = some _ := rfl
  refine zr_fr hM rfl rfl rfl ?_
  refine zr_fr hM rfl rfl rfl ?_
  refine zr_fr hM rfl rfl rfl ?_
  refine zr_fr hM rfl rfl rfl ?_
  refine zr_fr hM rfl rfl rfl ?_
  refine zr_virt (κ := (22, 0, 0)) hn hM rfl rfl rfl rfl rfl rfl rfl rfl rfl ?_
  refine zgo_ret rfl rfl c1_ ?_
  rw [Bool.and_true]
  refine zr_iff hM rfl rfl h2 ?_
  refine zr_fr hM rfl rfl rfl ?_
  refine zr_fr hM rfl rfl rfl ?_
  refine zr_virt (κ := (22, 0, 0)) hn hM rfl rfl rfl rfl rfl rfl rfl rfl rfl ?_
  refine zgo_ret rfl rfl c3_ ?_
  rw [Bool.and_true]
  refine zr_iff hM rfl rfl h4 ?_
  refine zr_fr hM rfl rfl rfl ?_
  refine zr_fr hM rfl rfl rfl ?_
  refine zr_ict hM rfl rfl h5 ?_
  refine zr_fr hM rfl rfl rfl ?_
  refine zr_putf (κ := (22, 0, 0)) hn hM rfl rfl rfl rfl rfl rfl rfl rfl ?_
  refine zr_fr hM rfl rfl rfl ?_
  refine zr_getf (κ := (22, 0, 0)) hn hM rfl rfl rfl rfl ?_
  refine zr_iff hM rfl rfl h6 ?_
  refine zr_fr hM rfl rfl rfl ?_
  exact zr_iret2 hM rfl rfl rfl
set_option maxHeartbeats 4000000 in
theorem s129_0_ffttff {n L : Nat} {σ : Ks} {g : List Nat} {cl : Bool} {p1 : Int32} {p2 : Int32} {p3 : Int32} {p4 : Int32} {r1 : Int32} {r3 : Int32} {r7 : Int32} (hn : 2 ≤ n ∧ n ≤ 5) (c1_ : ZR 118 0 [.val (.ref (kad n (22, 0, 0))), .val (.int p1), .val (.int p3), .val (.int p4)] [] (khp n L σ g) true (.inl (some (.int r1)), khp n L σ g, true)) (h2 : zcnd .eq r1 0 = false) (c3_ : ZR 119 0 [.val (.ref (kad n (22, 0, 0))), .val (.int p2)] [] (khp n L σ g) true (.inl (some (.int r3)), khp n L σ g, true)) (h4 : zcnd .eq r3 0 = false) (h5 : zcnd .eq p2 p1 = true) (h6 : zcnd .le ((kup σ 42 0 (Int32.ofInt 1)) 42 0) 0 = true) (c7_ : ZR 108 0 [.val (.ref (kad n (22, 0, 0))), .val (.int p1), .val (.int p2), .val (.int p3), .val (.int p4), .unset, .unset] [] (khp n L (kup σ 42 0 (Int32.ofInt 1)) g) true (.inl (some (.int r7)), khp n L (kup σ 42 0 (Int32.ofInt 1)) g, true)) (h8 : zcnd .eq r7 0 = false) (h9 : zcnd .le ((kup (kup σ 42 0 (Int32.ofInt 1)) 42 0 (Int32.ofInt 0)) 42 0) 0 = false) : ZR 129 0 [.val (.ref (kad n (22, 0, 0))), .val (.int p1), .val (.int p2), .val (.int p3), .val (.int p4)] [] (khp n L σ g) cl (.inl (some (.int (Int32.ofInt 0))), khp n L (kup (kup σ 42 0 (Int32.ofInt 1)) 42 0 (Int32.ofInt 0)) (g), false) := by
  have hM : zmi[129]? = some _ := rfl
  refine zr_fr hM rfl rfl rfl ?_
  refine zr_fr hM rfl rfl rfl ?_
  refine zr_fr hM rfl rfl rfl ?_
  refine zr_fr hM rfl rfl rfl ?_
  refine zr_fr hM rfl rfl rfl ?_
  refine zr_virt (κ := (22, 0, 0)) hn hM rfl rfl rfl rfl rfl rfl rfl rfl rfl ?_
  refine zgo_ret rfl rfl c1_ ?_
  rw [Bool.and_true]
  refine zr_iff hM rfl rfl h2 ?_
  refine zr_fr hM rfl rfl rfl ?_
  refine zr_fr hM rfl rfl rfl ?_
  refine zr_virt (κ := (22, 0, 0)) hn hM rfl rfl rfl rfl rfl rfl rfl rfl rfl ?_
  refine zgo_ret rfl rfl c3_ ?_
  rw [Bool.and_true]
  refine zr_iff hM rfl rfl h4 ?_
  refine zr_fr hM rfl rfl rfl ?_
  refine zr_fr hM rfl rfl rfl ?_
  refine zr_ict hM rfl rfl h5 ?_
  refine zr_fr hM rfl rfl rfl ?_
  refine zr_putf (κ := (22, 0, 0)) hn hM rfl rfl rfl rfl rfl rfl rfl rfl ?_
  refine zr_fr hM rfl rfl rfl ?_
  refine zr_getf (κ := (22, 0, 0)) hn hM rfl rfl rfl rfl ?_
  refine zr_ift hM rfl rfl h6 ?_
  refine zr_fr hM rfl rfl rfl ?_
  refine zr_fr hM rfl rfl rfl ?_
  refine zr_fr hM rfl rfl rfl ?_
  refine zr_fr hM rfl rfl rfl ?_
  refine zr_fr hM rfl rfl rfl ?_
  refine zr_fr hM rfl rfl rfl ?_
  refine zr_virt (κ := (22, 0, 0)) hn hM rfl rfl rfl rfl rfl rfl rfl rfl rfl ?_
  refine zgo_ret rfl rfl c7_ ?_
  rw [Bool.and_true]
  refine zr_iff hM rfl rfl h8 ?_
  refine zr_fr hM rfl rfl rfl ?_
  refine zr_fr hM rfl rfl rfl ?_
  refine zr_putf (κ := (22, 0, 0)) hn hM rfl rfl rfl rfl rfl rfl rfl rfl ?_
  refine zr_fr hM rfl rfl rfl ?_
  refine zr_getf (κ := (22, 0, 0)) hn hM rfl rfl rfl rfl ?_
  refine zr_iff hM rfl rfl h9 ?_
  refine zr_fr hM rfl rfl rfl ?_
  refine zr_fr hM rfl rfl rfl ?_
  exact zr_iret2 hM rfl rfl rfl
set_option maxHeartbeats 4000000 in
theorem s129_0_ffttft {n L : Nat} {σ : Ks} {g : List Nat} {cl : Bool} {p1 : Int32} {p2 : Int32} {p3 : Int32} {p4 : Int32} {r1 : Int32} {r3 : Int32} {r7 : Int32} {σ10 : Ks} {c10 : Bool} {r10 : Int32} (hn : 2 ≤ n ∧ n ≤ 5) (c1_ : ZR 118 0 [.val (.ref (kad n (22, 0, 0))), .val (.int p1), .val (.int p3), .val (.int p4)] [] (khp n L σ g) true (.inl (some (.int r1)), khp n L σ g, true)) (h2 : zcnd .eq r1 0 = false) (c3_ : ZR 119 0 [.val (.ref (kad n (22, 0, 0))), .val (.int p2)] [] (khp n L σ g) true (.inl (some (.int r3)), khp n L σ g, true)) (h4 : zcnd .eq r3 0 = false) (h5 : zcnd .eq p2 p1 = true) (h6 : zcnd .le ((kup σ 42 0 (Int32.ofInt 1)) 42 0) 0 = true) (c7_ : ZR 108 0 [.val (.ref (kad n (22, 0, 0))), .val (.int p1), .val (.int p2), .val (.int p3), .val (.int p4), .unset, .unset] [] (khp n L (kup σ 42 0 (Int32.ofInt 1)) g) true (.inl (some (.int r7)), khp n L (kup σ 42 0 (Int32.ofInt 1)) g, true)) (h8 : zcnd .eq r7 0 = false) (h9 : zcnd .le ((kup (kup σ 42 0 (Int32.ofInt 1)) 42 0 (Int32.ofInt 0)) 42 0) 0 = true) (c10_ : ZR 109 0 [.val (.ref (kad n (22, 0, 0))), .val (.int p1), .val (.int p2), .val (.int p3), .val (.int p4), .unset, .unset, .unset] [] (khp n L (kup (kup σ 42 0 (Int32.ofInt 1)) 42 0 (Int32.ofInt 0)) g) true (.inl (some (.int r10)), khp n L σ10 g, c10)) : ZR 129 0 [.val (.ref (kad n (22, 0, 0))), .val (.int p1), .val (.int p2), .val (.int p3), .val (.int p4)] [] (khp n L σ g) cl (.inl (some (.int r10)), khp n L σ10 (g), false) := by
  have hM : zmi[129]? = some _ := rfl
  refine zr_fr hM rfl rfl rfl ?_
  refine zr_fr hM rfl rfl rfl ?_
  refine zr_fr hM rfl rfl rfl ?_
  refine zr_fr hM rfl rfl rfl ?_
  refine zr_fr hM rfl rfl rfl ?_
  refine zr_virt (κ := (22, 0, 0)) hn hM rfl rfl rfl rfl rfl rfl rfl rfl rfl ?_
  refine zgo_ret rfl rfl c1_ ?_
  rw [Bool.and_true]
  refine zr_iff hM rfl rfl h2 ?_
  refine zr_fr hM rfl rfl rfl ?_
  refine zr_fr hM rfl rfl rfl ?_
  refine zr_virt (κ := (22, 0, 0)) hn hM rfl rfl rfl rfl rfl rfl rfl rfl rfl ?_
  refine zgo_ret rfl rfl c3_ ?_
  rw [Bool.and_true]
  refine zr_iff hM rfl rfl h4 ?_
  refine zr_fr hM rfl rfl rfl ?_
  refine zr_fr hM rfl rfl rfl ?_
  refine zr_ict hM rfl rfl h5 ?_
  refine zr_fr hM rfl rfl rfl ?_
  refine zr_putf (κ := (22, 0, 0)) hn hM rfl rfl rfl rfl rfl rfl rfl rfl ?_
  refine zr_fr hM rfl rfl rfl ?_
  refine zr_getf (κ := (22, 0, 0)) hn hM rfl rfl rfl rfl ?_
  refine zr_ift hM rfl rfl h6 ?_
  refine zr_fr hM rfl rfl rfl ?_
  refine zr_fr hM rfl rfl rfl ?_
  refine zr_fr hM rfl rfl rfl ?_
  refine zr_fr hM rfl rfl rfl ?_
  refine zr_fr hM rfl rfl rfl ?_
  refine zr_fr hM rfl rfl rfl ?_
  refine zr_virt (κ := (22, 0, 0)) hn hM rfl rfl rfl rfl rfl rfl rfl rfl rfl ?_
  refine zgo_ret rfl rfl c7_ ?_
  rw [Bool.and_true]
  refine zr_iff hM rfl rfl h8 ?_
  refine zr_fr hM rfl rfl rfl ?_
  refine zr_fr hM rfl rfl rfl ?_
  refine zr_putf (κ := (22, 0, 0)) hn hM rfl rfl rfl rfl rfl rfl rfl rfl ?_
  refine zr_fr hM rfl rfl rfl ?_
  refine zr_getf (κ := (22, 0, 0)) hn hM rfl rfl rfl rfl ?_
  refine zr_ift hM rfl rfl h9 ?_
  refine zr_fr hM rfl rfl rfl ?_
  refine zr_fr hM rfl rfl rfl ?_
  refine zr_fr hM rfl rfl rfl ?_
  refine zr_fr hM rfl rfl rfl ?_
  refine zr_fr hM rfl rfl rfl ?_
  refine zr_virt (κ := (22, 0, 0)) hn hM rfl rfl rfl rfl rfl rfl rfl rfl rfl ?_
  refine zgo_ret rfl rfl c10_ ?_
  rw [Bool.false_and]
  exact zr_iret2 hM rfl rfl rfl
set_option maxHeartbeats 4000000 in
theorem s129_0_fftttf {n L : Nat} {σ : Ks} {g : List Nat} {cl : Bool} {p1 : Int32} {p2 : Int32} {p3 : Int32} {p4 : Int32} {r1 : Int32} {r3 : Int32} {r7 : Int32} (hn : 2 ≤ n ∧ n ≤ 5) (c1_ : ZR 118 0 [.val (.ref (kad n (22, 0, 0))), .val (.int p1), .val (.int p3), .val (.int p4)] [] (khp n L σ g) true (.inl (some (.int r1)), khp n L σ g, true)) (h2 : zcnd .eq r1 0 = false) (c3_ : ZR 119 0 [.val (.ref (kad n (22, 0, 0))), .val (.int p2)] [] (khp n L σ g) true (.inl (some (.int r3)), khp n L σ g, true)) (h4 : zcnd .eq r3 0 = false) (h5 : zcnd .eq p2 p1 = true) (h6 : zcnd .le ((kup σ 42 0 (Int32.ofInt 1)) 42 0) 0 = true) (c7_ : ZR 108 0 [.val (.ref (kad n (22, 0, 0))), .val (.int p1), .val (.int p2), .val (.int p3), .val (.int p4), .unset, .unset] [] (khp n L (kup σ 42 0 (Int32.ofInt 1)) g) true (.inl (some (.int r7)), khp n L (kup σ 42 0 (Int32.ofInt 1)) g, true)) (h8 : zcnd .eq r7 0 = true) (h9 : zcnd .le ((kup (kup σ 42 0 (Int32.ofInt 1)) 42 0 (Int32.ofInt 2)) 42 0) 0 = false) : ZR 129 0 [.val (.ref (kad n (22, 0, 0))), .val (.int p1), .val (.int p2), .val (.int p3), .val (.int p4)] [] (khp n L σ g) cl (.inl (some (.int (Int32.ofInt 0))), khp n L (kup (kup σ 42 0 (Int32.ofInt 1)) 42 0 (Int32.ofInt 2)) (g), false) := by
  have hM : zmi[129]? = some _ := rfl
  refine zr_fr hM rfl rfl rfl ?_
  refine zr_fr hM rfl rfl rfl ?_
  refine zr_fr hM rfl rfl rfl ?_
  refine zr_fr hM rfl rfl rfl ?_
  refine zr_fr hM rfl rfl rfl ?_
  refine zr_virt (κ := (22, 0, 0)) hn hM rfl rfl rfl rfl rfl rfl rfl rfl rfl ?_
  refine zgo_ret rfl rfl c1_ ?_
  rw [Bool.and_true]
  refine zr_iff hM rfl rfl h2 ?_
  refine zr_fr hM rfl rfl rfl ?_
  refine zr_fr hM rfl rfl rfl ?_
  refine zr_virt (κ := (22, 0, 0)) hn hM rfl rfl rfl rfl rfl rfl rfl rfl rfl ?_
  refine zgo_ret rfl rfl c3_ ?_
  rw [Bool.and_true]
  refine zr_iff hM rfl rfl h4 ?_
  refine zr_fr hM rfl rfl rfl ?_
  refine zr_fr hM rfl rfl rfl ?_
  refine zr_ict hM rfl rfl h5 ?_
  refine zr_fr hM rfl rfl rfl ?_
  refine zr_putf (κ := (22, 0, 0)) hn hM rfl rfl rfl rfl rfl rfl rfl rfl ?_
  refine zr_fr hM rfl rfl rfl ?_
  refine zr_getf (κ := (22, 0, 0)) hn hM rfl rfl rfl rfl ?_
  refine zr_ift hM rfl rfl h6 ?_
  refine zr_fr hM rfl rfl rfl ?_
  refine zr_fr hM rfl rfl rfl ?_
  refine zr_fr hM rfl rfl rfl ?_
  refine zr_fr hM rfl rfl rfl ?_
  refine zr_fr hM rfl rfl rfl ?_
  refine zr_fr hM rfl rfl rfl ?_
  refine zr_virt (κ := (22, 0, 0)) hn hM rfl rfl rfl rfl rfl rfl rfl rfl rfl ?_
  refine zgo_ret rfl rfl c7_ ?_
  rw [Bool.and_true]
  refine zr_ift hM rfl rfl h8 ?_
  refine zr_fr hM rfl rfl rfl ?_
  refine zr_putf (κ := (22, 0, 0)) hn hM rfl rfl rfl rfl rfl rfl rfl rfl ?_
  refine zr_fr hM rfl rfl rfl ?_
  refine zr_getf (κ := (22, 0, 0)) hn hM rfl rfl rfl rfl ?_
  refine zr_iff hM rfl rfl h9 ?_
  refine zr_fr hM rfl rfl rfl ?_
  refine zr_fr hM rfl rfl rfl ?_
  exact zr_iret2 hM rfl rfl rfl
set_option maxHeartbeats 4000000 in
theorem s129_0_fftttt {n L : Nat} {σ : Ks} {g : List Nat} {cl : Bool} {p1 : Int32} {p2 : Int32} {p3 : Int32} {p4 : Int32} {r1 : Int32} {r3 : Int32} {r7 : Int32} {σ10 : Ks} {c10 : Bool} {r10 : Int32} (hn : 2 ≤ n ∧ n ≤ 5) (c1_ : ZR 118 0 [.val (.ref (kad n (22, 0, 0))), .val (.int p1), .val (.int p3), .val (.int p4)] [] (khp n L σ g) true (.inl (some (.int r1)), khp n L σ g, true)) (h2 : zcnd .eq r1 0 = false) (c3_ : ZR 119 0 [.val (.ref (kad n (22, 0, 0))), .val (.int p2)] [] (khp n L σ g) true (.inl (some (.int r3)), khp n L σ g, true)) (h4 : zcnd .eq r3 0 = false) (h5 : zcnd .eq p2 p1 = true) (h6 : zcnd .le ((kup σ 42 0 (Int32.ofInt 1)) 42 0) 0 = true) (c7_ : ZR 108 0 [.val (.ref (kad n (22, 0, 0))), .val (.int p1), .val (.int p2), .val (.int p3), .val (.int p4), .unset, .unset] [] (khp n L (kup σ 42 0 (Int32.ofInt 1)) g) true (.inl (some (.int r7)), khp n L (kup σ 42 0 (Int32.ofInt 1)) g, true)) (h8 : zcnd .eq r7 0 = true) (h9 : zcnd .le ((kup (kup σ 42 0 (Int32.ofInt 1)) 42 0 (Int32.ofInt 2)) 42 0) 0 = true) (c10_ : ZR 109 0 [.val (.ref (kad n (22, 0, 0))), .val (.int p1), .val (.int p2), .val (.int p3), .val (.int p4), .unset, .unset, .unset] [] (khp n L (kup (kup σ 42 0 (Int32.ofInt 1)) 42 0 (Int32.ofInt 2)) g) true (.inl (some (.int r10)), khp n L σ10 g, c10)) : ZR 129 0 [.val (.ref (kad n (22, 0, 0))), .val (.int p1), .val (.int p2), .val (.int p3), .val (.int p4)] [] (khp n L σ g) cl (.inl (some (.int r10)), khp n L σ10 (g), false) := by
  have hM : zmi[129]? = some _ := rfl
  refine zr_fr hM rfl rfl rfl ?_
  refine zr_fr hM rfl rfl rfl ?_
  refine zr_fr hM rfl rfl rfl ?_
  refine zr_fr hM rfl rfl rfl ?_
  refine zr_fr hM rfl rfl rfl ?_
  refine zr_virt (κ := (22, 0, 0)) hn hM rfl rfl rfl rfl rfl rfl rfl rfl rfl ?_
  refine zgo_ret rfl rfl c1_ ?_
  rw [Bool.and_true]
  refine zr_iff hM rfl rfl h2 ?_
  refine zr_fr hM rfl rfl rfl ?_
  refine zr_fr hM rfl rfl rfl ?_
  refine zr_virt (κ := (22, 0, 0)) hn hM rfl rfl rfl rfl rfl rfl rfl rfl rfl ?_
  refine zgo_ret rfl rfl c3_ ?_
  rw [Bool.and_true]
  refine zr_iff hM rfl rfl h4 ?_
  refine zr_fr hM rfl rfl rfl ?_
  refine zr_fr hM rfl rfl rfl ?_
  refine zr_ict hM rfl rfl h5 ?_
  refine zr_fr hM rfl rfl rfl ?_
  refine zr_putf (κ := (22, 0, 0)) hn hM rfl rfl rfl rfl rfl rfl rfl rfl ?_
  refine zr_fr hM rfl rfl rfl ?_
  refine zr_getf (κ := (22, 0, 0)) hn hM rfl rfl rfl rfl ?_
  refine zr_ift hM rfl rfl h6 ?_
  refine zr_fr hM rfl rfl rfl ?_
  refine zr_fr hM rfl rfl rfl ?_
  refine zr_fr hM rfl rfl rfl ?_
  refine zr_fr hM rfl rfl rfl ?_
  refine zr_fr hM rfl rfl rfl ?_
  refine zr_fr hM rfl rfl rfl ?_
  refine zr_virt (κ := (22, 0, 0)) hn hM rfl rfl rfl rfl rfl rfl rfl rfl rfl ?_
  refine zgo_ret rfl rfl c7_ ?_
  rw [Bool.and_true]
  refine zr_ift hM rfl rfl h8 ?_
  refine zr_fr hM rfl rfl rfl ?_
  refine zr_putf (κ := (22, 0, 0)) hn hM rfl rfl rfl rfl rfl rfl rfl rfl ?_
  refine zr_fr hM rfl rfl rfl ?_
  refine zr_getf (κ := (22, 0, 0)) hn hM rfl rfl rfl rfl ?_
  refine zr_ift hM rfl rfl h9 ?_
  refine zr_fr hM rfl rfl rfl ?_
  refine zr_fr hM rfl rfl rfl ?_
  refine zr_fr hM rfl rfl rfl ?_
  refine zr_fr hM rfl rfl rfl ?_
  refine zr_fr hM rfl rfl rfl ?_
  refine zr_virt (κ := (22, 0, 0)) hn hM rfl rfl rfl rfl rfl rfl rfl rfl rfl ?_
  refine zgo_ret rfl rfl c10_ ?_
  rw [Bool.false_and]
  exact zr_iret2 hM rfl rfl rfl
set_option maxHeartbeats 4000000 in
theorem s129_0_ftf {n L : Nat} {σ : Ks} {g : List Nat} {cl : Bool} {p1 : Int32} {p2 : Int32} {p3 : Int32} {p4 : Int32} {r1 : Int32} {r3 : Int32} (hn : 2 ≤ n ∧ n ≤ 5) (c1_ : ZR 118 0 [.val (.ref (kad n (22, 0, 0))), .val (.int p1), .val (.int p3), .val (.int p4)] [] (khp n L σ g) true (.inl (some (.int r1)), khp n L σ g, true)) (h2 : zcnd .eq r1 0 = false) (c3_ : ZR 119 0 [.val (.ref (kad n (22, 0, 0))), .val (.int p2)] [] (khp n L σ g) true (.inl (some (.int r3)), khp n L σ g, true)) (h4 : zcnd .eq r3 0 = true) (h5 : zcnd .le ((kup σ 42 0 (Int32.ofInt 1)) 42 0) 0 = false) : ZR 129 0 [.val (.ref (kad n (22, 0, 0))), .val (.int p1), .val (.int p2), .val (.int p3), .val (.int p4)] [] (khp n L σ g) cl (.inl (some (.int (Int32.ofInt 0))), khp n L (kup σ 42 0 (Int32.ofInt 1)) (g), false) := by
  have hM : zmi[129]? = some _ := rfl
  refine zr_fr hM rfl rfl rfl ?_
  refine zr_fr hM rfl rfl rfl ?_
  refine zr_fr hM rfl rfl rfl ?_
  refine zr_fr hM rfl rfl rfl ?_
  refine zr_fr hM rfl rfl rfl ?_
  refine zr_virt (κ := (22, 0, 0)) hn hM rfl rfl rfl rfl rfl rfl rfl rfl rfl ?_
  refine zgo_ret rfl rfl c1_ ?_
  rw [Bool.and_true]
  refine zr_iff hM rfl rfl h2 ?_
  refine zr_fr hM rfl rfl rfl ?_
  refine zr_fr hM rfl rfl rfl ?_
  refine zr_virt (κ := (22, 0, 0)) hn hM rfl rfl rfl rfl rfl rfl rfl rfl rfl ?_
  refine zgo_ret rfl rfl c3_ ?_
  rw [Bool.and_true]
  refine zr_ift hM rfl rfl h4 ?_
  refine zr_fr hM rfl rfl rfl ?_
  refine zr_putf (κ := (22, 0, 0)) hn hM rfl rfl rfl rfl rfl rfl rfl rfl ?_
  refine zr_fr hM rfl rfl rfl ?_
  refine zr_getf (κ := (22, 0, 0)) hn hM rfl rfl rfl rfl ?_
  refine zr_iff hM rfl rfl h5 ?_
  refine zr_fr hM rfl rfl rfl ?_
  exact zr_iret2 hM rfl rfl rfl
set_option maxHeartbeats 4000000 in
theorem s129_0_fttff {n L : Nat} {σ : Ks} {g : List Nat} {cl : Bool} {p1 : Int32} {p2 : Int32} {p3 : Int32} {p4 : Int32} {r1 : Int32} {r3 : Int32} {r6 : Int32} (hn : 2 ≤ n ∧ n ≤ 5) (c1_ : ZR 118 0 [.val (.ref (kad n (22, 0, 0))), .val (.int p1), .val (.int p3), .val (.int p4)] [] (khp n L σ g) true (.inl (some (.int r1)), khp n L σ g, true)) (h2 : zcnd .eq r1 0 = false) (c3_ : ZR 119 0 [.val (.ref (kad n (22, 0, 0))), .val (.int p2)] [] (khp n L σ g) true (.inl (some (.int r3)), khp n L σ g, true)) (h4 : zcnd .eq r3 0 = true) (h5 : zcnd .le ((kup σ 42 0 (Int32.ofInt 1)) 42 0) 0 = true) (c6_ : ZR 108 0 [.val (.ref (kad n (22, 0, 0))), .val (.int p1), .val (.int p2), .val (.int p3), .val (.int p4), .unset, .unset] [] (khp n L (kup σ 42 0 (Int32.ofInt 1)) g) true (.inl (some (.int r6)), khp n L (kup σ 42 0 (Int32.ofInt 1)) g, true)) (h7 : zcnd .eq r6 0 = false) (h8 : zcnd .le ((kup (kup σ 42 0 (Int32.ofInt 1)) 42 0 (Int32.ofInt 0)) 42 0) 0 = false) : ZR 129 0 [.val (.ref (kad n (22, 0, 0))), .val (.int p1), .val (.int p2), .val (.int p3), .val (.int p4)] [] (khp n L σ g) cl (.inl (some (.int (Int32.ofInt 0))), khp n L (kup (kup σ 42 0 (Int32.ofInt 1)) 42 0 (Int32.ofInt 0)) (g), false) := by
  have hM : zmi[129]? = some _ := rfl
  refine zr_fr hM rfl rfl rfl ?_
  refine zr_fr hM rfl rfl rfl ?_
  refine zr_fr hM rfl rfl rfl ?_
  refine zr_fr hM rfl rfl rfl ?_
  refine zr_fr hM rfl rfl rfl ?_
  refine zr_virt (κ := (22, 0, 0)) hn hM rfl rfl rfl rfl rfl rfl rfl rfl rfl ?_
  refine zgo_ret rfl rfl c1_ ?_
  rw [Bool.and_true]
  refine zr_iff hM rfl rfl h2 ?_
  refine zr_fr hM rfl rfl rfl ?_
  refine zr_fr hM rfl rfl rfl ?_
  refine zr_virt (κ := (22, 0, 0)) hn hM rfl rfl rfl rfl rfl rfl rfl rfl rfl ?_
  refine zgo_ret rfl rfl c3_ ?_
  rw [Bool.and_true]
  refine zr_ift hM rfl rfl h4 ?_
  refine zr_fr hM rfl rfl rfl ?_
  refine zr_putf (κ := (22, 0, 0)) hn hM rfl rfl rfl rfl rfl rfl rfl rfl ?_
  refine zr_fr hM rfl rfl rfl ?_
  refine zr_getf (κ := (22, 0, 0)) hn hM rfl rfl rfl rfl ?_
  refine zr_ift hM rfl rfl h5 ?_
  refine zr_fr hM rfl rfl rfl ?_
  refine zr_fr hM rfl rfl rfl ?_
  refine zr_fr hM rfl rfl rfl ?_
  refine zr_fr hM rfl rfl rfl ?_
  refine zr_fr hM rfl rfl rfl ?_
  refine zr_fr hM rfl rfl rfl ?_
  refine zr_virt (κ := (22, 0, 0)) hn hM rfl rfl rfl rfl rfl rfl rfl rfl rfl ?_
  refine zgo_ret rfl rfl c6_ ?_
  rw [Bool.and_true]
  refine zr_iff hM rfl rfl h7 ?_
  refine zr_fr hM rfl rfl rfl ?_
  refine zr_fr hM rfl rfl rfl ?_
  refine zr_putf (κ := (22, 0, 0)) hn hM rfl rfl rfl rfl rfl rfl rfl rfl ?_
  refine zr_fr hM rfl rfl rfl ?_
  refine zr_getf (κ := (22, 0, 0)) hn hM rfl rfl rfl rfl ?_
  refine zr_iff hM rfl rfl h8 ?_
  refine zr_fr hM rfl rfl rfl ?_
  refine zr_fr hM rfl rfl rfl ?_
  exact zr_iret2 hM rfl rfl rfl
set_option maxHeartbeats 4000000 in
theorem s129_0_fttft {n L : Nat} {σ : Ks} {g : List Nat} {cl : Bool} {p1 : Int32} {p2 : Int32} {p3 : Int32} {p4 : Int32} {r1 : Int32} {r3 : Int32} {r6 : Int32} {σ9 : Ks} {c9 : Bool} {r9 : Int32} (hn : 2 ≤ n ∧ n ≤ 5) (c1_ : ZR 118 0 [.val (.ref (kad n (22, 0, 0))), .val (.int p1), .val (.int p3), .val (.int p4)] [] (khp n L σ g) true (.inl (some (.int r1)), khp n L σ g, true)) (h2 : zcnd .eq r1 0 = false) (c3_ : ZR 119 0 [.val (.ref (kad n (22, 0, 0))), .val (.int p2)] [] (khp n L σ g) true (.inl (some (.int r3)), khp n L σ g, true)) (h4 : zcnd .eq r3 0 = true) (h5 : zcnd .le ((kup σ 42 0 (Int32.ofInt 1)) 42 0) 0 = true) (c6_ : ZR 108 0 [.val (.ref (kad n (22, 0, 0))), .val (.int p1), .val (.int p2), .val (.int p3), .val (.int p4), .unset, .unset] [] (khp n L (kup σ 42 0 (Int32.ofInt 1)) g) true (.inl (some (.int r6)), khp n L (kup σ 42 0 (Int32.ofInt 1)) g, true)) (h7 : zcnd .eq r6 0 = false) (h8 : zcnd .le ((kup (kup σ 42 0 (Int32.ofInt 1)) 42 0 (Int32.ofInt 0)) 42 0) 0 = true) (c9_ : ZR 109 0 [.val (.ref (kad n (22, 0, 0))), .val (.int p1), .val (.int p2), .val (.int p3), .val (.int p4), .unset, .unset, .unset] [] (khp n L (kup (kup σ 42 0 (Int32.ofInt 1)) 42 0 (Int32.ofInt 0)) g) true (.inl (some (.int r9)), khp n L σ9 g, c9)) : ZR 129 0 [.val (.ref (kad n (22, 0, 0))), .val (.int p1), .val (.int p2), .val (.int p3), .val (.int p4)] [] (khp n L σ g) cl (.inl (some (.int r9)), khp n L σ9 (g), false) := by
  have hM : zmi[129]? = some _ := rfl
  refine zr_fr hM rfl rfl rfl ?_
  refine zr_fr hM rfl rfl rfl ?_
  refine zr_fr hM rfl rfl rfl ?_
  refine zr_fr hM rfl rfl rfl ?_
  refine zr_fr hM rfl rfl rfl ?_
  refine zr_virt (κ := (22, 0, 0)) hn hM rfl rfl rfl rfl rfl rfl rfl rfl rfl ?_
  refine zgo_ret rfl rfl c1_ ?_
  rw [Bool.and_true]
  refine zr_iff hM rfl rfl h2 ?_
  refine zr_fr hM rfl rfl rfl ?_
  refine zr_fr hM rfl rfl rfl ?_
  refine zr_virt (κ := (22, 0, 0)) hn hM rfl rfl rfl rfl rfl rfl rfl rfl rfl ?_
  refine zgo_ret rfl rfl c3_ ?_
  rw [Bool.and_true]
  refine zr_ift hM rfl rfl h4 ?_
  refine zr_fr hM rfl rfl rfl ?_
  refine zr_putf (κ := (22, 0, 0)) hn hM rfl rfl rfl rfl rfl rfl rfl rfl ?_
  refine zr_fr hM rfl rfl rfl ?_
  refine zr_getf (κ := (22, 0, 0)) hn hM rfl rfl rfl rfl ?_
  refine zr_ift hM rfl rfl h5 ?_
  refine zr_fr hM rfl rfl rfl ?_
  refine zr_fr hM rfl rfl rfl ?_
  refine zr_fr hM rfl rfl rfl ?_
  refine zr_fr hM rfl rfl rfl ?_
  refine zr_fr hM rfl rfl rfl ?_
  refine zr_fr hM rfl rfl rfl ?_
  refine zr_virt (κ := (22, 0, 0)) hn hM rfl rfl rfl rfl rfl rfl rfl rfl rfl ?_
  refine zgo_ret rfl rfl c6_ ?_
  rw [Bool.and_true]
  refine zr_iff hM rfl rfl h7 ?_
  refine zr_fr hM rfl rfl rfl ?_
  refine zr_fr hM rfl rfl rfl ?_
  refine zr_putf (κ := (22, 0, 0)) hn hM rfl rfl rfl rfl rfl rfl rfl rfl ?_
  refine zr_fr hM rfl rfl rfl ?_
  refine zr_getf (κ := (22, 0, 0)) hn hM rfl rfl rfl rfl ?_
  refine zr_ift hM rfl rfl h8 ?_
  refine zr_fr hM rfl rfl rfl ?_
  refine zr_fr hM rfl rfl rfl ?_
  refine zr_fr hM rfl rfl rfl ?_
  refine zr_fr hM rfl rfl rfl ?_
  refine zr_fr hM rfl rfl rfl ?_
  refine zr_virt (κ := (22, 0, 0)) hn hM rfl rfl rfl rfl rfl rfl rfl rfl rfl ?_
  refine zgo_ret rfl rfl c9_ ?_
  rw [Bool.false_and]
  exact zr_iret2 hM rfl rfl rfl
set_option maxHeartbeats 4000000 in
theorem s129_0_ftttf {n L : Nat} {σ : Ks} {g : List Nat} {cl : Bool} {p1 : Int32} {p2 : Int32} {p3 : Int32} {p4 : Int32} {r1 : Int32} {r3 : Int32} {r6 : Int32} (hn : 2 ≤ n ∧ n ≤ 5) (c1_ : ZR 118 0 [.val (.ref (kad n (22, 0, 0))), .val (.int p1), .val (.int p3), .val (.int p4)] [] (khp n L σ g) true (.inl (some (.int r1)), khp n L σ g, true)) (h2 : zcnd .eq r1 0 = false) (c3_ : ZR 119 0 [.val (.ref (kad n (22, 0, 0))), .val (.int p2)] [] (khp n L σ g) true (.inl (some (.int r3)), khp n L σ g, true)) (h4 : zcnd .eq r3 0 = true) (h5 : zcnd .le ((kup σ 42 0 (Int32.ofInt 1)) 42 0) 0 = true) (c6_ : ZR 108 0 [.val (.ref (kad n (22, 0, 0))), .val (.int p1), .val (.int p2), .val (.int p3), .val (.int p4), .unset, .unset] [] (khp n L (kup σ 42 0 (Int32.ofInt 1)) g) true (.inl (some (.int r6)), khp n L (kup σ 42 0 (Int32.ofInt 1)) g, true)) (h7 : zcnd .eq r6 0 = true) (h8 : zcnd .le ((kup (kup σ 42 0 (Int32.ofInt 1)) 42 0 (Int32.ofInt 2)) 42 0) 0 = false) : ZR 129 0 [.val (.ref (kad n (22, 0, 0))), .val (.int p1), .val (.int p2), .val (.int p3), .val (.int p4)] [] (khp n L σ g) cl (.inl (some (.int (Int32.ofInt 0))), khp n L (kup (kup σ 42 0 (Int32.ofInt 1)) 42 0 (Int32.ofInt 2)) (g), false) := by
  have hM : zmi[129]? = some _ := rfl
  refine zr_fr hM rfl rfl rfl ?_
  refine zr_fr hM rfl rfl rfl ?_
  refine zr_fr hM rfl rfl rfl ?_
  refine zr_fr hM rfl rfl rfl ?_
  refine zr_fr hM rfl rfl rfl ?_
  refine zr_virt (κ := (22, 0, 0)) hn hM rfl rfl rfl rfl rfl rfl rfl rfl rfl ?_
  refine zgo_ret rfl rfl c1_ ?_
  rw [Bool.and_true]
  refine zr_iff hM rfl rfl h2 ?_
  refine zr_fr hM rfl rfl rfl ?_
  refine zr_fr hM rfl rfl rfl ?_
  refine zr_virt (κ := (22, 0, 0)) hn hM rfl rfl rfl rfl rfl rfl rfl rfl rfl ?_
  refine zgo_ret rfl rfl c3_ ?_
  rw [Bool.and_true]
  refine zr_ift hM rfl rfl h4 ?_
  refine zr_fr hM rfl rfl rfl ?_
  refine zr_putf (κ := (22, 0, 0)) hn hM rfl rfl rfl rfl rfl rfl rfl rfl ?_
  refine zr_fr hM rfl rfl rfl ?_
  refine zr_getf (κ := (22, 0, 0)) hn hM rfl rfl rfl rfl ?_
  refine zr_ift hM rfl rfl h5 ?_
  refine zr_fr hM rfl rfl rfl ?_
  refine zr_fr hM rfl rfl rfl ?_
  refine zr_fr hM rfl rfl rfl ?_
  refine zr_fr hM rfl rfl rfl ?_
  refine zr_fr hM rfl rfl rfl ?_
  refine zr_fr hM rfl rfl rfl ?_
  refine zr_virt (κ := (22, 0, 0)) hn hM rfl rfl rfl rfl rfl rfl rfl rfl rfl ?_
  refine zgo_ret rfl rfl c6_ ?_
  rw [Bool.and_true]
  refine zr_ift hM rfl rfl h7 ?_
  refine zr_fr hM rfl rfl rfl ?_
  refine zr_putf (κ := (22, 0, 0)) hn hM rfl rfl rfl rfl rfl rfl rfl rfl ?_
  refine zr_fr hM rfl rfl rfl ?_
  refine zr_getf (κ := (22, 0, 0)) hn hM rfl rfl rfl rfl ?_
  refine zr_iff hM rfl rfl h8 ?_
  refine zr_fr hM rfl rfl rfl ?_
  refine zr_fr hM rfl rfl rfl ?_
  exact zr_iret2 hM rfl rfl rfl
set_option maxHeartbeats 4000000 in
theorem s129_0_ftttt {n L : Nat} {σ : Ks} {g : List Nat} {cl : Bool} {p1 : Int32} {p2 : Int32} {p3 : Int32} {p4 : Int32} {r1 : Int32} {r3 : Int32} {r6 : Int32} {σ9 : Ks} {c9 : Bool} {r9 : Int32} (hn : 2 ≤ n ∧ n ≤ 5) (c1_ : ZR 118 0 [.val (.ref (kad n (22, 0, 0))), .val (.int p1), .val (.int p3), .val (.int p4)] [] (khp n L σ g) true (.inl (some (.int r1)), khp n L σ g, true)) (h2 : zcnd .eq r1 0 = false) (c3_ : ZR 119 0 [.val (.ref (kad n (22, 0, 0))), .val (.int p2)] [] (khp n L σ g) true (.inl (some (.int r3)), khp n L σ g, true)) (h4 : zcnd .eq r3 0 = true) (h5 : zcnd .le ((kup σ 42 0 (Int32.ofInt 1)) 42 0) 0 = true) (c6_ : ZR 108 0 [.val (.ref (kad n (22, 0, 0))), .val (.int p1), .val (.int p2), .val (.int p3), .val (.int p4), .unset, .unset] [] (khp n L (kup σ 42 0 (Int32.ofInt 1)) g) true (.inl (some (.int r6)), khp n L (kup σ 42 0 (Int32.ofInt 1)) g, true)) (h7 : zcnd .eq r6 0 = true) (h8 : zcnd .le ((kup (kup σ 42 0 (Int32.ofInt 1)) 42 0 (Int32.ofInt 2)) 42 0) 0 = true) (c9_ : ZR 109 0 [.val (.ref (kad n (22, 0, 0))), .val (.int p1), .val (.int p2), .val (.int p3), .val (.int p4), .unset, .unset, .unset] [] (khp n L (kup (kup σ 42 0 (Int32.ofInt 1)) 42 0 (Int32.ofInt 2)) g) true (.inl (some (.int r9)), khp n L σ9 g, c9)) : ZR 129 0 [.val (.ref (kad n (22, 0, 0))), .val (.int p1), .val (.int p2), .val (.int p3), .val (.int p4)] [] (khp n L σ g) cl (.inl (some (.int r9)), khp n L σ9 (g), false) := by
  have hM : zmi[129]? = some _ := rfl
  refine zr_fr hM rfl rfl rfl ?_
  refine zr_fr hM rfl rfl rfl ?_
  refine zr_fr hM rfl rfl rfl ?_
  refine zr_fr hM rfl rfl rfl ?_
  refine zr_fr hM rfl rfl rfl ?_
  refine zr_virt (κ := (22, 0, 0)) hn hM rfl rfl rfl rfl rfl rfl rfl rfl rfl ?_
  refine zgo_ret rfl rfl c1_ ?_
  rw [Bool.and_true]
  refine zr_iff hM rfl rfl h2 ?_
  refine zr_fr hM rfl rfl rfl ?_
  refine zr_fr hM rfl rfl rfl ?_
  refine zr_virt (κ := (22, 0, 0)) hn hM rfl rfl rfl rfl rfl rfl rfl rfl rfl ?_
  refine zgo_ret rfl rfl c3_ ?_
  rw [Bool.and_true]
  refine zr_ift hM rfl rfl h4 ?_
  refine zr_fr hM rfl rfl rfl ?_
  refine zr_putf (κ := (22, 0, 0)) hn hM rfl rfl rfl rfl rfl rfl rfl rfl ?_
  refine zr_fr hM rfl rfl rfl ?_
  refine zr_getf (κ := (22, 0, 0)) hn hM rfl rfl rfl rfl ?_
  refine zr_ift hM rfl rfl h5 ?_
  refine zr_fr hM rfl rfl rfl ?_
  refine zr_fr hM rfl rfl rfl ?_
  refine zr_fr hM rfl rfl rfl ?_
  refine zr_fr hM rfl rfl rfl ?_
  refine zr_fr hM rfl rfl rfl ?_
  refine zr_fr hM rfl rfl rfl ?_
  refine zr_virt (κ := (22, 0, 0)) hn hM rfl rfl rfl rfl rfl rfl rfl rfl rfl ?_
  refine zgo_ret rfl rfl c6_ ?_
  rw [Bool.and_true]
  refine zr_ift hM rfl rfl h7 ?_
  refine zr_fr hM rfl rfl rfl ?_
  refine zr_putf (κ := (22, 0, 0)) hn hM rfl rfl rfl rfl rfl rfl rfl rfl ?_
  refine zr_fr hM rfl rfl rfl ?_
  refine zr_getf (κ := (22, 0, 0)) hn hM rfl rfl rfl rfl ?_
  refine zr_ift hM rfl rfl h8 ?_
  refine zr_fr hM rfl rfl rfl ?_
  refine zr_fr hM rfl rfl rfl ?_
  refine zr_fr hM rfl rfl rfl ?_
  refine zr_fr hM rfl rfl rfl ?_
  refine zr_fr hM rfl rfl rfl ?_
  refine zr_virt (κ := (22, 0, 0)) hn hM rfl rfl rfl rfl rfl rfl rfl rfl rfl ?_
  refine zgo_ret rfl rfl c9_ ?_
  rw [Bool.false_and]
  exact zr_iret2 hM rfl rfl rfl
set_option maxHeartbeats 4000000 in
theorem s129_0_tf {n L : Nat} {σ : Ks} {g : List Nat} {cl : Bool} {p1 : Int32} {p2 : Int32} {p3 : Int32} {p4 : Int32} {r1 : Int32} (hn : 2 ≤ n ∧ n ≤ 5) (c1_ : ZR 118 0 [.val (.ref (kad n (22, 0, 0))), .val (.int p1), .val (.int p3), .val (.int p4)] [] (khp n L σ g) true (.inl (some (.int r1)), khp n L σ g, true)) (h2 : zcnd .eq r1 0 = true) (h3 : zcnd .le ((kup σ 42 0 (Int32.ofInt 1)) 42 0) 0 = false) : ZR 129 0 [.val (.ref (kad n (22, 0, 0))), .val (.int p1), .val (.int p2), .val (.int p3), .val (.int p4)] [] (khp n L σ g) cl (.inl (some (.int (Int32.ofInt 0))), khp n L (kup σ 42 0 (Int32.ofInt 1)) (g), false) := by
  have hM : zmi[129]? = some _ := rfl
  refine zr_fr hM rfl rfl rfl ?_
  refine zr_fr hM rfl rfl rfl ?_
  refine zr_fr hM rfl rfl rfl ?_
  refine zr_fr hM rfl rfl rfl ?_
  refine zr_fr hM rfl rfl rfl ?_
  refine zr_virt (κ := (22, 0, 0)) hn hM rfl rfl rfl rfl rfl rfl rfl rfl rfl ?_
  refine zgo_ret rfl rfl c1_ ?_
  rw [Bool.and_true]
  refine zr_ift hM rfl rfl h2 ?_
  refine zr_fr hM rfl rfl rfl ?_
  refine zr_putf (κ := (22, 0, 0)) hn hM rfl rfl rfl rfl rfl rfl rfl rfl ?_
  refine zr_fr hM rfl rfl rfl ?_
  refine zr_getf (κ := (22, 0, 0)) hn hM rfl rfl rfl rfl ?_
  refine zr_iff hM rfl rfl h3 ?_
  refine zr_fr hM rfl rfl rfl ?_
  exact zr_iret2 hM rfl rfl rfl
set_option maxHeartbeats 4000000 in
theorem s129_0_ttff {n L : Nat} {σ : Ks} {g : List Nat} {cl : Bool} {p1 : Int32} {p2 : Int32} {p3 : Int32} {p4 : Int32} {r1 : Int32} {r4 : Int32} (hn : 2 ≤ n ∧ n ≤ 5) (c1_ : ZR 118 0 [.val (.ref (kad n (22, 0, 0))), .val (.int p1), .val (.int p3), .val (.int p4)] [] (khp n L σ g) true (.inl (some (.int r1)), khp n L σ g, true)) (h2 : zcnd .eq r1 0 = true) (h3 : zcnd .le ((kup σ 42 0 (Int32.ofInt 1)) 42 0) 0 = true) (c4_ : ZR 108 0 [.val (.ref (kad n (22, 0, 0))), .val (.int p1), .val (.int p2), .val (.int p3), .val (.int p4), .unset, .unset] [] (khp n L (kup σ 42 0 (Int32.ofInt 1)) g) true (.inl (some (.int r4)), khp n L (kup σ 42 0 (Int32.ofInt 1)) g, true)) (h5 : zcnd .eq r4 0 = false) (h6 : zcnd .le ((kup (kup σ 42 0 (Int32.ofInt 1)) 42 0 (Int32.ofInt 0)) 42 0) 0 = false) : ZR 129 0 [.val (.ref (kad n (22, 0, 0))), .val (.int p1), .val (.int p2), .val (.int p3), .val (.int p4)] [] (khp n L σ g) cl (.inl (some (.int (Int32.ofInt 0))), khp n L (kup (kup σ 42 0 (Int32.ofInt 1)) 42 0 (Int32.ofInt 0)) (g), false) := by
  have hM : zmi[129]? = some _ := rfl
  refine zr_fr hM rfl rfl rfl ?_
  refine zr_fr hM rfl rfl rfl ?_
  refine zr_fr hM rfl rfl rfl ?_
  refine zr_fr hM rfl rfl rfl ?_
  refine zr_fr hM rfl rfl rfl ?_
  refine zr_virt (κ := (22, 0, 0)) hn hM rfl rfl rfl rfl rfl rfl rfl rfl rfl ?_
  refine zgo_ret rfl rfl c1_ ?_
  rw [Bool.and_true]
  refine zr_ift hM rfl rfl h2 ?_
  refine zr_fr hM rfl rfl rfl ?_
  refine zr_putf (κ := (22, 0, 0)) hn hM rfl rfl rfl rfl rfl rfl rfl rfl ?_
  refine zr_fr hM rfl rfl rfl ?_
  refine zr_getf (κ := (22, 0, 0)) hn hM rfl rfl rfl rfl ?_
  refine zr_ift hM rfl rfl h3 ?_
  refine zr_fr hM rfl rfl rfl ?_
  refine zr_fr hM rfl rfl rfl ?_
  refine zr_fr hM rfl rfl rfl ?_
  refine zr_fr hM rfl rfl rfl ?_
  refine zr_fr hM rfl rfl rfl ?_
  refine zr_fr hM rfl rfl rfl ?_
  refine zr_virt (κ := (22, 0, 0)) hn hM rfl rfl rfl rfl rfl rfl rfl rfl rfl ?_
  refine zgo_ret rfl rfl c4_ ?_
  rw [Bool.and_true]
  refine zr_iff hM rfl rfl h5 ?_
  refine zr_fr hM rfl rfl rfl ?_
  refine zr_fr hM rfl rfl rfl ?_
  refine zr_putf (κ := (22, 0, 0)) hn hM rfl rfl rfl rfl rfl rfl rfl rfl ?_
  refine zr_fr hM rfl rfl rfl ?_
  refine zr_getf (κ := (22, 0, 0)) hn hM rfl rfl rfl rfl ?_
  refine zr_iff hM rfl rfl h6 ?_
  refine zr_fr hM rfl rfl rfl ?_
  refine zr_fr hM rfl rfl rfl ?_
  exact zr_iret2 hM rfl rfl rfl
set_option maxHeartbeats 4000000 in
theorem s129_0_ttft {n L : Nat} {σ : Ks} {g : List Nat} {cl : Bool} {p1 : Int32} {p2 : Int32} {p3 : Int32} {p4 : Int32} {r1 : Int32} {r4 : Int32} {σ7 : Ks} {c7 : Bool} {r7 : Int32} (hn : 2 ≤ n ∧ n ≤ 5) (c1_ : ZR 118 0 [.val (.ref (kad n (22, 0, 0))), .val (.int p1), .val (.int p3), .val (.int p4)] [] (khp n L σ g) true (.inl (some (.int r1)), khp n L σ g, true)) (h2 : zcnd .eq r1 0 = true) (h3 : zcnd .le ((kup σ 42 0 (Int32.ofInt 1)) 42 0) 0 = true) (c4_ : ZR 108 0 [.val (.ref (kad n (22, 0, 0))), .val (.int p1), .val (.int p2), .val (.int p3), .val (.int p4), .unset, .unset] [] (khp n L (kup σ 42 0 (Int32.ofInt 1)) g) true (.inl (some (.int r4)), khp n L (kup σ 42 0 (Int32.ofInt 1)) g, true)) (h5 : zcnd .eq r4 0 = false) (h6 : zcnd .le ((kup (kup σ 42 0 (Int32.ofInt 1)) 42 0 (Int32.ofInt 0)) 42 0) 0 = true) (c7_ : ZR 109 0 [.val (.ref (kad n (22, 0, 0))), .val (.int p1), .val (.int p2), .val (.int p3), .val (.int p4), .unset, .unset, .unset] [] (khp n L (kup (kup σ 42 0 (Int32.ofInt 1)) 42 0 (Int32.ofInt 0)) g) true (.inl (some (.int r7)), khp n L σ7 g, c7)) : ZR 129 0 [.val (.ref (kad n (22, 0, 0))), .val (.int p1), .val (.int p2), .val (.int p3), .val (.int p4)] [] (khp n L σ g) cl (.inl (some (.int r7)), khp n L σ7 (g), false) := by
  have hM : zmi[129]? = some _ := rfl
  refine zr_fr hM rfl rfl rfl ?_
  refine zr_fr hM rfl rfl rfl ?_
  refine zr_fr hM rfl rfl rfl ?_
  refine zr_fr hM rfl rfl rfl ?_
  refine zr_fr hM rfl rfl rfl ?_
  refine zr_virt (κ := (22, 0, 0)) hn hM rfl rfl rfl rfl rfl rfl rfl rfl rfl ?_
  refine zgo_ret rfl rfl c1_ ?_
  rw [Bool.and_true]
  refine zr_ift hM rfl rfl h2 ?_
  refine zr_fr hM rfl rfl rfl ?_
  refine zr_putf (κ := (22, 0, 0)) hn hM rfl rfl rfl rfl rfl rfl rfl rfl ?_
  refine zr_fr hM rfl rfl rfl ?_
  refine zr_getf (κ := (22, 0, 0)) hn hM rfl rfl rfl rfl ?_
  refine zr_ift hM rfl rfl h3 ?_
  refine zr_fr hM rfl rfl rfl ?_
  refine zr_fr hM rfl rfl rfl ?_
  refine zr_fr hM rfl rfl rfl ?_
  refine zr_fr hM rfl rfl rfl ?_
  refine zr_fr hM rfl rfl rfl ?_
  refine zr_fr hM rfl rfl rfl ?_
  refine zr_virt (κ := (22, 0, 0)) hn hM rfl rfl rfl rfl rfl rfl rfl rfl rfl ?_
  refine zgo_ret rfl rfl c4_ ?_
  rw [Bool.and_true]
  refine zr_iff hM rfl rfl h5 ?_
  refine zr_fr hM rfl rfl rfl ?_
  refine zr_fr hM rfl rfl rfl ?_
  refine zr_putf (κ := (22, 0, 0)) hn hM rfl rfl rfl rfl rfl rfl rfl rfl ?_
  refine zr_fr hM rfl rfl rfl ?_
  refine zr_getf (κ := (22, 0, 0)) hn hM rfl rfl rfl rfl ?_
  refine zr_ift hM rfl rfl h6 ?_
  refine zr_fr hM rfl rfl rfl ?_
  refine zr_fr hM rfl rfl rfl ?_
  refine zr_fr hM rfl rfl rfl ?_
  refine zr_fr hM rfl rfl rfl ?_
  refine zr_fr hM rfl rfl rfl ?_
  refine zr_virt (κ := (22, 0, 0)) hn hM rfl rfl rfl rfl rfl rfl rfl rfl rfl ?_
  refine zgo_ret rfl rfl c7_ ?_
  rw [Bool.false_and]
  exact zr_iret2 hM rfl rfl rfl
set_option maxHeartbeats 4000000 in
theorem s129_0_tttf {n L : Nat} {σ : Ks} {g : List Nat} {cl : Bool} {p1 : Int32} {p2 : Int32} {p3 : Int32} {p4 : Int32} {r1 : Int32} {r4 : Int32} (hn : 2 ≤ n ∧ n ≤ 5) (c1_ : ZR 118 0 [.val (.ref (kad n (22, 0, 0))), .val (.int p1), .val (.int p3), .val (.int p4)] [] (khp n L σ g) true (.inl (some (.int r1)), khp n L σ g, true)) (h2 : zcnd .eq r1 0 = true) (h3 : zcnd .le ((kup σ 42 0 (Int32.ofInt 1)) 42 0) 0 = true) (c4_ : ZR 108 0 [.val (.ref (kad n (22, 0, 0))), .val (.int p1), .val (.int p2), .val (.int p3), .val (.int p4), .unset, .unset] [] (khp n L (kup σ 42 0 (Int32.ofInt 1)) g) true (.inl (some (.int r4)), khp n L (kup σ 42 0 (Int32.ofInt 1)) g, true)) (h5 : zcnd .eq r4 0 = true) (h6 : zcnd .le ((kup (kup σ 42 0 (Int32.ofInt 1)) 42 0 (Int32.ofInt 2)) 42 0) 0 = false) : ZR 129 0 [.val (.ref (kad n (22, 0, 0))), .val (.int p1), .val (.int p2), .val (.int p3), .val (.int p4)] [] (khp n L σ g) cl (.inl (some (.int (Int32.ofInt 0))), khp n L (kup (kup σ 42 0 (Int32.ofInt 1)) 42 0 (Int32.ofInt 2)) (g), false) := by
  have hM : zmi[129]? = some _ := rfl
  refine zr_fr hM rfl rfl rfl ?_
  refine zr_fr hM rfl rfl rfl ?_
  refine zr_fr hM rfl rfl rfl ?_
  refine zr_fr hM rfl rfl rfl ?_
  refine zr_fr hM rfl rfl rfl ?_
  refine zr_virt (κ := (22, 0, 0)) hn hM rfl rfl rfl rfl rfl rfl rfl rfl rfl ?_
  refine zgo_ret rfl rfl c1_ ?_
  rw [Bool.and_true]
  refine zr_ift hM rfl rfl h2 ?_
  refine zr_fr hM rfl rfl rfl ?_
  refine zr_putf (κ := (22, 0, 0)) hn hM rfl rfl rfl rfl rfl rfl rfl rfl ?_
  refine zr_fr hM rfl rfl rfl ?_
  refine zr_getf (κ := (22, 0, 0)) hn hM rfl rfl rfl rfl ?_
  refine zr_ift hM rfl rfl h3 ?_
  refine zr_fr hM rfl rfl rfl ?_
  refine zr_fr hM rfl rfl rfl ?_
  refine zr_fr hM rfl rfl rfl ?_
  refine zr_fr hM rfl rfl rfl ?_
  refine zr_fr hM rfl rfl rfl ?_
  refine zr_fr hM rfl rfl rfl ?_
  refine zr_virt (κ := (22, 0, 0)) hn hM rfl rfl rfl rfl rfl rfl rfl rfl rfl ?_
  refine zgo_ret rfl rfl c4_ ?_
  rw [Bool.and_true]
  refine zr_ift hM rfl rfl h5 ?_
  refine zr_fr hM rfl rfl rfl ?_
  refine zr_putf (κ := (22, 0, 0)) hn hM rfl rfl rfl rfl rfl rfl rfl rfl ?_
  refine zr_fr hM rfl rfl rfl ?_
  refine zr_getf (κ := (22, 0, 0)) hn hM rfl rfl rfl rfl ?_
  refine zr_iff hM rfl rfl h6 ?_
  refine zr_fr hM rfl rfl rfl ?_
  refine zr_fr hM rfl rfl rfl ?_
  exact zr_iret2 hM rfl rfl rfl
set_option maxHeartbeats 4000000 in
theorem s129_0_tttt {n L : Nat} {σ : Ks} {g : List Nat} {cl : Bool} {p1 : Int32} {p2 : Int32} {p3 : Int32} {p4 : Int32} {r1 : Int32} {r4 : Int32} {σ7 : Ks} {c7 : Bool} {r7 : Int32} (hn : 2 ≤ n ∧ n ≤ 5) (c1_ : ZR 118 0 [.val (.ref (kad n (22, 0, 0))), .val (.int p1), .val (.int p3), .val (.int p4)] [] (khp n L σ g) true (.inl (some (.int r1)), khp n L σ g, true)) (h2 : zcnd .eq r1 0 = true) (h3 : zcnd .le ((kup σ 42 0 (Int32.ofInt 1)) 42 0) 0 = true) (c4_ : ZR 108 0 [.val (.ref (kad n (22, 0, 0))), .val (.int p1), .val (.int p2), .val (.int p3), .val (.int p4), .unset, .unset] [] (khp n L (kup σ 42 0 (Int32.ofInt 1)) g) true (.inl (some (.int r4)), khp n L (kup σ 42 0 (Int32.ofInt 1)) g, true)) (h5 : zcnd .eq r4 0 = true) (h6 : zcnd .le ((kup (kup σ 42 0 (Int32.ofInt 1)) 42 0 (Int32.ofInt 2)) 42 0) 0 = true) (c7_ : ZR 109 0 [.val (.ref (kad n (22, 0, 0))), .val (.int p1), .val (.int p2), .val (.int p3), .val (.int p4), .unset, .unset, .unset] [] (khp n L (kup (kup σ 42 0 (Int32.ofInt 1)) 42 0 (Int32.ofInt 2)) g) true (.inl (some (.int r7)), khp n L σ7 g, c7)) : ZR 129 0 [.val (.ref (kad n (22, 0, 0))), .val (.int p1), .val (.int p2), .val (.int p3), .val (.int p4)] [] (khp n L σ g) cl (.inl (some (.int r7)), khp n L σ7 (g), false) := by
  have hM : zmi[129]? = some _ := rfl
  refine zr_fr hM rfl rfl rfl ?_
  refine zr_fr hM rfl rfl rfl ?_
  refine zr_fr hM rfl rfl rfl ?_
  refine zr_fr hM rfl rfl rfl ?_
  refine zr_fr hM rfl rfl rfl ?_
  refine zr_virt (κ := (22, 0, 0)) hn hM rfl rfl rfl rfl rfl rfl rfl rfl rfl ?_
  refine zgo_ret rfl rfl c1_ ?_
  rw [Bool.and_true]
  refine zr_ift hM rfl rfl h2 ?_
  refine zr_fr hM rfl rfl rfl ?_
  refine zr_putf (κ := (22, 0, 0)) hn hM rfl rfl rfl rfl rfl rfl rfl rfl ?_
  refine zr_fr hM rfl rfl rfl ?_
  refine zr_getf (κ := (22, 0, 0)) hn hM rfl rfl rfl rfl ?_
  refine zr_ift hM rfl rfl h3 ?_
  refine zr_fr hM rfl rfl rfl ?_
  refine zr_fr hM rfl rfl rfl ?_
  refine zr_fr hM rfl rfl rfl ?_
  refine zr_fr hM rfl rfl rfl ?_
  refine zr_fr hM rfl rfl rfl ?_
  refine zr_fr hM rfl rfl rfl ?_
  refine zr_virt (κ := (22, 0, 0)) hn hM rfl rfl rfl rfl rfl rfl rfl rfl rfl ?_
  refine zgo_ret rfl rfl c4_ ?_
  rw [Bool.and_true]
  refine zr_ift hM rfl rfl h5 ?_
  refine zr_fr hM rfl rfl rfl ?_
  refine zr_putf (κ := (22, 0, 0)) hn hM rfl rfl rfl rfl rfl rfl rfl rfl ?_
  refine zr_fr hM rfl rfl rfl ?_
  refine zr_getf (κ := (22, 0, 0)) hn hM rfl rfl rfl rfl ?_
  refine zr_ift hM rfl rfl h6 ?_
  refine zr_fr hM rfl rfl rfl ?_
  refine zr_fr hM rfl rfl rfl ?_
  refine zr_fr hM rfl rfl rfl ?_
  refine zr_fr hM rfl rfl rfl ?_
  refine zr_fr hM rfl rfl rfl ?_
  refine zr_virt (κ := (22, 0, 0)) hn hM rfl rfl rfl rfl rfl rfl rfl rfl rfl ?_
  refine zgo_ret rfl rfl c7_ ?_
  rw [Bool.false_and]
  exact zr_iret2 hM rfl rfl rfl
set_option maxHeartbeats 4000000 in
theorem s130_0_ff {n L : Nat} {σ : Ks} {g : List Nat} {cl : Bool} {p1 : Int32} {p2 : Int32} {p3 : Int32} {r1 : Int32} (hn : 2 ≤ n ∧ n ≤ 5) (c1_ : ZR 118 0 [.val (.ref (kad n (22, 0, 0))), .val (.int p1), .val (.int p2), .val (.int p3)] [] (khp n L σ g) true (.inl (some (.int r1)), khp n L σ g, true)) (h2 : zcnd .eq r1 0 = false) (h3 : zcnd .le ((kup σ 42 0 (Int32.ofInt 0)) 42 0) 0 = false) : ZR 130 0 [.val (.ref (kad n (22, 0, 0))), .val (.int p1), .val (.int p2), .val (.int p3), .unset, .unset, .unset, .unset] [] (khp n L σ g) cl (.inl (some (.int (Int32.ofInt 0))), khp n L (kup σ 42 0 (Int32.ofInt 0)) (g), false) := by
  have hM : zmi[130]? = some _ := rfl
  refine zr_fr hM rfl rfl rfl ?_
  refine zr_fr hM rfl rfl rfl ?_
  refine zr_fr hM rfl rfl rfl ?_
  refine zr_fr hM rfl rfl rfl ?_
  refine zr_fr hM rfl rfl rfl ?_
  refine zr_virt (κ := (22, 0, 0)) hn hM rfl rfl rfl rfl rfl rfl rfl rfl rfl ?_
  refine zgo_ret rfl rfl c1_ ?_
  rw [Bool.and_true]
  refine zr_iff hM rfl rfl h2 ?_
  refine zr_fr hM rfl rfl rfl ?_
  refine zr_fr hM rfl rfl rfl ?_
  refine zr_putf (κ := (22, 0, 0)) hn hM rfl rfl rfl rfl rfl rfl rfl rfl ?_
  refine zr_fr hM rfl rfl rfl ?_
  refine zr_getf (κ := (22, 0, 0)) hn hM rfl rfl rfl rfl ?_
  refine zr_iff hM rfl rfl h3 ?_
  refine zr_fr hM rfl rfl rfl ?_
  exact zr_iret2 hM rfl rfl rfl
set_option maxHeartbeats 4000000 in
theorem s130_0_ftff {n L : Nat} {σ : Ks} {g : List Nat} {cl : Bool} {p1 : Int32} {p2 : Int32} {p3 : Int32} {r1 : Int32} {x4 : Nat} (hn : 2 ≤ n ∧ n ≤ 5) (c1_ : ZR 118 0 [.val (.ref (kad n (22, 0, 0))), .val (.int p1), .val (.int p2), .val (.int p3)] [] (khp n L σ g) true (.inl (some (.int r1)), khp n L σ g, true)) (h2 : zcnd .eq r1 0 = false) (h3 : zcnd .le ((kup σ 42 0 (Int32.ofInt 0)) 42 0) 0 = true) (z4 : zix p1 5 = some x4) (h5 : zcnd .eq ((kup σ 42 0 (Int32.ofInt 0)) 40 x4) 0 = false) (h6 : zcnd .le ((kup (kup σ 42 0 (Int32.ofInt 0)) 42 0 (Int32.ofInt 2)) 42 0) 0 = false) : ZR 130 0 [.val (.ref (kad n (22, 0, 0))), .val (.int p1), .val (.int p2), .val (.int p3), .unset, .unset, .unset, .unset] [] (khp n L σ g) cl (.inl (some (.int (Int32.ofInt 0))), khp n L (kup (kup σ 42 0 (Int32.ofInt 0)) 42 0 (Int32.ofInt 2)) (g), false) := by
  have hM : zmi[130]? = some _ := rfl
  have l4 := (zix_some z4).2.2
  refine zr_fr hM rfl rfl rfl ?_
  refine zr_fr hM rfl rfl rfl ?_
  refine zr_fr hM rfl rfl rfl ?_
  refine zr_fr hM rfl rfl rfl ?_
  refine zr_fr hM rfl rfl rfl ?_
  refine zr_virt (κ := (22, 0, 0)) hn hM rfl rfl rfl rfl rfl rfl rfl rfl rfl ?_
  refine zgo_ret rfl rfl c1_ ?_
  rw [Bool.and_true]
  refine zr_iff hM rfl rfl h2 ?_
  refine zr_fr hM rfl rfl rfl ?_
  refine zr_fr hM rfl rfl rfl ?_
  refine zr_putf (κ := (22, 0, 0)) hn hM rfl rfl rfl rfl rfl rfl rfl rfl ?_
  refine zr_fr hM rfl rfl rfl ?_
  refine zr_getf (κ := (22, 0, 0)) hn hM rfl rfl rfl rfl ?_
  refine zr_ift hM rfl rfl h3 ?_
  refine zr_fr hM rfl rfl rfl ?_
  refine zr_fr hM rfl rfl rfl ?_
  refine zr_getf (κ := (22, 0, 0)) hn hM rfl rfl rfl rfl ?_
  refine zr_fr hM rfl rfl rfl ?_
  refine zr_bald (κ := (25, 0, 0)) hn hM rfl rfl rfl z4 ?_
  refine zr_iff hM rfl rfl h5 ?_
  refine zr_fr hM rfl rfl rfl ?_
  refine zr_fr hM rfl rfl rfl ?_
  refine zr_putf (κ := (22, 0, 0)) hn hM rfl rfl rfl rfl rfl rfl rfl rfl ?_
  refine zr_fr hM rfl rfl rfl ?_
  refine zr_getf (κ := (22, 0, 0)) hn hM rfl rfl rfl rfl ?_
  refine zr_iff hM rfl rfl h6 ?_
  refine zr_fr hM rfl rfl rfl ?_
  exact zr_iret2 hM rfl rfl rfl
set_option maxHeartbeats 4000000 in
theorem s130_0_ftft {n L : Nat} {σ : Ks} {g : List Nat} {cl : Bool} {r : Zr} {p1 : Int32} {p2 : Int32} {p3 : Int32} {r1 : Int32} {x4 : Nat} (hn : 2 ≤ n ∧ n ≤ 5) (c1_ : ZR 118 0 [.val (.ref (kad n (22, 0, 0))), .val (.int p1), .val (.int p2), .val (.int p3)] [] (khp n L σ g) true (.inl (some (.int r1)), khp n L σ g, true)) (h2 : zcnd .eq r1 0 = false) (h3 : zcnd .le ((kup σ 42 0 (Int32.ofInt 0)) 42 0) 0 = true) (z4 : zix p1 5 = some x4) (h5 : zcnd .eq ((kup σ 42 0 (Int32.ofInt 0)) 40 x4) 0 = false) (h6 : zcnd .le ((kup (kup σ 42 0 (Int32.ofInt 0)) 42 0 (Int32.ofInt 2)) 42 0) 0 = true) (k : ZR 130 64 [.val (.ref (kad n (22, 0, 0))), .val (.int p1), .val (.int p2), .val (.int p3), .val (.int (Int32.ofInt (-1))), .val (.int (Int32.ofInt 0)), .val (.int (Int32.ofInt 0)), .unset] [] (khp n L (kup (kup σ 42 0 (Int32.ofInt 0)) 42 0 (Int32.ofInt 2)) (g)) false r) : ZR 130 0 [.val (.ref (kad n (22, 0, 0))), .val (.int p1), .val (.int p2), .val (.int p3), .unset, .unset, .unset, .unset] [] (khp n L σ g) cl r := by
  have hM : zmi[130]? = some _ := rfl
  have l4 := (zix_some z4).2.2
  refine zr_fr hM rfl rfl rfl ?_
  refine zr_fr hM rfl rfl rfl ?_
  refine zr_fr hM rfl rfl rfl ?_
  refine zr_fr hM rfl rfl rfl ?_
  refine zr_fr hM rfl rfl rfl ?_
  refine zr_virt (κ := (22, 0, 0)) hn hM rfl rfl rfl rfl rfl rfl rfl rfl rfl ?_
  refine zgo_ret rfl rfl c1_ ?_
  rw [Bool.and_true]
  refine zr_iff hM rfl rfl h2 ?_
  refine zr_fr hM rfl rfl rfl ?_
  refine zr_fr hM rfl rfl rfl ?_
  refine zr_putf (κ := (22, 0, 0)) hn hM rfl rfl rfl rfl rfl rfl rfl rfl ?_
  refine zr_fr hM rfl rfl rfl ?_
  refine zr_getf (κ := (22, 0, 0)) hn hM rfl rfl rfl rfl ?_
  refine zr_ift hM rfl rfl h3 ?_
  refine zr_fr hM rfl rfl rfl ?_
  refine zr_fr hM rfl rfl rfl ?_
  refine zr_getf (κ := (22, 0, 0)) hn hM rfl rfl rfl rfl ?_
  refine zr_fr hM rfl rfl rfl ?_
  refine zr_bald (κ := (25, 0, 0)) hn hM rfl rfl rfl z4 ?_
  refine zr_iff hM rfl rfl h5 ?_
  refine zr_fr hM rfl rfl rfl ?_
  refine zr_fr hM rfl rfl rfl ?_
  refine zr_putf (κ := (22, 0, 0)) hn hM rfl rfl rfl rfl rfl rfl rfl rfl ?_
  refine zr_fr hM rfl rfl rfl ?_
  refine zr_getf (κ := (22, 0, 0)) hn hM rfl rfl rfl rfl ?_
  refine zr_ift hM rfl rfl h6 ?_
  refine zr_fr hM rfl rfl rfl ?_
  refine zr_fr hM rfl rfl rfl ?_
  refine zr_fr hM rfl rfl rfl ?_
  refine zr_fr hM rfl rfl rfl ?_
  refine zr_fr hM rfl rfl rfl ?_
  refine zr_fr hM rfl rfl rfl ?_
  exact k
set_option maxHeartbeats 4000000 in
theorem s130_0_fttf {n L : Nat} {σ : Ks} {g : List Nat} {cl : Bool} {p1 : Int32} {p2 : Int32} {p3 : Int32} {r1 : Int32} {x4 : Nat} (hn : 2 ≤ n ∧ n ≤ 5) (c1_ : ZR 118 0 [.val (.ref (kad n (22, 0, 0))), .val (.int p1), .val (.int p2), .val (.int p3)] [] (khp n L σ g) true (.inl (some (.int r1)), khp n L σ g, true)) (h2 : zcnd .eq r1 0 = false) (h3 : zcnd .le ((kup σ 42 0 (Int32.ofInt 0)) 42 0) 0 = true) (z4 : zix p1 5 = some x4) (h5 : zcnd .eq ((kup σ 42 0 (Int32.ofInt 0)) 40 x4) 0 = true) (h6 : zcnd .le ((kup (kup σ 42 0 (Int32.ofInt 0)) 42 0 (Int32.ofInt 0)) 42 0) 0 = false) : ZR 130 0 [.val (.ref (kad n (22, 0, 0))), .val (.int p1), .val (.int p2), .val (.int p3), .unset, .unset, .unset, .unset] [] (khp n L σ g) cl (.inl (some (.int (Int32.ofInt 0))), khp n L (kup (kup σ 42 0 (Int32.ofInt 0)) 42 0 (Int32.ofInt 0)) (g), false) := by
  have hM : zmi[130]? = some _ := rfl
  have l4 := (zix_some z4).2.2
  refine zr_fr hM rfl rfl rfl ?_
  refine zr_fr hM rfl rfl rfl ?_
  refine zr_fr hM rfl rfl rfl ?_
  refine zr_fr hM rfl rfl rfl ?_
  refine zr_fr hM rfl rfl rfl ?_
  refine zr_virt (κ := (22, 0, 0)) hn hM rfl rfl rfl rfl rfl rfl rfl rfl rfl ?_
  refine zgo_ret rfl rfl c1_ ?_
  rw [Bool.and_true]
  refine zr_iff hM rfl rfl h2 ?_
  refine zr_fr hM rfl rfl rfl ?_
  refine zr_fr hM rfl rfl rfl ?_
  refine zr_putf (κ := (22, 0, 0)) hn hM rfl rfl rfl rfl rfl rfl rfl rfl ?_
  refine zr_fr hM rfl rfl rfl ?_
  refine zr_getf (κ := (22, 0, 0)) hn hM rfl rfl rfl rfl ?_
  refine zr_ift hM rfl rfl h3 ?_
  refine zr_fr hM rfl rfl rfl ?_
  refine zr_fr hM rfl rfl rfl ?_
  refine zr_getf (κ := (22, 0, 0)) hn hM rfl rfl rfl rfl ?_
  refine zr_fr hM rfl rfl rfl ?_
  refine zr_bald (κ := (25, 0, 0)) hn hM rfl rfl rfl z4 ?_
  refine zr_ift hM rfl rfl h5 ?_
  refine zr_fr hM rfl rfl rfl ?_
  refine zr_putf (κ := (22, 0, 0)) hn hM rfl rfl rfl rfl rfl rfl rfl rfl ?_
  refine zr_fr hM rfl rfl rfl ?_
  refine zr_getf (κ := (22, 0, 0)) hn hM rfl rfl rfl rfl ?_
  refine zr_iff hM rfl rfl h6 ?_
  refine zr_fr hM rfl rfl rfl ?_
  exact zr_iret2 hM rfl rfl rfl
set_option maxHeartbeats 4000000 in
theorem s130_0_fttt {n L : Nat} {σ : Ks} {g : List Nat} {cl : Bool} {r : Zr} {p1 : Int32} {p2 : Int32} {p3 : Int32} {r1 : Int32} {x4 : Nat} (hn : 2 ≤ n ∧ n ≤ 5) (c1_ : ZR 118 0 [.val (.ref (kad n (22, 0, 0))), .val (.int p1), .val (.int p2), .val (.int p3)] [] (khp n L σ g) true (.inl (some (.int r1)), khp n L σ g, true)) (h2 : zcnd .eq r1 0 = false) (h3 : zcnd .le ((kup σ 42 0 (Int32.ofInt 0)) 42 0) 0 = true) (z4 : zix p1 5 = some x4) (h5 : zcnd .eq ((kup σ 42 0 (Int32.ofInt 0)) 40 x4) 0 = true) (h6 : zcnd .le ((kup (kup σ 42 0 (Int32.ofInt 0)) 42 0 (Int32.ofInt 0)) 42 0) 0 = true) (k : ZR 130 64 [.val (.ref (kad n (22, 0, 0))), .val (.int p1), .val (.int p2), .val (.int p3), .val (.int (Int32.ofInt (-1))), .val (.int (Int32.ofInt 0)), .val (.int (Int32.ofInt 0)), .unset] [] (khp n L (kup (kup σ 42 0 (Int32.ofInt 0)) 42 0 (Int32.ofInt 0)) (g)) false r) : ZR 130 0 [.val (.ref (kad n (22, 0, 0))), .val (.int p1), .val (.int p2), .val (.int p3), .unset, .unset, .unset, .unset] [] (khp n L σ g) cl r := by
  have hM : zmi[130]? = some _ := rfl
  have l4 := (zix_some z4).2.2
  refine zr_fr hM rfl rfl rfl ?_
  refine zr_fr hM rfl rfl rfl ?_
  refine zr_fr hM rfl rfl rfl ?_
  refine zr_fr hM rfl rfl rfl ?_
  refine zr_fr hM rfl rfl rfl ?_
  refine zr_virt (κ := (22, 0, 0)) hn hM rfl rfl rfl rfl rfl rfl rfl rfl rfl ?_
  refine zgo_ret rfl rfl c1_ ?_
  rw [Bool.and_true]
  refine zr_iff hM rfl rfl h2 ?_
  refine zr_fr hM rfl rfl rfl ?_
  refine zr_fr hM rfl rfl rfl ?_
  refine zr_putf (κ := (22, 0, 0)) hn hM rfl rfl rfl rfl rfl rfl rfl rfl ?_
  refine zr_fr hM rfl rfl rfl ?_
  refine zr_getf (κ := (22, 0, 0)) hn hM rfl rfl rfl rfl ?_
  refine zr_ift hM rfl rfl h3 ?_
  refine zr_fr hM rfl rfl rfl ?_
  refine zr_fr hM rfl rfl rfl ?_
  refine zr_getf (κ := (22, 0, 0)) hn hM rfl rfl rfl rfl ?_
  refine zr_fr hM rfl rfl rfl ?_
  refine zr_bald (κ := (25, 0, 0)) hn hM rfl rfl rfl z4 ?_
  refine zr_ift hM rfl rfl h5 ?_
  refine zr_fr hM rfl rfl rfl ?_
  refine zr_putf (κ := (22, 0, 0)) hn hM rfl rfl rfl rfl rfl rfl rfl rfl ?_
  refine zr_fr hM rfl rfl rfl ?_
  refine zr_getf (κ := (22, 0, 0)) hn hM rfl rfl rfl rfl ?_
  refine zr_ift hM rfl rfl h6 ?_
  refine zr_fr hM rfl rfl rfl ?_
  refine zr_fr hM rfl rfl rfl ?_
  refine zr_fr hM rfl rfl rfl ?_
  refine zr_fr hM rfl rfl rfl ?_
  refine zr_fr hM rfl rfl rfl ?_
  refine zr_fr hM rfl rfl rfl ?_
  exact k
set_option maxHeartbeats 4000000 in
theorem s130_0_tf {n L : Nat} {σ : Ks} {g : List Nat} {cl : Bool} {p1 : Int32} {p2 : Int32} {p3 : Int32} {r1 : Int32} (hn : 2 ≤ n ∧ n ≤ 5) (c1_ : ZR 118 0 [.val (.ref (kad n (22, 0, 0))), .val (.int p1), .val (.int p2), .val (.int p3)] [] (khp n L σ g) true (.inl (some (.int r1)), khp n L σ g, true)) (h2 : zcnd .eq r1 0 = true) (h3 : zcnd .le ((kup σ 42 0 (Int32.ofInt 1)) 42 0) 0 = false) : ZR 130 0 [.val (.ref (kad n (22, 0, 0))), .val (.int p1), .val (.int p2), .val (.int p3), .unset, .unset, .unset, .unset] [] (khp n L σ g) cl (.inl (some (.int (Int32.ofInt 0))), khp n L (kup σ 42 0 (Int32.ofInt 1)) (g), false) := by
  have hM : zmi[130]? = some _ := rfl
  refine zr_fr hM rfl rfl rfl ?_
  refine zr_fr hM rfl rfl rfl ?_
  refine zr_fr hM rfl rfl rfl ?_
  refine zr_fr hM rfl rfl rfl ?_
  refine zr_fr hM rfl rfl rfl ?_
  refine zr_virt (κ := (22, 0, 0)) hn hM rfl rfl rfl rfl rfl rfl rfl rfl rfl ?_
  refine zgo_ret rfl rfl c1_ ?_
  rw [Bool.and_true]
  refine zr_ift hM rfl rfl h2 ?_
  refine zr_fr hM rfl rfl rfl ?_
  refine zr_putf (κ := (22, 0, 0)) hn hM rfl rfl rfl rfl rfl rfl rfl rfl ?_
  refine zr_fr hM rfl rfl rfl ?_
  refine zr_getf (κ := (22, 0, 0)) hn hM rfl rfl rfl rfl ?_
  refine zr_iff hM rfl rfl h3 ?_
  refine zr_fr hM rfl rfl rfl ?_
  exact zr_iret2 hM rfl rfl rfl
set_option maxHeartbeats 4000000 in
theorem s130_0_ttff {n L : Nat} {σ : Ks} {g : List Nat} {cl : Bool} {p1 : Int32} {p2 : Int32} {p3 : Int32} {r1 : Int32} {x4 : Nat} (hn : 2 ≤ n ∧ n ≤ 5) (c1_ : ZR 118 0 [.val (.ref (kad n (22, 0, 0))), .val (.int p1), .val (.int p2), .val (.int p3)] [] (khp n L σ g) true (.inl (some (.int r1)), khp n L σ g, true)) (h2 : zcnd .eq r1 0 = true) (h3 : zcnd .le ((kup σ 42 0 (Int32.ofInt 1)) 42 0) 0 = true) (z4 : zix p1 5 = some x4) (h5 : zcnd .eq ((kup σ 42 0 (Int32.ofInt 1)) 40 x4) 0 = false) (h6 : zcnd .le ((kup (kup σ 42 0 (Int32.ofInt 1)) 42 0 (Int32.ofInt 2)) 42 0) 0 = false) : ZR 130 0 [.val (.ref (kad n (22, 0, 0))), .val (.int p1), .val (.int p2), .val (.int p3), .unset, .unset, .unset, .unset] [] (khp n L σ g) cl (.inl (some (.int (Int32.ofInt 0))), khp n L (kup (kup σ 42 0 (Int32.ofInt 1)) 42 0 (Int32.ofInt 2)) (g), false) := by
  have hM : zmi[130]? = some _ := rfl
  have l4 := (zix_some z4).2.2
  refine zr_fr hM rfl rfl rfl ?_
  refine zr_fr hM rfl rfl rfl ?_
  refine zr_fr hM rfl rfl rfl ?_
  refine zr_fr hM rfl rfl rfl ?_
  refine zr_fr hM rfl rfl rfl ?_
  refine zr_virt (κ := (22, 0, 0)) hn hM rfl rfl rfl rfl rfl rfl rfl rfl rfl ?_
  refine zgo_ret rfl rfl c1_ ?_
  rw [Bool.and_true]
  refine zr_ift hM rfl rfl h2 ?_
  refine zr_fr hM rfl rfl rfl ?_
  refine zr_putf (κ := (22, 0, 0)) hn hM rfl rfl rfl rfl rfl rfl rfl rfl ?_
  refine zr_fr hM rfl rfl rfl ?_
  refine zr_getf (κ := (22, 0, 0)) hn hM rfl rfl rfl rfl ?_
  refine zr_ift hM rfl rfl h3 ?_
  refine zr_fr hM rfl rfl rfl ?_
  refine zr_fr hM rfl rfl rfl ?_
  refine zr_getf (κ := (22, 0, 0)) hn hM rfl rfl rfl rfl ?_
  refine zr_fr hM rfl rfl rfl ?_
  refine zr_bald (κ := (25, 0, 0)) hn hM rfl rfl rfl z4 ?_
  refine zr_iff hM rfl rfl h5 ?_
  refine zr_fr hM rfl rfl rfl ?_
  refine zr_fr hM rfl rfl rfl ?_
  refine zr_putf (κ := (22, 0, 0)) hn hM rfl rfl rfl rfl rfl rfl rfl rfl ?_
  refine zr_fr hM rfl rfl rfl ?_
  refine zr_getf (κ := (22, 0, 0)) hn hM rfl rfl rfl rfl ?_
  refine zr_iff hM rfl rfl h6 ?_
  refine zr_fr hM rfl rfl rfl ?_
  exact zr_iret2 hM rfl rfl rfl
set_option maxHeartbeats 4000000 in
theorem s130_0_ttft {n L : Nat} {σ : Ks} {g : List Nat} {cl : Bool} {r : Zr} {p1 : Int32} {p2 : Int32} {p3 : Int32} {r1 : Int32} {x4 : Nat} (hn : 2 ≤ n ∧ n ≤ 5) (c1_ : ZR 118 0 [.val (.ref (kad n (22, 0, 0))), .val (.int p1), .val (.int p2), .val (.int p3)] [] (khp n L σ g) true (.inl (some (.int r1)), khp n L σ g, true)) (h2 : zcnd .eq r1 0 = true) (h3 : zcnd .le ((kup σ 42 0 (Int32.ofInt 1)) 42 0) 0 = true) (z4 : zix p1 5 = some x4) (h5 : zcnd .eq ((kup σ 42 0 (Int32.ofInt 1)) 40 x4) 0 = false) (h6 : zcnd .le ((kup (kup σ 42 0 (Int32.ofInt 1)) 42 0 (Int32.ofInt 2)) 42 0) 0 = true) (k : ZR 130 64 [.val (.ref (kad n (22, 0, 0))), .val (.int p1), .val (.int p2), .val (.int p3), .val (.int (Int32.ofInt (-1))), .val (.int (Int32.ofInt 0)), .val (.int (Int32.ofInt 0)), .unset] [] (khp n L (kup (kup σ 42 0 (Int32.ofInt 1)) 42 0 (Int32.ofInt 2)) (g)) false r) : ZR 130 0 [.val (.ref (kad n (22, 0, 0))), .val (.int p1), .val (.int p2), .val (.int p3), .unset, .unset, .unset, .unset] [] (khp n L σ g) cl r := by
  have hM : zmi[130]? = some _ := rfl
  have l4 := (zix_some z4).2.2
  refine zr_fr hM rfl rfl rfl ?_
  refine zr_fr hM rfl rfl rfl ?_
  refine zr_fr hM rfl rfl rfl ?_
  refine zr_fr hM rfl rfl rfl ?_
  refine zr_fr hM rfl rfl rfl ?_
  refine zr_virt (κ := (22, 0, 0)) hn hM rfl rfl rfl rfl rfl rfl rfl rfl rfl ?_
  refine zgo_ret rfl rfl c1_ ?_
  rw [Bool.and_true]
  refine zr_ift hM rfl rfl h2 ?_
  refine zr_fr hM rfl rfl rfl ?_
  refine zr_putf (κ := (22, 0, 0)) hn hM rfl rfl rfl rfl rfl rfl rfl rfl ?_
  refine zr_fr hM rfl rfl rfl ?_
  refine zr_getf (κ := (22, 0, 0)) hn hM rfl rfl rfl rfl ?_
  refine zr_ift hM rfl rfl h3 ?_
  refine zr_fr hM rfl rfl rfl ?_
  refine zr_fr hM rfl rfl rfl ?_
  refine zr_getf (κ := (22, 0, 0)) hn hM rfl rfl rfl rfl ?_
  refine zr_fr hM rfl rfl rfl ?_
  refine zr_bald (κ := (25, 0, 0)) hn hM rfl rfl rfl z4 ?_
  refine zr_iff hM rfl rfl h5 ?_
  refine zr_fr hM rfl rfl rfl ?_
  refine zr_fr hM rfl rfl rfl ?_
  refine zr_putf (κ := (22, 0, 0)) hn hM rfl rfl rfl rfl rfl rfl rfl rfl ?_
  refine zr_fr hM rfl rfl rfl ?_
  refine zr_getf (κ := (22, 0, 0)) hn hM rfl rfl rfl rfl ?_
  refine zr_ift hM rfl rfl h6 ?_
  refine zr_fr hM rfl rfl rfl ?_
  refine zr_fr hM rfl rfl rfl ?_
  refine zr_fr hM rfl rfl rfl ?_
  refine zr_fr hM rfl rfl rfl ?_
  refine zr_fr hM rfl rfl rfl ?_
  refine zr_fr hM rfl rfl rfl ?_
  exact k
set_option maxHeartbeats 4000000 in
theorem s130_0_tttf {n L : Nat} {σ : Ks} {g : List Nat} {cl : Bool} {p1 : Int32} {p2 : Int32} {p3 : Int32} {r1 : Int32} {x4 : Nat} (hn : 2 ≤ n ∧ n ≤ 5) (c1_ : ZR 118 0 [.val (.ref (kad n (22, 0, 0))), .val (.int p1), .val (.int p2), .val (.int p3)] [] (khp n L σ g) true (.inl (some (.int r1)), khp n L σ g, true)) (h2 : zcnd .eq r1 0 = true) (h3 : zcnd .le ((kup σ 42 0 (Int32.ofInt 1)) 42 0) 0 = true) (z4 : zix p1 5 = some x4) (h5 : zcnd .eq ((kup σ 42 0 (Int32.ofInt 1)) 40 x4) 0 = true) (h6 : zcnd .le ((kup (kup σ 42 0 (Int32.ofInt 1)) 42 0 (Int32.ofInt 0)) 42 0) 0 = false) : ZR 130 0 [.val (.ref (kad n (22, 0, 0))), .val (.int p1), .val (.int p2), .val (.int p3), .unset, .unset, .unset, .unset] [] (khp n L σ g) cl (.inl (some (.int (Int32.ofInt 0))), khp n L (kup (kup σ 42 0 (Int32.ofInt 1)) 42 0 (Int32.ofInt 0)) (g), false) := by
  have hM : zmi[130]? = some _ := rfl
  have l4 := (zix_some z4).2.2
  refine zr_fr hM rfl rfl rfl ?_
  refine zr_fr hM rfl rfl rfl ?_
  refine zr_fr hM rfl rfl rfl ?_
  refine zr_fr hM rfl rfl rfl ?_
  refine zr_fr hM rfl rfl rfl ?_
  refine zr_virt (κ := (22, 0, 0)) hn hM rfl rfl rfl rfl rfl rfl rfl rfl rfl ?_
  refine zgo_ret rfl rfl c1_ ?_
  rw [Bool.and_true]
  refine zr_ift hM rfl rfl h2 ?_
  refine zr_fr hM rfl rfl rfl ?_
  refine zr_putf (κ := (22, 0, 0)) hn hM rfl rfl rfl rfl rfl rfl rfl rfl ?_
  refine zr_fr hM rfl rfl rfl ?_
  refine zr_getf (κ := (22, 0, 0)) hn hM rfl rfl rfl rfl ?_
  refine zr_ift hM rfl rfl h3 ?_
  refine zr_fr hM rfl rfl rfl ?_
  refine zr_fr hM rfl rfl rfl ?_
  refine zr_getf (κ := (22, 0, 0)) hn hM rfl rfl rfl rfl ?_
  refine zr_fr hM rfl rfl rfl ?_
  refine zr_bald (κ := (25, 0, 0)) hn hM rfl rfl rfl z4 ?_
  refine zr_ift hM rfl rfl h5 ?_
  refine zr_fr hM rfl rfl rfl ?_
  refine zr_putf (κ := (22, 0, 0)) hn hM rfl rfl rfl rfl rfl rfl rfl rfl ?_
  refine zr_fr hM rfl rfl rfl ?_
  refine zr_getf (κ := (22, 0, 0)) hn hM rfl rfl rfl rfl ?_
  refine zr_iff hM rfl rfl h6 ?_
  refine zr_fr hM rfl rfl rfl ?_
  exact zr_iret2 hM rfl rfl rfl
set_option maxHeartbeats 4000000 in
theorem s130_0_tttt {n L : Nat} {σ : Ks} {g : List Nat} {cl : Bool} {r : Zr} {p1 : Int32} {p2 : Int32} {p3 : Int32} {r1 : Int32} {x4 : Nat} (hn : 2 ≤ n ∧ n ≤ 5) (c1_ : ZR 118 0 [.val (.ref (kad n (22, 0, 0))), .val (.int p1), .val (.int p2), .val (.int p3)] [] (khp n L σ g) true (.inl (some (.int r1)), khp n L σ g, true)) (h2 : zcnd .eq r1 0 = true) (h3 : zcnd .le ((kup σ 42 0 (Int32.ofInt 1)) 42 0) 0 = true) (z4 : zix p1 5 = some x4) (h5 : zcnd .eq ((kup σ 42 0 (Int32.ofInt 1)) 40 x4) 0 = true) (h6 : zcnd .le ((kup (kup σ 42 0 (Int32.ofInt 1)) 42 0 (Int32.ofInt 0)) 42 0) 0 = true) (k : ZR 130 64 [.val (.ref (kad n (22, 0, 0))), .val (.int p1), .val (.int p2), .val (.int p3), .val (.int (Int32.ofInt (-1))), .val (.int (Int32.ofInt 0)), .val (.int (Int32.ofInt 0)), .unset] [] (khp n L (kup (kup σ 42 0 (Int32.ofInt 1)) 42 0 (Int32.ofInt 0)) (g)) false r) : ZR 130 0 [.val (.ref (kad n (22, 0, 0))), .val (.int p1), .val (.int p2), .val (.int p3), .unset, .unset, .unset, .unset] [] (khp n L σ g) cl r := by
  have hM : zmi[130]? = some _ := rfl
  have l4 := (zix_some z4).2.2
  refine zr_fr hM rfl rfl rfl ?_
  refine zr_fr hM rfl rfl rfl ?_
  refine zr_fr hM rfl rfl rfl ?_
  refine zr_fr hM rfl rfl rfl ?_
  refine zr_fr hM rfl rfl rfl ?_
  refine zr_virt (κ := (22, 0, 0)) hn hM rfl rfl rfl rfl rfl rfl rfl rfl rfl ?_
  refine zgo_ret rfl rfl c1_ ?_
  rw [Bool.and_true]
  refine zr_ift hM rfl rfl h2 ?_
  refine zr_fr hM rfl rfl rfl ?_
  refine zr_putf (κ := (22, 0, 0)) hn hM rfl rfl rfl rfl rfl rfl rfl rfl ?_
  refine zr_fr hM rfl rfl rfl ?_
  refine zr_getf (κ := (22, 0, 0)) hn hM rfl rfl rfl rfl ?_
  refine zr_ift hM rfl rfl h3 ?_
  refine zr_fr hM rfl rfl rfl ?_
  refine zr_fr hM rfl rfl rfl ?_
  refine zr_getf (κ := (22, 0, 0)) hn hM rfl rfl rfl rfl ?_
  refine zr_fr hM rfl rfl rfl ?_
  refine zr_bald (κ := (25, 0, 0)) hn hM rfl rfl rfl z4 ?_
  refine zr_ift hM rfl rfl h5 ?_
  refine zr_fr hM rfl rfl rfl ?_
  refine zr_putf (κ := (22, 0, 0)) hn hM rfl rfl rfl rfl rfl rfl rfl rfl ?_
  refine zr_fr hM rfl rfl rfl ?_
  refine zr_getf (κ := (22, 0, 0)) hn hM rfl rfl rfl rfl ?_
  refine zr_ift hM rfl rfl h6 ?_
  refine zr_fr hM rfl rfl rfl ?_
  refine zr_fr hM rfl rfl rfl ?_
  refine zr_fr hM rfl rfl rfl ?_
  refine zr_fr hM rfl rfl rfl ?_
  refine zr_fr hM rfl rfl rfl ?_
  refine zr_fr hM rfl rfl rfl ?_
  exact k
set_option maxHeartbeats 4000000 in
theorem s130_64_ffff {n L : Nat} {σ : Ks} {g : List Nat} {cl : Bool} {r : Zr} {v1 : Int32} {v2 : Int32} {v3 : Int32} {v4 : Int32} {v5 : Int32} {v6 : Int32} {w7 : Option Int32} (hn : 2 ≤ n ∧ n ≤ 5) (h1 : zcnd .ge v6 (σ 42 1) = false) (h2 : zcnd .ne v6 v1 = false) (h3 : zcnd .le (Int32.ofInt (-1)) v5 = false) (h4 : zcnd .le (Int32.ofInt (-1)) v5 = false) (k : ZR 130 64 [.val (.ref (kad n (22, 0, 0))), .val (.int v1), .val (.int v2), .val (.int v3), .val (.int v6), .val (.int (Int32.ofInt (-1))), .val (.int (v6 + Int32.ofInt 1)), .val (.int (Int32.ofInt (-1)))] [] (khp n L σ (g)) cl r) : ZR 130 64 [.val (.ref (kad n (22, 0, 0))), .val (.int v1), .val (.int v2), .val (.int v3), .val (.int v4), .val (.int v5), .val (.int v6), zop w7] [] (khp n L σ g) cl r := by
  have hM : zmi[130]? = some _ := rfl
  refine zr_fr hM rfl rfl rfl ?_
  refine zr_fr hM rfl rfl rfl ?_
  refine zr_getf (κ := (22, 0, 0)) hn hM rfl rfl rfl rfl ?_
  refine zr_icf hM rfl rfl h1 ?_
  refine zr_fr hM rfl rfl rfl ?_
  refine zr_fr hM rfl rfl rfl ?_
  refine zr_icf hM rfl rfl h2 ?_
  refine zr_fr hM rfl rfl rfl ?_
  refine zr_fr hM rfl rfl rfl ?_
  refine zr_fr (ls' := [.val (.ref (kad n (22, 0, 0))), .val (.int v1), .val (.int v2), .val (.int v3), .val (.int v4), .val (.int v5), .val (.int v6), .val (.int (Int32.ofInt (-1)))]) hM rfl rfl (by cases w7 <;> rfl) ?_
  refine zr_fr hM rfl rfl rfl ?_
  refine zr_fr hM rfl rfl rfl ?_
  refine zr_icf hM rfl rfl h3 ?_
  refine zr_fr hM rfl rfl rfl ?_
  refine zr_fr hM rfl rfl rfl ?_
  refine zr_fr hM rfl rfl rfl ?_
  refine zr_fr hM rfl rfl rfl ?_
  refine zr_fr hM rfl rfl rfl ?_
  refine zr_icf hM rfl rfl h4 ?_
  refine zr_fr hM rfl rfl rfl ?_
  refine zr_fr hM rfl rfl rfl ?_
  refine zr_fr hM rfl rfl rfl ?_
  refine zr_fr hM rfl rfl rfl ?_
  refine zr_fr hM rfl rfl rfl ?_
  exact k
set_option maxHeartbeats 4000000 in
theorem s130_64_ffft {n L : Nat} {σ : Ks} {g : List Nat} {cl : Bool} {r : Zr} {v1 : Int32} {v2 : Int32} {v3 : Int32} {v4 : Int32} {v5 : Int32} {v6 : Int32} {w7 : Option Int32} (hn : 2 ≤ n ∧ n ≤ 5) (h1 : zcnd .ge v6 (σ 42 1) = false) (h2 : zcnd .ne v6 v1 = false) (h3 : zcnd .le (Int32.ofInt (-1)) v5 = false) (h4 : zcnd .le (Int32.ofInt (-1)) v5 = true) (k : ZR 130 64 [.val (.ref (kad n (22, 0, 0))), .val (.int v1), .val (.int v2), .val (.int v3), .val (.int v6), .val (.int v5), .val (.int (v6 + Int32.ofInt 1)), .val (.int (Int32.ofInt (-1)))] [] (khp n L σ (g)) cl r) : ZR 130 64 [.val (.ref (kad n (22, 0, 0))), .val (.int v1), .val (.int v2), .val (.int v3), .val (.int v4), .val (.int v5), .val (.int v6), zop w7] [] (khp n L σ g) cl r := by
  have hM : zmi[130]? = some _ := rfl
  refine zr_fr hM rfl rfl rfl ?_
  refine zr_fr hM rfl rfl rfl ?_
  refine zr_getf (κ := (22, 0, 0)) hn hM rfl rfl rfl rfl ?_
  refine zr_icf hM rfl rfl h1 ?_
  refine zr_fr hM rfl rfl rfl ?_
  refine zr_fr hM rfl rfl rfl ?_
  refine zr_icf hM rfl rfl h2 ?_
  refine zr_fr hM rfl rfl rfl ?_
  refine zr_fr hM rfl rfl rfl ?_
  refine zr_fr (ls' := [.val (.ref (kad n (22, 0, 0))), .val (.int v1), .val (.int v2), .val (.int v3), .val (.int v4), .val (.int v5), .val (.int v6), .val (.int (Int32.ofInt (-1)))]) hM rfl rfl (by cases w7 <;> rfl) ?_
  refine zr_fr hM rfl rfl rfl ?_
  refine zr_fr hM rfl rfl rfl ?_
  refine zr_icf hM rfl rfl h3 ?_
  refine zr_fr hM rfl rfl rfl ?_
  refine zr_fr hM rfl rfl rfl ?_
  refine zr_fr hM rfl rfl rfl ?_
  refine zr_fr hM rfl rfl rfl ?_
  refine zr_fr hM rfl rfl rfl ?_
  refine zr_ict hM rfl rfl h4 ?_
  refine zr_fr hM rfl rfl rfl ?_
  refine zr_fr hM rfl rfl rfl ?_
  refine zr_fr hM rfl rfl rfl ?_
  refine zr_fr hM rfl rfl rfl ?_
  exact k
set_option maxHeartbeats 4000000 in
theorem s130_64_fftf {n L : Nat} {σ : Ks} {g : List Nat} {cl : Bool} {r : Zr} {v1 : Int32} {v2 : Int32} {v3 : Int32} {v4 : Int32} {v5 : Int32} {v6 : Int32} {w7 : Option Int32} (hn : 2 ≤ n ∧ n ≤ 5) (h1 : zcnd .ge v6 (σ 42 1) = false) (h2 : zcnd .ne v6 v1 = false) (h3 : zcnd .le (Int32.ofInt (-1)) v5 = true) (h4 : zcnd .le (Int32.ofInt (-1)) v5 = false) (k : ZR 130 64 [.val (.ref (kad n (22, 0, 0))), .val (.int v1), .val (.int v2), .val (.int v3), .val (.int v4), .val (.int (Int32.ofInt (-1))), .val (.int (v6 + Int32.ofInt 1)), .val (.int (Int32.ofInt (-1)))] [] (khp n L σ (g)) cl r) : ZR 130 64 [.val (.ref (kad n (22, 0, 0))), .val (.int v1), .val (.int v2), .val (.int v3), .val (.int v4), .val (.int v5), .val (.int v6), zop w7] [] (khp n L σ g) cl r := by
  have hM : zmi[130]? = some _ := rfl
  refine zr_fr hM rfl rfl rfl ?_
  refine zr_fr hM rfl rfl rfl ?_
  refine zr_getf (κ := (22, 0, 0)) hn hM rfl rfl rfl rfl ?_
  refine zr_icf hM rfl rfl h1 ?_
  refine zr_fr hM rfl rfl rfl ?_
  refine zr_fr hM rfl rfl rfl ?_
  refine zr_icf hM rfl rfl h2 ?_
  refine zr_fr hM rfl rfl rfl ?_
  refine zr_fr hM rfl rfl rfl ?_
  refine zr_fr (ls' := [.val (.ref (kad n (22, 0, 0))), .val (.int v1), .val (.int v2), .val (.int v3), .val (.int v4), .val (.int v5), .val (.int v6), .val (.int (Int32.ofInt (-1)))]) hM rfl rfl (by cases w7 <;> rfl) ?_
  refine zr_fr hM rfl rfl rfl ?_
  refine zr_fr hM rfl rfl rfl ?_
  refine zr_ict hM rfl rfl h3 ?_
  refine zr_fr hM rfl rfl rfl ?_
  refine zr_fr hM rfl rfl rfl ?_
  refine zr_fr hM rfl rfl rfl ?_
  refine zr_fr hM rfl rfl rfl ?_
  refine zr_icf hM rfl rfl h4 ?_
  refine zr_fr hM rfl rfl rfl ?_
  refine zr_fr hM rfl rfl rfl ?_
  refine zr_fr hM rfl rfl rfl ?_
  refine zr_fr hM rfl rfl rfl ?_
  refine zr_fr hM rfl rfl rfl ?_
  exact k
set_option maxHeartbeats 4000000 in
theorem s130_64_fftt {n L : Nat} {σ : Ks} {g : List Nat} {cl : Bool} {r : Zr} {v1 : Int32} {v2 : Int32} {v3 : Int32} {v4 : Int32} {v5 : Int32} {v6 : Int32} {w7 : Option Int32} (hn : 2 ≤ n ∧ n ≤ 5) (h1 : zcnd .ge v6 (σ 42 1) = false) (h2 : zcnd .ne v6 v1 = false) (h3 : zcnd .le (Int32.ofInt (-1)) v5 = true) (h4 : zcnd .le (Int32.ofInt (-1)) v5 = true) (k : ZR 130 64 [.val (.ref (kad n (22, 0, 0))), .val (.int v1), .val (.int v2), .val (.int v3), .val (.int v4), .val (.int v5), .val (.int (v6 + Int32.ofInt 1)), .val (.int (Int32.ofInt (-1)))] [] (khp n L σ (g)) cl r) : ZR 130 64 [.val (.ref (kad n (22, 0, 0))), .val (.int v1), .val (.int v2), .val (.int v3), .val (.int v4), .val (.int v5), .val (.int v6), zop w7] [] (khp n L σ g) cl r := by
  have hM : zmi[130]? = some _ := rfl
  refine zr_fr hM rfl rfl rfl ?_
  refine zr_fr hM rfl rfl rfl ?_
  refine zr_getf (κ := (22, 0, 0)) hn hM rfl rfl rfl rfl ?_
  refine zr_icf hM rfl rfl h1 ?_
  refine zr_fr hM rfl rfl rfl ?_
  refine zr_fr hM rfl rfl rfl ?_
  refine zr_icf hM rfl rfl h2 ?_
  refine zr_fr hM rfl rfl rfl ?_
  refine zr_fr hM rfl rfl rfl ?_
  refine zr_fr (ls' := [.val (.ref (kad n (22, 0, 0))), .val (.int v1), .val (.int v2), .val (.int v3), .val (.int v4), .val (.int v5), .val (.int v6), .val (.int (Int32.ofInt (-1)))]) hM rfl rfl (by cases w7 <;> rfl) ?_
  refine zr_fr hM rfl rfl rfl ?_
  refine zr_fr hM rfl rfl rfl ?_
  refine zr_ict hM rfl rfl h3 ?_
  refine zr_fr hM rfl rfl rfl ?_
  refine zr_fr hM rfl rfl rfl ?_
  refine zr_fr hM rfl rfl rfl ?_
  refine zr_fr hM rfl rfl rfl ?_
  refine zr_ict hM rfl rfl h4 ?_
  refine zr_fr hM rfl rfl rfl ?_
  refine zr_fr hM rfl rfl rfl ?_
  refine zr_fr hM rfl rfl rfl ?_
  refine zr_fr hM rfl rfl rfl ?_
  exact k
set_option maxHeartbeats 4000000 in
theorem s130_64_ftff {n L : Nat} {σ : Ks} {g : List Nat} {cl : Bool} {r : Zr} {v1 : Int32} {v2 : Int32} {v3 : Int32} {v4 : Int32} {v5 : Int32} {v6 : Int32} {w7 : Option Int32} {r3 : Int32} {x4 : Nat} (hn : 2 ≤ n ∧ n ≤ 5) (h1 : zcnd .ge v6 (σ 42 1) = false) (h2 : zcnd .ne v6 v1 = true) (c3_ : ZR 95 0 [.val (.int v1), .val (.int v6)] [] (khp n L σ g) true (.inl (some (.int r3)), khp n L σ g, true)) (z4 : zix ((r3 + ((Int8.ofInt 16).toInt32)) + v2) 820 = some x4) (h5 : zcnd .le (σ (20 + x4 / 164) (x4 % 164)) v5 = false) (h6 : zcnd .le (σ (20 + x4 / 164) (x4 % 164)) v5 = false) (k : ZR 130 64 [.val (.ref (kad n (22, 0, 0))), .val (.int v1), .val (.int v2), .val (.int v3), .val (.int v6), .val (.int (σ (20 + x4 / 164) (x4 % 164))), .val (.int (v6 + Int32.ofInt 1)), .val (.int (σ (20 + x4 / 164) (x4 % 164)))] [] (khp n L σ (g)) cl r) : ZR 130 64 [.val (.ref (kad n (22, 0, 0))), .val (.int v1), .val (.int v2), .val (.int v3), .val (.int v4), .val (.int v5), .val (.int v6), zop w7] [] (khp n L σ g) cl r := by
  have hM : zmi[130]? = some _ := rfl
  have l4 := (zix_some z4).2.2
  refine zr_fr hM rfl rfl rfl ?_
  refine zr_fr hM rfl rfl rfl ?_
  refine zr_getf (κ := (22, 0, 0)) hn hM rfl rfl rfl rfl ?_
  refine zr_icf hM rfl rfl h1 ?_
  refine zr_fr hM rfl rfl rfl ?_
  refine zr_fr hM rfl rfl rfl ?_
  refine zr_ict hM rfl rfl h2 ?_
  refine zr_fr hM rfl rfl rfl ?_
  refine zr_getf (κ := (22, 0, 0)) hn hM rfl rfl rfl rfl ?_
  refine zr_fr hM rfl rfl rfl ?_
  refine zr_fr hM rfl rfl rfl ?_
  refine zr_stat hM rfl rfl rfl rfl rfl rfl ?_
  refine zgo_ret rfl rfl c3_ ?_
  rw [Bool.and_true]
  refine zr_fr hM rfl rfl rfl ?_
  refine zr_fr hM rfl rfl rfl ?_
  refine zr_fr hM rfl rfl rfl ?_
  refine zr_fr hM rfl rfl rfl ?_
  refine zr_iald (κ := (23, 0, 0)) hn hM rfl rfl rfl z4 ?_
  refine zr_fr (ls' := [.val (.ref (kad n (22, 0, 0))), .val (.int v1), .val (.int v2), .val (.int v3), .val (.int v4), .val (.int v5), .val (.int v6), .val (.int (σ (20 + x4 / 164) (x4 % 164)))]) hM rfl rfl (by cases w7 <;> rfl) ?_
  refine zr_fr hM rfl rfl rfl ?_
  refine zr_fr hM rfl rfl rfl ?_
  refine zr_icf hM rfl rfl h5 ?_
  refine zr_fr hM rfl rfl rfl ?_
  refine zr_fr hM rfl rfl rfl ?_
  refine zr_fr hM rfl rfl rfl ?_
  refine zr_fr hM rfl rfl rfl ?_
  refine zr_fr hM rfl rfl rfl ?_
  refine zr_icf hM rfl rfl h6 ?_
  refine zr_fr hM rfl rfl rfl ?_
  refine zr_fr hM rfl rfl rfl ?_
  refine zr_fr hM rfl rfl rfl ?_
  refine zr_fr hM rfl rfl rfl ?_
  refine zr_fr hM rfl rfl rfl ?_
  exact k
set_option maxHeartbeats 4000000 in
theorem s130_64_ftft {n L : Nat} {σ : Ks} {g : List Nat} {cl : Bool} {r : Zr} {v1 : Int32} {v2 : Int32} {v3 : Int32} {v4 : Int32} {v5 : Int32} {v6 : Int32} {w7 : Option Int32} {r3 : Int32} {x4 : Nat} (hn : 2 ≤ n ∧ n ≤ 5) (h1 : zcnd .ge v6 (σ 42 1) = false) (h2 : zcnd .ne v6 v1 = true) (c3_ : ZR 95 0 [.val (.int v1), .val (.int v6)] [] (khp n L σ g) true (.inl (some (.int r3)), khp n L σ g, true)) (z4 : zix ((r3 + ((Int8.ofInt 16).toInt32)) + v2) 820 = some x4) (h5 : zcnd .le (σ (20 + x4 / 164) (x4 % 164)) v5 = false) (h6 : zcnd .le (σ (20 + x4 / 164) (x4 % 164)) v5 = true) (k : ZR 130 64 [.val (.ref (kad n (22, 0, 0))), .val (.int v1), .val (.int v2), .val (.int v3), .val (.int v6), .val (.int v5), .val (.int (v6 + Int32.ofInt 1)), .val (.int (σ (20 + x4 / 164) (x4 % 164)))] [] (khp n L σ (g)) cl r) : ZR 130 64 [.val (.ref (kad n (22, 0, 0))), .val (.int v1), .val (.int v2), .val (.int v3), .val (.int v4), .val (.int v5), .val (.int v6), zop w7] [] (khp n L σ g) cl r := by
  have hM : zmi[130]? = some _ := rfl
  have l4 := (zix_some z4).2.2
  refine zr_fr hM rfl rfl rfl ?_
  refine zr_fr hM rfl rfl rfl ?_
  refine zr_getf (κ := (22, 0, 0)) hn hM rfl rfl rfl rfl ?_
  refine zr_icf hM rfl rfl h1 ?_
  refine zr_fr hM rfl rfl rfl ?_
  refine zr_fr hM rfl rfl rfl ?_
  refine zr_ict hM rfl rfl h2 ?_
  refine zr_fr hM rfl rfl rfl ?_
  refine zr_getf (κ := (22, 0, 0)) hn hM rfl rfl rfl rfl ?_
  refine zr_fr hM rfl rfl rfl ?_
  refine zr_fr hM rfl rfl rfl ?_
  refine zr_stat hM rfl rfl rfl rfl rfl rfl ?_
  refine zgo_ret rfl rfl c3_ ?_
  rw [Bool.and_true]
  refine zr_fr hM rfl rfl rfl ?_
  refine zr_fr hM rfl rfl rfl ?_
  refine zr_fr hM rfl rfl rfl ?_
  refine zr_fr hM rfl rfl rfl ?_
  refine zr_iald (κ := (23, 0, 0)) hn hM rfl rfl rfl z4 ?_
  refine zr_fr (ls' := [.val (.ref (kad n (22, 0, 0))), .val (.int v1), .val (.int v2), .val (.int v3), .val (.int v4), .val (.int v5), .val (.int v6), .val (.int (σ (20 + x4 / 164) (x4 % 164)))]) hM rfl rfl (by cases w7 <;> rfl) ?_
  refine zr_fr hM rfl rfl rfl ?_
  refine zr_fr hM rfl rfl rfl ?_
  refine zr_icf hM rfl rfl h5 ?_
  refine zr_fr hM rfl rfl rfl ?_
  refine zr_fr hM rfl rfl rfl ?_
  refine zr_fr hM rfl rfl rfl ?_
  refine zr_fr hM rfl rfl rfl ?_
  refine zr_fr hM rfl rfl rfl ?_
  refine zr_ict hM rfl rfl h6 ?_
  refine zr_fr hM rfl rfl rfl ?_
  refine zr_fr hM rfl rfl rfl ?_
  refine zr_fr hM rfl rfl rfl ?_
  refine zr_fr hM rfl rfl rfl ?_
  exact k
set_option maxHeartbeats 4000000 in
theorem s130_64_fttf {n L : Nat} {σ : Ks} {g : List Nat} {cl : Bool} {r : Zr} {v1 : Int32} {v2 : Int32} {v3 : Int32} {v4 : Int32} {v5 : Int32} {v6 : Int32} {w7 : Option Int32} {r3 : Int32} {x4 : Nat} (hn : 2 ≤ n ∧ n ≤ 5) (h1 : zcnd .ge v6 (σ 42 1) = false) (h2 : zcnd .ne v6 v1 = true) (c3_ : ZR 95 0 [.val (.int v1), .val (.int v6)] [] (khp n L σ g) true (.inl (some (.int r3)), khp n L σ g, true)) (z4 : zix ((r3 + ((Int8.ofInt 16).toInt32)) + v2) 820 = some x4) (h5 : zcnd .le (σ (20 + x4 / 164) (x4 % 164)) v5 = true) (h6 : zcnd .le (σ (20 + x4 / 164) (x4 % 164)) v5 = false) (k : ZR 130 64 [.val (.ref (kad n (22, 0, 0))), .val (.int v1), .val (.int v2), .val (.int v3), .val (.int v4), .val (.int (σ (20 + x4 / 164) (x4 % 164))), .val (.int (v6 + Int32.ofInt 1)), .val (.int (σ (20 + x4 / 164) (x4 % 164)))] [] (khp n L σ (g)) cl r) : ZR 130 64 [.val (.ref (kad n (22, 0, 0))), .val (.int v1), .val (.int v2), .val (.int v3), .val (.int v4), .val (.int v5), .val (.int v6), zop w7] [] (khp n L σ g) cl r := by
  have hM : zmi[130]? = some _ := rfl
  have l4 := (zix_some z4).2.2
  refine zr_fr hM rfl rfl rfl ?_
  refine zr_fr hM rfl rfl rfl ?_
  refine zr_getf (κ := (22, 0, 0)) hn hM rfl rfl rfl rfl ?_
  refine zr_icf hM rfl rfl h1 ?_
  refine zr_fr hM rfl rfl rfl ?_
  refine zr_fr hM rfl rfl rfl ?_
  refine zr_ict hM rfl rfl h2 ?_
  refine zr_fr hM rfl rfl rfl ?_
  refine zr_getf (κ := (22, 0, 0)) hn hM rfl rfl rfl rfl ?_
  refine zr_fr hM rfl rfl rfl ?_
  refine zr_fr hM rfl rfl rfl ?_
  refine zr_stat hM rfl rfl rfl rfl rfl rfl ?_
  refine zgo_ret rfl rfl c3_ ?_
  rw [Bool.and_true]
  refine zr_fr hM rfl rfl rfl ?_
  refine zr_fr hM rfl rfl rfl ?_
  refine zr_fr hM rfl rfl rfl ?_
  refine zr_fr hM rfl rfl rfl ?_
  refine zr_iald (κ := (23, 0, 0)) hn hM rfl rfl rfl z4 ?_
  refine zr_fr (ls' := [.val (.ref (kad n (22, 0, 0))), .val (.int v1), .val (.int v2), .val (.int v3), .val (.int v4), .val (.int v5), .val (.int v6), .val (.int (σ (20 + x4 / 164) (x4 % 164)))]) hM rfl rfl (by cases w7 <;> rfl) ?_
  refine zr_fr hM rfl rfl rfl ?_
  refine zr_fr hM rfl rfl rfl ?_
  refine zr_ict hM rfl rfl h5 ?_
  refine zr_fr hM rfl rfl rfl ?_
  refine zr_fr hM rfl rfl rfl ?_
  refine zr_fr hM rfl rfl rfl ?_
  refine zr_fr hM rfl rfl rfl ?_
  refine zr_icf hM rfl rfl h6 ?_
  refine zr_fr hM rfl rfl rfl ?_
  refine zr_fr hM rfl rfl rfl ?_
  refine zr_fr hM rfl rfl rfl ?_
  refine zr_fr hM rfl rfl rfl ?_
  refine zr_fr hM rfl rfl rfl ?_
  exact k
set_option maxHeartbeats 4000000 in
theorem s130_64_fttt {n L : Nat} {σ : Ks} {g : List Nat} {cl : Bool} {r : Zr} {v1 : Int32} {v2 : Int32} {v3 : Int32} {v4 : Int32} {v5 : Int32} {v6 : Int32} {w7 : Option Int32} {r3 : Int32} {x4 : Nat} (hn : 2 ≤ n ∧ n ≤ 5) (h1 : zcnd .ge v6 (σ 42 1) = false) (h2 : zcnd .ne v6 v1 = true) (c3_ : ZR 95 0 [.val (.int v1), .val (.int v6)] [] (khp n L σ g) true (.inl (some (.int r3)), khp n L σ g, true)) (z4 : zix ((r3 + ((Int8.ofInt 16).toInt32)) + v2) 820 = some x4) (h5 : zcnd .le (σ (20 + x4 / 164) (x4 % 164)) v5 = true) (h6 : zcnd .le (σ (20 + x4 / 164) (x4 % 164)) v5 = true) (k : ZR 130 64 [.val (.ref (kad n (22, 0, 0))), .val (.int v1), .val (.int v2), .val (.int v3), .val (.int v4), .val (.int v5), .val (.int (v6 + Int32.ofInt 1)), .val (.int (σ (20 + x4 / 164) (x4 % 164)))] [] (khp n L σ (g)) cl r) : ZR 130 64 [.val (.ref (kad n (22, 0, 0))), .val (.int v1), .val (.int v2), .val (.int v3), .val (.int v4), .val (.int v5), .val (.int v6), zop w7] [] (khp n L σ g) cl r := by
  have hM : zmi[130]? = some _ := rfl
  have l4 := (zix_some z4).2.2
  refine zr_fr hM rfl rfl rfl ?_
  refine zr_fr hM rfl rfl rfl ?_
  refine zr_getf (κ := (22, 0, 0)) hn hM rfl rfl rfl rfl ?_
  refine zr_icf hM rfl rfl h1 ?_
  refine zr_fr hM rfl rfl rfl ?_
  refine zr_fr hM rfl rfl rfl ?_
  refine zr_ict hM rfl rfl h2 ?_
  refine zr_fr hM rfl rfl rfl ?_
  refine zr_getf (κ := (22, 0, 0)) hn hM rfl rfl rfl rfl ?_
  refine zr_fr hM rfl rfl rfl ?_
  refine zr_fr hM rfl rfl rfl ?_
  refine zr_stat hM rfl rfl rfl rfl rfl rfl ?_
  refine zgo_ret rfl rfl c3_ ?_
  rw [Bool.and_true]
  refine zr_fr hM rfl rfl rfl ?_
  refine zr_fr hM rfl rfl rfl ?_
  refine zr_fr hM rfl rfl rfl ?_
  refine zr_fr hM rfl rfl rfl ?_
  refine zr_iald (κ := (23, 0, 0)) hn hM rfl rfl rfl z4 ?_
  refine zr_fr (ls' := [.val (.ref (kad n (22, 0, 0))), .val (.int v1), .val (.int v2), .val (.int v3), .val (.int v4), .val (.int v5), .val (.int v6), .val (.int (σ (20 + x4 / 164) (x4 % 164)))]) hM rfl rfl (by cases w7 <;> rfl) ?_
  refine zr_fr hM rfl rfl rfl ?_
  refine zr_fr hM rfl rfl rfl ?_
  refine zr_ict hM rfl rfl h5 ?_
  refine zr_fr hM rfl rfl rfl ?_
  refine zr_fr hM rfl rfl rfl ?_
  refine zr_fr hM rfl rfl rfl ?_
  refine zr_fr hM rfl rfl rfl ?_
  refine zr_ict hM rfl rfl h6 ?_
  refine zr_fr hM rfl rfl rfl ?_
  refine zr_fr hM rfl rfl rfl ?_
  refine zr_fr hM rfl rfl rfl ?_
  refine zr_fr hM rfl rfl rfl ?_
  exact k
set_option maxHeartbeats 4000000 in
theorem s130_64_tf {n L : Nat} {σ : Ks} {g : List Nat} {cl : Bool} {v1 : Int32} {v2 : Int32} {v3 : Int32} {v4 : Int32} {v5 : Int32} {v6 : Int32} {w7 : Option Int32} {σ3 : Ks} {c3 : Bool} (hn : 2 ≤ n ∧ n ≤ 5) (h1 : zcnd .ge v6 (σ 42 1) = true) (h2 : zcnd .lt v4 0 = false) (c3_ : ZR 104 0 [.val (.ref (kad n (22, 0, 0))), .val (.int (Int32.ofInt 3)), .val (.int v1), .val (.int v4), .val (.int v2), .val (.int v3), .val (.int (Int32.ofInt (-1))), .unset] [] (khp n L σ g) true (.inl (none), khp n L σ3 g, c3)) : ZR 130 64 [.val (.ref (kad n (22, 0, 0))), .val (.int v1), .val (.int v2), .val (.int v3), .val (.int v4), .val (.int v5), .val (.int v6), zop w7] [] (khp n L σ g) cl (.inl (some (.int v4)), khp n L σ3 (g), cl && c3) := by
  have hM : zmi[130]? = some _ := rfl
  refine zr_fr hM rfl rfl rfl ?_
  refine zr_fr hM rfl rfl rfl ?_
  refine zr_getf (κ := (22, 0, 0)) hn hM rfl rfl rfl rfl ?_
  refine zr_ict hM rfl rfl h1 ?_
  refine zr_fr hM rfl rfl rfl ?_
  refine zr_iff hM rfl rfl h2 ?_
  refine zr_fr hM rfl rfl rfl ?_
  refine zr_fr hM rfl rfl rfl ?_
  refine zr_fr hM rfl rfl rfl ?_
  refine zr_fr hM rfl rfl rfl ?_
  refine zr_fr hM rfl rfl rfl ?_
  refine zr_fr hM rfl rfl rfl ?_
  refine zr_fr hM rfl rfl rfl ?_
  refine zr_virt (κ := (22, 0, 0)) hn hM rfl rfl rfl rfl rfl rfl rfl rfl rfl ?_
  refine zgo_ret rfl rfl c3_ ?_
  refine zr_fr hM rfl rfl rfl ?_
  exact zr_iret2 hM rfl rfl rfl
set_option maxHeartbeats 4000000 in
theorem s130_64_tt {n L : Nat} {σ : Ks} {g : List Nat} {cl : Bool} {v1 : Int32} {v2 : Int32} {v3 : Int32} {v4 : Int32} {v5 : Int32} {v6 : Int32} {w7 : Option Int32} (hn : 2 ≤ n ∧ n ≤ 5) (h1 : zcnd .ge v6 (σ 42 1) = true) (h2 : zcnd .lt v4 0 = true) : ZR 130 64 [.val (.ref (kad n (22, 0, 0))), .val (.int v1), .val (.int v2), .val (.int v3), .val (.int v4), .val (.int v5), .val (.int v6), zop w7] [] (khp n L σ g) cl (.inl (some (.int v4)), khp n L σ (g), cl) := by
  have hM : zmi[130]? = some _ := rfl
  refine zr_fr hM rfl rfl rfl ?_
  refine zr_fr hM rfl rfl rfl ?_
  refine zr_getf (κ := (22, 0, 0)) hn hM rfl rfl rfl rfl ?_
  refine zr_ict hM rfl rfl h1 ?_
  refine zr_fr hM rfl rfl rfl ?_
  refine zr_ift hM rfl rfl h2 ?_
  refine zr_fr hM rfl rfl rfl ?_
  exact zr_iret2 hM rfl rfl rfl
set_option maxHeartbeats 4000000 in
theorem s131_0_ffff {n L : Nat} {σ : Ks} {g : List Nat} {cl : Bool} {p1 : Int32} {p2 : Int32} {r1 : Int32} (hn : 2 ≤ n ∧ n ≤ 5) (c1_ : ZR 114 0 [.val (.int p1)] [] (khp n L σ g) true (.inl (some (.int r1)), khp n L σ g, true)) (h2 : zcnd .eq r1 0 = false) (h3 : zcnd .lt p2 0 = false) (h4 : zcnd .le p2 (Int32.ofNat 1000000) = false) (h5 : zcnd .le ((kup σ 42 0 (Int32.ofInt 1)) 42 0) 0 = false) : ZR 131 0 [.val (.ref (kad n (22, 0, 0))), .val (.int p1), .val (.int p2), .unset] [] (khp n L σ g) cl (.inl (some (.int (Int32.ofInt 0))), khp n L (kup σ 42 0 (Int32.ofInt 1)) (g), false) := by
  have hM : zmi[131]? = some _ := rfl
  refine zr_fr hM rfl rfl rfl ?_
  refine zr_fr hM rfl rfl rfl ?_
  refine zr_stat hM rfl rfl rfl rfl rfl rfl ?_
  refine zgo_ret rfl rfl c1_ ?_
  rw [Bool.and_true]
  refine zr_iff hM rfl rfl h2 ?_
  refine zr_fr hM rfl rfl rfl ?_
  refine zr_iff hM rfl rfl h3 ?_
  refine zr_fr hM rfl rfl rfl ?_
  refine zr_ldc hM rfl ?_
  refine zr_icf hM rfl rfl h4 ?_
  refine zr_fr hM rfl rfl rfl ?_
  refine zr_fr hM rfl rfl rfl ?_
  refine zr_putf (κ := (22, 0, 0)) hn hM rfl rfl rfl rfl rfl rfl rfl rfl ?_
  refine zr_fr hM rfl rfl rfl ?_
  refine zr_getf (κ := (22, 0, 0)) hn hM rfl rfl rfl rfl ?_
  refine zr_iff hM rfl rfl h5 ?_
  refine zr_fr hM rfl rfl rfl ?_
  exact zr_iret2 hM rfl rfl rfl
set_option maxHeartbeats 4000000 in
theorem s131_0_ffftff {n L : Nat} {σ : Ks} {g : List Nat} {cl : Bool} {p1 : Int32} {p2 : Int32} {r1 : Int32} {x6 : Nat} (hn : 2 ≤ n ∧ n ≤ 5) (c1_ : ZR 114 0 [.val (.int p1)] [] (khp n L σ g) true (.inl (some (.int r1)), khp n L σ g, true)) (h2 : zcnd .eq r1 0 = false) (h3 : zcnd .lt p2 0 = false) (h4 : zcnd .le p2 (Int32.ofNat 1000000) = false) (h5 : zcnd .le ((kup σ 42 0 (Int32.ofInt 1)) 42 0) 0 = true) (z6 : zix (Int32.ofInt 0) 5 = some x6) (h7 : zcnd .eq ((kup σ 42 0 (Int32.ofInt 1)) 40 x6) 0 = false) (h8 : zcnd .le ((kup (kup σ 42 0 (Int32.ofInt 1)) 42 0 (Int32.ofInt 2)) 42 0) 0 = false) : ZR 131 0 [.val (.ref (kad n (22, 0, 0))), .val (.int p1), .val (.int p2), .unset] [] (khp n L σ g) cl (.inl (some (.int (Int32.ofInt 0))), khp n L (kup (kup σ 42 0 (Int32.ofInt 1)) 42 0 (Int32.ofInt 2)) (g), false) := by
  have hM : zmi[131]? = some _ := rfl
  have l6 := (zix_some z6).2.2
  refine zr_fr hM rfl rfl rfl ?_
  refine zr_fr hM rfl rfl rfl ?_
  refine zr_stat hM rfl rfl rfl rfl rfl rfl ?_
  refine zgo_ret rfl rfl c1_ ?_
  rw [Bool.and_true]
  refine zr_iff hM rfl rfl h2 ?_
  refine zr_fr hM rfl rfl rfl ?_
  refine zr_iff hM rfl rfl h3 ?_
  refine zr_fr hM rfl rfl rfl ?_
  refine zr_ldc hM rfl ?_
  refine zr_icf hM rfl rfl h4 ?_
  refine zr_fr hM rfl rfl rfl ?_
  refine zr_fr hM rfl rfl rfl ?_
  refine zr_putf (κ := (22, 0, 0)) hn hM rfl rfl rfl rfl rfl rfl rfl rfl ?_
  refine zr_fr hM rfl rfl rfl ?_
  refine zr_getf (κ := (22, 0, 0)) hn hM rfl rfl rfl rfl ?_
  refine zr_ift hM rfl rfl h5 ?_
  refine zr_fr hM rfl rfl rfl ?_
  refine zr_fr hM rfl rfl rfl ?_
  refine zr_getf (κ := (22, 0, 0)) hn hM rfl rfl rfl rfl ?_
  refine zr_fr hM rfl rfl rfl ?_
  refine zr_bald (κ := (25, 0, 0)) hn hM rfl rfl rfl z6 ?_
  refine zr_iff hM rfl rfl h7 ?_
  refine zr_fr hM rfl rfl rfl ?_
  refine zr_fr hM rfl rfl rfl ?_
  refine zr_putf (κ := (22, 0, 0)) hn hM rfl rfl rfl rfl rfl rfl rfl rfl ?_
  refine zr_fr hM rfl rfl rfl ?_
  refine zr_getf (κ := (22, 0, 0)) hn hM rfl rfl rfl rfl ?_
  refine zr_iff hM rfl rfl h8 ?_
  refine zr_fr hM rfl rfl rfl ?_
  exact zr_iret2 hM rfl rfl rfl
set_option maxHeartbeats 4000000 in
theorem s131_0_ffftft {n L : Nat} {σ : Ks} {g : List Nat} {cl : Bool} {p1 : Int32} {p2 : Int32} {r1 : Int32} {x6 : Nat} {x9 : Nat} {x10 : Nat} (hn : 2 ≤ n ∧ n ≤ 5) (c1_ : ZR 114 0 [.val (.int p1)] [] (khp n L σ g) true (.inl (some (.int r1)), khp n L σ g, true)) (h2 : zcnd .eq r1 0 = false) (h3 : zcnd .lt p2 0 = false) (h4 : zcnd .le p2 (Int32.ofNat 1000000) = false) (h5 : zcnd .le ((kup σ 42 0 (Int32.ofInt 1)) 42 0) 0 = true) (z6 : zix (Int32.ofInt 0) 5 = some x6) (h7 : zcnd .eq ((kup σ 42 0 (Int32.ofInt 1)) 40 x6) 0 = false) (h8 : zcnd .le ((kup (kup σ 42 0 (Int32.ofInt 1)) 42 0 (Int32.ofInt 2)) 42 0) 0 = true) (z9 : zix p1 820 = some x9) (z10 : zix (((Int8.ofInt 12).toInt32) + p1) 820 = some x10) : ZR 131 0 [.val (.ref (kad n (22, 0, 0))), .val (.int p1), .val (.int p2), .unset] [] (khp n L σ g) cl (.inl (some (.int (p2 - ((kup (kup σ 42 0 (Int32.ofInt 1)) 42 0 (Int32.ofInt 2)) (20 + x9 / 164) (x9 % 164))))), khp n L (kup (kup (kup (kup σ 42 0 (Int32.ofInt 1)) 42 0 (Int32.ofInt 2)) (20 + x9 / 164) (x9 % 164) p2) (20 + x10 / 164) (x10 % 164) (((kup (kup (kup σ 42 0 (Int32.ofInt 1)) 42 0 (Int32.ofInt 2)) (20 + x9 / 164) (x9 % 164) p2) (20 + x10 / 164) (x10 % 164)) + (p2 - ((kup (kup σ 42 0 (Int32.ofInt 1)) 42 0 (Int32.ofInt 2)) (20 + x9 / 164) (x9 % 164))))) (g), false) := by
  have hM : zmi[131]? = some _ := rfl
  have l6 := (zix_some z6).2.2
  have l9 := (zix_some z9).2.2
  have l10 := (zix_some z10).2.2
  refine zr_fr hM rfl rfl rfl ?_
  refine zr_fr hM rfl rfl rfl ?_
  refine zr_stat hM rfl rfl rfl rfl rfl rfl ?_
  refine zgo_ret rfl rfl c1_ ?_
  rw [Bool.and_true]
  refine zr_iff hM rfl rfl h2 ?_
  refine zr_fr hM rfl rfl rfl ?_
  refine zr_iff hM rfl rfl h3 ?_
  refine zr_fr hM rfl rfl rfl ?_
  refine zr_ldc hM rfl ?_
  refine zr_icf hM rfl rfl h4 ?_
  refine zr_fr hM rfl rfl rfl ?_
  refine zr_fr hM rfl rfl rfl ?_
  refine zr_putf (κ := (22, 0, 0)) hn hM rfl rfl rfl rfl rfl rfl rfl rfl ?_
  refine zr_fr hM rfl rfl rfl ?_
  refine zr_getf (κ := (22, 0, 0)) hn hM rfl rfl rfl rfl ?_
  refine zr_ift hM rfl rfl h5 ?_
  refine zr_fr hM rfl rfl rfl ?_
  refine zr_fr hM rfl rfl rfl ?_
  refine zr_getf (κ := (22, 0, 0)) hn hM rfl rfl rfl rfl ?_
  refine zr_fr hM rfl rfl rfl ?_
  refine zr_bald (κ := (25, 0, 0)) hn hM rfl rfl rfl z6 ?_
  refine zr_iff hM rfl rfl h7 ?_
  refine zr_fr hM rfl rfl rfl ?_
  refine zr_fr hM rfl rfl rfl ?_
  refine zr_putf (κ := (22, 0, 0)) hn hM rfl rfl rfl rfl rfl rfl rfl rfl ?_
  refine zr_fr hM rfl rfl rfl ?_
  refine zr_getf (κ := (22, 0, 0)) hn hM rfl rfl rfl rfl ?_
  refine zr_ift hM rfl rfl h8 ?_
  refine zr_fr hM rfl rfl rfl ?_
  refine zr_fr hM rfl rfl rfl ?_
  refine zr_getf (κ := (22, 0, 0)) hn hM rfl rfl rfl rfl ?_
  refine zr_fr hM rfl rfl rfl ?_
  refine zr_iald (κ := (23, 0, 0)) hn hM rfl rfl rfl z9 ?_
  refine zr_fr hM rfl rfl rfl ?_
  refine zr_fr hM rfl rfl rfl ?_
  refine zr_fr hM rfl rfl rfl ?_
  refine zr_getf (κ := (22, 0, 0)) hn hM rfl rfl rfl rfl ?_
  refine zr_fr hM rfl rfl rfl ?_
  refine zr_fr hM rfl rfl rfl ?_
  refine zr_iast (κ := (23, 0, 0)) hn hM rfl rfl rfl rfl z9 rfl ?_
  refine zr_fr hM rfl rfl rfl ?_
  refine zr_getf (κ := (22, 0, 0)) hn hM rfl rfl rfl rfl ?_
  refine zr_fr hM rfl rfl rfl ?_
  refine zr_fr hM rfl rfl rfl ?_
  refine zr_fr hM rfl rfl rfl ?_
  refine zr_fr hM rfl rfl rfl ?_
  refine zr_iald (κ := (23, 0, 0)) hn hM rfl rfl rfl z10 ?_
  refine zr_fr hM rfl rfl rfl ?_
  refine zr_fr hM rfl rfl rfl ?_
  refine zr_iast (κ := (23, 0, 0)) hn hM rfl rfl rfl rfl z10 rfl ?_
  refine zr_fr hM rfl rfl rfl ?_
  exact zr_iret2 hM rfl rfl rfl
set_option maxHeartbeats 4000000 in
theorem s131_0_fffttf {n L : Nat} {σ : Ks} {g : List Nat} {cl : Bool} {p1 : Int32} {p2 : Int32} {r1 : Int32} {x6 : Nat} (hn : 2 ≤ n ∧ n ≤ 5) (c1_ : ZR 114 0 [.val (.int p1)] [] (khp n L σ g) true (.inl (some (.int r1)), khp n L σ g, true)) (h2 : zcnd .eq r1 0 = false) (h3 : zcnd .lt p2 0 = false) (h4 : zcnd .le p2 (Int32.ofNat 1000000) = false) (h5 : zcnd .le ((kup σ 42 0 (Int32.ofInt 1)) 42 0) 0 = true) (z6 : zix (Int32.ofInt 0) 5 = some x6) (h7 : zcnd .eq ((kup σ 42 0 (Int32.ofInt 1)) 40 x6) 0 = true) (h8 : zcnd .le ((kup (kup σ 42 0 (Int32.ofInt 1)) 42 0 (Int32.ofInt 0)) 42 0) 0 = false) : ZR 131 0 [.val (.ref (kad n (22, 0, 0))), .val (.int p1), .val (.int p2), .unset] [] (khp n L σ g) cl (.inl (some (.int (Int32.ofInt 0))), khp n L (kup (kup σ 42 0 (Int32.ofInt 1)) 42 0 (Int32.ofInt 0)) (g), false) := by
  have hM : zmi[131]? = some _ := rfl
  have l6 := (zix_some z6).2.2
  refine zr_fr hM rfl rfl rfl ?_
  refine zr_fr hM rfl rfl rfl ?_
  refine zr_stat hM rfl rfl rfl rfl rfl rfl ?_
  refine zgo_ret rfl rfl c1_ ?_
  rw [Bool.and_true]
  refine zr_iff hM rfl rfl h2 ?_
  refine zr_fr hM rfl rfl rfl ?_
  refine zr_iff hM rfl rfl h3 ?_
  refine zr_fr hM rfl rfl rfl ?_
  refine zr_ldc hM rfl ?_
  refine zr_icf hM rfl rfl h4 ?_
  refine zr_fr hM rfl rfl rfl ?_
  refine zr_fr hM rfl rfl rfl ?_
  refine zr_putf (κ := (22, 0, 0)) hn hM rfl rfl rfl rfl rfl rfl rfl rfl ?_
  refine zr_fr hM rfl rfl rfl ?_
  refine zr_getf (κ := (22, 0, 0)) hn hM rfl rfl rfl rfl ?_
  refine zr_ift hM rfl rfl h5 ?_
  refine zr_fr hM rfl rfl rfl ?_
  refine zr_fr hM rfl rfl rfl ?_
  refine zr_getf (κ := (22, 0, 0)) hn hM rfl rfl rfl rfl ?_
  refine zr_fr hM rfl rfl rfl ?_
  refine zr_bald (κ := (25, 0, 0)) hn hM rfl rfl rfl z6 ?_
  refine zr_ift hM rfl rfl h7 ?_
  refine zr_fr hM rfl rfl rfl ?_
  refine zr_putf (κ := (22, 0, 0)) hn hM rfl rfl rfl rfl rfl rfl rfl rfl ?_
  refine zr_fr hM rfl rfl rfl ?_
  refine zr_getf (κ := (22, 0, 0)) hn hM rfl rfl rfl rfl ?_
  refine zr_iff hM rfl rfl h8 ?_
  refine zr_fr hM rfl rfl rfl ?_
  exact zr_iret2 hM rfl rfl rfl
set_option maxHeartbeats 4000000 in
theorem s131_0_fffttt {n L : Nat} {σ : Ks} {g : List Nat} {cl : Bool} {p1 : Int32} {p2 : Int32} {r1 : Int32} {x6 : Nat} {x9 : Nat} {x10 : Nat} (hn : 2 ≤ n ∧ n ≤ 5) (c1_ : ZR 114 0 [.val (.int p1)] [] (khp n L σ g) true (.inl (some (.int r1)), khp n L σ g, true)) (h2 : zcnd .eq r1 0 = false) (h3 : zcnd .lt p2 0 = false) (h4 : zcnd .le p2 (Int32.ofNat 1000000) = false) (h5 : zcnd .le ((kup σ 42 0 (Int32.ofInt 1)) 42 0) 0 = true) (z6 : zix (Int32.ofInt 0) 5 = some x6) (h7 : zcnd .eq ((kup σ 42 0 (Int32.ofInt 1)) 40 x6) 0 = true) (h8 : zcnd .le ((kup (kup σ 42 0 (Int32.ofInt 1)) 42 0 (Int32.ofInt 0)) 42 0) 0 = true) (z9 : zix p1 820 = some x9) (z10 : zix (((Int8.ofInt 12).toInt32) + p1) 820 = some x10) : ZR 131 0 [.val (.ref (kad n (22, 0, 0))), .val (.int p1), .val (.int p2), .unset] [] (khp n L σ g) cl (.inl (some (.int (p2 - ((kup (kup σ 42 0 (Int32.ofInt 1)) 42 0 (Int32.ofInt 0)) (20 + x9 / 164) (x9 % 164))))), khp n L (kup (kup (kup (kup σ 42 0 (Int32.ofInt 1)) 42 0 (Int32.ofInt 0)) (20 + x9 / 164) (x9 % 164) p2) (20 + x10 / 164) (x10 % 164) (((kup (kup (kup σ 42 0 (Int32.ofInt 1)) 42 0 (Int32.ofInt 0)) (20 + x9 / 164) (x9 % 164) p2) (20 + x10 / 164) (x10 % 164)) + (p2 - ((kup (kup σ 42 0 (Int32.ofInt 1)) 42 0 (Int32.ofInt 0)) (20 + x9 / 164) (x9 % 164))))) (g), false) := by
  have hM : zmi[131]? = some _ := rfl
  have l6 := (zix_some z6).2.2
  have l9 := (zix_some z9).2.2
  have l10 := (zix_some z10).2.2
  refine zr_fr hM rfl rfl rfl ?_
  refine zr_fr hM rfl rfl rfl ?_
  refine zr_stat hM rfl rfl rfl rfl rfl rfl ?_
  refine zgo_ret rfl rfl c1_ ?_
  rw [Bool.and_true]
  refine zr_iff hM rfl rfl h2 ?_
  refine zr_fr hM rfl rfl rfl ?_
  refine zr_iff hM rfl rfl h3 ?_
  refine zr_fr hM rfl rfl rfl ?_
  refine zr_ldc hM rfl ?_
  refine zr_icf hM rfl rfl h4 ?_
  refine zr_fr hM rfl rfl rfl ?_
  refine zr_fr hM rfl rfl rfl ?_
  refine zr_putf (κ := (22, 0, 0)) hn hM rfl rfl rfl rfl rfl rfl rfl rfl ?_
  refine zr_fr hM rfl rfl rfl ?_
  refine zr_getf (κ := (22, 0, 0)) hn hM rfl rfl rfl rfl ?_
  refine zr_ift hM rfl rfl h5 ?_
  refine zr_fr hM rfl rfl rfl ?_
  refine zr_fr hM rfl rfl rfl ?_
  refine zr_getf (κ := (22, 0, 0)) hn hM rfl rfl rfl rfl ?_
  refine zr_fr hM rfl rfl rfl ?_
  refine zr_bald (κ := (25, 0, 0)) hn hM rfl rfl rfl z6 ?_
  refine zr_ift hM rfl rfl h7 ?_
  refine zr_fr hM rfl rfl rfl ?_
  refine zr_putf (κ := (22, 0, 0)) hn hM rfl rfl rfl rfl rfl rfl rfl rfl ?_
  refine zr_fr hM rfl rfl rfl ?_
  refine zr_getf (κ := (22, 0, 0)) hn hM rfl rfl rfl rfl ?_
  refine zr_ift hM rfl rfl h8 ?_
  refine zr_fr hM rfl rfl rfl ?_
  refine zr_fr hM rfl rfl rfl ?_
  refine zr_getf (κ := (22, 0, 0)) hn hM rfl rfl rfl rfl ?_
  refine zr_fr hM rfl rfl rfl ?_
  refine zr_iald (κ := (23, 0, 0)) hn hM rfl rfl rfl z9 ?_
  refine zr_fr hM rfl rfl rfl ?_
  refine zr_fr hM rfl rfl rfl ?_
  refine zr_fr hM rfl rfl rfl ?_
  refine zr_getf (κ := (22, 0, 0)) hn hM rfl rfl rfl rfl ?_
  refine zr_fr hM rfl rfl rfl ?_
  refine zr_fr hM rfl rfl rfl ?_
  refine zr_iast (κ := (23, 0, 0)) hn hM rfl rfl rfl rfl z9 rfl ?_
  refine zr_fr hM rfl rfl rfl ?_
  refine zr_getf (κ := (22, 0, 0)) hn hM rfl rfl rfl rfl ?_
  refine zr_fr hM rfl rfl rfl ?_
  refine zr_fr hM rfl rfl rfl ?_
  refine zr_fr hM rfl rfl rfl ?_
  refine zr_fr hM rfl rfl rfl ?_
  refine zr_iald (κ := (23, 0, 0)) hn hM rfl rfl rfl z10 ?_
  refine zr_fr hM rfl rfl rfl ?_
  refine zr_fr hM rfl rfl rfl ?_
  refine zr_iast (κ := (23, 0, 0)) hn hM rfl rfl rfl rfl z10 rfl ?_
  refine zr_fr hM rfl rfl rfl ?_
  exact zr_iret2 hM rfl rfl rfl
set_option maxHeartbeats 4000000 in
theorem s131_0_fftf {n L : Nat} {σ : Ks} {g : List Nat} {cl : Bool} {p1 : Int32} {p2 : Int32} {r1 : Int32} (hn : 2 ≤ n ∧ n ≤ 5) (c1_ : ZR 114 0 [.val (.int p1)] [] (khp n L σ g) true (.inl (some (.int r1)), khp n L σ g, true)) (h2 : zcnd .eq r1 0 = false) (h3 : zcnd .lt p2 0 = false) (h4 : zcnd .le p2 (Int32.ofNat 1000000) = true) (h5 : zcnd .le ((kup σ 42 0 (Int32.ofInt 0)) 42 0) 0 = false) : ZR 131 0 [.val (.ref (kad n (22, 0, 0))), .val (.int p1), .val (.int p2), .unset] [] (khp n L σ g) cl (.inl (some (.int (Int32.ofInt 0))), khp n L (kup σ 42 0 (Int32.ofInt 0)) (g), false) := by
  have hM : zmi[131]? = some _ := rfl
  refine zr_fr hM rfl rfl rfl ?_
  refine zr_fr hM rfl rfl rfl ?_
  refine zr_stat hM rfl rfl rfl rfl rfl rfl ?_
  refine zgo_ret rfl rfl c1_ ?_
  rw [Bool.and_true]
  refine zr_iff hM rfl rfl h2 ?_
  refine zr_fr hM rfl rfl rfl ?_
  refine zr_iff hM rfl rfl h3 ?_
  refine zr_fr hM rfl rfl rfl ?_
  refine zr_ldc hM rfl ?_
  refine zr_ict hM rfl rfl h4 ?_
  refine zr_fr hM rfl rfl rfl ?_
  refine zr_putf (κ := (22, 0, 0)) hn hM rfl rfl rfl rfl rfl rfl rfl rfl ?_
  refine zr_fr hM rfl rfl rfl ?_
  refine zr_getf (κ := (22, 0, 0)) hn hM rfl rfl rfl rfl ?_
  refine zr_iff hM rfl rfl h5 ?_
  refine zr_fr hM rfl rfl rfl ?_
  exact zr_iret2 hM rfl rfl rfl
set_option maxHeartbeats 4000000 in
theorem s131_0_ffttff {n L : Nat} {σ : Ks} {g : List Nat} {cl : Bool} {p1 : Int32} {p2 : Int32} {r1 : Int32} {x6 : Nat} (hn : 2 ≤ n ∧ n ≤ 5) (c1_ : ZR 114 0 [.val (.int p1)] [] (khp n L σ g) true (.inl (some (.int r1)), khp n L σ g, true)) (h2 : zcnd .eq r1 0 = false) (h3 : zcnd .lt p2 0 = false) (h4 : zcnd .le p2 (Int32.ofNat 1000000) = true) (h5 : zcnd .le ((kup σ 42 0 (Int32.ofInt 0)) 42 0) 0 = true) (z6 : zix (Int32.ofInt 0) 5 = some x6) (h7 : zcnd .eq ((kup σ 42 0 (Int32.ofInt 0)) 40 x6) 0 = false) (h8 : zcnd .le ((kup (kup σ 42 0 (Int32.ofInt 0)) 42 0 (Int32.ofInt 2)) 42 0) 0 = false) : ZR 131 0 [.val (.ref (kad n (22, 0, 0))), .val (.int p1), .val (.int p2), .unset] [] (khp n L σ g) cl (.inl (some (.int (Int32.ofInt 0))), khp n L (kup (kup σ 42 0 (Int32.ofInt 0)) 42 0 (Int32.ofInt 2)) (g), false) := by
  have hM : zmi[131]? = some _ := rfl
  have l6 := (zix_some z6).2.2
  refine zr_fr hM rfl rfl rfl ?_
  refine zr_fr hM rfl rfl rfl ?_
  refine zr_stat hM rfl rfl rfl rfl rfl rfl ?_
  refine zgo_ret rfl rfl c1_ ?_
  rw [Bool.and_true]
  refine zr_iff hM rfl rfl h2 ?_
  refine zr_fr hM rfl rfl rfl ?_
  refine zr_iff hM rfl rfl h3 ?_
  refine zr_fr hM rfl rfl rfl ?_
  refine zr_ldc hM rfl ?_
  refine zr_ict hM rfl rfl h4 ?_
  refine zr_fr hM rfl rfl rfl ?_
  refine zr_putf (κ := (22, 0, 0)) hn hM rfl rfl rfl rfl rfl rfl rfl rfl ?_
  refine zr_fr hM rfl rfl rfl ?_
  refine zr_getf (κ := (22, 0, 0)) hn hM rfl rfl rfl rfl ?_
  refine zr_ift hM rfl rfl h5 ?_
  refine zr_fr hM rfl rfl rfl ?_
  refine zr_fr hM rfl rfl rfl ?_
  refine zr_getf (κ := (22, 0, 0)) hn hM rfl rfl rfl rfl ?_
  refine zr_fr hM rfl rfl rfl ?_
  refine zr_bald (κ := (25, 0, 0)) hn hM rfl rfl rfl z6 ?_
  refine zr_iff hM rfl rfl h7 ?_
  refine zr_fr hM rfl rfl rfl ?_
  refine zr_fr hM rfl rfl rfl ?_
  refine zr_putf (κ := (22, 0, 0)) hn hM rfl rfl rfl rfl rfl rfl rfl rfl ?_
  refine zr_fr hM rfl rfl rfl ?_
  refine zr_getf (κ := (22, 0, 0)) hn hM rfl rfl rfl rfl ?_
  refine zr_iff hM rfl rfl h8 ?_
  refine zr_fr hM rfl rfl rfl ?_
  exact zr_iret2 hM rfl rfl rfl
set_option maxHeartbeats 4000000 in
theorem s131_0_ffttft {n L : Nat} {σ : Ks} {g : List Nat} {cl : Bool} {p1 : Int32} {p2 : Int32} {r1 : Int32} {x6 : Nat} {x9 : Nat} {x10 : Nat} (hn : 2 ≤ n ∧ n ≤ 5) (c1_ : ZR 114 0 [.val (.int p1)] [] (khp n L σ g) true (.inl (some (.int r1)), khp n L σ g, true)) (h2 : zcnd .eq r1 0 = false) (h3 : zcnd .lt p2 0 = false) (h4 : zcnd .le p2 (Int32.ofNat 1000000) = true) (h5 : zcnd .le ((kup σ 42 0 (Int32.ofInt 0)) 42 0) 0 = true) (z6 : zix (Int32.ofInt 0) 5 = some x6) (h7 : zcnd .eq ((kup σ 42 0 (Int32.ofInt 0)) 40 x6) 0 = false) (h8 : zcnd .le ((kup (kup σ 42 0 (Int32.ofInt 0)) 42 0 (Int32.ofInt 2)) 42 0) 0 = true) (z9 : zix p1 820 = some x9) (z10 : zix (((Int8.ofInt 12).toInt32) + p1) 820 = some x10) : ZR 131 0 [.val (.ref (kad n (22, 0, 0))), .val (.int p1), .val (.int p2), .unset] [] (khp n L σ g) cl (.inl (some (.int (p2 - ((kup (kup σ 42 0 (Int32.ofInt 0)) 42 0 (Int32.ofInt 2)) (20 + x9 / 164) (x9 % 164))))), khp n L (kup (kup (kup (kup σ 42 0 (Int32.ofInt 0)) 42 0 (Int32.ofInt 2)) (20 + x9 / 164) (x9 % 164) p2) (20 + x10 / 164) (x10 % 164) (((kup (kup (kup σ 42 0 (Int32.ofInt 0)) 42 0 (Int32.ofInt 2)) (20 + x9 / 164) (x9 % 164) p2) (20 + x10 / 164) (x10 % 164)) + (p2 - ((kup (kup σ 42 0 (Int32.ofInt 0)) 42 0 (Int32.ofInt 2)) (20 + x9 / 164) (x9 % 164))))) (g), false) := by
  have hM : zmi[131]? = some _ := rfl
  have l6 := (zix_some z6).2.2
  have l9 := (zix_some z9).2.2
  have l10 := (zix_some z10).2.2
  refine zr_fr hM rfl rfl rfl ?_
  refine zr_fr hM rfl rfl rfl ?_
  refine zr_stat hM rfl rfl rfl rfl rfl rfl ?_
  refine zgo_ret rfl rfl c1_ ?_
  rw [Bool.and_true]
  refine zr_iff hM rfl rfl h2 ?_
  refine zr_fr hM rfl rfl rfl ?_
  refine zr_iff hM rfl rfl h3 ?_
  refine zr_fr hM rfl rfl rfl ?_
  refine zr_ldc hM rfl ?_
  refine zr_ict hM rfl rfl h4 ?_
  refine zr_fr hM rfl rfl rfl ?_
  refine zr_putf (κ := (22, 0, 0)) hn hM rfl rfl rfl rfl rfl rfl rfl rfl ?_
  refine zr_fr hM rfl rfl rfl ?_
  refine zr_getf (κ := (22, 0, 0)) hn hM rfl rfl rfl rfl ?_
  refine zr_ift hM rfl rfl h5 ?_
  refine zr_fr hM rfl rfl rfl ?_
  refine zr_fr hM rfl rfl rfl ?_
  refine zr_getf (κ := (22, 0, 0)) hn hM rfl rfl rfl rfl ?_
  refine zr_fr hM rfl rfl rfl ?_
  refine zr_bald (κ := (25, 0, 0)) hn hM rfl rfl rfl z6 ?_
  refine zr_iff hM rfl rfl h7 ?_
  refine zr_fr hM rfl rfl rfl ?_
  refine zr_fr hM rfl rfl rfl ?_
  refine zr_putf (κ := (22, 0, 0)) hn hM rfl rfl rfl rfl rfl rfl rfl rfl ?_
  refine zr_fr hM rfl rfl rfl ?_
  refine zr_getf (κ := (22, 0, 0)) hn hM rfl rfl rfl rfl ?_
  refine zr_ift hM rfl rfl h8 ?_
  refine zr_fr hM rfl rfl rfl ?_
  refine zr_fr hM rfl rfl rfl ?_
  refine zr_getf (κ := (22, 0, 0)) hn hM rfl rfl rfl rfl ?_
  refine zr_fr hM rfl rfl rfl ?_
  refine zr_iald (κ := (23, 0, 0)) hn hM rfl rfl rfl z9 ?_
  refine zr_fr hM rfl rfl rfl ?_
  refine zr_fr hM rfl rfl rfl ?_
  refine zr_fr hM rfl rfl rfl ?_
  refine zr_getf (κ := (22, 0, 0)) hn hM rfl rfl rfl rfl ?_
  refine zr_fr hM rfl rfl rfl ?_
  refine zr_fr hM rfl rfl rfl ?_
  refine zr_iast (κ := (23, 0, 0)) hn hM rfl rfl rfl rfl z9 rfl ?_
  refine zr_fr hM rfl rfl rfl ?_
  refine zr_getf (κ := (22, 0, 0)) hn hM rfl rfl rfl rfl ?_
  refine zr_fr hM rfl rfl rfl ?_
  refine zr_fr hM rfl rfl rfl ?_
  refine zr_fr hM rfl rfl rfl ?_
  refine zr_fr hM rfl rfl rfl ?_
  refine zr_iald (κ := (23, 0, 0)) hn hM rfl rfl rfl z10 ?_
  refine zr_fr hM rfl rfl rfl ?_
  refine zr_fr hM rfl rfl rfl ?_
  refine zr_iast (κ := (23, 0, 0)) hn hM rfl rfl rfl rfl z10 rfl ?_
  refine zr_fr hM rfl rfl rfl ?_
  exact zr_iret2 hM rfl rfl rfl
set_option maxHeartbeats 4000000 in
theorem s131_0_fftttf {n L : Nat} {σ : Ks} {g : List Nat} {cl : Bool} {p1 : Int32} {p2 : Int32} {r1 : Int32} {x6 : Nat} (hn : 2 ≤ n ∧ n ≤ 5) (c1_ : ZR 114 0 [.val (.int p1)] [] (khp n L σ g) true (.inl (some (.int r1)), khp n L σ g, true)) (h2 : zcnd .eq r1 0 = false) (h3 : zcnd .lt p2 0 = false) (h4 : zcnd .le p2 (Int32.ofNat 1000000) = true) (h5 : zcnd .le ((kup σ 42 0 (Int32.ofInt 0)) 42 0) 0 = true) (z6 : zix (Int32.ofInt 0) 5 = some x6) (h7 : zcnd .eq ((kup σ 42 0 (Int32.ofInt 0)) 40 x6) 0 = true) (h8 : zcnd .le ((kup (kup σ 42 0 (Int32.ofInt 0)) 42 0 (Int32.ofInt 0)) 42 0) 0 = false) : ZR 131 0 [.val (.ref (kad n (22, 0, 0))), .val (.int p1), .val (.int p2), .unset] [] (khp n L σ g) cl (.inl (some (.int (Int32.ofInt 0))), khp n L (kup (kup σ 42 0 (Int32.ofInt 0)) 42 0 (Int32.ofInt 0)) (g), false) := by
  have hM : zmi[131]? = some _ := rfl
  have l6 := (zix_some z6).2.2
  refine zr_fr hM rfl rfl rfl ?_
  refine zr_fr hM rfl rfl rfl ?_
  refine zr_stat hM rfl rfl rfl rfl rfl rfl ?_
  refine zgo_ret rfl rfl c1_ ?_
  rw [Bool.and_true]
  refine zr_iff hM rfl rfl h2 ?_
  refine zr_fr hM rfl rfl rfl ?_
  refine zr_iff hM rfl rfl h3 ?_
  refine zr_fr hM rfl rfl rfl ?_
  refine zr_ldc hM rfl ?_
  refine zr_ict hM rfl rfl h4 ?_
  refine zr_fr hM rfl rfl rfl ?_
  refine zr_putf (κ := (22, 0, 0)) hn hM rfl rfl rfl rfl rfl rfl rfl rfl ?_
  refine zr_fr hM rfl rfl rfl ?_
  refine zr_getf (κ := (22, 0, 0)) hn hM rfl rfl rfl rfl ?_
  refine zr_ift hM rfl rfl h5 ?_
  refine zr_fr hM rfl rfl rfl ?_
  refine zr_fr hM rfl rfl rfl ?_
  refine zr_getf (κ := (22, 0, 0)) hn hM rfl rfl rfl rfl ?_
  refine zr_fr hM rfl rfl rfl ?_
  refine zr_bald (κ := (25, 0, 0)) hn hM rfl rfl rfl z6 ?_
  refine zr_ift hM rfl rfl h7 ?_
  refine zr_fr hM rfl rfl rfl ?_
  refine zr_putf (κ := (22, 0, 0)) hn hM rfl rfl rfl rfl rfl rfl rfl rfl ?_
  refine zr_fr hM rfl rfl rfl ?_
  refine zr_getf (κ := (22, 0, 0)) hn hM rfl rfl rfl rfl ?_
  refine zr_iff hM rfl rfl h8 ?_
  refine zr_fr hM rfl rfl rfl ?_
  exact zr_iret2 hM rfl rfl rfl
set_option maxHeartbeats 4000000 in
theorem s131_0_fftttt {n L : Nat} {σ : Ks} {g : List Nat} {cl : Bool} {p1 : Int32} {p2 : Int32} {r1 : Int32} {x6 : Nat} {x9 : Nat} {x10 : Nat} (hn : 2 ≤ n ∧ n ≤ 5) (c1_ : ZR 114 0 [.val (.int p1)] [] (khp n L σ g) true (.inl (some (.int r1)), khp n L σ g, true)) (h2 : zcnd .eq r1 0 = false) (h3 : zcnd .lt p2 0 = false) (h4 : zcnd .le p2 (Int32.ofNat 1000000) = true) (h5 : zcnd .le ((kup σ 42 0 (Int32.ofInt 0)) 42 0) 0 = true) (z6 : zix (Int32.ofInt 0) 5 = some x6) (h7 : zcnd .eq ((kup σ 42 0 (Int32.ofInt 0)) 40 x6) 0 = true) (h8 : zcnd .le ((kup (kup σ 42 0 (Int32.ofInt 0)) 42 0 (Int32.ofInt 0)) 42 0) 0 = true) (z9 : zix p1 820 = some x9) (z10 : zix (((Int8.ofInt 12).toInt32) + p1) 820 = some x10) : ZR 131 0 [.val (.ref (kad n (22, 0, 0))), .val (.int p1), .val (.int p2), .unset] [] (khp n L σ g) cl (.inl (some (.int (p2 - ((kup (kup σ 42 0 (Int32.ofInt 0)) 42 0 (Int32.ofInt 0)) (20 + x9 / 164) (x9 % 164))))), khp n L (kup (kup (kup (kup σ 42 0 (Int32.ofInt 0)) 42 0 (Int32.ofInt 0)) (20 + x9 / 164) (x9 % 164) p2) (20 + x10 / 164) (x10 % 164) (((kup (kup (kup σ 42 0 (Int32.ofInt 0)) 42 0 (Int32.ofInt 0)) (20 + x9 / 164) (x9 % 164) p2) (20 + x10 / 164) (x10 % 164)) + (p2 - ((kup (kup σ 42 0 (Int32.ofInt 0)) 42 0 (Int32.ofInt 0)) (20 + x9 / 164) (x9 % 164))))) (g), false) := by
  have hM : zmi[131]? = some _ := rfl
  have l6 := (zix_some z6).2.2
  have l9 := (zix_some z9).2.2
  have l10 := (zix_some z10).2.2
  refine zr_fr hM rfl rfl rfl ?_
  refine zr_fr hM rfl rfl rfl ?_
  refine zr_stat hM rfl rfl rfl rfl rfl rfl ?_
  refine zgo_ret rfl rfl c1_ ?_
  rw [Bool.and_true]
  refine zr_iff hM rfl rfl h2 ?_
  refine zr_fr hM rfl rfl rfl ?_
  refine zr_iff hM rfl rfl h3 ?_
  refine zr_fr hM rfl rfl rfl ?_
  refine zr_ldc hM rfl ?_
  refine zr_ict hM rfl rfl h4 ?_
  refine zr_fr hM rfl rfl rfl ?_
  refine zr_putf (κ := (22, 0, 0)) hn hM rfl rfl rfl rfl rfl rfl rfl rfl ?_
  refine zr_fr hM rfl rfl rfl ?_
  refine zr_getf (κ := (22, 0, 0)) hn hM rfl rfl rfl rfl ?_
  refine zr_ift hM rfl rfl h5 ?_
  refine zr_fr hM rfl rfl rfl ?_
  refine zr_fr hM rfl rfl rfl ?_
  refine zr_getf (κ := (22, 0, 0)) hn hM rfl rfl rfl rfl ?_
  refine zr_fr hM rfl rfl rfl ?_
  refine zr_bald (κ := (25, 0, 0)) hn hM rfl rfl rfl z6 ?_
  refine zr_ift hM rfl rfl h7 ?_
  refine zr_fr hM rfl rfl rfl ?_
  refine zr_putf (κ := (22, 0, 0)) hn hM rfl rfl rfl rfl rfl rfl rfl rfl ?_
  refine zr_fr hM rfl rfl rfl ?_
  refine zr_getf (κ := (22, 0, 0)) hn hM rfl rfl rfl rfl ?_
  refine zr_ift hM rfl rfl h8 ?_
  refine zr_fr hM rfl rfl rfl ?_
  refine zr_fr hM rfl rfl rfl ?_
  refine zr_getf (κ := (22, 0, 0)) hn hM rfl rfl rfl rfl ?_
  refine zr_fr hM rfl rfl rfl ?_
  refine zr_iald (κ := (23, 0, 0)) hn hM rfl rfl rfl z9 ?_
  refine zr_fr hM rfl rfl rfl ?_
  refine zr_fr hM rfl rfl rfl ?_
  refine zr_fr hM rfl rfl rfl ?_
  refine zr_getf (κ := (22, 0, 0)) hn hM rfl rfl rfl rfl ?_
  refine zr_fr hM rfl rfl rfl ?_
  refine zr_fr hM rfl rfl rfl ?_
  refine zr_iast (κ := (23, 0, 0)) hn hM rfl rfl rfl rfl z9 rfl ?_
  refine zr_fr hM rfl rfl rfl ?_
  refine zr_getf (κ := (22, 0, 0)) hn hM rfl rfl rfl rfl ?_
  refine zr_fr hM rfl rfl rfl ?_
  refine zr_fr hM rfl rfl rfl ?_
  refine zr_fr hM rfl rfl rfl ?_
  refine zr_fr hM rfl rfl rfl ?_
  refine zr_iald (κ := (23, 0, 0)) hn hM rfl rfl rfl z10 ?_
  refine zr_fr hM rfl rfl rfl ?_
  refine zr_fr hM rfl rfl rfl ?_
  refine zr_iast (κ := (23, 0, 0)) hn hM rfl rfl rfl rfl z10 rfl ?_
  refine zr_fr hM rfl rfl rfl ?_
  exact zr_iret2 hM rfl rfl rfl
set_option maxHeartbeats 4000000 in
theorem s131_0_ftf {n L : Nat} {σ : Ks} {g : List Nat} {cl : Bool} {p1 : Int32} {p2 : Int32} {r1 : Int32} (hn : 2 ≤ n ∧ n ≤ 5) (c1_ : ZR 114 0 [.val (.int p1)] [] (khp n L σ g) true (.inl (some (.int r1)), khp n L σ g, true)) (h2 : zcnd .eq r1 0 = false) (h3 : zcnd .lt p2 0 = true) (h4 : zcnd .le ((kup σ 42 0 (Int32.ofInt 1)) 42 0) 0 = false) : ZR 131 0 [.val (.ref (kad n (22, 0, 0))), .val (.int p1), .val (.int p2), .unset] [] (khp n L σ g) cl (.inl (some (.int (Int32.ofInt 0))), khp n L (kup σ 42 0 (Int32.ofInt 1)) (g), false) := by
  have hM : zmi[131]? = some _ := rfl
  refine zr_fr hM rfl rfl rfl ?_
  refine zr_fr hM rfl rfl rfl ?_
  refine zr_stat hM rfl rfl rfl rfl rfl rfl ?_
  refine zgo_ret rfl rfl c1_ ?_
  rw [Bool.and_true]
  refine zr_iff hM rfl rfl h2 ?_
  refine zr_fr hM rfl rfl rfl ?_
  refine zr_ift hM rfl rfl h3 ?_
  refine zr_fr hM rfl rfl rfl ?_
  refine zr_fr hM rfl rfl rfl ?_
  refine zr_putf (κ := (22, 0, 0)) hn hM rfl rfl rfl rfl rfl rfl rfl rfl ?_
  refine zr_fr hM rfl rfl rfl ?_
  refine zr_getf (κ := (22, 0, 0)) hn hM rfl rfl rfl rfl ?_
  refine zr_iff hM rfl rfl h4 ?_
  refine zr_fr hM rfl rfl rfl ?_
  exact zr_iret2 hM rfl rfl rfl
set_option maxHeartbeats 4000000 in
theorem s131_0_fttff {n L : Nat} {σ : Ks} {g : List Nat} {cl : Bool} {p1 : Int32} {p2 : Int32} {r1 : Int32} {x5 : Nat} (hn : 2 ≤ n ∧ n ≤ 5) (c1_ : ZR 114 0 [.val (.int p1)] [] (khp n L σ g) true (.inl (some (.int r1)), khp n L σ g, true)) (h2 : zcnd .eq r1 0 = false) (h3 : zcnd .lt p2 0 = true) (h4 : zcnd .le ((kup σ 42 0 (Int32.ofInt 1)) 42 0) 0 = true) (z5 : zix (Int32.ofInt 0) 5 = some x5) (h6 : zcnd .eq ((kup σ 42 0 (Int32.ofInt 1)) 40 x5) 0 = false) (h7 : zcnd .le ((kup (kup σ 42 0 (Int32.ofInt 1)) 42 0 (Int32.ofInt 2)) 42 0) 0 = false) : ZR 131 0 [.val (.ref (kad n (22, 0, 0))), .val (.int p1), .val (.int p2), .unset] [] (khp n L σ g) cl (.inl (some (.int (Int32.ofInt 0))), khp n L (kup (kup σ 42 0 (Int32.ofInt 1)) 42 0 (Int32.ofInt 2)) (g), false) := by
  have hM : zmi[131]? = some _ := rfl
  have l5 := (zix_some z5).2.2
  refine zr_fr hM rfl rfl rfl ?_
  refine zr_fr hM rfl rfl rfl ?_
  refine zr_stat hM rfl rfl rfl rfl rfl rfl ?_
  refine zgo_ret rfl rfl c1_ ?_
  rw [Bool.and_true]
  refine zr_iff hM rfl rfl h2 ?_
  refine zr_fr hM rfl rfl rfl ?_
  refine zr_ift hM rfl rfl h3 ?_
  refine zr_fr hM rfl rfl rfl ?_
  refine zr_fr hM rfl rfl rfl ?_
  refine zr_putf (κ := (22, 0, 0)) hn hM rfl rfl rfl rfl rfl rfl rfl rfl ?_
  refine zr_fr hM rfl rfl rfl ?_
  refine zr_getf (κ := (22, 0, 0)) hn hM rfl rfl rfl rfl ?_
  refine zr_ift hM rfl rfl h4 ?_
  refine zr_fr hM rfl rfl rfl ?_
  refine zr_fr hM rfl rfl rfl ?_
  refine zr_getf (κ := (22, 0, 0)) hn hM rfl rfl rfl rfl ?_
  refine zr_fr hM rfl rfl rfl ?_
  refine zr_bald (κ := (25, 0, 0)) hn hM rfl rfl rfl z5 ?_
  refine zr_iff hM rfl rfl h6 ?_
  refine zr_fr hM rfl rfl rfl ?_
  refine zr_fr hM rfl rfl rfl ?_
  refine zr_putf (κ := (22, 0, 0)) hn hM rfl rfl rfl rfl rfl rfl rfl rfl ?_
  refine zr_fr hM rfl rfl rfl ?_
  refine zr_getf (κ := (22, 0, 0)) hn hM rfl rfl rfl rfl ?_
  refine zr_iff hM rfl rfl h7 ?_
  refine zr_fr hM rfl rfl rfl ?_
  exact zr_iret2 hM rfl rfl rfl
set_option maxHeartbeats 4000000 in
theorem s131_0_fttft {n L : Nat} {σ : Ks} {g : List Nat} {cl : Bool} {p1 : Int32} {p2 : Int32} {r1 : Int32} {x5 : Nat} {x8 : Nat} {x9 : Nat} (hn : 2 ≤ n ∧ n ≤ 5) (c1_ : ZR 114 0 [.val (.int p1)] [] (khp n L σ g) true (.inl (some (.int r1)), khp n L σ g, true)) (h2 : zcnd .eq r1 0 = false) (h3 : zcnd .lt p2 0 = true) (h4 : zcnd .le ((kup σ 42 0 (Int32.ofInt 1)) 42 0) 0 = true) (z5 : zix (Int32.ofInt 0) 5 = some x5) (h6 : zcnd .eq ((kup σ 42 0 (Int32.ofInt 1)) 40 x5) 0 = false) (h7 : zcnd .le ((kup (kup σ 42 0 (Int32.ofInt 1)) 42 0 (Int32.ofInt 2)) 42 0) 0 = true) (z8 : zix p1 820 = some x8) (z9 : zix (((Int8.ofInt 12).toInt32) + p1) 820 = some x9) : ZR 131 0 [.val (.ref (kad n (22, 0, 0))), .val (.int p1), .val (.int p2), .unset] [] (khp n L σ g) cl (.inl (some (.int (p2 - ((kup (kup σ 42 0 (Int32.ofInt 1)) 42 0 (Int32.ofInt 2)) (20 + x8 / 164) (x8 % 164))))), khp n L (kup (kup (kup (kup σ 42 0 (Int32.ofInt 1)) 42 0 (Int32.ofInt 2)) (20 + x8 / 164) (x8 % 164) p2) (20 + x9 / 164) (x9 % 164) (((kup (kup (kup σ 42 0 (Int32.ofInt 1)) 42 0 (Int32.ofInt 2)) (20 + x8 / 164) (x8 % 164) p2) (20 + x9 / 164) (x9 % 164)) + (p2 - ((kup (kup σ 42 0 (Int32.ofInt 1)) 42 0 (Int32.ofInt 2)) (20 + x8 / 164) (x8 % 164))))) (g), false) := by
  have hM : zmi[131]? = some _ := rfl
  have l5 := (zix_some z5).2.2
  have l8 := (zix_some z8).2.2
  have l9 := (zix_some z9).2.2
  refine zr_fr hM rfl rfl rfl ?_
  refine zr_fr hM rfl rfl rfl ?_
  refine zr_stat hM rfl rfl rfl rfl rfl rfl ?_
  refine zgo_ret rfl rfl c1_ ?_
  rw [Bool.and_true]
  refine zr_iff hM rfl rfl h2 ?_
  refine zr_fr hM rfl rfl rfl ?_
  refine zr_ift hM rfl rfl h3 ?_
  refine zr_fr hM rfl rfl rfl ?_
  refine zr_fr hM rfl rfl rfl ?_
  refine zr_putf (κ := (22, 0, 0)) hn hM rfl rfl rfl rfl rfl rfl rfl rfl ?_
  refine zr_fr hM rfl rfl rfl ?_
  refine zr_getf (κ := (22, 0, 0)) hn hM rfl rfl rfl rfl ?_
  refine zr_ift hM rfl rfl h4 ?_
  refine zr_fr hM rfl rfl rfl ?_
  refine zr_fr hM rfl rfl rfl ?_
  refine zr_getf (κ := (22, 0, 0)) hn hM rfl rfl rfl rfl ?_
  refine zr_fr hM rfl rfl rfl ?_
  refine zr_bald (κ := (25, 0, 0)) hn hM rfl rfl rfl z5 ?_
  refine zr_iff hM rfl rfl h6 ?_
  refine zr_fr hM rfl rfl rfl ?_
  refine zr_fr hM rfl rfl rfl ?_
  refine zr_putf (κ := (22, 0, 0)) hn hM rfl rfl rfl rfl rfl rfl rfl rfl ?_
  refine zr_fr hM rfl rfl rfl ?_
  refine zr_getf (κ := (22, 0, 0)) hn hM rfl rfl rfl rfl ?_
  refine zr_ift hM rfl rfl h7 ?_
  refine zr_fr hM rfl rfl rfl ?_
  refine zr_fr hM rfl rfl rfl ?_
  refine zr_getf (κ := (22, 0, 0)) hn hM rfl rfl rfl rfl ?_
  refine zr_fr hM rfl rfl rfl ?_
  refine zr_iald (κ := (23, 0, 0)) hn hM rfl rfl rfl z8 ?_
  refine zr_fr hM rfl rfl rfl ?_
  refine zr_fr hM rfl rfl rfl ?_
  refine zr_fr hM rfl rfl rfl ?_
  refine zr_getf (κ := (22, 0, 0)) hn hM rfl rfl rfl rfl ?_
  refine zr_fr hM rfl rfl rfl ?_
  refine zr_fr hM rfl rfl rfl ?_
  refine zr_iast (κ := (23, 0, 0)) hn hM rfl rfl rfl rfl z8 rfl ?_
  refine zr_fr hM rfl rfl rfl ?_
  refine zr_getf (κ := (22, 0, 0)) hn hM rfl rfl rfl rfl ?_
  refine zr_fr hM rfl rfl rfl ?_
  refine zr_fr hM rfl rfl rfl ?_
  refine zr_fr hM rfl rfl rfl ?_
  refine zr_fr hM rfl rfl rfl ?_
  refine zr_iald (κ := (23, 0, 0)) hn hM rfl rfl rfl z9 ?_
  refine zr_fr hM rfl rfl rfl ?_
  refine zr_fr hM rfl rfl rfl ?_
  refine zr_iast (κ := (23, 0, 0)) hn hM rfl rfl rfl rfl z9 rfl ?_
  refine zr_fr hM rfl rfl rfl ?_
  exact zr_iret2 hM rfl rfl rfl
