set_option maxHeartbeats 4000000 in
set_option maxRecDepth 16384 in
theorem s92w_0_k {n L : Nat} {σ : Ks} {g : List Nat} {cl : Bool} {p1 : Int32} {p2 : Int32} {p3 : Int32} {σ1 : Ks} {c1 : Bool} {r1 : Int32} {x2 : Nat} (hn : 2 ≤ n ∧ n ≤ 5) (c1_ : ZR 93 0 [.val (.ref (kad n (0, 0, 0))), .val (.int p1), .val (.int p2), .val (.int p3), .unset] [] (khp n L σ g) true (.inl (some (.int r1)), khp n L σ1 g, c1)) (z2 : zix (Int32.ofInt 0) 1 = some x2) : ZR 92 0 [.val (.ref (kad n (0, 0, 0))), .val (.int p1), .val (.int p2), .val (.int p3), .val (.ref (kad n (27, 0, 0))), .unset] [] (khp n L σ g) cl (.inl (some (.int (Int32.ofInt 0))), khp n L (kup σ1 50 x2 r1) (g), false) := by
  have hM : zmi[92]? = some _ := rfl
  have l2 := (zix_some z2).2.2
  refine zr_fr hM rfl rfl rfl ?_
  refine zr_fr hM rfl rfl rfl ?_
  refine zr_fr hM rfl rfl rfl ?_
  refine zr_fr hM rfl rfl rfl ?_
  refine zr_fr hM rfl rfl rfl ?_
  refine zr_fr hM rfl rfl rfl ?_
  refine zr_virt (κ := (0, 0, 0)) hn hM rfl rfl rfl rfl rfl rfl rfl rfl rfl ?_
  refine zgo_ret rfl rfl c1_ ?_
  refine zr_fr hM rfl rfl rfl ?_
  refine zr_last (κ := (27, 0, 0)) hn hM rfl rfl rfl rfl z2 rfl ?_
  refine zr_fr hM rfl rfl rfl ?_
  refine zr_fr hM rfl rfl rfl ?_
  exact zr_iret2 hM rfl rfl rfl
set_option maxHeartbeats 4000000 in
set_option maxRecDepth 16384 in
theorem s144_33_fs0_ {n L : Nat} {σ : Ks} {g : List Nat} {cl : Bool} {r : Zr} {v4 : Int32} {w5 : Option Int32} {w6 : Option Int32} {x2 : Nat} (hn : 2 ≤ n ∧ n ≤ 5) (h1 : zcnd .gt v4 ((Int32.ofNat L) - (Int32.ofInt 5)) = false) (z2 : zix v4 L = some x2) (h3 : ((σ 60 x2) &&& ((Int8.ofInt 31).toInt32)).toInt = 0) (k : ZR 144 152 [.val (.ref (kad n (28, 0, 0))), .val (.ref (kad n (0, 0, 0))), .val (.ref (kad n (22, 0, 0))), .val (.ref (kad n (27, 0, 0))), .val (.int v4), zop w5, zop w6] [] (khp n L σ (g)) cl r) : ZR 144 33 [.val (.ref (kad n (28, 0, 0))), .val (.ref (kad n (0, 0, 0))), .val (.ref (kad n (22, 0, 0))), .val (.ref (kad n (27, 0, 0))), .val (.int v4), zop w5, zop w6] [] (khp n L σ g) cl r := by
  have hM : zmi[144]? = some _ := rfl
  have l2 := (zix_some z2).2.2
  refine zr_fr hM rfl rfl rfl ?_
  refine zr_fr hM rfl rfl rfl ?_
  refine zr_alen (κ := (28, 0, 0)) hn hM rfl rfl rfl ?_
  refine zr_fr hM rfl rfl rfl ?_
  refine zr_fr hM rfl rfl rfl ?_
  refine zr_icf hM rfl rfl h1 ?_
  refine zr_fr hM rfl rfl rfl ?_
  refine zr_fr hM rfl rfl rfl ?_
  refine zr_iald (κ := (28, 0, 0)) hn hM rfl rfl rfl z2 ?_
  refine zr_fr hM rfl rfl rfl ?_
  refine zr_fr hM rfl rfl rfl ?_
  refine zr_swi hM rfl h3 rfl rfl rfl ?_
  exact k
set_option maxHeartbeats 4000000 in
set_option maxRecDepth 16384 in
theorem s144_33_fd {n L : Nat} {σ : Ks} {g : List Nat} {cl : Bool} {r : Zr} {v4 : Int32} {w5 : Option Int32} {w6 : Option Int32} {x2 : Nat} (hn : 2 ≤ n ∧ n ≤ 5) (h1 : zcnd .gt v4 ((Int32.ofNat L) - (Int32.ofInt 5)) = false) (z2 : zix v4 L = some x2) (h3 : ((σ 60 x2) &&& ((Int8.ofInt 31).toInt32)).toInt < 0 ∨ 21 < ((σ 60 x2) &&& ((Int8.ofInt 31).toInt32)).toInt) (k : ZR 144 1355 [.val (.ref (kad n (28, 0, 0))), .val (.ref (kad n (0, 0, 0))), .val (.ref (kad n (22, 0, 0))), .val (.ref (kad n (27, 0, 0))), .val (.int v4), zop w5, zop w6] [] (khp n L σ (g)) cl r) : ZR 144 33 [.val (.ref (kad n (28, 0, 0))), .val (.ref (kad n (0, 0, 0))), .val (.ref (kad n (22, 0, 0))), .val (.ref (kad n (27, 0, 0))), .val (.int v4), zop w5, zop w6] [] (khp n L σ g) cl r := by
  have hM : zmi[144]? = some _ := rfl
  have l2 := (zix_some z2).2.2
  refine zr_fr hM rfl rfl rfl ?_
  refine zr_fr hM rfl rfl rfl ?_
  refine zr_alen (κ := (28, 0, 0)) hn hM rfl rfl rfl ?_
  refine zr_fr hM rfl rfl rfl ?_
  refine zr_fr hM rfl rfl rfl ?_
  refine zr_icf hM rfl rfl h1 ?_
  refine zr_fr hM rfl rfl rfl ?_
  refine zr_fr hM rfl rfl rfl ?_
  refine zr_iald (κ := (28, 0, 0)) hn hM rfl rfl rfl z2 ?_
  refine zr_fr hM rfl rfl rfl ?_
  refine zr_fr hM rfl rfl rfl ?_
  refine zr_swo hM rfl h3 rfl ?_
  exact k
set_option maxHeartbeats 4000000 in
set_option maxRecDepth 16384 in
theorem s144_33_fs21_ {n L : Nat} {σ : Ks} {g : List Nat} {cl : Bool} {r : Zr} {v4 : Int32} {w5 : Option Int32} {w6 : Option Int32} {x2 : Nat} (hn : 2 ≤ n ∧ n ≤ 5) (h1 : zcnd .gt v4 ((Int32.ofNat L) - (Int32.ofInt 5)) = false) (z2 : zix v4 L = some x2) (h3 : ((σ 60 x2) &&& ((Int8.ofInt 31).toInt32)).toInt = 21) (k : ZR 144 1330 [.val (.ref (kad n (28, 0, 0))), .val (.ref (kad n (0, 0, 0))), .val (.ref (kad n (22, 0, 0))), .val (.ref (kad n (27, 0, 0))), .val (.int v4), zop w5, zop w6] [] (khp n L σ (g)) cl r) : ZR 144 33 [.val (.ref (kad n (28, 0, 0))), .val (.ref (kad n (0, 0, 0))), .val (.ref (kad n (22, 0, 0))), .val (.ref (kad n (27, 0, 0))), .val (.int v4), zop w5, zop w6] [] (khp n L σ g) cl r := by
  have hM : zmi[144]? = some _ := rfl
  have l2 := (zix_some z2).2.2
  refine zr_fr hM rfl rfl rfl ?_
  refine zr_fr hM rfl rfl rfl ?_
  refine zr_alen (κ := (28, 0, 0)) hn hM rfl rfl rfl ?_
  refine zr_fr hM rfl rfl rfl ?_
  refine zr_fr hM rfl rfl rfl ?_
  refine zr_icf hM rfl rfl h1 ?_
  refine zr_fr hM rfl rfl rfl ?_
  refine zr_fr hM rfl rfl rfl ?_
  refine zr_iald (κ := (28, 0, 0)) hn hM rfl rfl rfl z2 ?_
  refine zr_fr hM rfl rfl rfl ?_
  refine zr_fr hM rfl rfl rfl ?_
  refine zr_swi hM rfl h3 rfl rfl rfl ?_
  exact k
set_option maxHeartbeats 4000000 in
set_option maxRecDepth 16384 in
theorem s144_33_fs20_ {n L : Nat} {σ : Ks} {g : List Nat} {cl : Bool} {r : Zr} {v4 : Int32} {w5 : Option Int32} {w6 : Option Int32} {x2 : Nat} (hn : 2 ≤ n ∧ n ≤ 5) (h1 : zcnd .gt v4 ((Int32.ofNat L) - (Int32.ofInt 5)) = false) (z2 : zix v4 L = some x2) (h3 : ((σ 60 x2) &&& ((Int8.ofInt 31).toInt32)).toInt = 20) (k : ZR 144 1293 [.val (.ref (kad n (28, 0, 0))), .val (.ref (kad n (0, 0, 0))), .val (.ref (kad n (22, 0, 0))), .val (.ref (kad n (27, 0, 0))), .val (.int v4), zop w5, zop w6] [] (khp n L σ (g)) cl r) : ZR 144 33 [.val (.ref (kad n (28, 0, 0))), .val (.ref (kad n (0, 0, 0))), .val (.ref (kad n (22, 0, 0))), .val (.ref (kad n (27, 0, 0))), .val (.int v4), zop w5, zop w6] [] (khp n L σ g) cl r := by
  have hM : zmi[144]? = some _ := rfl
  have l2 := (zix_some z2).2.2
  refine zr_fr hM rfl rfl rfl ?_
  refine zr_fr hM rfl rfl rfl ?_
  refine zr_alen (κ := (28, 0, 0)) hn hM rfl rfl rfl ?_
  refine zr_fr hM rfl rfl rfl ?_
  refine zr_fr hM rfl rfl rfl ?_
  refine zr_icf hM rfl rfl h1 ?_
  refine zr_fr hM rfl rfl rfl ?_
  refine zr_fr hM rfl rfl rfl ?_
  refine zr_iald (κ := (28, 0, 0)) hn hM rfl rfl rfl z2 ?_
  refine zr_fr hM rfl rfl rfl ?_
  refine zr_fr hM rfl rfl rfl ?_
  refine zr_swi hM rfl h3 rfl rfl rfl ?_
  exact k
set_option maxHeartbeats 4000000 in
set_option maxRecDepth 16384 in
theorem s144_33_fs19_ {n L : Nat} {σ : Ks} {g : List Nat} {cl : Bool} {r : Zr} {v4 : Int32} {w5 : Option Int32} {w6 : Option Int32} {x2 : Nat} (hn : 2 ≤ n ∧ n ≤ 5) (h1 : zcnd .gt v4 ((Int32.ofNat L) - (Int32.ofInt 5)) = false) (z2 : zix v4 L = some x2) (h3 : ((σ 60 x2) &&& ((Int8.ofInt 31).toInt32)).toInt = 19) (k : ZR 144 1244 [.val (.ref (kad n (28, 0, 0))), .val (.ref (kad n (0, 0, 0))), .val (.ref (kad n (22, 0, 0))), .val (.ref (kad n (27, 0, 0))), .val (.int v4), zop w5, zop w6] [] (khp n L σ (g)) cl r) : ZR 144 33 [.val (.ref (kad n (28, 0, 0))), .val (.ref (kad n (0, 0, 0))), .val (.ref (kad n (22, 0, 0))), .val (.ref (kad n (27, 0, 0))), .val (.int v4), zop w5, zop w6] [] (khp n L σ g) cl r := by
  have hM : zmi[144]? = some _ := rfl
  have l2 := (zix_some z2).2.2
  refine zr_fr hM rfl rfl rfl ?_
  refine zr_fr hM rfl rfl rfl ?_
  refine zr_alen (κ := (28, 0, 0)) hn hM rfl rfl rfl ?_
  refine zr_fr hM rfl rfl rfl ?_
  refine zr_fr hM rfl rfl rfl ?_
  refine zr_icf hM rfl rfl h1 ?_
  refine zr_fr hM rfl rfl rfl ?_
  refine zr_fr hM rfl rfl rfl ?_
  refine zr_iald (κ := (28, 0, 0)) hn hM rfl rfl rfl z2 ?_
  refine zr_fr hM rfl rfl rfl ?_
  refine zr_fr hM rfl rfl rfl ?_
  refine zr_swi hM rfl h3 rfl rfl rfl ?_
  exact k
set_option maxHeartbeats 4000000 in
set_option maxRecDepth 16384 in
theorem s144_33_fs18_ {n L : Nat} {σ : Ks} {g : List Nat} {cl : Bool} {r : Zr} {v4 : Int32} {w5 : Option Int32} {w6 : Option Int32} {x2 : Nat} (hn : 2 ≤ n ∧ n ≤ 5) (h1 : zcnd .gt v4 ((Int32.ofNat L) - (Int32.ofInt 5)) = false) (z2 : zix v4 L = some x2) (h3 : ((σ 60 x2) &&& ((Int8.ofInt 31).toInt32)).toInt = 18) (k : ZR 144 1195 [.val (.ref (kad n (28, 0, 0))), .val (.ref (kad n (0, 0, 0))), .val (.ref (kad n (22, 0, 0))), .val (.ref (kad n (27, 0, 0))), .val (.int v4), zop w5, zop w6] [] (khp n L σ (g)) cl r) : ZR 144 33 [.val (.ref (kad n (28, 0, 0))), .val (.ref (kad n (0, 0, 0))), .val (.ref (kad n (22, 0, 0))), .val (.ref (kad n (27, 0, 0))), .val (.int v4), zop w5, zop w6] [] (khp n L σ g) cl r := by
  have hM : zmi[144]? = some _ := rfl
  have l2 := (zix_some z2).2.2
  refine zr_fr hM rfl rfl rfl ?_
  refine zr_fr hM rfl rfl rfl ?_
  refine zr_alen (κ := (28, 0, 0)) hn hM rfl rfl rfl ?_
  refine zr_fr hM rfl rfl rfl ?_
  refine zr_fr hM rfl rfl rfl ?_
  refine zr_icf hM rfl rfl h1 ?_
  refine zr_fr hM rfl rfl rfl ?_
  refine zr_fr hM rfl rfl rfl ?_
  refine zr_iald (κ := (28, 0, 0)) hn hM rfl rfl rfl z2 ?_
  refine zr_fr hM rfl rfl rfl ?_
  refine zr_fr hM rfl rfl rfl ?_
  refine zr_swi hM rfl h3 rfl rfl rfl ?_
  exact k
set_option maxHeartbeats 4000000 in
set_option maxRecDepth 16384 in
theorem s144_33_fs17_ {n L : Nat} {σ : Ks} {g : List Nat} {cl : Bool} {r : Zr} {v4 : Int32} {w5 : Option Int32} {w6 : Option Int32} {x2 : Nat} (hn : 2 ≤ n ∧ n ≤ 5) (h1 : zcnd .gt v4 ((Int32.ofNat L) - (Int32.ofInt 5)) = false) (z2 : zix v4 L = some x2) (h3 : ((σ 60 x2) &&& ((Int8.ofInt 31).toInt32)).toInt = 17) (k : ZR 144 1115 [.val (.ref (kad n (28, 0, 0))), .val (.ref (kad n (0, 0, 0))), .val (.ref (kad n (22, 0, 0))), .val (.ref (kad n (27, 0, 0))), .val (.int v4), zop w5, zop w6] [] (khp n L σ (g)) cl r) : ZR 144 33 [.val (.ref (kad n (28, 0, 0))), .val (.ref (kad n (0, 0, 0))), .val (.ref (kad n (22, 0, 0))), .val (.ref (kad n (27, 0, 0))), .val (.int v4), zop w5, zop w6] [] (khp n L σ g) cl r := by
  have hM : zmi[144]? = some _ := rfl
  have l2 := (zix_some z2).2.2
  refine zr_fr hM rfl rfl rfl ?_
  refine zr_fr hM rfl rfl rfl ?_
  refine zr_alen (κ := (28, 0, 0)) hn hM rfl rfl rfl ?_
  refine zr_fr hM rfl rfl rfl ?_
  refine zr_fr hM rfl rfl rfl ?_
  refine zr_icf hM rfl rfl h1 ?_
  refine zr_fr hM rfl rfl rfl ?_
  refine zr_fr hM rfl rfl rfl ?_
  refine zr_iald (κ := (28, 0, 0)) hn hM rfl rfl rfl z2 ?_
  refine zr_fr hM rfl rfl rfl ?_
  refine zr_fr hM rfl rfl rfl ?_
  refine zr_swi hM rfl h3 rfl rfl rfl ?_
  exact k
set_option maxHeartbeats 4000000 in
set_option maxRecDepth 16384 in
theorem s144_33_fs16_ {n L : Nat} {σ : Ks} {g : List Nat} {cl : Bool} {r : Zr} {v4 : Int32} {w5 : Option Int32} {w6 : Option Int32} {x2 : Nat} (hn : 2 ≤ n ∧ n ≤ 5) (h1 : zcnd .gt v4 ((Int32.ofNat L) - (Int32.ofInt 5)) = false) (z2 : zix v4 L = some x2) (h3 : ((σ 60 x2) &&& ((Int8.ofInt 31).toInt32)).toInt = 16) (k : ZR 144 1078 [.val (.ref (kad n (28, 0, 0))), .val (.ref (kad n (0, 0, 0))), .val (.ref (kad n (22, 0, 0))), .val (.ref (kad n (27, 0, 0))), .val (.int v4), zop w5, zop w6] [] (khp n L σ (g)) cl r) : ZR 144 33 [.val (.ref (kad n (28, 0, 0))), .val (.ref (kad n (0, 0, 0))), .val (.ref (kad n (22, 0, 0))), .val (.ref (kad n (27, 0, 0))), .val (.int v4), zop w5, zop w6] [] (khp n L σ g) cl r := by
  have hM : zmi[144]? = some _ := rfl
  have l2 := (zix_some z2).2.2
  refine zr_fr hM rfl rfl rfl ?_
  refine zr_fr hM rfl rfl rfl ?_
  refine zr_alen (κ := (28, 0, 0)) hn hM rfl rfl rfl ?_
  refine zr_fr hM rfl rfl rfl ?_
  refine zr_fr hM rfl rfl rfl ?_
  refine zr_icf hM rfl rfl h1 ?_
  refine zr_fr hM rfl rfl rfl ?_
  refine zr_fr hM rfl rfl rfl ?_
  refine zr_iald (κ := (28, 0, 0)) hn hM rfl rfl rfl z2 ?_
  refine zr_fr hM rfl rfl rfl ?_
  refine zr_fr hM rfl rfl rfl ?_
  refine zr_swi hM rfl h3 rfl rfl rfl ?_
  exact k
set_option maxHeartbeats 4000000 in
set_option maxRecDepth 16384 in
theorem s144_33_fs15_ {n L : Nat} {σ : Ks} {g : List Nat} {cl : Bool} {r : Zr} {v4 : Int32} {w5 : Option Int32} {w6 : Option Int32} {x2 : Nat} (hn : 2 ≤ n ∧ n ≤ 5) (h1 : zcnd .gt v4 ((Int32.ofNat L) - (Int32.ofInt 5)) = false) (z2 : zix v4 L = some x2) (h3 : ((σ 60 x2) &&& ((Int8.ofInt 31).toInt32)).toInt = 15) (k : ZR 144 1053 [.val (.ref (kad n (28, 0, 0))), .val (.ref (kad n (0, 0, 0))), .val (.ref (kad n (22, 0, 0))), .val (.ref (kad n (27, 0, 0))), .val (.int v4), zop w5, zop w6] [] (khp n L σ (g)) cl r) : ZR 144 33 [.val (.ref (kad n (28, 0, 0))), .val (.ref (kad n (0, 0, 0))), .val (.ref (kad n (22, 0, 0))), .val (.ref (kad n (27, 0, 0))), .val (.int v4), zop w5, zop w6] [] (khp n L σ g) cl r := by
  have hM : zmi[144]? = some _ := rfl
  have l2 := (zix_some z2).2.2
  refine zr_fr hM rfl rfl rfl ?_
  refine zr_fr hM rfl rfl rfl ?_
  refine zr_alen (κ := (28, 0, 0)) hn hM rfl rfl rfl ?_
  refine zr_fr hM rfl rfl rfl ?_
  refine zr_fr hM rfl rfl rfl ?_
  refine zr_icf hM rfl rfl h1 ?_
  refine zr_fr hM rfl rfl rfl ?_
  refine zr_fr hM rfl rfl rfl ?_
  refine zr_iald (κ := (28, 0, 0)) hn hM rfl rfl rfl z2 ?_
  refine zr_fr hM rfl rfl rfl ?_
  refine zr_fr hM rfl rfl rfl ?_
  refine zr_swi hM rfl h3 rfl rfl rfl ?_
  exact k
set_option maxHeartbeats 4000000 in
set_option maxRecDepth 16384 in
theorem s144_33_fs14_ {n L : Nat} {σ : Ks} {g : List Nat} {cl : Bool} {r : Zr} {v4 : Int32} {w5 : Option Int32} {w6 : Option Int32} {x2 : Nat} (hn : 2 ≤ n ∧ n ≤ 5) (h1 : zcnd .gt v4 ((Int32.ofNat L) - (Int32.ofInt 5)) = false) (z2 : zix v4 L = some x2) (h3 : ((σ 60 x2) &&& ((Int8.ofInt 31).toInt32)).toInt = 14) (k : ZR 144 1028 [.val (.ref (kad n (28, 0, 0))), .val (.ref (kad n (0, 0, 0))), .val (.ref (kad n (22, 0, 0))), .val (.ref (kad n (27, 0, 0))), .val (.int v4), zop w5, zop w6] [] (khp n L σ (g)) cl r) : ZR 144 33 [.val (.ref (kad n (28, 0, 0))), .val (.ref (kad n (0, 0, 0))), .val (.ref (kad n (22, 0, 0))), .val (.ref (kad n (27, 0, 0))), .val (.int v4), zop w5, zop w6] [] (khp n L σ g) cl r := by
  have hM : zmi[144]? = some _ := rfl
  have l2 := (zix_some z2).2.2
  refine zr_fr hM rfl rfl rfl ?_
  refine zr_fr hM rfl rfl rfl ?_
  refine zr_alen (κ := (28, 0, 0)) hn hM rfl rfl rfl ?_
  refine zr_fr hM rfl rfl rfl ?_
  refine zr_fr hM rfl rfl rfl ?_
  refine zr_icf hM rfl rfl h1 ?_
  refine zr_fr hM rfl rfl rfl ?_
  refine zr_fr hM rfl rfl rfl ?_
  refine zr_iald (κ := (28, 0, 0)) hn hM rfl rfl rfl z2 ?_
  refine zr_fr hM rfl rfl rfl ?_
  refine zr_fr hM rfl rfl rfl ?_
  refine zr_swi hM rfl h3 rfl rfl rfl ?_
  exact k
set_option maxHeartbeats 4000000 in
set_option maxRecDepth 16384 in
theorem s144_33_fs13_ {n L : Nat} {σ : Ks} {g : List Nat} {cl : Bool} {r : Zr} {v4 : Int32} {w5 : Option Int32} {w6 : Option Int32} {x2 : Nat} (hn : 2 ≤ n ∧ n ≤ 5) (h1 : zcnd .gt v4 ((Int32.ofNat L) - (Int32.ofInt 5)) = false) (z2 : zix v4 L = some x2) (h3 : ((σ 60 x2) &&& ((Int8.ofInt 31).toInt32)).toInt = 13) (k : ZR 144 972 [.val (.ref (kad n (28, 0, 0))), .val (.ref (kad n (0, 0, 0))), .val (.ref (kad n (22, 0, 0))), .val (.ref (kad n (27, 0, 0))), .val (.int v4), zop w5, zop w6] [] (khp n L σ (g)) cl r) : ZR 144 33 [.val (.ref (kad n (28, 0, 0))), .val (.ref (kad n (0, 0, 0))), .val (.ref (kad n (22, 0, 0))), .val (.ref (kad n (27, 0, 0))), .val (.int v4), zop w5, zop w6] [] (khp n L σ g) cl r := by
  have hM : zmi[144]? = some _ := rfl
  have l2 := (zix_some z2).2.2
  refine zr_fr hM rfl rfl rfl ?_
  refine zr_fr hM rfl rfl rfl ?_
  refine zr_alen (κ := (28, 0, 0)) hn hM rfl rfl rfl ?_
  refine zr_fr hM rfl rfl rfl ?_
  refine zr_fr hM rfl rfl rfl ?_
  refine zr_icf hM rfl rfl h1 ?_
  refine zr_fr hM rfl rfl rfl ?_
  refine zr_fr hM rfl rfl rfl ?_
  refine zr_iald (κ := (28, 0, 0)) hn hM rfl rfl rfl z2 ?_
  refine zr_fr hM rfl rfl rfl ?_
  refine zr_fr hM rfl rfl rfl ?_
  refine zr_swi hM rfl h3 rfl rfl rfl ?_
  exact k
set_option maxHeartbeats 4000000 in
set_option maxRecDepth 16384 in
theorem s144_33_fs12_ {n L : Nat} {σ : Ks} {g : List Nat} {cl : Bool} {r : Zr} {v4 : Int32} {w5 : Option Int32} {w6 : Option Int32} {x2 : Nat} (hn : 2 ≤ n ∧ n ≤ 5) (h1 : zcnd .gt v4 ((Int32.ofNat L) - (Int32.ofInt 5)) = false) (z2 : zix v4 L = some x2) (h3 : ((σ 60 x2) &&& ((Int8.ofInt 31).toInt32)).toInt = 12) (k : ZR 144 947 [.val (.ref (kad n (28, 0, 0))), .val (.ref (kad n (0, 0, 0))), .val (.ref (kad n (22, 0, 0))), .val (.ref (kad n (27, 0, 0))), .val (.int v4), zop w5, zop w6] [] (khp n L σ (g)) cl r) : ZR 144 33 [.val (.ref (kad n (28, 0, 0))), .val (.ref (kad n (0, 0, 0))), .val (.ref (kad n (22, 0, 0))), .val (.ref (kad n (27, 0, 0))), .val (.int v4), zop w5, zop w6] [] (khp n L σ g) cl r := by
  have hM : zmi[144]? = some _ := rfl
  have l2 := (zix_some z2).2.2
  refine zr_fr hM rfl rfl rfl ?_
  refine zr_fr hM rfl rfl rfl ?_
  refine zr_alen (κ := (28, 0, 0)) hn hM rfl rfl rfl ?_
  refine zr_fr hM rfl rfl rfl ?_
  refine zr_fr hM rfl rfl rfl ?_
  refine zr_icf hM rfl rfl h1 ?_
  refine zr_fr hM rfl rfl rfl ?_
  refine zr_fr hM rfl rfl rfl ?_
  refine zr_iald (κ := (28, 0, 0)) hn hM rfl rfl rfl z2 ?_
  refine zr_fr hM rfl rfl rfl ?_
  refine zr_fr hM rfl rfl rfl ?_
  refine zr_swi hM rfl h3 rfl rfl rfl ?_
  exact k
set_option maxHeartbeats 4000000 in
set_option maxRecDepth 16384 in
theorem s144_33_fs11_ {n L : Nat} {σ : Ks} {g : List Nat} {cl : Bool} {r : Zr} {v4 : Int32} {w5 : Option Int32} {w6 : Option Int32} {x2 : Nat} (hn : 2 ≤ n ∧ n ≤ 5) (h1 : zcnd .gt v4 ((Int32.ofNat L) - (Int32.ofInt 5)) = false) (z2 : zix v4 L = some x2) (h3 : ((σ 60 x2) &&& ((Int8.ofInt 31).toInt32)).toInt = 11) (k : ZR 144 922 [.val (.ref (kad n (28, 0, 0))), .val (.ref (kad n (0, 0, 0))), .val (.ref (kad n (22, 0, 0))), .val (.ref (kad n (27, 0, 0))), .val (.int v4), zop w5, zop w6] [] (khp n L σ (g)) cl r) : ZR 144 33 [.val (.ref (kad n (28, 0, 0))), .val (.ref (kad n (0, 0, 0))), .val (.ref (kad n (22, 0, 0))), .val (.ref (kad n (27, 0, 0))), .val (.int v4), zop w5, zop w6] [] (khp n L σ g) cl r := by
  have hM : zmi[144]? = some _ := rfl
  have l2 := (zix_some z2).2.2
  refine zr_fr hM rfl rfl rfl ?_
  refine zr_fr hM rfl rfl rfl ?_
  refine zr_alen (κ := (28, 0, 0)) hn hM rfl rfl rfl ?_
  refine zr_fr hM rfl rfl rfl ?_
  refine zr_fr hM rfl rfl rfl ?_
  refine zr_icf hM rfl rfl h1 ?_
  refine zr_fr hM rfl rfl rfl ?_
  refine zr_fr hM rfl rfl rfl ?_
  refine zr_iald (κ := (28, 0, 0)) hn hM rfl rfl rfl z2 ?_
  refine zr_fr hM rfl rfl rfl ?_
  refine zr_fr hM rfl rfl rfl ?_
  refine zr_swi hM rfl h3 rfl rfl rfl ?_
  exact k
set_option maxHeartbeats 4000000 in
set_option maxRecDepth 16384 in
theorem s144_33_fs10_ {n L : Nat} {σ : Ks} {g : List Nat} {cl : Bool} {r : Zr} {v4 : Int32} {w5 : Option Int32} {w6 : Option Int32} {x2 : Nat} (hn : 2 ≤ n ∧ n ≤ 5) (h1 : zcnd .gt v4 ((Int32.ofNat L) - (Int32.ofInt 5)) = false) (z2 : zix v4 L = some x2) (h3 : ((σ 60 x2) &&& ((Int8.ofInt 31).toInt32)).toInt = 10) (k : ZR 144 897 [.val (.ref (kad n (28, 0, 0))), .val (.ref (kad n (0, 0, 0))), .val (.ref (kad n (22, 0, 0))), .val (.ref (kad n (27, 0, 0))), .val (.int v4), zop w5, zop w6] [] (khp n L σ (g)) cl r) : ZR 144 33 [.val (.ref (kad n (28, 0, 0))), .val (.ref (kad n (0, 0, 0))), .val (.ref (kad n (22, 0, 0))), .val (.ref (kad n (27, 0, 0))), .val (.int v4), zop w5, zop w6] [] (khp n L σ g) cl r := by
  have hM : zmi[144]? = some _ := rfl
  have l2 := (zix_some z2).2.2
  refine zr_fr hM rfl rfl rfl ?_
  refine zr_fr hM rfl rfl rfl ?_
  refine zr_alen (κ := (28, 0, 0)) hn hM rfl rfl rfl ?_
  refine zr_fr hM rfl rfl rfl ?_
  refine zr_fr hM rfl rfl rfl ?_
  refine zr_icf hM rfl rfl h1 ?_
  refine zr_fr hM rfl rfl rfl ?_
  refine zr_fr hM rfl rfl rfl ?_
  refine zr_iald (κ := (28, 0, 0)) hn hM rfl rfl rfl z2 ?_
  refine zr_fr hM rfl rfl rfl ?_
  refine zr_fr hM rfl rfl rfl ?_
  refine zr_swi hM rfl h3 rfl rfl rfl ?_
  exact k
set_option maxHeartbeats 4000000 in
set_option maxRecDepth 16384 in
theorem s144_33_fs9_ {n L : Nat} {σ : Ks} {g : List Nat} {cl : Bool} {r : Zr} {v4 : Int32} {w5 : Option Int32} {w6 : Option Int32} {x2 : Nat} (hn : 2 ≤ n ∧ n ≤ 5) (h1 : zcnd .gt v4 ((Int32.ofNat L) - (Int32.ofInt 5)) = false) (z2 : zix v4 L = some x2) (h3 : ((σ 60 x2) &&& ((Int8.ofInt 31).toInt32)).toInt = 9) (k : ZR 144 829 [.val (.ref (kad n (28, 0, 0))), .val (.ref (kad n (0, 0, 0))), .val (.ref (kad n (22, 0, 0))), .val (.ref (kad n (27, 0, 0))), .val (.int v4), zop w5, zop w6] [] (khp n L σ (g)) cl r) : ZR 144 33 [.val (.ref (kad n (28, 0, 0))), .val (.ref (kad n (0, 0, 0))), .val (.ref (kad n (22, 0, 0))), .val (.ref (kad n (27, 0, 0))), .val (.int v4), zop w5, zop w6] [] (khp n L σ g) cl r := by
  have hM : zmi[144]? = some _ := rfl
  have l2 := (zix_some z2).2.2
  refine zr_fr hM rfl rfl rfl ?_
  refine zr_fr hM rfl rfl rfl ?_
  refine zr_alen (κ := (28, 0, 0)) hn hM rfl rfl rfl ?_
  refine zr_fr hM rfl rfl rfl ?_
  refine zr_fr hM rfl rfl rfl ?_
  refine zr_icf hM rfl rfl h1 ?_
  refine zr_fr hM rfl rfl rfl ?_
  refine zr_fr hM rfl rfl rfl ?_
  refine zr_iald (κ := (28, 0, 0)) hn hM rfl rfl rfl z2 ?_
  refine zr_fr hM rfl rfl rfl ?_
  refine zr_fr hM rfl rfl rfl ?_
  refine zr_swi hM rfl h3 rfl rfl rfl ?_
  exact k
set_option maxHeartbeats 4000000 in
set_option maxRecDepth 16384 in
theorem s144_33_fs8_ {n L : Nat} {σ : Ks} {g : List Nat} {cl : Bool} {r : Zr} {v4 : Int32} {w5 : Option Int32} {w6 : Option Int32} {x2 : Nat} (hn : 2 ≤ n ∧ n ≤ 5) (h1 : zcnd .gt v4 ((Int32.ofNat L) - (Int32.ofInt 5)) = false) (z2 : zix v4 L = some x2) (h3 : ((σ 60 x2) &&& ((Int8.ofInt 31).toInt32)).toInt = 8) (k : ZR 144 749 [.val (.ref (kad n (28, 0, 0))), .val (.ref (kad n (0, 0, 0))), .val (.ref (kad n (22, 0, 0))), .val (.ref (kad n (27, 0, 0))), .val (.int v4), zop w5, zop w6] [] (khp n L σ (g)) cl r) : ZR 144 33 [.val (.ref (kad n (28, 0, 0))), .val (.ref (kad n (0, 0, 0))), .val (.ref (kad n (22, 0, 0))), .val (.ref (kad n (27, 0, 0))), .val (.int v4), zop w5, zop w6] [] (khp n L σ g) cl r := by
  have hM : zmi[144]? = some _ := rfl
  have l2 := (zix_some z2).2.2
  refine zr_fr hM rfl rfl rfl ?_
  refine zr_fr hM rfl rfl rfl ?_
  refine zr_alen (κ := (28, 0, 0)) hn hM rfl rfl rfl ?_
  refine zr_fr hM rfl rfl rfl ?_
  refine zr_fr hM rfl rfl rfl ?_
  refine zr_icf hM rfl rfl h1 ?_
  refine zr_fr hM rfl rfl rfl ?_
  refine zr_fr hM rfl rfl rfl ?_
  refine zr_iald (κ := (28, 0, 0)) hn hM rfl rfl rfl z2 ?_
  refine zr_fr hM rfl rfl rfl ?_
  refine zr_fr hM rfl rfl rfl ?_
  refine zr_swi hM rfl h3 rfl rfl rfl ?_
  exact k
set_option maxHeartbeats 4000000 in
set_option maxRecDepth 16384 in
theorem s144_33_fs7_ {n L : Nat} {σ : Ks} {g : List Nat} {cl : Bool} {r : Zr} {v4 : Int32} {w5 : Option Int32} {w6 : Option Int32} {x2 : Nat} (hn : 2 ≤ n ∧ n ≤ 5) (h1 : zcnd .gt v4 ((Int32.ofNat L) - (Int32.ofInt 5)) = false) (z2 : zix v4 L = some x2) (h3 : ((σ 60 x2) &&& ((Int8.ofInt 31).toInt32)).toInt = 7) (k : ZR 144 657 [.val (.ref (kad n (28, 0, 0))), .val (.ref (kad n (0, 0, 0))), .val (.ref (kad n (22, 0, 0))), .val (.ref (kad n (27, 0, 0))), .val (.int v4), zop w5, zop w6] [] (khp n L σ (g)) cl r) : ZR 144 33 [.val (.ref (kad n (28, 0, 0))), .val (.ref (kad n (0, 0, 0))), .val (.ref (kad n (22, 0, 0))), .val (.ref (kad n (27, 0, 0))), .val (.int v4), zop w5, zop w6] [] (khp n L σ g) cl r := by
  have hM : zmi[144]? = some _ := rfl
  have l2 := (zix_some z2).2.2
  refine zr_fr hM rfl rfl rfl ?_
  refine zr_fr hM rfl rfl rfl ?_
  refine zr_alen (κ := (28, 0, 0)) hn hM rfl rfl rfl ?_
  refine zr_fr hM rfl rfl rfl ?_
  refine zr_fr hM rfl rfl rfl ?_
  refine zr_icf hM rfl rfl h1 ?_
  refine zr_fr hM rfl rfl rfl ?_
  refine zr_fr hM rfl rfl rfl ?_
  refine zr_iald (κ := (28, 0, 0)) hn hM rfl rfl rfl z2 ?_
  refine zr_fr hM rfl rfl rfl ?_
  refine zr_fr hM rfl rfl rfl ?_
  refine zr_swi hM rfl h3 rfl rfl rfl ?_
  exact k
set_option maxHeartbeats 4000000 in
set_option maxRecDepth 16384 in
theorem s144_33_fs6_ {n L : Nat} {σ : Ks} {g : List Nat} {cl : Bool} {r : Zr} {v4 : Int32} {w5 : Option Int32} {w6 : Option Int32} {x2 : Nat} (hn : 2 ≤ n ∧ n ≤ 5) (h1 : zcnd .gt v4 ((Int32.ofNat L) - (Int32.ofInt 5)) = false) (z2 : zix v4 L = some x2) (h3 : ((σ 60 x2) &&& ((Int8.ofInt 31).toInt32)).toInt = 6) (k : ZR 144 589 [.val (.ref (kad n (28, 0, 0))), .val (.ref (kad n (0, 0, 0))), .val (.ref (kad n (22, 0, 0))), .val (.ref (kad n (27, 0, 0))), .val (.int v4), zop w5, zop w6] [] (khp n L σ (g)) cl r) : ZR 144 33 [.val (.ref (kad n (28, 0, 0))), .val (.ref (kad n (0, 0, 0))), .val (.ref (kad n (22, 0, 0))), .val (.ref (kad n (27, 0, 0))), .val (.int v4), zop w5, zop w6] [] (khp n L σ g) cl r := by
  have hM : zmi[144]? = some _ := rfl
  have l2 := (zix_some z2).2.2
  refine zr_fr hM rfl rfl rfl ?_
  refine zr_fr hM rfl rfl rfl ?_
  refine zr_alen (κ := (28, 0, 0)) hn hM rfl rfl rfl ?_
  refine zr_fr hM rfl rfl rfl ?_
  refine zr_fr hM rfl rfl rfl ?_
  refine zr_icf hM rfl rfl h1 ?_
  refine zr_fr hM rfl rfl rfl ?_
  refine zr_fr hM rfl rfl rfl ?_
  refine zr_iald (κ := (28, 0, 0)) hn hM rfl rfl rfl z2 ?_
  refine zr_fr hM rfl rfl rfl ?_
  refine zr_fr hM rfl rfl rfl ?_
  refine zr_swi hM rfl h3 rfl rfl rfl ?_
  exact k
set_option maxHeartbeats 4000000 in
set_option maxRecDepth 16384 in
theorem s144_33_fs5_ {n L : Nat} {σ : Ks} {g : List Nat} {cl : Bool} {r : Zr} {v4 : Int32} {w5 : Option Int32} {w6 : Option Int32} {x2 : Nat} (hn : 2 ≤ n ∧ n ≤ 5) (h1 : zcnd .gt v4 ((Int32.ofNat L) - (Int32.ofInt 5)) = false) (z2 : zix v4 L = some x2) (h3 : ((σ 60 x2) &&& ((Int8.ofInt 31).toInt32)).toInt = 5) (k : ZR 144 552 [.val (.ref (kad n (28, 0, 0))), .val (.ref (kad n (0, 0, 0))), .val (.ref (kad n (22, 0, 0))), .val (.ref (kad n (27, 0, 0))), .val (.int v4), zop w5, zop w6] [] (khp n L σ (g)) cl r) : ZR 144 33 [.val (.ref (kad n (28, 0, 0))), .val (.ref (kad n (0, 0, 0))), .val (.ref (kad n (22, 0, 0))), .val (.ref (kad n (27, 0, 0))), .val (.int v4), zop w5, zop w6] [] (khp n L σ g) cl r := by
  have hM : zmi[144]? = some _ := rfl
  have l2 := (zix_some z2).2.2
  refine zr_fr hM rfl rfl rfl ?_
  refine zr_fr hM rfl rfl rfl ?_
  refine zr_alen (κ := (28, 0, 0)) hn hM rfl rfl rfl ?_
  refine zr_fr hM rfl rfl rfl ?_
  refine zr_fr hM rfl rfl rfl ?_
  refine zr_icf hM rfl rfl h1 ?_
  refine zr_fr hM rfl rfl rfl ?_
  refine zr_fr hM rfl rfl rfl ?_
  refine zr_iald (κ := (28, 0, 0)) hn hM rfl rfl rfl z2 ?_
  refine zr_fr hM rfl rfl rfl ?_
  refine zr_fr hM rfl rfl rfl ?_
  refine zr_swi hM rfl h3 rfl rfl rfl ?_
  exact k
set_option maxHeartbeats 4000000 in
set_option maxRecDepth 16384 in
theorem s144_33_fs4_ {n L : Nat} {σ : Ks} {g : List Nat} {cl : Bool} {r : Zr} {v4 : Int32} {w5 : Option Int32} {w6 : Option Int32} {x2 : Nat} (hn : 2 ≤ n ∧ n ≤ 5) (h1 : zcnd .gt v4 ((Int32.ofNat L) - (Int32.ofInt 5)) = false) (z2 : zix v4 L = some x2) (h3 : ((σ 60 x2) &&& ((Int8.ofInt 31).toInt32)).toInt = 4) (k : ZR 144 460 [.val (.ref (kad n (28, 0, 0))), .val (.ref (kad n (0, 0, 0))), .val (.ref (kad n (22, 0, 0))), .val (.ref (kad n (27, 0, 0))), .val (.int v4), zop w5, zop w6] [] (khp n L σ (g)) cl r) : ZR 144 33 [.val (.ref (kad n (28, 0, 0))), .val (.ref (kad n (0, 0, 0))), .val (.ref (kad n (22, 0, 0))), .val (.ref (kad n (27, 0, 0))), .val (.int v4), zop w5, zop w6] [] (khp n L σ g) cl r := by
  have hM : zmi[144]? = some _ := rfl
  have l2 := (zix_some z2).2.2
  refine zr_fr hM rfl rfl rfl ?_
  refine zr_fr hM rfl rfl rfl ?_
  refine zr_alen (κ := (28, 0, 0)) hn hM rfl rfl rfl ?_
  refine zr_fr hM rfl rfl rfl ?_
  refine zr_fr hM rfl rfl rfl ?_
  refine zr_icf hM rfl rfl h1 ?_
  refine zr_fr hM rfl rfl rfl ?_
  refine zr_fr hM rfl rfl rfl ?_
  refine zr_iald (κ := (28, 0, 0)) hn hM rfl rfl rfl z2 ?_
  refine zr_fr hM rfl rfl rfl ?_
  refine zr_fr hM rfl rfl rfl ?_
  refine zr_swi hM rfl h3 rfl rfl rfl ?_
  exact k
set_option maxHeartbeats 4000000 in
set_option maxRecDepth 16384 in
theorem s144_33_fs3_ {n L : Nat} {σ : Ks} {g : List Nat} {cl : Bool} {r : Zr} {v4 : Int32} {w5 : Option Int32} {w6 : Option Int32} {x2 : Nat} (hn : 2 ≤ n ∧ n ≤ 5) (h1 : zcnd .gt v4 ((Int32.ofNat L) - (Int32.ofInt 5)) = false) (z2 : zix v4 L = some x2) (h3 : ((σ 60 x2) &&& ((Int8.ofInt 31).toInt32)).toInt = 3) (k : ZR 144 380 [.val (.ref (kad n (28, 0, 0))), .val (.ref (kad n (0, 0, 0))), .val (.ref (kad n (22, 0, 0))), .val (.ref (kad n (27, 0, 0))), .val (.int v4), zop w5, zop w6] [] (khp n L σ (g)) cl r) : ZR 144 33 [.val (.ref (kad n (28, 0, 0))), .val (.ref (kad n (0, 0, 0))), .val (.ref (kad n (22, 0, 0))), .val (.ref (kad n (27, 0, 0))), .val (.int v4), zop w5, zop w6] [] (khp n L σ g) cl r := by
  have hM : zmi[144]? = some _ := rfl
  have l2 := (zix_some z2).2.2
  refine zr_fr hM rfl rfl rfl ?_
  refine zr_fr hM rfl rfl rfl ?_
  refine zr_alen (κ := (28, 0, 0)) hn hM rfl rfl rfl ?_
  refine zr_fr hM rfl rfl rfl ?_
  refine zr_fr hM rfl rfl rfl ?_
  refine zr_icf hM rfl rfl h1 ?_
  refine zr_fr hM rfl rfl rfl ?_
  refine zr_fr hM rfl rfl rfl ?_
  refine zr_iald (κ := (28, 0, 0)) hn hM rfl rfl rfl z2 ?_
  refine zr_fr hM rfl rfl rfl ?_
  refine zr_fr hM rfl rfl rfl ?_
  refine zr_swi hM rfl h3 rfl rfl rfl ?_
  exact k
set_option maxHeartbeats 4000000 in
set_option maxRecDepth 16384 in
theorem s144_33_fs2_ {n L : Nat} {σ : Ks} {g : List Nat} {cl : Bool} {r : Zr} {v4 : Int32} {w5 : Option Int32} {w6 : Option Int32} {x2 : Nat} (hn : 2 ≤ n ∧ n ≤ 5) (h1 : zcnd .gt v4 ((Int32.ofNat L) - (Int32.ofInt 5)) = false) (z2 : zix v4 L = some x2) (h3 : ((σ 60 x2) &&& ((Int8.ofInt 31).toInt32)).toInt = 2) (k : ZR 144 300 [.val (.ref (kad n (28, 0, 0))), .val (.ref (kad n (0, 0, 0))), .val (.ref (kad n (22, 0, 0))), .val (.ref (kad n (27, 0, 0))), .val (.int v4), zop w5, zop w6] [] (khp n L σ (g)) cl r) : ZR 144 33 [.val (.ref (kad n (28, 0, 0))), .val (.ref (kad n (0, 0, 0))), .val (.ref (kad n (22, 0, 0))), .val (.ref (kad n (27, 0, 0))), .val (.int v4), zop w5, zop w6] [] (khp n L σ g) cl r := by
  have hM : zmi[144]? = some _ := rfl
  have l2 := (zix_some z2).2.2
  refine zr_fr hM rfl rfl rfl ?_
  refine zr_fr hM rfl rfl rfl ?_
  refine zr_alen (κ := (28, 0, 0)) hn hM rfl rfl rfl ?_
  refine zr_fr hM rfl rfl rfl ?_
  refine zr_fr hM rfl rfl rfl ?_
  refine zr_icf hM rfl rfl h1 ?_
  refine zr_fr hM rfl rfl rfl ?_
  refine zr_fr hM rfl rfl rfl ?_
  refine zr_iald (κ := (28, 0, 0)) hn hM rfl rfl rfl z2 ?_
  refine zr_fr hM rfl rfl rfl ?_
  refine zr_fr hM rfl rfl rfl ?_
  refine zr_swi hM rfl h3 rfl rfl rfl ?_
  exact k
set_option maxHeartbeats 4000000 in
set_option maxRecDepth 16384 in
theorem s144_33_fs1_ {n L : Nat} {σ : Ks} {g : List Nat} {cl : Bool} {r : Zr} {v4 : Int32} {w5 : Option Int32} {w6 : Option Int32} {x2 : Nat} (hn : 2 ≤ n ∧ n ≤ 5) (h1 : zcnd .gt v4 ((Int32.ofNat L) - (Int32.ofInt 5)) = false) (z2 : zix v4 L = some x2) (h3 : ((σ 60 x2) &&& ((Int8.ofInt 31).toInt32)).toInt = 1) (k : ZR 144 220 [.val (.ref (kad n (28, 0, 0))), .val (.ref (kad n (0, 0, 0))), .val (.ref (kad n (22, 0, 0))), .val (.ref (kad n (27, 0, 0))), .val (.int v4), zop w5, zop w6] [] (khp n L σ (g)) cl r) : ZR 144 33 [.val (.ref (kad n (28, 0, 0))), .val (.ref (kad n (0, 0, 0))), .val (.ref (kad n (22, 0, 0))), .val (.ref (kad n (27, 0, 0))), .val (.int v4), zop w5, zop w6] [] (khp n L σ g) cl r := by
  have hM : zmi[144]? = some _ := rfl
  have l2 := (zix_some z2).2.2
  refine zr_fr hM rfl rfl rfl ?_
  refine zr_fr hM rfl rfl rfl ?_
  refine zr_alen (κ := (28, 0, 0)) hn hM rfl rfl rfl ?_
  refine zr_fr hM rfl rfl rfl ?_
  refine zr_fr hM rfl rfl rfl ?_
  refine zr_icf hM rfl rfl h1 ?_
  refine zr_fr hM rfl rfl rfl ?_
  refine zr_fr hM rfl rfl rfl ?_
  refine zr_iald (κ := (28, 0, 0)) hn hM rfl rfl rfl z2 ?_
  refine zr_fr hM rfl rfl rfl ?_
  refine zr_fr hM rfl rfl rfl ?_
  refine zr_swi hM rfl h3 rfl rfl rfl ?_
  exact k
set_option maxHeartbeats 4000000 in
set_option maxRecDepth 16384 in
theorem s144_33_t {n L : Nat} {σ : Ks} {g : List Nat} {cl : Bool} {v4 : Int32} {w5 : Option Int32} {w6 : Option Int32} (hn : 2 ≤ n ∧ n ≤ 5) (h1 : zcnd .gt v4 ((Int32.ofNat L) - (Int32.ofInt 5)) = true) : ZR 144 33 [.val (.ref (kad n (28, 0, 0))), .val (.ref (kad n (0, 0, 0))), .val (.ref (kad n (22, 0, 0))), .val (.ref (kad n (27, 0, 0))), .val (.int v4), zop w5, zop w6] [] (khp n L σ g) cl (.inl (some (.int (Int32.ofInt 1))), khp n L σ (g), cl) := by
  have hM : zmi[144]? = some _ := rfl
  refine zr_fr hM rfl rfl rfl ?_
  refine zr_fr hM rfl rfl rfl ?_
  refine zr_alen (κ := (28, 0, 0)) hn hM rfl rfl rfl ?_
  refine zr_fr hM rfl rfl rfl ?_
  refine zr_fr hM rfl rfl rfl ?_
  refine zr_ict hM rfl rfl h1 ?_
  refine zr_fr hM rfl rfl rfl ?_
  exact zr_zret2 hM rfl rfl (by decide) rfl
set_option maxHeartbeats 4000000 in
set_option maxRecDepth 16384 in
theorem s144_1355_r {n L : Nat} {σ : Ks} {g : List Nat} {cl : Bool} {r : Zr} {v4 : Int32} {w5 : Option Int32} {w6 : Option Int32} (hn : 2 ≤ n ∧ n ≤ 5) (k : ZR 144 33 [.val (.ref (kad n (28, 0, 0))), .val (.ref (kad n (0, 0, 0))), .val (.ref (kad n (22, 0, 0))), .val (.ref (kad n (27, 0, 0))), .val (.int (v4 + Int32.ofInt 5)), zop w5, zop w6] [] (khp n L σ (g)) cl r) : ZR 144 1355 [.val (.ref (kad n (28, 0, 0))), .val (.ref (kad n (0, 0, 0))), .val (.ref (kad n (22, 0, 0))), .val (.ref (kad n (27, 0, 0))), .val (.int v4), zop w5, zop w6] [] (khp n L σ g) cl r := by
  have hM : zmi[144]? = some _ := rfl
  refine zr_fr hM rfl rfl rfl ?_
  refine zr_fr hM rfl rfl rfl ?_
  exact k
set_option maxHeartbeats 4000000 in
set_option maxRecDepth 16384 in
theorem s144_152_tft {n L : Nat} {σ : Ks} {g g3 : List Nat} {cl : Bool} {r : Zr} {v4 : Int32} {w5 : Option Int32} {w6 : Option Int32} {x1 : Nat} {x2 : Nat} {σ3 : Ks} {c3 : Bool} {r3 : Int32} {σ4 : Ks} {c4 : Bool} {r4 : Int32} {r5 : Int32} {x8 : Nat} (hn : 2 ≤ n ∧ n ≤ 5) (z1 : zix (v4 + (Int32.ofInt 1)) L = some x1) (z2 : zix (v4 + (Int32.ofInt 2)) L = some x2) (c3_ : ZR 47 0 [.val (.ref (kad n (0, 0, 0))), .val (.int (σ 60 x1)), .val (.int (σ 60 x2)), .val (.ref (kad n (27, 0, 0))), .unset] [] (khp n L σ g) true (.inl (some (.int r3)), khp n L σ3 g3, c3)) (c4_ : ZR 113 0 [.val (.ref (kad n (22, 0, 0))), .val (.int (σ3 60 x1)), .val (.int (σ3 60 x2))] [] (khp n L σ3 g3) true (.inl (some (.int r4)), khp n L σ4 g3, c4)) (c5_ : ZR 98 0 [.val (.ref (kad n (22, 0, 0)))] [] (khp n L σ4 g3) true (.inl (some (.int r5)), khp n L σ4 g3, true)) (h6 : zcnd .eq r5 r3 = true) (h7 : zcnd .ne r3 0 = false) (z8 : zix (Int32.ofInt 0) 1 = some x8) (h9 : zcnd .eq (lg_cmp (σ4 50 x8).toInt64 r4.toInt64) 0 = true) (k : ZR 144 1355 [.val (.ref (kad n (28, 0, 0))), .val (.ref (kad n (0, 0, 0))), .val (.ref (kad n (22, 0, 0))), .val (.ref (kad n (27, 0, 0))), .val (.int v4), .val (.int r3), .val (.int r4)] [] (khp n L σ4 g3) (cl && c3 && c4) r) : ZR 144 152 [.val (.ref (kad n (28, 0, 0))), .val (.ref (kad n (0, 0, 0))), .val (.ref (kad n (22, 0, 0))), .val (.ref (kad n (27, 0, 0))), .val (.int v4), zop w5, zop w6] [] (khp n L σ g) cl r := by
  have hM : zmi[144]? = some _ := rfl
  have l1 := (zix_some z1).2.2
  have l2 := (zix_some z2).2.2
  have l8 := (zix_some z8).2.2
  refine zr_fr hM rfl rfl rfl ?_
  refine zr_fr hM rfl rfl rfl ?_
  refine zr_fr hM rfl rfl rfl ?_
  refine zr_fr hM rfl rfl rfl ?_
  refine zr_fr hM rfl rfl rfl ?_
  refine zr_iald (κ := (28, 0, 0)) hn hM rfl rfl rfl z1 ?_
  refine zr_fr hM rfl rfl rfl ?_
  refine zr_fr hM rfl rfl rfl ?_
  refine zr_fr hM rfl rfl rfl ?_
  refine zr_fr hM rfl rfl rfl ?_
  refine zr_iald (κ := (28, 0, 0)) hn hM rfl rfl rfl z2 ?_
  refine zr_fr hM rfl rfl rfl ?_
  refine zr_stat hM rfl rfl rfl rfl rfl rfl ?_
  refine zgo_ret rfl rfl c3_ ?_
  refine zr_fr (ls' := [.val (.ref (kad n (28, 0, 0))), .val (.ref (kad n (0, 0, 0))), .val (.ref (kad n (22, 0, 0))), .val (.ref (kad n (27, 0, 0))), .val (.int v4), .val (.int r3), zop w6]) hM rfl rfl (by cases w5 <;> rfl) ?_
  refine zr_fr hM rfl rfl rfl ?_
  refine zr_fr hM rfl rfl rfl ?_
  refine zr_fr hM rfl rfl rfl ?_
  refine zr_fr hM rfl rfl rfl ?_
  refine zr_fr hM rfl rfl rfl ?_
  refine zr_iald (κ := (28, 0, 0)) hn hM rfl rfl rfl z1 ?_
  refine zr_fr hM rfl rfl rfl ?_
  refine zr_fr hM rfl rfl rfl ?_
  refine zr_fr hM rfl rfl rfl ?_
  refine zr_fr hM rfl rfl rfl ?_
  refine zr_iald (κ := (28, 0, 0)) hn hM rfl rfl rfl z2 ?_
  refine zr_virt (κ := (22, 0, 0)) hn hM rfl rfl rfl rfl rfl rfl rfl rfl rfl ?_
  refine zgo_ret rfl rfl c4_ ?_
  refine zr_fr (ls' := [.val (.ref (kad n (28, 0, 0))), .val (.ref (kad n (0, 0, 0))), .val (.ref (kad n (22, 0, 0))), .val (.ref (kad n (27, 0, 0))), .val (.int v4), .val (.int r3), .val (.int r4)]) hM rfl rfl (by cases w6 <;> rfl) ?_
  refine zr_fr hM rfl rfl rfl ?_
  refine zr_virt (κ := (22, 0, 0)) hn hM rfl rfl rfl rfl rfl rfl rfl rfl rfl ?_
  refine zgo_ret rfl rfl c5_ ?_
  rw [Bool.and_true]
  refine zr_fr hM rfl rfl rfl ?_
  refine zr_ict hM rfl rfl h6 ?_
  refine zr_fr hM rfl rfl rfl ?_
  refine zr_iff hM rfl rfl h7 ?_
  refine zr_fr hM rfl rfl rfl ?_
  refine zr_fr hM rfl rfl rfl ?_
  refine zr_lald (κ := (27, 0, 0)) hn hM rfl rfl rfl z8 ?_
  refine zr_fr hM rfl rfl rfl ?_
  refine zr_fr hM rfl rfl rfl ?_
  refine zr_fr hM rfl rfl rfl ?_
  refine zr_ift hM rfl rfl h9 ?_
  refine zr_fr hM rfl rfl rfl ?_
  exact k
set_option maxHeartbeats 4000000 in
set_option maxRecDepth 16384 in
theorem s144_152_tt {n L : Nat} {σ : Ks} {g g3 : List Nat} {cl : Bool} {r : Zr} {v4 : Int32} {w5 : Option Int32} {w6 : Option Int32} {x1 : Nat} {x2 : Nat} {σ3 : Ks} {c3 : Bool} {r3 : Int32} {σ4 : Ks} {c4 : Bool} {r4 : Int32} {r5 : Int32} (hn : 2 ≤ n ∧ n ≤ 5) (z1 : zix (v4 + (Int32.ofInt 1)) L = some x1) (z2 : zix (v4 + (Int32.ofInt 2)) L = some x2) (c3_ : ZR 47 0 [.val (.ref (kad n (0, 0, 0))), .val (.int (σ 60 x1)), .val (.int (σ 60 x2)), .val (.ref (kad n (27, 0, 0))), .unset] [] (khp n L σ g) true (.inl (some (.int r3)), khp n L σ3 g3, c3)) (c4_ : ZR 113 0 [.val (.ref (kad n (22, 0, 0))), .val (.int (σ3 60 x1)), .val (.int (σ3 60 x2))] [] (khp n L σ3 g3) true (.inl (some (.int r4)), khp n L σ4 g3, c4)) (c5_ : ZR 98 0 [.val (.ref (kad n (22, 0, 0)))] [] (khp n L σ4 g3) true (.inl (some (.int r5)), khp n L σ4 g3, true)) (h6 : zcnd .eq r5 r3 = true) (h7 : zcnd .ne r3 0 = true) (k : ZR 144 1355 [.val (.ref (kad n (28, 0, 0))), .val (.ref (kad n (0, 0, 0))), .val (.ref (kad n (22, 0, 0))), .val (.ref (kad n (27, 0, 0))), .val (.int v4), .val (.int r3), .val (.int r4)] [] (khp n L σ4 g3) (cl && c3 && c4) r) : ZR 144 152 [.val (.ref (kad n (28, 0, 0))), .val (.ref (kad n (0, 0, 0))), .val (.ref (kad n (22, 0, 0))), .val (.ref (kad n (27, 0, 0))), .val (.int v4), zop w5, zop w6] [] (khp n L σ g) cl r := by
  have hM : zmi[144]? = some _ := rfl
  have l1 := (zix_some z1).2.2
  have l2 := (zix_some z2).2.2
  refine zr_fr hM rfl rfl rfl ?_
  refine zr_fr hM rfl rfl rfl ?_
  refine zr_fr hM rfl rfl rfl ?_
  refine zr_fr hM rfl rfl rfl ?_
  refine zr_fr hM rfl rfl rfl ?_
  refine zr_iald (κ := (28, 0, 0)) hn hM rfl rfl rfl z1 ?_
  refine zr_fr hM rfl rfl rfl ?_
  refine zr_fr hM rfl rfl rfl ?_
  refine zr_fr hM rfl rfl rfl ?_
  refine zr_fr hM rfl rfl rfl ?_
  refine zr_iald (κ := (28, 0, 0)) hn hM rfl rfl rfl z2 ?_
  refine zr_fr hM rfl rfl rfl ?_
  refine zr_stat hM rfl rfl rfl rfl rfl rfl ?_
  refine zgo_ret rfl rfl c3_ ?_
  refine zr_fr (ls' := [.val (.ref (kad n (28, 0, 0))), .val (.ref (kad n (0, 0, 0))), .val (.ref (kad n (22, 0, 0))), .val (.ref (kad n (27, 0, 0))), .val (.int v4), .val (.int r3), zop w6]) hM rfl rfl (by cases w5 <;> rfl) ?_
  refine zr_fr hM rfl rfl rfl ?_
  refine zr_fr hM rfl rfl rfl ?_
  refine zr_fr hM rfl rfl rfl ?_
  refine zr_fr hM rfl rfl rfl ?_
  refine zr_fr hM rfl rfl rfl ?_
  refine zr_iald (κ := (28, 0, 0)) hn hM rfl rfl rfl z1 ?_
  refine zr_fr hM rfl rfl rfl ?_
  refine zr_fr hM rfl rfl rfl ?_
  refine zr_fr hM rfl rfl rfl ?_
  refine zr_fr hM rfl rfl rfl ?_
  refine zr_iald (κ := (28, 0, 0)) hn hM rfl rfl rfl z2 ?_
  refine zr_virt (κ := (22, 0, 0)) hn hM rfl rfl rfl rfl rfl rfl rfl rfl rfl ?_
  refine zgo_ret rfl rfl c4_ ?_
  refine zr_fr (ls' := [.val (.ref (kad n (28, 0, 0))), .val (.ref (kad n (0, 0, 0))), .val (.ref (kad n (22, 0, 0))), .val (.ref (kad n (27, 0, 0))), .val (.int v4), .val (.int r3), .val (.int r4)]) hM rfl rfl (by cases w6 <;> rfl) ?_
  refine zr_fr hM rfl rfl rfl ?_
  refine zr_virt (κ := (22, 0, 0)) hn hM rfl rfl rfl rfl rfl rfl rfl rfl rfl ?_
  refine zgo_ret rfl rfl c5_ ?_
  rw [Bool.and_true]
  refine zr_fr hM rfl rfl rfl ?_
  refine zr_ict hM rfl rfl h6 ?_
  refine zr_fr hM rfl rfl rfl ?_
  refine zr_ift hM rfl rfl h7 ?_
  refine zr_fr hM rfl rfl rfl ?_
  exact k
set_option maxHeartbeats 4000000 in
set_option maxRecDepth 16384 in
theorem s144_220_tft {n L : Nat} {σ : Ks} {g g3 : List Nat} {cl : Bool} {r : Zr} {v4 : Int32} {w5 : Option Int32} {w6 : Option Int32} {x1 : Nat} {x2 : Nat} {x3 : Nat} {σ4 : Ks} {c4 : Bool} {r4 : Int32} {σ5 : Ks} {c5 : Bool} {r5 : Int32} {r6 : Int32} {x9 : Nat} (hn : 2 ≤ n ∧ n ≤ 5) (z1 : zix (v4 + (Int32.ofInt 1)) L = some x1) (z2 : zix (v4 + (Int32.ofInt 2)) L = some x2) (z3 : zix (v4 + (Int32.ofInt 3)) L = some x3) (c4_ : ZR 52 0 [.val (.ref (kad n (0, 0, 0))), .val (.int (σ 60 x1)), .val (.int (σ 60 x2)), .val (.int (σ 60 x3)), .val (.ref (kad n (27, 0, 0))), .unset] [] (khp n L σ g) true (.inl (some (.int r4)), khp n L σ4 g3, c4)) (c5_ : ZR 116 0 [.val (.ref (kad n (22, 0, 0))), .val (.int (σ4 60 x1)), .val (.int (σ4 60 x2)), .val (.int (σ4 60 x3))] [] (khp n L σ4 g3) true (.inl (some (.int r5)), khp n L σ5 g3, c5)) (c6_ : ZR 98 0 [.val (.ref (kad n (22, 0, 0)))] [] (khp n L σ5 g3) true (.inl (some (.int r6)), khp n L σ5 g3, true)) (h7 : zcnd .eq r6 r4 = true) (h8 : zcnd .ne r4 0 = false) (z9 : zix (Int32.ofInt 0) 1 = some x9) (h10 : zcnd .eq (lg_cmp (σ5 50 x9).toInt64 r5.toInt64) 0 = true) (k : ZR 144 1355 [.val (.ref (kad n (28, 0, 0))), .val (.ref (kad n (0, 0, 0))), .val (.ref (kad n (22, 0, 0))), .val (.ref (kad n (27, 0, 0))), .val (.int v4), .val (.int r4), .val (.int r5)] [] (khp n L σ5 g3) (cl && c4 && c5) r) : ZR 144 220 [.val (.ref (kad n (28, 0, 0))), .val (.ref (kad n (0, 0, 0))), .val (.ref (kad n (22, 0, 0))), .val (.ref (kad n (27, 0, 0))), .val (.int v4), zop w5, zop w6] [] (khp n L σ g) cl r := by
  have hM : zmi[144]? = some _ := rfl
  have l1 := (zix_some z1).2.2
  have l2 := (zix_some z2).2.2
  have l3 := (zix_some z3).2.2
  have l9 := (zix_some z9).2.2
  refine zr_fr hM rfl rfl rfl ?_
  refine zr_fr hM rfl rfl rfl ?_
  refine zr_fr hM rfl rfl rfl ?_
  refine zr_fr hM rfl rfl rfl ?_
  refine zr_fr hM rfl rfl rfl ?_
  refine zr_iald (κ := (28, 0, 0)) hn hM rfl rfl rfl z1 ?_
  refine zr_fr hM rfl rfl rfl ?_
  refine zr_fr hM rfl rfl rfl ?_
  refine zr_fr hM rfl rfl rfl ?_
  refine zr_fr hM rfl rfl rfl ?_
  refine zr_iald (κ := (28, 0, 0)) hn hM rfl rfl rfl z2 ?_
  refine zr_fr hM rfl rfl rfl ?_
  refine zr_fr hM rfl rfl rfl ?_
  refine zr_fr hM rfl rfl rfl ?_
  refine zr_fr hM rfl rfl rfl ?_
  refine zr_iald (κ := (28, 0, 0)) hn hM rfl rfl rfl z3 ?_
  refine zr_fr hM rfl rfl rfl ?_
  refine zr_stat hM rfl rfl rfl rfl rfl rfl ?_
  refine zgo_ret rfl rfl c4_ ?_
  refine zr_fr (ls' := [.val (.ref (kad n (28, 0, 0))), .val (.ref (kad n (0, 0, 0))), .val (.ref (kad n (22, 0, 0))), .val (.ref (kad n (27, 0, 0))), .val (.int v4), .val (.int r4), zop w6]) hM rfl rfl (by cases w5 <;> rfl) ?_
  refine zr_fr hM rfl rfl rfl ?_
  refine zr_fr hM rfl rfl rfl ?_
  refine zr_fr hM rfl rfl rfl ?_
  refine zr_fr hM rfl rfl rfl ?_
  refine zr_fr hM rfl rfl rfl ?_
  refine zr_iald (κ := (28, 0, 0)) hn hM rfl rfl rfl z1 ?_
  refine zr_fr hM rfl rfl rfl ?_
  refine zr_fr hM rfl rfl rfl ?_
  refine zr_fr hM rfl rfl rfl ?_
  refine zr_fr hM rfl rfl rfl ?_
  refine zr_iald (κ := (28, 0, 0)) hn hM rfl rfl rfl z2 ?_
  refine zr_fr hM rfl rfl rfl ?_
  refine zr_fr hM rfl rfl rfl ?_
  refine zr_fr hM rfl rfl rfl ?_
  refine zr_fr hM rfl rfl rfl ?_
  refine zr_iald (κ := (28, 0, 0)) hn hM rfl rfl rfl z3 ?_
  refine zr_virt (κ := (22, 0, 0)) hn hM rfl rfl rfl rfl rfl rfl rfl rfl rfl ?_
  refine zgo_ret rfl rfl c5_ ?_
  refine zr_fr (ls' := [.val (.ref (kad n (28, 0, 0))), .val (.ref (kad n (0, 0, 0))), .val (.ref (kad n (22, 0, 0))), .val (.ref (kad n (27, 0, 0))), .val (.int v4), .val (.int r4), .val (.int r5)]) hM rfl rfl (by cases w6 <;> rfl) ?_
  refine zr_fr hM rfl rfl rfl ?_
  refine zr_virt (κ := (22, 0, 0)) hn hM rfl rfl rfl rfl rfl rfl rfl rfl rfl ?_
  refine zgo_ret rfl rfl c6_ ?_
  rw [Bool.and_true]
  refine zr_fr hM rfl rfl rfl ?_
  refine zr_ict hM rfl rfl h7 ?_
  refine zr_fr hM rfl rfl rfl ?_
  refine zr_iff hM rfl rfl h8 ?_
  refine zr_fr hM rfl rfl rfl ?_
  refine zr_fr hM rfl rfl rfl ?_
  refine zr_lald (κ := (27, 0, 0)) hn hM rfl rfl rfl z9 ?_
  refine zr_fr hM rfl rfl rfl ?_
  refine zr_fr hM rfl rfl rfl ?_
  refine zr_fr hM rfl rfl rfl ?_
  refine zr_ift hM rfl rfl h10 ?_
  refine zr_fr hM rfl rfl rfl ?_
  exact k
set_option maxHeartbeats 4000000 in
set_option maxRecDepth 16384 in
theorem s144_220_tt {n L : Nat} {σ : Ks} {g g3 : List Nat} {cl : Bool} {r : Zr} {v4 : Int32} {w5 : Option Int32} {w6 : Option Int32} {x1 : Nat} {x2 : Nat} {x3 : Nat} {σ4 : Ks} {c4 : Bool} {r4 : Int32} {σ5 : Ks} {c5 : Bool} {r5 : Int32} {r6 : Int32} (hn : 2 ≤ n ∧ n ≤ 5) (z1 : zix (v4 + (Int32.ofInt 1)) L = some x1) (z2 : zix (v4 + (Int32.ofInt 2)) L = some x2) (z3 : zix (v4 + (Int32.ofInt 3)) L = some x3) (c4_ : ZR 52 0 [.val (.ref (kad n (0, 0, 0))), .val (.int (σ 60 x1)), .val (.int (σ 60 x2)), .val (.int (σ 60 x3)), .val (.ref (kad n (27, 0, 0))), .unset] [] (khp n L σ g) true (.inl (some (.int r4)), khp n L σ4 g3, c4)) (c5_ : ZR 116 0 [.val (.ref (kad n (22, 0, 0))), .val (.int (σ4 60 x1)), .val (.int (σ4 60 x2)), .val (.int (σ4 60 x3))] [] (khp n L σ4 g3) true (.inl (some (.int r5)), khp n L σ5 g3, c5)) (c6_ : ZR 98 0 [.val (.ref (kad n (22, 0, 0)))] [] (khp n L σ5 g3) true (.inl (some (.int r6)), khp n L σ5 g3, true)) (h7 : zcnd .eq r6 r4 = true) (h8 : zcnd .ne r4 0 = true) (k : ZR 144 1355 [.val (.ref (kad n (28, 0, 0))), .val (.ref (kad n (0, 0, 0))), .val (.ref (kad n (22, 0, 0))), .val (.ref (kad n (27, 0, 0))), .val (.int v4), .val (.int r4), .val (.int r5)] [] (khp n L σ5 g3) (cl && c4 && c5) r) : ZR 144 220 [.val (.ref (kad n (28, 0, 0))), .val (.ref (kad n (0, 0, 0))), .val (.ref (kad n (22, 0, 0))), .val (.ref (kad n (27, 0, 0))), .val (.int v4), zop w5, zop w6] [] (khp n L σ g) cl r := by
  have hM : zmi[144]? = some _ := rfl
  have l1 := (zix_some z1).2.2
  have l2 := (zix_some z2).2.2
  have l3 := (zix_some z3).2.2
  refine zr_fr hM rfl rfl rfl ?_
  refine zr_fr hM rfl rfl rfl ?_
  refine zr_fr hM rfl rfl rfl ?_
  refine zr_fr hM rfl rfl rfl ?_
  refine zr_fr hM rfl rfl rfl ?_
  refine zr_iald (κ := (28, 0, 0)) hn hM rfl rfl rfl z1 ?_
  refine zr_fr hM rfl rfl rfl ?_
  refine zr_fr hM rfl rfl rfl ?_
  refine zr_fr hM rfl rfl rfl ?_
  refine zr_fr hM rfl rfl rfl ?_
  refine zr_iald (κ := (28, 0, 0)) hn hM rfl rfl rfl z2 ?_
  refine zr_fr hM rfl rfl rfl ?_
  refine zr_fr hM rfl rfl rfl ?_
  refine zr_fr hM rfl rfl rfl ?_
  refine zr_fr hM rfl rfl rfl ?_
  refine zr_iald (κ := (28, 0, 0)) hn hM rfl rfl rfl z3 ?_
  refine zr_fr hM rfl rfl rfl ?_
  refine zr_stat hM rfl rfl rfl rfl rfl rfl ?_
  refine zgo_ret rfl rfl c4_ ?_
  refine zr_fr (ls' := [.val (.ref (kad n (28, 0, 0))), .val (.ref (kad n (0, 0, 0))), .val (.ref (kad n (22, 0, 0))), .val (.ref (kad n (27, 0, 0))), .val (.int v4), .val (.int r4), zop w6]) hM rfl rfl (by cases w5 <;> rfl) ?_
  refine zr_fr hM rfl rfl rfl ?_
  refine zr_fr hM rfl rfl rfl ?_
  refine zr_fr hM rfl rfl rfl ?_
  refine zr_fr hM rfl rfl rfl ?_
  refine zr_fr hM rfl rfl rfl ?_
  refine zr_iald (κ := (28, 0, 0)) hn hM rfl rfl rfl z1 ?_
  refine zr_fr hM rfl rfl rfl ?_
  refine zr_fr hM rfl rfl rfl ?_
  refine zr_fr hM rfl rfl rfl ?_
  refine zr_fr hM rfl rfl rfl ?_
  refine zr_iald (κ := (28, 0, 0)) hn hM rfl rfl rfl z2 ?_
  refine zr_fr hM rfl rfl rfl ?_
  refine zr_fr hM rfl rfl rfl ?_
  refine zr_fr hM rfl rfl rfl ?_
  refine zr_fr hM rfl rfl rfl ?_
  refine zr_iald (κ := (28, 0, 0)) hn hM rfl rfl rfl z3 ?_
  refine zr_virt (κ := (22, 0, 0)) hn hM rfl rfl rfl rfl rfl rfl rfl rfl rfl ?_
  refine zgo_ret rfl rfl c5_ ?_
  refine zr_fr (ls' := [.val (.ref (kad n (28, 0, 0))), .val (.ref (kad n (0, 0, 0))), .val (.ref (kad n (22, 0, 0))), .val (.ref (kad n (27, 0, 0))), .val (.int v4), .val (.int r4), .val (.int r5)]) hM rfl rfl (by cases w6 <;> rfl) ?_
  refine zr_fr hM rfl rfl rfl ?_
  refine zr_virt (κ := (22, 0, 0)) hn hM rfl rfl rfl rfl rfl rfl rfl rfl rfl ?_
  refine zgo_ret rfl rfl c6_ ?_
  rw [Bool.and_true]
  refine zr_fr hM rfl rfl rfl ?_
  refine zr_ict hM rfl rfl h7 ?_
  refine zr_fr hM rfl rfl rfl ?_
  refine zr_ift hM rfl rfl h8 ?_
  refine zr_fr hM rfl rfl rfl ?_
  exact k
set_option maxHeartbeats 4000000 in
set_option maxRecDepth 16384 in
theorem s144_300_tft {n L : Nat} {σ : Ks} {g g3 : List Nat} {cl : Bool} {r : Zr} {v4 : Int32} {w5 : Option Int32} {w6 : Option Int32} {x1 : Nat} {x2 : Nat} {x3 : Nat} {σ4 : Ks} {c4 : Bool} {r4 : Int32} {σ5 : Ks} {c5 : Bool} {r5 : Int32} {r6 : Int32} {x9 : Nat} (hn : 2 ≤ n ∧ n ≤ 5) (z1 : zix (v4 + (Int32.ofInt 1)) L = some x1) (z2 : zix (v4 + (Int32.ofInt 2)) L = some x2) (z3 : zix (v4 + (Int32.ofInt 3)) L = some x3) (c4_ : ZR 57 0 [.val (.ref (kad n (0, 0, 0))), .val (.int (σ 60 x1)), .val (.int (σ 60 x2)), .val (.int (σ 60 x3)), .val (.ref (kad n (27, 0, 0))), .unset] [] (khp n L σ g) true (.inl (some (.int r4)), khp n L σ4 g3, c4)) (c5_ : ZR 122 0 [.val (.ref (kad n (22, 0, 0))), .val (.int (σ4 60 x1)), .val (.int (σ4 60 x2)), .val (.int (σ4 60 x3))] [] (khp n L σ4 g3) true (.inl (some (.int r5)), khp n L σ5 g3, c5)) (c6_ : ZR 98 0 [.val (.ref (kad n (22, 0, 0)))] [] (khp n L σ5 g3) true (.inl (some (.int r6)), khp n L σ5 g3, true)) (h7 : zcnd .eq r6 r4 = true) (h8 : zcnd .ne r4 0 = false) (z9 : zix (Int32.ofInt 0) 1 = some x9) (h10 : zcnd .eq (lg_cmp (σ5 50 x9).toInt64 r5.toInt64) 0 = true) (k : ZR 144 1355 [.val (.ref (kad n (28, 0, 0))), .val (.ref (kad n (0, 0, 0))), .val (.ref (kad n (22, 0, 0))), .val (.ref (kad n (27, 0, 0))), .val (.int v4), .val (.int r4), .val (.int r5)] [] (khp n L σ5 g3) (cl && c4 && c5) r) : ZR 144 300 [.val (.ref (kad n (28, 0, 0))), .val (.ref (kad n (0, 0, 0))), .val (.ref (kad n (22, 0, 0))), .val (.ref (kad n (27, 0, 0))), .val (.int v4), zop w5, zop w6] [] (khp n L σ g) cl r := by
  have hM : zmi[144]? = some _ := rfl
  have l1 := (zix_some z1).2.2
  have l2 := (zix_some z2).2.2
  have l3 := (zix_some z3).2.2
  have l9 := (zix_some z9).2.2
  refine zr_fr hM rfl rfl rfl ?_
  refine zr_fr hM rfl rfl rfl ?_
  refine zr_fr hM rfl rfl rfl ?_
  refine zr_fr hM rfl rfl rfl ?_
  refine zr_fr hM rfl rfl rfl ?_
  refine zr_iald (κ := (28, 0, 0)) hn hM rfl rfl rfl z1 ?_
  refine zr_fr hM rfl rfl rfl ?_
  refine zr_fr hM rfl rfl rfl ?_
  refine zr_fr hM rfl rfl rfl ?_
  refine zr_fr hM rfl rfl rfl ?_
  refine zr_iald (κ := (28, 0, 0)) hn hM rfl rfl rfl z2 ?_
  refine zr_fr hM rfl rfl rfl ?_
  refine zr_fr hM rfl rfl rfl ?_
  refine zr_fr hM rfl rfl rfl ?_
  refine zr_fr hM rfl rfl rfl ?_
  refine zr_iald (κ := (28, 0, 0)) hn hM rfl rfl rfl z3 ?_
  refine zr_fr hM rfl rfl rfl ?_
  refine zr_stat hM rfl rfl rfl rfl rfl rfl ?_
  refine zgo_ret rfl rfl c4_ ?_
  refine zr_fr (ls' := [.val (.ref (kad n (28, 0, 0))), .val (.ref (kad n (0, 0, 0))), .val (.ref (kad n (22, 0, 0))), .val (.ref (kad n (27, 0, 0))), .val (.int v4), .val (.int r4), zop w6]) hM rfl rfl (by cases w5 <;> rfl) ?_
  refine zr_fr hM rfl rfl rfl ?_
  refine zr_fr hM rfl rfl rfl ?_
  refine zr_fr hM rfl rfl rfl ?_
  refine zr_fr hM rfl rfl rfl ?_
  refine zr_fr hM rfl rfl rfl ?_
  refine zr_iald (κ := (28, 0, 0)) hn hM rfl rfl rfl z1 ?_
  refine zr_fr hM rfl rfl rfl ?_
  refine zr_fr hM rfl rfl rfl ?_
  refine zr_fr hM rfl rfl rfl ?_
  refine zr_fr hM rfl rfl rfl ?_
  refine zr_iald (κ := (28, 0, 0)) hn hM rfl rfl rfl z2 ?_
  refine zr_fr hM rfl rfl rfl ?_
  refine zr_fr hM rfl rfl rfl ?_
  refine zr_fr hM rfl rfl rfl ?_
  refine zr_fr hM rfl rfl rfl ?_
  refine zr_iald (κ := (28, 0, 0)) hn hM rfl rfl rfl z3 ?_
  refine zr_virt (κ := (22, 0, 0)) hn hM rfl rfl rfl rfl rfl rfl rfl rfl rfl ?_
  refine zgo_ret rfl rfl c5_ ?_
  refine zr_fr (ls' := [.val (.ref (kad n (28, 0, 0))), .val (.ref (kad n (0, 0, 0))), .val (.ref (kad n (22, 0, 0))), .val (.ref (kad n (27, 0, 0))), .val (.int v4), .val (.int r4), .val (.int r5)]) hM rfl rfl (by cases w6 <;> rfl) ?_
  refine zr_fr hM rfl rfl rfl ?_
  refine zr_virt (κ := (22, 0, 0)) hn hM rfl rfl rfl rfl rfl rfl rfl rfl rfl ?_
  refine zgo_ret rfl rfl c6_ ?_
  rw [Bool.and_true]
  refine zr_fr hM rfl rfl rfl ?_
  refine zr_ict hM rfl rfl h7 ?_
  refine zr_fr hM rfl rfl rfl ?_
  refine zr_iff hM rfl rfl h8 ?_
  refine zr_fr hM rfl rfl rfl ?_
  refine zr_fr hM rfl rfl rfl ?_
  refine zr_lald (κ := (27, 0, 0)) hn hM rfl rfl rfl z9 ?_
  refine zr_fr hM rfl rfl rfl ?_
  refine zr_fr hM rfl rfl rfl ?_
  refine zr_fr hM rfl rfl rfl ?_
  refine zr_ift hM rfl rfl h10 ?_
  refine zr_fr hM rfl rfl rfl ?_
  exact k
set_option maxHeartbeats 4000000 in
set_option maxRecDepth 16384 in
theorem s144_300_tt {n L : Nat} {σ : Ks} {g g3 : List Nat} {cl : Bool} {r : Zr} {v4 : Int32} {w5 : Option Int32} {w6 : Option Int32} {x1 : Nat} {x2 : Nat} {x3 : Nat} {σ4 : Ks} {c4 : Bool} {r4 : Int32} {σ5 : Ks} {c5 : Bool} {r5 : Int32} {r6 : Int32} (hn : 2 ≤ n ∧ n ≤ 5) (z1 : zix (v4 + (Int32.ofInt 1)) L = some x1) (z2 : zix (v4 + (Int32.ofInt 2)) L = some x2) (z3 : zix (v4 + (Int32.ofInt 3)) L = some x3) (c4_ : ZR 57 0 [.val (.ref (kad n (0, 0, 0))), .val (.int (σ 60 x1)), .val (.int (σ 60 x2)), .val (.int (σ 60 x3)), .val (.ref (kad n (27, 0, 0))), .unset] [] (khp n L σ g) true (.inl (some (.int r4)), khp n L σ4 g3, c4)) (c5_ : ZR 122 0 [.val (.ref (kad n (22, 0, 0))), .val (.int (σ4 60 x1)), .val (.int (σ4 60 x2)), .val (.int (σ4 60 x3))] [] (khp n L σ4 g3) true (.inl (some (.int r5)), khp n L σ5 g3, c5)) (c6_ : ZR 98 0 [.val (.ref (kad n (22, 0, 0)))] [] (khp n L σ5 g3) true (.inl (some (.int r6)), khp n L σ5 g3, true)) (h7 : zcnd .eq r6 r4 = true) (h8 : zcnd .ne r4 0 = true) (k : ZR 144 1355 [.val (.ref (kad n (28, 0, 0))), .val (.ref (kad n (0, 0, 0))), .val (.ref (kad n (22, 0, 0))), .val (.ref (kad n (27, 0, 0))), .val (.int v4), .val (.int r4), .val (.int r5)] [] (khp n L σ5 g3) (cl && c4 && c5) r) : ZR 144 300 [.val (.ref (kad n (28, 0, 0))), .val (.ref (kad n (0, 0, 0))), .val (.ref (kad n (22, 0, 0))), .val (.ref (kad n (27, 0, 0))), .val (.int v4), zop w5, zop w6] [] (khp n L σ g) cl r := by
  have hM : zmi[144]? = some _ := rfl
  have l1 := (zix_some z1).2.2
  have l2 := (zix_some z2).2.2
  have l3 := (zix_some z3).2.2
  refine zr_fr hM rfl rfl rfl ?_
  refine zr_fr hM rfl rfl rfl ?_
  refine zr_fr hM rfl rfl rfl ?_
  refine zr_fr hM rfl rfl rfl ?_
  refine zr_fr hM rfl rfl rfl ?_
  refine zr_iald (κ := (28, 0, 0)) hn hM rfl rfl rfl z1 ?_
  refine zr_fr hM rfl rfl rfl ?_
  refine zr_fr hM rfl rfl rfl ?_
  refine zr_fr hM rfl rfl rfl ?_
  refine zr_fr hM rfl rfl rfl ?_
  refine zr_iald (κ := (28, 0, 0)) hn hM rfl rfl rfl z2 ?_
  refine zr_fr hM rfl rfl rfl ?_
  refine zr_fr hM rfl rfl rfl ?_
  refine zr_fr hM rfl rfl rfl ?_
  refine zr_fr hM rfl rfl rfl ?_
  refine zr_iald (κ := (28, 0, 0)) hn hM rfl rfl rfl z3 ?_
  refine zr_fr hM rfl rfl rfl ?_
  refine zr_stat hM rfl rfl rfl rfl rfl rfl ?_
  refine zgo_ret rfl rfl c4_ ?_
  refine zr_fr (ls' := [.val (.ref (kad n (28, 0, 0))), .val (.ref (kad n (0, 0, 0))), .val (.ref (kad n (22, 0, 0))), .val (.ref (kad n (27, 0, 0))), .val (.int v4), .val (.int r4), zop w6]) hM rfl rfl (by cases w5 <;> rfl) ?_
  refine zr_fr hM rfl rfl rfl ?_
  refine zr_fr hM rfl rfl rfl ?_
  refine zr_fr hM rfl rfl rfl ?_
  refine zr_fr hM rfl rfl rfl ?_
  refine zr_fr hM rfl rfl rfl ?_
  refine zr_iald (κ := (28, 0, 0)) hn hM rfl rfl rfl z1 ?_
  refine zr_fr hM rfl rfl rfl ?_
  refine zr_fr hM rfl rfl rfl ?_
  refine zr_fr hM rfl rfl rfl ?_
  refine zr_fr hM rfl rfl rfl ?_
  refine zr_iald (κ := (28, 0, 0)) hn hM rfl rfl rfl z2 ?_
  refine zr_fr hM rfl rfl rfl ?_
  refine zr_fr hM rfl rfl rfl ?_
  refine zr_fr hM rfl rfl rfl ?_
  refine zr_fr hM rfl rfl rfl ?_
  refine zr_iald (κ := (28, 0, 0)) hn hM rfl rfl rfl z3 ?_
  refine zr_virt (κ := (22, 0, 0)) hn hM rfl rfl rfl rfl rfl rfl rfl rfl rfl ?_
  refine zgo_ret rfl rfl c5_ ?_
  refine zr_fr (ls' := [.val (.ref (kad n (28, 0, 0))), .val (.ref (kad n (0, 0, 0))), .val (.ref (kad n (22, 0, 0))), .val (.ref (kad n (27, 0, 0))), .val (.int v4), .val (.int r4), .val (.int r5)]) hM rfl rfl (by cases w6 <;> rfl) ?_
  refine zr_fr hM rfl rfl rfl ?_
  refine zr_virt (κ := (22, 0, 0)) hn hM rfl rfl rfl rfl rfl rfl rfl rfl rfl ?_
  refine zgo_ret rfl rfl c6_ ?_
  rw [Bool.and_true]
  refine zr_fr hM rfl rfl rfl ?_
  refine zr_ict hM rfl rfl h7 ?_
  refine zr_fr hM rfl rfl rfl ?_
  refine zr_ift hM rfl rfl h8 ?_
  refine zr_fr hM rfl rfl rfl ?_
  exact k
set_option maxHeartbeats 4000000 in
set_option maxRecDepth 16384 in
theorem s144_380_tft {n L : Nat} {σ : Ks} {g g3 : List Nat} {cl : Bool} {r : Zr} {v4 : Int32} {w5 : Option Int32} {w6 : Option Int32} {x1 : Nat} {x2 : Nat} {x3 : Nat} {σ4 : Ks} {c4 : Bool} {r4 : Int32} {σ5 : Ks} {c5 : Bool} {r5 : Int32} {r6 : Int32} {x9 : Nat} (hn : 2 ≤ n ∧ n ≤ 5) (z1 : zix (v4 + (Int32.ofInt 1)) L = some x1) (z2 : zix (v4 + (Int32.ofInt 2)) L = some x2) (z3 : zix (v4 + (Int32.ofInt 3)) L = some x3) (c4_ : ZR 59 0 [.val (.ref (kad n (0, 0, 0))), .val (.int (σ 60 x1)), .val (.int (σ 60 x2)), .val (.int (σ 60 x3)), .val (.ref (kad n (27, 0, 0))), .unset] [] (khp n L σ g) true (.inl (some (.int r4)), khp n L σ4 g3, c4)) (c5_ : ZR 121 0 [.val (.ref (kad n (22, 0, 0))), .val (.int (σ4 60 x1)), .val (.int (σ4 60 x2)), .val (.int (σ4 60 x3))] [] (khp n L σ4 g3) true (.inl (some (.int r5)), khp n L σ5 g3, c5)) (c6_ : ZR 98 0 [.val (.ref (kad n (22, 0, 0)))] [] (khp n L σ5 g3) true (.inl (some (.int r6)), khp n L σ5 g3, true)) (h7 : zcnd .eq r6 r4 = true) (h8 : zcnd .ne r4 0 = false) (z9 : zix (Int32.ofInt 0) 1 = some x9) (h10 : zcnd .eq (lg_cmp (σ5 50 x9).toInt64 r5.toInt64) 0 = true) (k : ZR 144 1355 [.val (.ref (kad n (28, 0, 0))), .val (.ref (kad n (0, 0, 0))), .val (.ref (kad n (22, 0, 0))), .val (.ref (kad n (27, 0, 0))), .val (.int v4), .val (.int r4), .val (.int r5)] [] (khp n L σ5 g3) (cl && c4 && c5) r) : ZR 144 380 [.val (.ref (kad n (28, 0, 0))), .val (.ref (kad n (0, 0, 0))), .val (.ref (kad n (22, 0, 0))), .val (.ref (kad n (27, 0, 0))), .val (.int v4), zop w5, zop w6] [] (khp n L σ g) cl r := by
  have hM : zmi[144]? = some _ := rfl
  have l1 := (zix_some z1).2.2
  have l2 := (zix_some z2).2.2
  have l3 := (zix_some z3).2.2
  have l9 := (zix_some z9).2.2
  refine zr_fr hM rfl rfl rfl ?_
  refine zr_fr hM rfl rfl rfl ?_
  refine zr_fr hM rfl rfl rfl ?_
  refine zr_fr hM rfl rfl rfl ?_
  refine zr_fr hM rfl rfl rfl ?_
  refine zr_iald (κ := (28, 0, 0)) hn hM rfl rfl rfl z1 ?_
  refine zr_fr hM rfl rfl rfl ?_
  refine zr_fr hM rfl rfl rfl ?_
  refine zr_fr hM rfl rfl rfl ?_
  refine zr_fr hM rfl rfl rfl ?_
  refine zr_iald (κ := (28, 0, 0)) hn hM rfl rfl rfl z2 ?_
  refine zr_fr hM rfl rfl rfl ?_
  refine zr_fr hM rfl rfl rfl ?_
  refine zr_fr hM rfl rfl rfl ?_
  refine zr_fr hM rfl rfl rfl ?_
  refine zr_iald (κ := (28, 0, 0)) hn hM rfl rfl rfl z3 ?_
  refine zr_fr hM rfl rfl rfl ?_
  refine zr_stat hM rfl rfl rfl rfl rfl rfl ?_
  refine zgo_ret rfl rfl c4_ ?_
  refine zr_fr (ls' := [.val (.ref (kad n (28, 0, 0))), .val (.ref (kad n (0, 0, 0))), .val (.ref (kad n (22, 0, 0))), .val (.ref (kad n (27, 0, 0))), .val (.int v4), .val (.int r4), zop w6]) hM rfl rfl (by cases w5 <;> rfl) ?_
  refine zr_fr hM rfl rfl rfl ?_
  refine zr_fr hM rfl rfl rfl ?_
  refine zr_fr hM rfl rfl rfl ?_
  refine zr_fr hM rfl rfl rfl ?_
  refine zr_fr hM rfl rfl rfl ?_
  refine zr_iald (κ := (28, 0, 0)) hn hM rfl rfl rfl z1 ?_
  refine zr_fr hM rfl rfl rfl ?_
  refine zr_fr hM rfl rfl rfl ?_
  refine zr_fr hM rfl rfl rfl ?_
  refine zr_fr hM rfl rfl rfl ?_
  refine zr_iald (κ := (28, 0, 0)) hn hM rfl rfl rfl z2 ?_
  refine zr_fr hM rfl rfl rfl ?_
  refine zr_fr hM rfl rfl rfl ?_
  refine zr_fr hM rfl rfl rfl ?_
  refine zr_fr hM rfl rfl rfl ?_
  refine zr_iald (κ := (28, 0, 0)) hn hM rfl rfl rfl z3 ?_
  refine zr_virt (κ := (22, 0, 0)) hn hM rfl rfl rfl rfl rfl rfl rfl rfl rfl ?_
  refine zgo_ret rfl rfl c5_ ?_
  refine zr_fr (ls' := [.val (.ref (kad n (28, 0, 0))), .val (.ref (kad n (0, 0, 0))), .val (.ref (kad n (22, 0, 0))), .val (.ref (kad n (27, 0, 0))), .val (.int v4), .val (.int r4), .val (.int r5)]) hM rfl rfl (by cases w6 <;> rfl) ?_
  refine zr_fr hM rfl rfl rfl ?_
  refine zr_virt (κ := (22, 0, 0)) hn hM rfl rfl rfl rfl rfl rfl rfl rfl rfl ?_
  refine zgo_ret rfl rfl c6_ ?_
  rw [Bool.and_true]
  refine zr_fr hM rfl rfl rfl ?_
  refine zr_ict hM rfl rfl h7 ?_
  refine zr_fr hM rfl rfl rfl ?_
  refine zr_iff hM rfl rfl h8 ?_
  refine zr_fr hM rfl rfl rfl ?_
  refine zr_fr hM rfl rfl rfl ?_
  refine zr_lald (κ := (27, 0, 0)) hn hM rfl rfl rfl z9 ?_
  refine zr_fr hM rfl rfl rfl ?_
  refine zr_fr hM rfl rfl rfl ?_
  refine zr_fr hM rfl rfl rfl ?_
  refine zr_ift hM rfl rfl h10 ?_
  refine zr_fr hM rfl rfl rfl ?_
  exact k
set_option maxHeartbeats 4000000 in
set_option maxRecDepth 16384 in
theorem s144_380_tt {n L : Nat} {σ : Ks} {g g3 : List Nat} {cl : Bool} {r : Zr} {v4 : Int32} {w5 : Option Int32} {w6 : Option Int32} {x1 : Nat} {x2 : Nat} {x3 : Nat} {σ4 : Ks} {c4 : Bool} {r4 : Int32} {σ5 : Ks} {c5 : Bool} {r5 : Int32} {r6 : Int32} (hn : 2 ≤ n ∧ n ≤ 5) (z1 : zix (v4 + (Int32.ofInt 1)) L = some x1) (z2 : zix (v4 + (Int32.ofInt 2)) L = some x2) (z3 : zix (v4 + (Int32.ofInt 3)) L = some x3) (c4_ : ZR 59 0 [.val (.ref (kad n (0, 0, 0))), .val (.int (σ 60 x1)), .val (.int (σ 60 x2)), .val (.int (σ 60 x3)), .val (.ref (kad n (27, 0, 0))), .unset] [] (khp n L σ g) true (.inl (some (.int r4)), khp n L σ4 g3, c4)) (c5_ : ZR 121 0 [.val (.ref (kad n (22, 0, 0))), .val (.int (σ4 60 x1)), .val (.int (σ4 60 x2)), .val (.int (σ4 60 x3))] [] (khp n L σ4 g3) true (.inl (some (.int r5)), khp n L σ5 g3, c5)) (c6_ : ZR 98 0 [.val (.ref (kad n (22, 0, 0)))] [] (khp n L σ5 g3) true (.inl (some (.int r6)), khp n L σ5 g3, true)) (h7 : zcnd .eq r6 r4 = true) (h8 : zcnd .ne r4 0 = true) (k : ZR 144 1355 [.val (.ref (kad n (28, 0, 0))), .val (.ref (kad n (0, 0, 0))), .val (.ref (kad n (22, 0, 0))), .val (.ref (kad n (27, 0, 0))), .val (.int v4), .val (.int r4), .val (.int r5)] [] (khp n L σ5 g3) (cl && c4 && c5) r) : ZR 144 380 [.val (.ref (kad n (28, 0, 0))), .val (.ref (kad n (0, 0, 0))), .val (.ref (kad n (22, 0, 0))), .val (.ref (kad n (27, 0, 0))), .val (.int v4), zop w5, zop w6] [] (khp n L σ g) cl r := by
  have hM : zmi[144]? = some _ := rfl
  have l1 := (zix_some z1).2.2
  have l2 := (zix_some z2).2.2
  have l3 := (zix_some z3).2.2
  refine zr_fr hM rfl rfl rfl ?_
  refine zr_fr hM rfl rfl rfl ?_
  refine zr_fr hM rfl rfl rfl ?_
  refine zr_fr hM rfl rfl rfl ?_
  refine zr_fr hM rfl rfl rfl ?_
  refine zr_iald (κ := (28, 0, 0)) hn hM rfl rfl rfl z1 ?_
  refine zr_fr hM rfl rfl rfl ?_
  refine zr_fr hM rfl rfl rfl ?_
  refine zr_fr hM rfl rfl rfl ?_
  refine zr_fr hM rfl rfl rfl ?_
  refine zr_iald (κ := (28, 0, 0)) hn hM rfl rfl rfl z2 ?_
  refine zr_fr hM rfl rfl rfl ?_
  refine zr_fr hM rfl rfl rfl ?_
  refine zr_fr hM rfl rfl rfl ?_
  refine zr_fr hM rfl rfl rfl ?_
  refine zr_iald (κ := (28, 0, 0)) hn hM rfl rfl rfl z3 ?_
  refine zr_fr hM rfl rfl rfl ?_
  refine zr_stat hM rfl rfl rfl rfl rfl rfl ?_
  refine zgo_ret rfl rfl c4_ ?_
  refine zr_fr (ls' := [.val (.ref (kad n (28, 0, 0))), .val (.ref (kad n (0, 0, 0))), .val (.ref (kad n (22, 0, 0))), .val (.ref (kad n (27, 0, 0))), .val (.int v4), .val (.int r4), zop w6]) hM rfl rfl (by cases w5 <;> rfl) ?_
  refine zr_fr hM rfl rfl rfl ?_
  refine zr_fr hM rfl rfl rfl ?_
  refine zr_fr hM rfl rfl rfl ?_
  refine zr_fr hM rfl rfl rfl ?_
  refine zr_fr hM rfl rfl rfl ?_
  refine zr_iald (κ := (28, 0, 0)) hn hM rfl rfl rfl z1 ?_
  refine zr_fr hM rfl rfl rfl ?_
  refine zr_fr hM rfl rfl rfl ?_
  refine zr_fr hM rfl rfl rfl ?_
  refine zr_fr hM rfl rfl rfl ?_
  refine zr_iald (κ := (28, 0, 0)) hn hM rfl rfl rfl z2 ?_
  refine zr_fr hM rfl rfl rfl ?_
  refine zr_fr hM rfl rfl rfl ?_
  refine zr_fr hM rfl rfl rfl ?_
  refine zr_fr hM rfl rfl rfl ?_
  refine zr_iald (κ := (28, 0, 0)) hn hM rfl rfl rfl z3 ?_
  refine zr_virt (κ := (22, 0, 0)) hn hM rfl rfl rfl rfl rfl rfl rfl rfl rfl ?_
  refine zgo_ret rfl rfl c5_ ?_
  refine zr_fr (ls' := [.val (.ref (kad n (28, 0, 0))), .val (.ref (kad n (0, 0, 0))), .val (.ref (kad n (22, 0, 0))), .val (.ref (kad n (27, 0, 0))), .val (.int v4), .val (.int r4), .val (.int r5)]) hM rfl rfl (by cases w6 <;> rfl) ?_
  refine zr_fr hM rfl rfl rfl ?_
  refine zr_virt (κ := (22, 0, 0)) hn hM rfl rfl rfl rfl rfl rfl rfl rfl rfl ?_
  refine zgo_ret rfl rfl c6_ ?_
  rw [Bool.and_true]
  refine zr_fr hM rfl rfl rfl ?_
  refine zr_ict hM rfl rfl h7 ?_
  refine zr_fr hM rfl rfl rfl ?_
  refine zr_ift hM rfl rfl h8 ?_
  refine zr_fr hM rfl rfl rfl ?_
  exact k
set_option maxHeartbeats 4000000 in
set_option maxRecDepth 16384 in
theorem s144_460_tft {n L : Nat} {σ : Ks} {g g3 : List Nat} {cl : Bool} {r : Zr} {v4 : Int32} {w5 : Option Int32} {w6 : Option Int32} {x1 : Nat} {x2 : Nat} {x3 : Nat} {x4 : Nat} {σ5 : Ks} {c5 : Bool} {r5 : Int32} {σ6 : Ks} {c6 : Bool} {r6 : Int32} {r7 : Int32} {x10 : Nat} (hn : 2 ≤ n ∧ n ≤ 5) (z1 : zix (v4 + (Int32.ofInt 1)) L = some x1) (z2 : zix (v4 + (Int32.ofInt 2)) L = some x2) (z3 : zix (v4 + (Int32.ofInt 3)) L = some x3) (z4 : zix (v4 + (Int32.ofInt 4)) L = some x4) (c5_ : ZR 61 0 [.val (.ref (kad n (0, 0, 0))), .val (.int (σ 60 x1)), .val (.int (σ 60 x2)), .val (.int (σ 60 x3)), .val (.int (σ 60 x4)), .val (.ref (kad n (27, 0, 0))), .unset] [] (khp n L σ g) true (.inl (some (.int r5)), khp n L σ5 g3, c5)) (c6_ : ZR 123 0 [.val (.ref (kad n (22, 0, 0))), .val (.int (σ5 60 x1)), .val (.int (σ5 60 x2)), .val (.int (σ5 60 x3)), .val (.int (σ5 60 x4)), .unset, .unset] [] (khp n L σ5 g3) true (.inl (some (.int r6)), khp n L σ6 g3, c6)) (c7_ : ZR 98 0 [.val (.ref (kad n (22, 0, 0)))] [] (khp n L σ6 g3) true (.inl (some (.int r7)), khp n L σ6 g3, true)) (h8 : zcnd .eq r7 r5 = true) (h9 : zcnd .ne r5 0 = false) (z10 : zix (Int32.ofInt 0) 1 = some x10) (h11 : zcnd .eq (lg_cmp (σ6 50 x10).toInt64 r6.toInt64) 0 = true) (k : ZR 144 1355 [.val (.ref (kad n (28, 0, 0))), .val (.ref (kad n (0, 0, 0))), .val (.ref (kad n (22, 0, 0))), .val (.ref (kad n (27, 0, 0))), .val (.int v4), .val (.int r5), .val (.int r6)] [] (khp n L σ6 g3) (cl && c5 && c6) r) : ZR 144 460 [.val (.ref (kad n (28, 0, 0))), .val (.ref (kad n (0, 0, 0))), .val (.ref (kad n (22, 0, 0))), .val (.ref (kad n (27, 0, 0))), .val (.int v4), zop w5, zop w6] [] (khp n L σ g) cl r := by
  have hM : zmi[144]? = some _ := rfl
  have l1 := (zix_some z1).2.2
  have l2 := (zix_some z2).2.2
  have l3 := (zix_some z3).2.2
  have l4 := (zix_some z4).2.2
  have l10 := (zix_some z10).2.2
  refine zr_fr hM rfl rfl rfl ?_
  refine zr_fr hM rfl rfl rfl ?_
  refine zr_fr hM rfl rfl rfl ?_
  refine zr_fr hM rfl rfl rfl ?_
  refine zr_fr hM rfl rfl rfl ?_
  refine zr_iald (κ := (28, 0, 0)) hn hM rfl rfl rfl z1 ?_
  refine zr_fr hM rfl rfl rfl ?_
  refine zr_fr hM rfl rfl rfl ?_
  refine zr_fr hM rfl rfl rfl ?_
  refine zr_fr hM rfl rfl rfl ?_
  refine zr_iald (κ := (28, 0, 0)) hn hM rfl rfl rfl z2 ?_
  refine zr_fr hM rfl rfl rfl ?_
  refine zr_fr hM rfl rfl rfl ?_
  refine zr_fr hM rfl rfl rfl ?_
  refine zr_fr hM rfl rfl rfl ?_
  refine zr_iald (κ := (28, 0, 0)) hn hM rfl rfl rfl z3 ?_
  refine zr_fr hM rfl rfl rfl ?_
  refine zr_fr hM rfl rfl rfl ?_
  refine zr_fr hM rfl rfl rfl ?_
  refine zr_fr hM rfl rfl rfl ?_
  refine zr_iald (κ := (28, 0, 0)) hn hM rfl rfl rfl z4 ?_
  refine zr_fr hM rfl rfl rfl ?_
  refine zr_stat hM rfl rfl rfl rfl rfl rfl ?_
  refine zgo_ret rfl rfl c5_ ?_
  refine zr_fr (ls' := [.val (.ref (kad n (28, 0, 0))), .val (.ref (kad n (0, 0, 0))), .val (.ref (kad n (22, 0, 0))), .val (.ref (kad n (27, 0, 0))), .val (.int v4), .val (.int r5), zop w6]) hM rfl rfl (by cases w5 <;> rfl) ?_
  refine zr_fr hM rfl rfl rfl ?_
  refine zr_fr hM rfl rfl rfl ?_
  refine zr_fr hM rfl rfl rfl ?_
  refine zr_fr hM rfl rfl rfl ?_
  refine zr_fr hM rfl rfl rfl ?_
  refine zr_iald (κ := (28, 0, 0)) hn hM rfl rfl rfl z1 ?_
  refine zr_fr hM rfl rfl rfl ?_
  refine zr_fr hM rfl rfl rfl ?_
  refine zr_fr hM rfl rfl rfl ?_
  refine zr_fr hM rfl rfl rfl ?_
  refine zr_iald (κ := (28, 0, 0)) hn hM rfl rfl rfl z2 ?_
  refine zr_fr hM rfl rfl rfl ?_
  refine zr_fr hM rfl rfl rfl ?_
  refine zr_fr hM rfl rfl rfl ?_
  refine zr_fr hM rfl rfl rfl ?_
  refine zr_iald (κ := (28, 0, 0)) hn hM rfl rfl rfl z3 ?_
  refine zr_fr hM rfl rfl rfl ?_
  refine zr_fr hM rfl rfl rfl ?_
  refine zr_fr hM rfl rfl rfl ?_
  refine zr_fr hM rfl rfl rfl ?_
  refine zr_iald (κ := (28, 0, 0)) hn hM rfl rfl rfl z4 ?_
  refine zr_virt (κ := (22, 0, 0)) hn hM rfl rfl rfl rfl rfl rfl rfl rfl rfl ?_
  refine zgo_ret rfl rfl c6_ ?_
  refine zr_fr (ls' := [.val (.ref (kad n (28, 0, 0))), .val (.ref (kad n (0, 0, 0))), .val (.ref (kad n (22, 0, 0))), .val (.ref (kad n (27, 0, 0))), .val (.int v4), .val (.int r5), .val (.int r6)]) hM rfl rfl (by cases w6 <;> rfl) ?_
  refine zr_fr hM rfl rfl rfl ?_
  refine zr_virt (κ := (22, 0, 0)) hn hM rfl rfl rfl rfl rfl rfl rfl rfl rfl ?_
  refine zgo_ret rfl rfl c7_ ?_
  rw [Bool.and_true]
  refine zr_fr hM rfl rfl rfl ?_
  refine zr_ict hM rfl rfl h8 ?_
  refine zr_fr hM rfl rfl rfl ?_
  refine zr_iff hM rfl rfl h9 ?_
  refine zr_fr hM rfl rfl rfl ?_
  refine zr_fr hM rfl rfl rfl ?_
  refine zr_lald (κ := (27, 0, 0)) hn hM rfl rfl rfl z10 ?_
  refine zr_fr hM rfl rfl rfl ?_
  refine zr_fr hM rfl rfl rfl ?_
  refine zr_fr hM rfl rfl rfl ?_
  refine zr_ift hM rfl rfl h11 ?_
  refine zr_fr hM rfl rfl rfl ?_
  exact k
set_option maxHeartbeats 4000000 in
set_option maxRecDepth 16384 in
theorem s144_460_tt {n L : Nat} {σ : Ks} {g g3 : List Nat} {cl : Bool} {r : Zr} {v4 : Int32} {w5 : Option Int32} {w6 : Option Int32} {x1 : Nat} {x2 : Nat} {x3 : Nat} {x4 : Nat} {σ5 : Ks} {c5 : Bool} {r5 : Int32} {σ6 : Ks} {c6 : Bool} {r6 : Int32} {r7 : Int32} (hn : 2 ≤ n ∧ n ≤ 5) (z1 : zix (v4 + (Int32.ofInt 1)) L = some x1) (z2 : zix (v4 + (Int32.ofInt 2)) L = some x2) (z3 : zix (v4 + (Int32.ofInt 3)) L = some x3) (z4 : zix (v4 + (Int32.ofInt 4)) L = some x4) (c5_ : ZR 61 0 [.val (.ref (kad n (0, 0, 0))), .val (.int (σ 60 x1)), .val (.int (σ 60 x2)), .val (.int (σ 60 x3)), .val (.int (σ 60 x4)), .val (.ref (kad n (27, 0, 0))), .unset] [] (khp n L σ g) true (.inl (some (.int r5)), khp n L σ5 g3, c5)) (c6_ : ZR 123 0 [.val (.ref (kad n (22, 0, 0))), .val (.int (σ5 60 x1)), .val (.int (σ5 60 x2)), .val (.int (σ5 60 x3)), .val (.int (σ5 60 x4)), .unset, .unset] [] (khp n L σ5 g3) true (.inl (some (.int r6)), khp n L σ6 g3, c6)) (c7_ : ZR 98 0 [.val (.ref (kad n (22, 0, 0)))] [] (khp n L σ6 g3) true (.inl (some (.int r7)), khp n L σ6 g3, true)) (h8 : zcnd .eq r7 r5 = true) (h9 : zcnd .ne r5 0 = true) (k : ZR 144 1355 [.val (.ref (kad n (28, 0, 0))), .val (.ref (kad n (0, 0, 0))), .val (.ref (kad n (22, 0, 0))), .val (.ref (kad n (27, 0, 0))), .val (.int v4), .val (.int r5), .val (.int r6)] [] (khp n L σ6 g3) (cl && c5 && c6) r) : ZR 144 460 [.val (.ref (kad n (28, 0, 0))), .val (.ref (kad n (0, 0, 0))), .val (.ref (kad n (22, 0, 0))), .val (.ref (kad n (27, 0, 0))), .val (.int v4), zop w5, zop w6] [] (khp n L σ g) cl r := by
  have hM : zmi[144]? = some _ := rfl
  have l1 := (zix_some z1).2.2
  have l2 := (zix_some z2).2.2
  have l3 := (zix_some z3).2.2
  have l4 := (zix_some z4).2.2
  refine zr_fr hM rfl rfl rfl ?_
  refine zr_fr hM rfl rfl rfl ?_
  refine zr_fr hM rfl rfl rfl ?_
  refine zr_fr hM rfl rfl rfl ?_
  refine zr_fr hM rfl rfl rfl ?_
  refine zr_iald (κ := (28, 0, 0)) hn hM rfl rfl rfl z1 ?_
  refine zr_fr hM rfl rfl rfl ?_
  refine zr_fr hM rfl rfl rfl ?_
  refine zr_fr hM rfl rfl rfl ?_
  refine zr_fr hM rfl rfl rfl ?_
  refine zr_iald (κ := (28, 0, 0)) hn hM rfl rfl rfl z2 ?_
  refine zr_fr hM rfl rfl rfl ?_
  refine zr_fr hM rfl rfl rfl ?_
  refine zr_fr hM rfl rfl rfl ?_
  refine zr_fr hM rfl rfl rfl ?_
  refine zr_iald (κ := (28, 0, 0)) hn hM rfl rfl rfl z3 ?_
  refine zr_fr hM rfl rfl rfl ?_
  refine zr_fr hM rfl rfl rfl ?_
  refine zr_fr hM rfl rfl rfl ?_
  refine zr_fr hM rfl rfl rfl ?_
  refine zr_iald (κ := (28, 0, 0)) hn hM rfl rfl rfl z4 ?_
  refine zr_fr hM rfl rfl rfl ?_
  refine zr_stat hM rfl rfl rfl rfl rfl rfl ?_
  refine zgo_ret rfl rfl c5_ ?_
  refine zr_fr (ls' := [.val (.ref (kad n (28, 0, 0))), .val (.ref (kad n (0, 0, 0))), .val (.ref (kad n (22, 0, 0))), .val (.ref (kad n (27, 0, 0))), .val (.int v4), .val (.int r5), zop w6]) hM rfl rfl (by cases w5 <;> rfl) ?_
  refine zr_fr hM rfl rfl rfl ?_
  refine zr_fr hM rfl rfl rfl ?_
  refine zr_fr hM rfl rfl rfl ?_
  refine zr_fr hM rfl rfl rfl ?_
  refine zr_fr hM rfl rfl rfl ?_
  refine zr_iald (κ := (28, 0, 0)) hn hM rfl rfl rfl z1 ?_
  refine zr_fr hM rfl rfl rfl ?_
  refine zr_fr hM rfl rfl rfl ?_
  refine zr_fr hM rfl rfl rfl ?_
  refine zr_fr hM rfl rfl rfl ?_
  refine zr_iald (κ := (28, 0, 0)) hn hM rfl rfl rfl z2 ?_
  refine zr_fr hM rfl rfl rfl ?_
  refine zr_fr hM rfl rfl rfl ?_
  refine zr_fr hM rfl rfl rfl ?_
  refine zr_fr hM rfl rfl rfl ?_
  refine zr_iald (κ := (28, 0, 0)) hn hM rfl rfl rfl z3 ?_
  refine zr_fr hM rfl rfl rfl ?_
  refine zr_fr hM rfl rfl rfl ?_
  refine zr_fr hM rfl rfl rfl ?_
  refine zr_fr hM rfl rfl rfl ?_
  refine zr_iald (κ := (28, 0, 0)) hn hM rfl rfl rfl z4 ?_
  refine zr_virt (κ := (22, 0, 0)) hn hM rfl rfl rfl rfl rfl rfl rfl rfl rfl ?_
  refine zgo_ret rfl rfl c6_ ?_
  refine zr_fr (ls' := [.val (.ref (kad n (28, 0, 0))), .val (.ref (kad n (0, 0, 0))), .val (.ref (kad n (22, 0, 0))), .val (.ref (kad n (27, 0, 0))), .val (.int v4), .val (.int r5), .val (.int r6)]) hM rfl rfl (by cases w6 <;> rfl) ?_
  refine zr_fr hM rfl rfl rfl ?_
  refine zr_virt (κ := (22, 0, 0)) hn hM rfl rfl rfl rfl rfl rfl rfl rfl rfl ?_
  refine zgo_ret rfl rfl c7_ ?_
  rw [Bool.and_true]
  refine zr_fr hM rfl rfl rfl ?_
  refine zr_ict hM rfl rfl h8 ?_
  refine zr_fr hM rfl rfl rfl ?_
  refine zr_ift hM rfl rfl h9 ?_
  refine zr_fr hM rfl rfl rfl ?_
  exact k
set_option maxHeartbeats 4000000 in
set_option maxRecDepth 16384 in
theorem s144_552_t {n L : Nat} {σ : Ks} {g : List Nat} {cl : Bool} {r : Zr} {v4 : Int32} {w5 : Option Int32} {w6 : Option Int32} {x1 : Nat} {x2 : Nat} {σ3 : Ks} {c3 : Bool} {r3 : Int32} {σ4 : Ks} {c4 : Bool} {r4 : Int32} (hn : 2 ≤ n ∧ n ≤ 5) (z1 : zix (v4 + (Int32.ofInt 1)) L = some x1) (z2 : zix (v4 + (Int32.ofInt 2)) L = some x2) (c3_ : ZR 9 0 [.val (.ref (kad n (0, 0, 0))), .val (.int (σ 60 x1)), .val (.int (σ 60 x2)), .unset, .unset] [] (khp n L σ g) true (.inl (some (.int r3)), khp n L σ3 g, c3)) (c4_ : ZR 124 0 [.val (.ref (kad n (22, 0, 0))), .val (.int (σ3 60 x1)), .val (.int (σ3 60 x2)), .unset, .unset, .unset] [] (khp n L σ3 g) true (.inl (some (.int r4)), khp n L σ4 g, c4)) (h5 : zcnd .eq r3 r4 = true) (k : ZR 144 1355 [.val (.ref (kad n (28, 0, 0))), .val (.ref (kad n (0, 0, 0))), .val (.ref (kad n (22, 0, 0))), .val (.ref (kad n (27, 0, 0))), .val (.int v4), zop w5, zop w6] [] (khp n L σ4 (g)) (cl && c3 && c4) r) : ZR 144 552 [.val (.ref (kad n (28, 0, 0))), .val (.ref (kad n (0, 0, 0))), .val (.ref (kad n (22, 0, 0))), .val (.ref (kad n (27, 0, 0))), .val (.int v4), zop w5, zop w6] [] (khp n L σ g) cl r := by
  have hM : zmi[144]? = some _ := rfl
  have l1 := (zix_some z1).2.2
  have l2 := (zix_some z2).2.2
  refine zr_fr hM rfl rfl rfl ?_
  refine zr_fr hM rfl rfl rfl ?_
  refine zr_fr hM rfl rfl rfl ?_
  refine zr_fr hM rfl rfl rfl ?_
  refine zr_fr hM rfl rfl rfl ?_
  refine zr_iald (κ := (28, 0, 0)) hn hM rfl rfl rfl z1 ?_
  refine zr_fr hM rfl rfl rfl ?_
  refine zr_fr hM rfl rfl rfl ?_
  refine zr_fr hM rfl rfl rfl ?_
  refine zr_fr hM rfl rfl rfl ?_
  refine zr_iald (κ := (28, 0, 0)) hn hM rfl rfl rfl z2 ?_
  refine zr_virt (κ := (0, 0, 0)) hn hM rfl rfl rfl rfl rfl rfl rfl rfl rfl ?_
  refine zgo_ret rfl rfl c3_ ?_
  refine zr_fr hM rfl rfl rfl ?_
  refine zr_fr hM rfl rfl rfl ?_
  refine zr_fr hM rfl rfl rfl ?_
  refine zr_fr hM rfl rfl rfl ?_
  refine zr_fr hM rfl rfl rfl ?_
  refine zr_iald (κ := (28, 0, 0)) hn hM rfl rfl rfl z1 ?_
  refine zr_fr hM rfl rfl rfl ?_
  refine zr_fr hM rfl rfl rfl ?_
  refine zr_fr hM rfl rfl rfl ?_
  refine zr_fr hM rfl rfl rfl ?_
  refine zr_iald (κ := (28, 0, 0)) hn hM rfl rfl rfl z2 ?_
  refine zr_virt (κ := (22, 0, 0)) hn hM rfl rfl rfl rfl rfl rfl rfl rfl rfl ?_
  refine zgo_ret rfl rfl c4_ ?_
  refine zr_ict hM rfl rfl h5 ?_
  exact k
set_option maxHeartbeats 4000000 in
set_option maxRecDepth 16384 in
theorem s144_589_tft {n L : Nat} {σ : Ks} {g g3 : List Nat} {cl : Bool} {r : Zr} {v4 : Int32} {w5 : Option Int32} {w6 : Option Int32} {x1 : Nat} {x2 : Nat} {σ3 : Ks} {c3 : Bool} {r3 : Int32} {σ4 : Ks} {c4 : Bool} {r4 : Int32} {r5 : Int32} {x8 : Nat} (hn : 2 ≤ n ∧ n ≤ 5) (z1 : zix (v4 + (Int32.ofInt 1)) L = some x1) (z2 : zix (v4 + (Int32.ofInt 2)) L = some x2) (c3_ : ZR 65 0 [.val (.ref (kad n (0, 0, 0))), .val (.int (σ 60 x1)), .val (.int (σ 60 x2)), .val (.ref (kad n (27, 0, 0))), .unset] [] (khp n L σ g) true (.inl (some (.int r3)), khp n L σ3 g3, c3)) (c4_ : ZR 126 0 [.val (.ref (kad n (22, 0, 0))), .val (.int (σ3 60 x1)), .val (.int (σ3 60 x2)), .unset, .unset] [] (khp n L σ3 g3) true (.inl (some (.int r4)), khp n L σ4 g3, c4)) (c5_ : ZR 98 0 [.val (.ref (kad n (22, 0, 0)))] [] (khp n L σ4 g3) true (.inl (some (.int r5)), khp n L σ4 g3, true)) (h6 : zcnd .eq r5 r3 = true) (h7 : zcnd .ne r3 0 = false) (z8 : zix (Int32.ofInt 0) 1 = some x8) (h9 : zcnd .eq (lg_cmp (σ4 50 x8).toInt64 r4.toInt64) 0 = true) (k : ZR 144 1355 [.val (.ref (kad n (28, 0, 0))), .val (.ref (kad n (0, 0, 0))), .val (.ref (kad n (22, 0, 0))), .val (.ref (kad n (27, 0, 0))), .val (.int v4), .val (.int r3), .val (.int r4)] [] (khp n L σ4 g3) (cl && c3 && c4) r) : ZR 144 589 [.val (.ref (kad n (28, 0, 0))), .val (.ref (kad n (0, 0, 0))), .val (.ref (kad n (22, 0, 0))), .val (.ref (kad n (27, 0, 0))), .val (.int v4), zop w5, zop w6] [] (khp n L σ g) cl r := by
  have hM : zmi[144]? = some _ := rfl
  have l1 := (zix_some z1).2.2
  have l2 := (zix_some z2).2.2
  have l8 := (zix_some z8).2.2
  refine zr_fr hM rfl rfl rfl ?_
  refine zr_fr hM rfl rfl rfl ?_
  refine zr_fr hM rfl rfl rfl ?_
  refine zr_fr hM rfl rfl rfl ?_
  refine zr_fr hM rfl rfl rfl ?_
  refine zr_iald (κ := (28, 0, 0)) hn hM rfl rfl rfl z1 ?_
  refine zr_fr hM rfl rfl rfl ?_
  refine zr_fr hM rfl rfl rfl ?_
  refine zr_fr hM rfl rfl rfl ?_
  refine zr_fr hM rfl rfl rfl ?_
  refine zr_iald (κ := (28, 0, 0)) hn hM rfl rfl rfl z2 ?_
  refine zr_fr hM rfl rfl rfl ?_
  refine zr_stat hM rfl rfl rfl rfl rfl rfl ?_
  refine zgo_ret rfl rfl c3_ ?_
  refine zr_fr (ls' := [.val (.ref (kad n (28, 0, 0))), .val (.ref (kad n (0, 0, 0))), .val (.ref (kad n (22, 0, 0))), .val (.ref (kad n (27, 0, 0))), .val (.int v4), .val (.int r3), zop w6]) hM rfl rfl (by cases w5 <;> rfl) ?_
  refine zr_fr hM rfl rfl rfl ?_
  refine zr_fr hM rfl rfl rfl ?_
  refine zr_fr hM rfl rfl rfl ?_
  refine zr_fr hM rfl rfl rfl ?_
  refine zr_fr hM rfl rfl rfl ?_
  refine zr_iald (κ := (28, 0, 0)) hn hM rfl rfl rfl z1 ?_
  refine zr_fr hM rfl rfl rfl ?_
  refine zr_fr hM rfl rfl rfl ?_
  refine zr_fr hM rfl rfl rfl ?_
  refine zr_fr hM rfl rfl rfl ?_
  refine zr_iald (κ := (28, 0, 0)) hn hM rfl rfl rfl z2 ?_
  refine zr_virt (κ := (22, 0, 0)) hn hM rfl rfl rfl rfl rfl rfl rfl rfl rfl ?_
  refine zgo_ret rfl rfl c4_ ?_
  refine zr_fr (ls' := [.val (.ref (kad n (28, 0, 0))), .val (.ref (kad n (0, 0, 0))), .val (.ref (kad n (22, 0, 0))), .val (.ref (kad n (27, 0, 0))), .val (.int v4), .val (.int r3), .val (.int r4)]) hM rfl rfl (by cases w6 <;> rfl) ?_
  refine zr_fr hM rfl rfl rfl ?_
  refine zr_virt (κ := (22, 0, 0)) hn hM rfl rfl rfl rfl rfl rfl rfl rfl rfl ?_
  refine zgo_ret rfl rfl c5_ ?_
  rw [Bool.and_true]
  refine zr_fr hM rfl rfl rfl ?_
  refine zr_ict hM rfl rfl h6 ?_
  refine zr_fr hM rfl rfl rfl ?_
  refine zr_iff hM rfl rfl h7 ?_
  refine zr_fr hM rfl rfl rfl ?_
  refine zr_fr hM rfl rfl rfl ?_
  refine zr_lald (κ := (27, 0, 0)) hn hM rfl rfl rfl z8 ?_
  refine zr_fr hM rfl rfl rfl ?_
  refine zr_fr hM rfl rfl rfl ?_
  refine zr_fr hM rfl rfl rfl ?_
  refine zr_ift hM rfl rfl h9 ?_
  refine zr_fr hM rfl rfl rfl ?_
  exact k
set_option maxHeartbeats 4000000 in
set_option maxRecDepth 16384 in
theorem s144_589_tt {n L : Nat} {σ : Ks} {g g3 : List Nat} {cl : Bool} {r : Zr} {v4 : Int32} {w5 : Option Int32} {w6 : Option Int32} {x1 : Nat} {x2 : Nat} {σ3 : Ks} {c3 : Bool} {r3 : Int32} {σ4 : Ks} {c4 : Bool} {r4 : Int32} {r5 : Int32} (hn : 2 ≤ n ∧ n ≤ 5) (z1 : zix (v4 + (Int32.ofInt 1)) L = some x1) (z2 : zix (v4 + (Int32.ofInt 2)) L = some x2) (c3_ : ZR 65 0 [.val (.ref (kad n (0, 0, 0))), .val (.int (σ 60 x1)), .val (.int (σ 60 x2)), .val (.ref (kad n (27, 0, 0))), .unset] [] (khp n L σ g) true (.inl (some (.int r3)), khp n L σ3 g3, c3)) (c4_ : ZR 126 0 [.val (.ref (kad n (22, 0, 0))), .val (.int (σ3 60 x1)), .val (.int (σ3 60 x2)), .unset, .unset] [] (khp n L σ3 g3) true (.inl (some (.int r4)), khp n L σ4 g3, c4)) (c5_ : ZR 98 0 [.val (.ref (kad n (22, 0, 0)))] [] (khp n L σ4 g3) true (.inl (some (.int r5)), khp n L σ4 g3, true)) (h6 : zcnd .eq r5 r3 = true) (h7 : zcnd .ne r3 0 = true) (k : ZR 144 1355 [.val (.ref (kad n (28, 0, 0))), .val (.ref (kad n (0, 0, 0))), .val (.ref (kad n (22, 0, 0))), .val (.ref (kad n (27, 0, 0))), .val (.int v4), .val (.int r3), .val (.int r4)] [] (khp n L σ4 g3) (cl && c3 && c4) r) : ZR 144 589 [.val (.ref (kad n (28, 0, 0))), .val (.ref (kad n (0, 0, 0))), .val (.ref (kad n (22, 0, 0))), .val (.ref (kad n (27, 0, 0))), .val (.int v4), zop w5, zop w6] [] (khp n L σ g) cl r := by
  have hM : zmi[144]? = some _ := rfl
  have l1 := (zix_some z1).2.2
  have l2 := (zix_some z2).2.2
  refine zr_fr hM rfl rfl rfl ?_
  refine zr_fr hM rfl rfl rfl ?_
  refine zr_fr hM rfl rfl rfl ?_
  refine zr_fr hM rfl rfl rfl ?_
  refine zr_fr hM rfl rfl rfl ?_
  refine zr_iald (κ := (28, 0, 0)) hn hM rfl rfl rfl z1 ?_
  refine zr_fr hM rfl rfl rfl ?_
  refine zr_fr hM rfl rfl rfl ?_
  refine zr_fr hM rfl rfl rfl ?_
  refine zr_fr hM rfl rfl rfl ?_
  refine zr_iald (κ := (28, 0, 0)) hn hM rfl rfl rfl z2 ?_
  refine zr_fr hM rfl rfl rfl ?_
  refine zr_stat hM rfl rfl rfl rfl rfl rfl ?_
  refine zgo_ret rfl rfl c3_ ?_
  refine zr_fr (ls' := [.val (.ref (kad n (28, 0, 0))), .val (.ref (kad n (0, 0, 0))), .val (.ref (kad n (22, 0, 0))), .val (.ref (kad n (27, 0, 0))), .val (.int v4), .val (.int r3), zop w6]) hM rfl rfl (by cases w5 <;> rfl) ?_
  refine zr_fr hM rfl rfl rfl ?_
  refine zr_fr hM rfl rfl rfl ?_
  refine zr_fr hM rfl rfl rfl ?_
  refine zr_fr hM rfl rfl rfl ?_
  refine zr_fr hM rfl rfl rfl ?_
  refine zr_iald (κ := (28, 0, 0)) hn hM rfl rfl rfl z1 ?_
  refine zr_fr hM rfl rfl rfl ?_
  refine zr_fr hM rfl rfl rfl ?_
  refine zr_fr hM rfl rfl rfl ?_
  refine zr_fr hM rfl rfl rfl ?_
  refine zr_iald (κ := (28, 0, 0)) hn hM rfl rfl rfl z2 ?_
  refine zr_virt (κ := (22, 0, 0)) hn hM rfl rfl rfl rfl rfl rfl rfl rfl rfl ?_
  refine zgo_ret rfl rfl c4_ ?_
  refine zr_fr (ls' := [.val (.ref (kad n (28, 0, 0))), .val (.ref (kad n (0, 0, 0))), .val (.ref (kad n (22, 0, 0))), .val (.ref (kad n (27, 0, 0))), .val (.int v4), .val (.int r3), .val (.int r4)]) hM rfl rfl (by cases w6 <;> rfl) ?_
  refine zr_fr hM rfl rfl rfl ?_
  refine zr_virt (κ := (22, 0, 0)) hn hM rfl rfl rfl rfl rfl rfl rfl rfl rfl ?_
  refine zgo_ret rfl rfl c5_ ?_
  rw [Bool.and_true]
  refine zr_fr hM rfl rfl rfl ?_
  refine zr_ict hM rfl rfl h6 ?_
  refine zr_fr hM rfl rfl rfl ?_
  refine zr_ift hM rfl rfl h7 ?_
  refine zr_fr hM rfl rfl rfl ?_
  exact k
set_option maxHeartbeats 4000000 in
set_option maxRecDepth 16384 in
theorem s144_657_tft {n L : Nat} {σ : Ks} {g g3 : List Nat} {cl : Bool} {r : Zr} {v4 : Int32} {w5 : Option Int32} {w6 : Option Int32} {x1 : Nat} {x2 : Nat} {x3 : Nat} {x4 : Nat} {σ5 : Ks} {c5 : Bool} {r5 : Int32} {σ6 : Ks} {c6 : Bool} {r6 : Int32} {r7 : Int32} {x10 : Nat} (hn : 2 ≤ n ∧ n ≤ 5) (z1 : zix (v4 + (Int32.ofInt 1)) L = some x1) (z2 : zix (v4 + (Int32.ofInt 2)) L = some x2) (z3 : zix (v4 + (Int32.ofInt 3)) L = some x3) (z4 : zix (v4 + (Int32.ofInt 4)) L = some x4) (c5_ : ZR 73 0 [.val (.ref (kad n (0, 0, 0))), .val (.int (σ 60 x1)), .val (.int (σ 60 x2)), .val (.int (σ 60 x3)), .val (.int (σ 60 x4)), .val (.ref (kad n (27, 0, 0))), .unset] [] (khp n L σ g) true (.inl (some (.int r5)), khp n L σ5 g3, c5)) (c6_ : ZR 129 0 [.val (.ref (kad n (22, 0, 0))), .val (.int (σ5 60 x1)), .val (.int (σ5 60 x2)), .val (.int (σ5 60 x3)), .val (.int (σ5 60 x4))] [] (khp n L σ5 g3) true (.inl (some (.int r6)), khp n L σ6 g3, c6)) (c7_ : ZR 98 0 [.val (.ref (kad n (22, 0, 0)))] [] (khp n L σ6 g3) true (.inl (some (.int r7)), khp n L σ6 g3, true)) (h8 : zcnd .eq r7 r5 = true) (h9 : zcnd .ne r5 0 = false) (z10 : zix (Int32.ofInt 0) 1 = some x10) (h11 : zcnd .eq (lg_cmp (σ6 50 x10).toInt64 r6.toInt64) 0 = true) (k : ZR 144 1355 [.val (.ref (kad n (28, 0, 0))), .val (.ref (kad n (0, 0, 0))), .val (.ref (kad n (22, 0, 0))), .val (.ref (kad n (27, 0, 0))), .val (.int v4), .val (.int r5), .val (.int r6)] [] (khp n L σ6 g3) (cl && c5 && c6) r) : ZR 144 657 [.val (.ref (kad n (28, 0, 0))), .val (.ref (kad n (0, 0, 0))), .val (.ref (kad n (22, 0, 0))), .val (.ref (kad n (27, 0, 0))), .val (.int v4), zop w5, zop w6] [] (khp n L σ g) cl r := by
  have hM : zmi[144]? = some _ := rfl
  have l1 := (zix_some z1).2.2
  have l2 := (zix_some z2).2.2
  have l3 := (zix_some z3).2.2
  have l4 := (zix_some z4).2.2
  have l10 := (zix_some z10).2.2
  refine zr_fr hM rfl rfl rfl ?_
  refine zr_fr hM rfl rfl rfl ?_
  refine zr_fr hM rfl rfl rfl ?_
  refine zr_fr hM rfl rfl rfl ?_
  refine zr_fr hM rfl rfl rfl ?_
  refine zr_iald (κ := (28, 0, 0)) hn hM rfl rfl rfl z1 ?_
  refine zr_fr hM rfl rfl rfl ?_
  refine zr_fr hM rfl rfl rfl ?_
  refine zr_fr hM rfl rfl rfl ?_
  refine zr_fr hM rfl rfl rfl ?_
  refine zr_iald (κ := (28, 0, 0)) hn hM rfl rfl rfl z2 ?_
  refine zr_fr hM rfl rfl rfl ?_
  refine zr_fr hM rfl rfl rfl ?_
  refine zr_fr hM rfl rfl rfl ?_
  refine zr_fr hM rfl rfl rfl ?_
  refine zr_iald (κ := (28, 0, 0)) hn hM rfl rfl rfl z3 ?_
  refine zr_fr hM rfl rfl rfl ?_
  refine zr_fr hM rfl rfl rfl ?_
  refine zr_fr hM rfl rfl rfl ?_
  refine zr_fr hM rfl rfl rfl ?_
  refine zr_iald (κ := (28, 0, 0)) hn hM rfl rfl rfl z4 ?_
  refine zr_fr hM rfl rfl rfl ?_
  refine zr_stat hM rfl rfl rfl rfl rfl rfl ?_
  refine zgo_ret rfl rfl c5_ ?_
  refine zr_fr (ls' := [.val (.ref (kad n (28, 0, 0))), .val (.ref (kad n (0, 0, 0))), .val (.ref (kad n (22, 0, 0))), .val (.ref (kad n (27, 0, 0))), .val (.int v4), .val (.int r5), zop w6]) hM rfl rfl (by cases w5 <;> rfl) ?_
  refine zr_fr hM rfl rfl rfl ?_
  refine zr_fr hM rfl rfl rfl ?_
  refine zr_fr hM rfl rfl rfl ?_
  refine zr_fr hM rfl rfl rfl ?_
  refine zr_fr hM rfl rfl rfl ?_
  refine zr_iald (κ := (28, 0, 0)) hn hM rfl rfl rfl z1 ?_
  refine zr_fr hM rfl rfl rfl ?_
  refine zr_fr hM rfl rfl rfl ?_
  refine zr_fr hM rfl rfl rfl ?_
  refine zr_fr hM rfl rfl rfl ?_
  refine zr_iald (κ := (28, 0, 0)) hn hM rfl rfl rfl z2 ?_
  refine zr_fr hM rfl rfl rfl ?_
  refine zr_fr hM rfl rfl rfl ?_
  refine zr_fr hM rfl rfl rfl ?_
  refine zr_fr hM rfl rfl rfl ?_
  refine zr_iald (κ := (28, 0, 0)) hn hM rfl rfl rfl z3 ?_
  refine zr_fr hM rfl rfl rfl ?_
  refine zr_fr hM rfl rfl rfl ?_
  refine zr_fr hM rfl rfl rfl ?_
  refine zr_fr hM rfl rfl rfl ?_
  refine zr_iald (κ := (28, 0, 0)) hn hM rfl rfl rfl z4 ?_
  refine zr_virt (κ := (22, 0, 0)) hn hM rfl rfl rfl rfl rfl rfl rfl rfl rfl ?_
  refine zgo_ret rfl rfl c6_ ?_
  refine zr_fr (ls' := [.val (.ref (kad n (28, 0, 0))), .val (.ref (kad n (0, 0, 0))), .val (.ref (kad n (22, 0, 0))), .val (.ref (kad n (27, 0, 0))), .val (.int v4), .val (.int r5), .val (.int r6)]) hM rfl rfl (by cases w6 <;> rfl) ?_
  refine zr_fr hM rfl rfl rfl ?_
  refine zr_virt (κ := (22, 0, 0)) hn hM rfl rfl rfl rfl rfl rfl rfl rfl rfl ?_
  refine zgo_ret rfl rfl c7_ ?_
  rw [Bool.and_true]
  refine zr_fr hM rfl rfl rfl ?_
  refine zr_ict hM rfl rfl h8 ?_
  refine zr_fr hM rfl rfl rfl ?_
  refine zr_iff hM rfl rfl h9 ?_
  refine zr_fr hM rfl rfl rfl ?_
  refine zr_fr hM rfl rfl rfl ?_
  refine zr_lald (κ := (27, 0, 0)) hn hM rfl rfl rfl z10 ?_
  refine zr_fr hM rfl rfl rfl ?_
  refine zr_fr hM rfl rfl rfl ?_
  refine zr_fr hM rfl rfl rfl ?_
  refine zr_ift hM rfl rfl h11 ?_
  refine zr_fr hM rfl rfl rfl ?_
  exact k
set_option maxHeartbeats 4000000 in
set_option maxRecDepth 16384 in
theorem s144_657_tt {n L : Nat} {σ : Ks} {g g3 : List Nat} {cl : Bool} {r : Zr} {v4 : Int32} {w5 : Option Int32} {w6 : Option Int32} {x1 : Nat} {x2 : Nat} {x3 : Nat} {x4 : Nat} {σ5 : Ks} {c5 : Bool} {r5 : Int32} {σ6 : Ks} {c6 : Bool} {r6 : Int32} {r7 : Int32} (hn : 2 ≤ n ∧ n ≤ 5) (z1 : zix (v4 + (Int32.ofInt 1)) L = some x1) (z2 : zix (v4 + (Int32.ofInt 2)) L = some x2) (z3 : zix (v4 + (Int32.ofInt 3)) L = some x3) (z4 : zix (v4 + (Int32.ofInt 4)) L = some x4) (c5_ : ZR 73 0 [.val (.ref (kad n (0, 0, 0))), .val (.int (σ 60 x1)), .val (.int (σ 60 x2)), .val (.int (σ 60 x3)), .val (.int (σ 60 x4)), .val (.ref (kad n (27, 0, 0))), .unset] [] (khp n L σ g) true (.inl (some (.int r5)), khp n L σ5 g3, c5)) (c6_ : ZR 129 0 [.val (.ref (kad n (22, 0, 0))), .val (.int (σ5 60 x1)), .val (.int (σ5 60 x2)), .val (.int (σ5 60 x3)), .val (.int (σ5 60 x4))] [] (khp n L σ5 g3) true (.inl (some (.int r6)), khp n L σ6 g3, c6)) (c7_ : ZR 98 0 [.val (.ref (kad n (22, 0, 0)))] [] (khp n L σ6 g3) true (.inl (some (.int r7)), khp n L σ6 g3, true)) (h8 : zcnd .eq r7 r5 = true) (h9 : zcnd .ne r5 0 = true) (k : ZR 144 1355 [.val (.ref (kad n (28, 0, 0))), .val (.ref (kad n (0, 0, 0))), .val (.ref (kad n (22, 0, 0))), .val (.ref (kad n (27, 0, 0))), .val (.int v4), .val (.int r5), .val (.int r6)] [] (khp n L σ6 g3) (cl && c5 && c6) r) : ZR 144 657 [.val (.ref (kad n (28, 0, 0))), .val (.ref (kad n (0, 0, 0))), .val (.ref (kad n (22, 0, 0))), .val (.ref (kad n (27, 0, 0))), .val (.int v4), zop w5, zop w6] [] (khp n L σ g) cl r := by
  have hM : zmi[144]? = some _ := rfl
  have l1 := (zix_some z1).2.2
  have l2 := (zix_some z2).2.2
  have l3 := (zix_some z3).2.2
  have l4 := (zix_some z4).2.2
  refine zr_fr hM rfl rfl rfl ?_
  refine zr_fr hM rfl rfl rfl ?_
  refine zr_fr hM rfl rfl rfl ?_
  refine zr_fr hM rfl rfl rfl ?_
  refine zr_fr hM rfl rfl rfl ?_
  refine zr_iald (κ := (28, 0, 0)) hn hM rfl rfl rfl z1 ?_
  refine zr_fr hM rfl rfl rfl ?_
  refine zr_fr hM rfl rfl rfl ?_
  refine zr_fr hM rfl rfl rfl ?_
  refine zr_fr hM rfl rfl rfl ?_
  refine zr_iald (κ := (28, 0, 0)) hn hM rfl rfl rfl z2 ?_
  refine zr_fr hM rfl rfl rfl ?_
  refine zr_fr hM rfl rfl rfl ?_
  refine zr_fr hM rfl rfl rfl ?_
  refine zr_fr hM rfl rfl rfl ?_
  refine zr_iald (κ := (28, 0, 0)) hn hM rfl rfl rfl z3 ?_
  refine zr_fr hM rfl rfl rfl ?_
  refine zr_fr hM rfl rfl rfl ?_
  refine zr_fr hM rfl rfl rfl ?_
  refine zr_fr hM rfl rfl rfl ?_
  refine zr_iald (κ := (28, 0, 0)) hn hM rfl rfl rfl z4 ?_
  refine zr_fr hM rfl rfl rfl ?_
  refine zr_stat hM rfl rfl rfl rfl rfl rfl ?_
  refine zgo_ret rfl rfl c5_ ?_
  refine zr_fr (ls' := [.val (.ref (kad n (28, 0, 0))), .val (.ref (kad n (0, 0, 0))), .val (.ref (kad n (22, 0, 0))), .val (.ref (kad n (27, 0, 0))), .val (.int v4), .val (.int r5), zop w6]) hM rfl rfl (by cases w5 <;> rfl) ?_
  refine zr_fr hM rfl rfl rfl ?_
  refine zr_fr hM rfl rfl rfl ?_
  refine zr_fr hM rfl rfl rfl ?_
  refine zr_fr hM rfl rfl rfl ?_
  refine zr_fr hM rfl rfl rfl ?_
  refine zr_iald (κ := (28, 0, 0)) hn hM rfl rfl rfl z1 ?_
  refine zr_fr hM rfl rfl rfl ?_
  refine zr_fr hM rfl rfl rfl ?_
  refine zr_fr hM rfl rfl rfl ?_
  refine zr_fr hM rfl rfl rfl ?_
  refine zr_iald (κ := (28, 0, 0)) hn hM rfl rfl rfl z2 ?_
  refine zr_fr hM rfl rfl rfl ?_
  refine zr_fr hM rfl rfl rfl ?_
  refine zr_fr hM rfl rfl rfl ?_
  refine zr_fr hM rfl rfl rfl ?_
  refine zr_iald (κ := (28, 0, 0)) hn hM rfl rfl rfl z3 ?_
  refine zr_fr hM rfl rfl rfl ?_
  refine zr_fr hM rfl rfl rfl ?_
  refine zr_fr hM rfl rfl rfl ?_
  refine zr_fr hM rfl rfl rfl ?_
  refine zr_iald (κ := (28, 0, 0)) hn hM rfl rfl rfl z4 ?_
  refine zr_virt (κ := (22, 0, 0)) hn hM rfl rfl rfl rfl rfl rfl rfl rfl rfl ?_
  refine zgo_ret rfl rfl c6_ ?_
  refine zr_fr (ls' := [.val (.ref (kad n (28, 0, 0))), .val (.ref (kad n (0, 0, 0))), .val (.ref (kad n (22, 0, 0))), .val (.ref (kad n (27, 0, 0))), .val (.int v4), .val (.int r5), .val (.int r6)]) hM rfl rfl (by cases w6 <;> rfl) ?_
  refine zr_fr hM rfl rfl rfl ?_
  refine zr_virt (κ := (22, 0, 0)) hn hM rfl rfl rfl rfl rfl rfl rfl rfl rfl ?_
  refine zgo_ret rfl rfl c7_ ?_
  rw [Bool.and_true]
  refine zr_fr hM rfl rfl rfl ?_
  refine zr_ict hM rfl rfl h8 ?_
  refine zr_fr hM rfl rfl rfl ?_
  refine zr_ift hM rfl rfl h9 ?_
  refine zr_fr hM rfl rfl rfl ?_
  exact k
set_option maxHeartbeats 4000000 in
set_option maxRecDepth 16384 in
theorem s144_749_tft {n L : Nat} {σ : Ks} {g g3 : List Nat} {cl : Bool} {r : Zr} {v4 : Int32} {w5 : Option Int32} {w6 : Option Int32} {x1 : Nat} {x2 : Nat} {x3 : Nat} {σ4 : Ks} {c4 : Bool} {r4 : Int32} {σ5 : Ks} {c5 : Bool} {r5 : Int32} {r6 : Int32} {x9 : Nat} (hn : 2 ≤ n ∧ n ≤ 5) (z1 : zix (v4 + (Int32.ofInt 1)) L = some x1) (z2 : zix (v4 + (Int32.ofInt 2)) L = some x2) (z3 : zix (v4 + (Int32.ofInt 3)) L = some x3) (c4_ : ZR 79 0 [.val (.ref (kad n (0, 0, 0))), .val (.int (σ 60 x1)), .val (.int (σ 60 x2)), .val (.int (σ 60 x3)), .val (.ref (kad n (27, 0, 0))), .unset] [] (khp n L σ g) true (.inl (some (.int r4)), khp n L σ4 g3, c4)) (c5_ : ZR 130 0 [.val (.ref (kad n (22, 0, 0))), .val (.int (σ4 60 x1)), .val (.int (σ4 60 x2)), .val (.int (σ4 60 x3)), .unset, .unset, .unset, .unset] [] (khp n L σ4 g3) true (.inl (some (.int r5)), khp n L σ5 g3, c5)) (c6_ : ZR 98 0 [.val (.ref (kad n (22, 0, 0)))] [] (khp n L σ5 g3) true (.inl (some (.int r6)), khp n L σ5 g3, true)) (h7 : zcnd .eq r6 r4 = true) (h8 : zcnd .ne r4 0 = false) (z9 : zix (Int32.ofInt 0) 1 = some x9) (h10 : zcnd .eq (lg_cmp (σ5 50 x9).toInt64 r5.toInt64) 0 = true) (k : ZR 144 1355 [.val (.ref (kad n (28, 0, 0))), .val (.ref (kad n (0, 0, 0))), .val (.ref (kad n (22, 0, 0))), .val (.ref (kad n (27, 0, 0))), .val (.int v4), .val (.int r4), .val (.int r5)] [] (khp n L σ5 g3) (cl && c4 && c5) r) : ZR 144 749 [.val (.ref (kad n (28, 0, 0))), .val (.ref (kad n (0, 0, 0))), .val (.ref (kad n (22, 0, 0))), .val (.ref (kad n (27, 0, 0))), .val (.int v4), zop w5, zop w6] [] (khp n L σ g) cl r := by
  have hM : zmi[144]? = some _ := rfl
  have l1 := (zix_some z1).2.2
  have l2 := (zix_some z2).2.2
  have l3 := (zix_some z3).2.2
  have l9 := (zix_some z9).2.2
  refine zr_fr hM rfl rfl rfl ?_
  refine zr_fr hM rfl rfl rfl ?_
  refine zr_fr hM rfl rfl rfl ?_
  refine zr_fr hM rfl rfl rfl ?_
  refine zr_fr hM rfl rfl rfl ?_
  refine zr_iald (κ := (28, 0, 0)) hn hM rfl rfl rfl z1 ?_
  refine zr_fr hM rfl rfl rfl ?_
  refine zr_fr hM rfl rfl rfl ?_
  refine zr_fr hM rfl rfl rfl ?_
  refine zr_fr hM rfl rfl rfl ?_
  refine zr_iald (κ := (28, 0, 0)) hn hM rfl rfl rfl z2 ?_
  refine zr_fr hM rfl rfl rfl ?_
  refine zr_fr hM rfl rfl rfl ?_
  refine zr_fr hM rfl rfl rfl ?_
  refine zr_fr hM rfl rfl rfl ?_
  refine zr_iald (κ := (28, 0, 0)) hn hM rfl rfl rfl z3 ?_
  refine zr_fr hM rfl rfl rfl ?_
  refine zr_stat hM rfl rfl rfl rfl rfl rfl ?_
  refine zgo_ret rfl rfl c4_ ?_
  refine zr_fr (ls' := [.val (.ref (kad n (28, 0, 0))), .val (.ref (kad n (0, 0, 0))), .val (.ref (kad n (22, 0, 0))), .val (.ref (kad n (27, 0, 0))), .val (.int v4), .val (.int r4), zop w6]) hM rfl rfl (by cases w5 <;> rfl) ?_
  refine zr_fr hM rfl rfl rfl ?_
  refine zr_fr hM rfl rfl rfl ?_
  refine zr_fr hM rfl rfl rfl ?_
  refine zr_fr hM rfl rfl rfl ?_
  refine zr_fr hM rfl rfl rfl ?_
  refine zr_iald (κ := (28, 0, 0)) hn hM rfl rfl rfl z1 ?_
  refine zr_fr hM rfl rfl rfl ?_
  refine zr_fr hM rfl rfl rfl ?_
  refine zr_fr hM rfl rfl rfl ?_
  refine zr_fr hM rfl rfl rfl ?_
  refine zr_iald (κ := (28, 0, 0)) hn hM rfl rfl rfl z2 ?_
  refine zr_fr hM rfl rfl rfl ?_
  refine zr_fr hM rfl rfl rfl ?_
  refine zr_fr hM rfl rfl rfl ?_
  refine zr_fr hM rfl rfl rfl ?_
  refine zr_iald (κ := (28, 0, 0)) hn hM rfl rfl rfl z3 ?_
  refine zr_virt (κ := (22, 0, 0)) hn hM rfl rfl rfl rfl rfl rfl rfl rfl rfl ?_
  refine zgo_ret rfl rfl c5_ ?_
  refine zr_fr (ls' := [.val (.ref (kad n (28, 0, 0))), .val (.ref (kad n (0, 0, 0))), .val (.ref (kad n (22, 0, 0))), .val (.ref (kad n (27, 0, 0))), .val (.int v4), .val (.int r4), .val (.int r5)]) hM rfl rfl (by cases w6 <;> rfl) ?_
  refine zr_fr hM rfl rfl rfl ?_
  refine zr_virt (κ := (22, 0, 0)) hn hM rfl rfl rfl rfl rfl rfl rfl rfl rfl ?_
  refine zgo_ret rfl rfl c6_ ?_
  rw [Bool.and_true]
  refine zr_fr hM rfl rfl rfl ?_
  refine zr_ict hM rfl rfl h7 ?_
  refine zr_fr hM rfl rfl rfl ?_
  refine zr_iff hM rfl rfl h8 ?_
  refine zr_fr hM rfl rfl rfl ?_
  refine zr_fr hM rfl rfl rfl ?_
  refine zr_lald (κ := (27, 0, 0)) hn hM rfl rfl rfl z9 ?_
  refine zr_fr hM rfl rfl rfl ?_
  refine zr_fr hM rfl rfl rfl ?_
  refine zr_fr hM rfl rfl rfl ?_
  refine zr_ift hM rfl rfl h10 ?_
  refine zr_fr hM rfl rfl rfl ?_
  exact k
set_option maxHeartbeats 4000000 in
set_option maxRecDepth 16384 in
theorem s144_749_tt {n L : Nat} {σ : Ks} {g g3 : List Nat} {cl : Bool} {r : Zr} {v4 : Int32} {w5 : Option Int32} {w6 : Option Int32} {x1 : Nat} {x2 : Nat} {x3 : Nat} {σ4 : Ks} {c4 : Bool} {r4 : Int32} {σ5 : Ks} {c5 : Bool} {r5 : Int32} {r6 : Int32} (hn : 2 ≤ n ∧ n ≤ 5) (z1 : zix (v4 + (Int32.ofInt 1)) L = some x1) (z2 : zix (v4 + (Int32.ofInt 2)) L = some x2) (z3 : zix (v4 + (Int32.ofInt 3)) L = some x3) (c4_ : ZR 79 0 [.val (.ref (kad n (0, 0, 0))), .val (.int (σ 60 x1)), .val (.int (σ 60 x2)), .val (.int (σ 60 x3)), .val (.ref (kad n (27, 0, 0))), .unset] [] (khp n L σ g) true (.inl (some (.int r4)), khp n L σ4 g3, c4)) (c5_ : ZR 130 0 [.val (.ref (kad n (22, 0, 0))), .val (.int (σ4 60 x1)), .val (.int (σ4 60 x2)), .val (.int (σ4 60 x3)), .unset, .unset, .unset, .unset] [] (khp n L σ4 g3) true (.inl (some (.int r5)), khp n L σ5 g3, c5)) (c6_ : ZR 98 0 [.val (.ref (kad n (22, 0, 0)))] [] (khp n L σ5 g3) true (.inl (some (.int r6)), khp n L σ5 g3, true)) (h7 : zcnd .eq r6 r4 = true) (h8 : zcnd .ne r4 0 = true) (k : ZR 144 1355 [.val (.ref (kad n (28, 0, 0))), .val (.ref (kad n (0, 0, 0))), .val (.ref (kad n (22, 0, 0))), .val (.ref (kad n (27, 0, 0))), .val (.int v4), .val (.int r4), .val (.int r5)] [] (khp n L σ5 g3) (cl && c4 && c5) r) : ZR 144 749 [.val (.ref (kad n (28, 0, 0))), .val (.ref (kad n (0, 0, 0))), .val (.ref (kad n (22, 0, 0))), .val (.ref (kad n (27, 0, 0))), .val (.int v4), zop w5, zop w6] [] (khp n L σ g) cl r := by
  have hM : zmi[144]? = some _ := rfl
  have l1 := (zix_some z1).2.2
  have l2 := (zix_some z2).2.2
  have l3 := (zix_some z3).2.2
  refine zr_fr hM rfl rfl rfl ?_
  refine zr_fr hM rfl rfl rfl ?_
  refine zr_fr hM rfl rfl rfl ?_
  refine zr_fr hM rfl rfl rfl ?_
  refine zr_fr hM rfl rfl rfl ?_
  refine zr_iald (κ := (28, 0, 0)) hn hM rfl rfl rfl z1 ?_
  refine zr_fr hM rfl rfl rfl ?_
  refine zr_fr hM rfl rfl rfl ?_
  refine zr_fr hM rfl rfl rfl ?_
  refine zr_fr hM rfl rfl rfl ?_
  refine zr_iald (κ := (28, 0, 0)) hn hM rfl rfl rfl z2 ?_
  refine zr_fr hM rfl rfl rfl ?_
  refine zr_fr hM rfl rfl rfl ?_
  refine zr_fr hM rfl rfl rfl ?_
  refine zr_fr hM rfl rfl rfl ?_
  refine zr_iald (κ := (28, 0, 0)) hn hM rfl rfl rfl z3 ?_
  refine zr_fr hM rfl rfl rfl ?_
  refine zr_stat hM rfl rfl rfl rfl rfl rfl ?_
  refine zgo_ret rfl rfl c4_ ?_
  refine zr_fr (ls' := [.val (.ref (kad n (28, 0, 0))), .val (.ref (kad n (0, 0, 0))), .val (.ref (kad n (22, 0, 0))), .val (.ref (kad n (27, 0, 0))), .val (.int v4), .val (.int r4), zop w6]) hM rfl rfl (by cases w5 <;> rfl) ?_
  refine zr_fr hM rfl rfl rfl ?_
  refine zr_fr hM rfl rfl rfl ?_
  refine zr_fr hM rfl rfl rfl ?_
  refine zr_fr hM rfl rfl rfl ?_
  refine zr_fr hM rfl rfl rfl ?_
  refine zr_iald (κ := (28, 0, 0)) hn hM rfl rfl rfl z1 ?_
  refine zr_fr hM rfl rfl rfl ?_
  refine zr_fr hM rfl rfl rfl ?_
  refine zr_fr hM rfl rfl rfl ?_
  refine zr_fr hM rfl rfl rfl ?_
  refine zr_iald (κ := (28, 0, 0)) hn hM rfl rfl rfl z2 ?_
  refine zr_fr hM rfl rfl rfl ?_
  refine zr_fr hM rfl rfl rfl ?_
  refine zr_fr hM rfl rfl rfl ?_
  refine zr_fr hM rfl rfl rfl ?_
  refine zr_iald (κ := (28, 0, 0)) hn hM rfl rfl rfl z3 ?_
  refine zr_virt (κ := (22, 0, 0)) hn hM rfl rfl rfl rfl rfl rfl rfl rfl rfl ?_
  refine zgo_ret rfl rfl c5_ ?_
  refine zr_fr (ls' := [.val (.ref (kad n (28, 0, 0))), .val (.ref (kad n (0, 0, 0))), .val (.ref (kad n (22, 0, 0))), .val (.ref (kad n (27, 0, 0))), .val (.int v4), .val (.int r4), .val (.int r5)]) hM rfl rfl (by cases w6 <;> rfl) ?_
  refine zr_fr hM rfl rfl rfl ?_
  refine zr_virt (κ := (22, 0, 0)) hn hM rfl rfl rfl rfl rfl rfl rfl rfl rfl ?_
  refine zgo_ret rfl rfl c6_ ?_
  rw [Bool.and_true]
  refine zr_fr hM rfl rfl rfl ?_
  refine zr_ict hM rfl rfl h7 ?_
  refine zr_fr hM rfl rfl rfl ?_
  refine zr_ift hM rfl rfl h8 ?_
  refine zr_fr hM rfl rfl rfl ?_
  exact k
set_option maxHeartbeats 4000000 in
set_option maxRecDepth 16384 in
theorem s144_829_tft {n L : Nat} {σ : Ks} {g g3 : List Nat} {cl : Bool} {r : Zr} {v4 : Int32} {w5 : Option Int32} {w6 : Option Int32} {x1 : Nat} {x2 : Nat} {σ3 : Ks} {c3 : Bool} {r3 : Int32} {σ4 : Ks} {c4 : Bool} {r4 : Int32} {r5 : Int32} {x8 : Nat} (hn : 2 ≤ n ∧ n ≤ 5) (z1 : zix (v4 + (Int32.ofInt 1)) L = some x1) (z2 : zix (v4 + (Int32.ofInt 2)) L = some x2) (c3_ : ZR 82 0 [.val (.ref (kad n (0, 0, 0))), .val (.int (σ 60 x1)), .val (.int (σ 60 x2)), .val (.ref (kad n (27, 0, 0))), .unset] [] (khp n L σ g) true (.inl (some (.int r3)), khp n L σ3 g3, c3)) (c4_ : ZR 131 0 [.val (.ref (kad n (22, 0, 0))), .val (.int (σ3 60 x1)), .val (.int (σ3 60 x2)), .unset] [] (khp n L σ3 g3) true (.inl (some (.int r4)), khp n L σ4 g3, c4)) (c5_ : ZR 98 0 [.val (.ref (kad n (22, 0, 0)))] [] (khp n L σ4 g3) true (.inl (some (.int r5)), khp n L σ4 g3, true)) (h6 : zcnd .eq r5 r3 = true) (h7 : zcnd .ne r3 0 = false) (z8 : zix (Int32.ofInt 0) 1 = some x8) (h9 : zcnd .eq (lg_cmp (σ4 50 x8).toInt64 r4.toInt64) 0 = true) (k : ZR 144 1355 [.val (.ref (kad n (28, 0, 0))), .val (.ref (kad n (0, 0, 0))), .val (.ref (kad n (22, 0, 0))), .val (.ref (kad n (27, 0, 0))), .val (.int v4), .val (.int r3), .val (.int r4)] [] (khp n L σ4 g3) (cl && c3 && c4) r) : ZR 144 829 [.val (.ref (kad n (28, 0, 0))), .val (.ref (kad n (0, 0, 0))), .val (.ref (kad n (22, 0, 0))), .val (.ref (kad n (27, 0, 0))), .val (.int v4), zop w5, zop w6] [] (khp n L σ g) cl r := by
  have hM : zmi[144]? = some _ := rfl
  have l1 := (zix_some z1).2.2
  have l2 := (zix_some z2).2.2
  have l8 := (zix_some z8).2.2
  refine zr_fr hM rfl rfl rfl ?_
  refine zr_fr hM rfl rfl rfl ?_
  refine zr_fr hM rfl rfl rfl ?_
  refine zr_fr hM rfl rfl rfl ?_
  refine zr_fr hM rfl rfl rfl ?_
  refine zr_iald (κ := (28, 0, 0)) hn hM rfl rfl rfl z1 ?_
  refine zr_fr hM rfl rfl rfl ?_
  refine zr_fr hM rfl rfl rfl ?_
  refine zr_fr hM rfl rfl rfl ?_
  refine zr_fr hM rfl rfl rfl ?_
  refine zr_iald (κ := (28, 0, 0)) hn hM rfl rfl rfl z2 ?_
  refine zr_fr hM rfl rfl rfl ?_
  refine zr_stat hM rfl rfl rfl rfl rfl rfl ?_
  refine zgo_ret rfl rfl c3_ ?_
  refine zr_fr (ls' := [.val (.ref (kad n (28, 0, 0))), .val (.ref (kad n (0, 0, 0))), .val (.ref (kad n (22, 0, 0))), .val (.ref (kad n (27, 0, 0))), .val (.int v4), .val (.int r3), zop w6]) hM rfl rfl (by cases w5 <;> rfl) ?_
  refine zr_fr hM rfl rfl rfl ?_
  refine zr_fr hM rfl rfl rfl ?_
  refine zr_fr hM rfl rfl rfl ?_
  refine zr_fr hM rfl rfl rfl ?_
  refine zr_fr hM rfl rfl rfl ?_
  refine zr_iald (κ := (28, 0, 0)) hn hM rfl rfl rfl z1 ?_
  refine zr_fr hM rfl rfl rfl ?_
  refine zr_fr hM rfl rfl rfl ?_
  refine zr_fr hM rfl rfl rfl ?_
  refine zr_fr hM rfl rfl rfl ?_
  refine zr_iald (κ := (28, 0, 0)) hn hM rfl rfl rfl z2 ?_
  refine zr_virt (κ := (22, 0, 0)) hn hM rfl rfl rfl rfl rfl rfl rfl rfl rfl ?_
  refine zgo_ret rfl rfl c4_ ?_
  refine zr_fr (ls' := [.val (.ref (kad n (28, 0, 0))), .val (.ref (kad n (0, 0, 0))), .val (.ref (kad n (22, 0, 0))), .val (.ref (kad n (27, 0, 0))), .val (.int v4), .val (.int r3), .val (.int r4)]) hM rfl rfl (by cases w6 <;> rfl) ?_
  refine zr_fr hM rfl rfl rfl ?_
  refine zr_virt (κ := (22, 0, 0)) hn hM rfl rfl rfl rfl rfl rfl rfl rfl rfl ?_
  refine zgo_ret rfl rfl c5_ ?_
  rw [Bool.and_true]
  refine zr_fr hM rfl rfl rfl ?_
  refine zr_ict hM rfl rfl h6 ?_
  refine zr_fr hM rfl rfl rfl ?_
  refine zr_iff hM rfl rfl h7 ?_
  refine zr_fr hM rfl rfl rfl ?_
  refine zr_fr hM rfl rfl rfl ?_
  refine zr_lald (κ := (27, 0, 0)) hn hM rfl rfl rfl z8 ?_
  refine zr_fr hM rfl rfl rfl ?_
  refine zr_fr hM rfl rfl rfl ?_
  refine zr_fr hM rfl rfl rfl ?_
  refine zr_ift hM rfl rfl h9 ?_
  refine zr_fr hM rfl rfl rfl ?_
  exact k
set_option maxHeartbeats 4000000 in
set_option maxRecDepth 16384 in
theorem s144_829_tt {n L : Nat} {σ : Ks} {g g3 : List Nat} {cl : Bool} {r : Zr} {v4 : Int32} {w5 : Option Int32} {w6 : Option Int32} {x1 : Nat} {x2 : Nat} {σ3 : Ks} {c3 : Bool} {r3 : Int32} {σ4 : Ks} {c4 : Bool} {r4 : Int32} {r5 : Int32} (hn : 2 ≤ n ∧ n ≤ 5) (z1 : zix (v4 + (Int32.ofInt 1)) L = some x1) (z2 : zix (v4 + (Int32.ofInt 2)) L = some x2) (c3_ : ZR 82 0 [.val (.ref (kad n (0, 0, 0))), .val (.int (σ 60 x1)), .val (.int (σ 60 x2)), .val (.ref (kad n (27, 0, 0))), .unset] [] (khp n L σ g) true (.inl (some (.int r3)), khp n L σ3 g3, c3)) (c4_ : ZR 131 0 [.val (.ref (kad n (22, 0, 0))), .val (.int (σ3 60 x1)), .val (.int (σ3 60 x2)), .unset] [] (khp n L σ3 g3) true (.inl (some (.int r4)), khp n L σ4 g3, c4)) (c5_ : ZR 98 0 [.val (.ref (kad n (22, 0, 0)))] [] (khp n L σ4 g3) true (.inl (some (.int r5)), khp n L σ4 g3, true)) (h6 : zcnd .eq r5 r3 = true) (h7 : zcnd .ne r3 0 = true) (k : ZR 144 1355 [.val (.ref (kad n (28, 0, 0))), .val (.ref (kad n (0, 0, 0))), .val (.ref (kad n (22, 0, 0))), .val (.ref (kad n (27, 0, 0))), .val (.int v4), .val (.int r3), .val (.int r4)] [] (khp n L σ4 g3) (cl && c3 && c4) r) : ZR 144 829 [.val (.ref (kad n (28, 0, 0))), .val (.ref (kad n (0, 0, 0))), .val (.ref (kad n (22, 0, 0))), .val (.ref (kad n (27, 0, 0))), .val (.int v4), zop w5, zop w6] [] (khp n L σ g) cl r := by
  have hM : zmi[144]? = some _ := rfl
  have l1 := (zix_some z1).2.2
  have l2 := (zix_some z2).2.2
  refine zr_fr hM rfl rfl rfl ?_
  refine zr_fr hM rfl rfl rfl ?_
  refine zr_fr hM rfl rfl rfl ?_
  refine zr_fr hM rfl rfl rfl ?_
  refine zr_fr hM rfl rfl rfl ?_
  refine zr_iald (κ := (28, 0, 0)) hn hM rfl rfl rfl z1 ?_
  refine zr_fr hM rfl rfl rfl ?_
  refine zr_fr hM rfl rfl rfl ?_
  refine zr_fr hM rfl rfl rfl ?_
  refine zr_fr hM rfl rfl rfl ?_
  refine zr_iald (κ := (28, 0, 0)) hn hM rfl rfl rfl z2 ?_
  refine zr_fr hM rfl rfl rfl ?_
  refine zr_stat hM rfl rfl rfl rfl rfl rfl ?_
  refine zgo_ret rfl rfl c3_ ?_
  refine zr_fr (ls' := [.val (.ref (kad n (28, 0, 0))), .val (.ref (kad n (0, 0, 0))), .val (.ref (kad n (22, 0, 0))), .val (.ref (kad n (27, 0, 0))), .val (.int v4), .val (.int r3), zop w6]) hM rfl rfl (by cases w5 <;> rfl) ?_
  refine zr_fr hM rfl rfl rfl ?_
  refine zr_fr hM rfl rfl rfl ?_
  refine zr_fr hM rfl rfl rfl ?_
  refine zr_fr hM rfl rfl rfl ?_
  refine zr_fr hM rfl rfl rfl ?_
  refine zr_iald (κ := (28, 0, 0)) hn hM rfl rfl rfl z1 ?_
  refine zr_fr hM rfl rfl rfl ?_
  refine zr_fr hM rfl rfl rfl ?_
  refine zr_fr hM rfl rfl rfl ?_
  refine zr_fr hM rfl rfl rfl ?_
  refine zr_iald (κ := (28, 0, 0)) hn hM rfl rfl rfl z2 ?_
  refine zr_virt (κ := (22, 0, 0)) hn hM rfl rfl rfl rfl rfl rfl rfl rfl rfl ?_
  refine zgo_ret rfl rfl c4_ ?_
  refine zr_fr (ls' := [.val (.ref (kad n (28, 0, 0))), .val (.ref (kad n (0, 0, 0))), .val (.ref (kad n (22, 0, 0))), .val (.ref (kad n (27, 0, 0))), .val (.int v4), .val (.int r3), .val (.int r4)]) hM rfl rfl (by cases w6 <;> rfl) ?_
  refine zr_fr hM rfl rfl rfl ?_
  refine zr_virt (κ := (22, 0, 0)) hn hM rfl rfl rfl rfl rfl rfl rfl rfl rfl ?_
  refine zgo_ret rfl rfl c5_ ?_
  rw [Bool.and_true]
  refine zr_fr hM rfl rfl rfl ?_
  refine zr_ict hM rfl rfl h6 ?_
  refine zr_fr hM rfl rfl rfl ?_
  refine zr_ift hM rfl rfl h7 ?_
  refine zr_fr hM rfl rfl rfl ?_
  exact k
set_option maxHeartbeats 4000000 in
set_option maxRecDepth 16384 in
theorem s144_897_t {n L : Nat} {σ : Ks} {g : List Nat} {cl : Bool} {r : Zr} {v4 : Int32} {w5 : Option Int32} {w6 : Option Int32} {x1 : Nat} {σ2 : Ks} {c2 : Bool} {r2 : Int32} {σ3 : Ks} {c3 : Bool} {r3 : Int32} (hn : 2 ≤ n ∧ n ≤ 5) (z1 : zix (v4 + (Int32.ofInt 1)) L = some x1) (c2_ : ZR 14 0 [.val (.ref (kad n (0, 0, 0))), .val (.int (σ 60 x1))] [] (khp n L σ g) true (.inl (some (.int r2)), khp n L σ2 g, c2)) (c3_ : ZR 132 0 [.val (.ref (kad n (22, 0, 0))), .val (.int (σ2 60 x1))] [] (khp n L σ2 g) true (.inl (some (.int r3)), khp n L σ3 g, c3)) (h4 : zcnd .eq r2 r3 = true) (k : ZR 144 1355 [.val (.ref (kad n (28, 0, 0))), .val (.ref (kad n (0, 0, 0))), .val (.ref (kad n (22, 0, 0))), .val (.ref (kad n (27, 0, 0))), .val (.int v4), zop w5, zop w6] [] (khp n L σ3 (g)) (cl && c2 && c3) r) : ZR 144 897 [.val (.ref (kad n (28, 0, 0))), .val (.ref (kad n (0, 0, 0))), .val (.ref (kad n (22, 0, 0))), .val (.ref (kad n (27, 0, 0))), .val (.int v4), zop w5, zop w6] [] (khp n L σ g) cl r := by
  have hM : zmi[144]? = some _ := rfl
  have l1 := (zix_some z1).2.2
  refine zr_fr hM rfl rfl rfl ?_
  refine zr_fr hM rfl rfl rfl ?_
  refine zr_fr hM rfl rfl rfl ?_
  refine zr_fr hM rfl rfl rfl ?_
  refine zr_fr hM rfl rfl rfl ?_
  refine zr_iald (κ := (28, 0, 0)) hn hM rfl rfl rfl z1 ?_
  refine zr_virt (κ := (0, 0, 0)) hn hM rfl rfl rfl rfl rfl rfl rfl rfl rfl ?_
  refine zgo_ret rfl rfl c2_ ?_
  refine zr_fr hM rfl rfl rfl ?_
  refine zr_fr hM rfl rfl rfl ?_
  refine zr_fr hM rfl rfl rfl ?_
  refine zr_fr hM rfl rfl rfl ?_
  refine zr_fr hM rfl rfl rfl ?_
  refine zr_iald (κ := (28, 0, 0)) hn hM rfl rfl rfl z1 ?_
  refine zr_virt (κ := (22, 0, 0)) hn hM rfl rfl rfl rfl rfl rfl rfl rfl rfl ?_
  refine zgo_ret rfl rfl c3_ ?_
  refine zr_ict hM rfl rfl h4 ?_
  exact k
set_option maxHeartbeats 4000000 in
set_option maxRecDepth 16384 in
theorem s144_922_t {n L : Nat} {σ : Ks} {g : List Nat} {cl : Bool} {r : Zr} {v4 : Int32} {w5 : Option Int32} {w6 : Option Int32} {x1 : Nat} {σ2 : Ks} {c2 : Bool} {r2 : Int32} {σ3 : Ks} {c3 : Bool} {r3 : Int32} (hn : 2 ≤ n ∧ n ≤ 5) (z1 : zix (v4 + (Int32.ofInt 1)) L = some x1) (c2_ : ZR 19 0 [.val (.ref (kad n (0, 0, 0))), .val (.int (σ 60 x1))] [] (khp n L σ g) true (.inl (some (.int r2)), khp n L σ2 g, c2)) (c3_ : ZR 133 0 [.val (.ref (kad n (22, 0, 0))), .val (.int (σ2 60 x1)), .unset] [] (khp n L σ2 g) true (.inl (some (.int r3)), khp n L σ3 g, c3)) (h4 : zcnd .eq r2 r3 = true) (k : ZR 144 1355 [.val (.ref (kad n (28, 0, 0))), .val (.ref (kad n (0, 0, 0))), .val (.ref (kad n (22, 0, 0))), .val (.ref (kad n (27, 0, 0))), .val (.int v4), zop w5, zop w6] [] (khp n L σ3 (g)) (cl && c2 && c3) r) : ZR 144 922 [.val (.ref (kad n (28, 0, 0))), .val (.ref (kad n (0, 0, 0))), .val (.ref (kad n (22, 0, 0))), .val (.ref (kad n (27, 0, 0))), .val (.int v4), zop w5, zop w6] [] (khp n L σ g) cl r := by
  have hM : zmi[144]? = some _ := rfl
  have l1 := (zix_some z1).2.2
  refine zr_fr hM rfl rfl rfl ?_
  refine zr_fr hM rfl rfl rfl ?_
  refine zr_fr hM rfl rfl rfl ?_
  refine zr_fr hM rfl rfl rfl ?_
  refine zr_fr hM rfl rfl rfl ?_
  refine zr_iald (κ := (28, 0, 0)) hn hM rfl rfl rfl z1 ?_
  refine zr_virt (κ := (0, 0, 0)) hn hM rfl rfl rfl rfl rfl rfl rfl rfl rfl ?_
  refine zgo_ret rfl rfl c2_ ?_
  refine zr_fr hM rfl rfl rfl ?_
  refine zr_fr hM rfl rfl rfl ?_
  refine zr_fr hM rfl rfl rfl ?_
  refine zr_fr hM rfl rfl rfl ?_
  refine zr_fr hM rfl rfl rfl ?_
  refine zr_iald (κ := (28, 0, 0)) hn hM rfl rfl rfl z1 ?_
  refine zr_virt (κ := (22, 0, 0)) hn hM rfl rfl rfl rfl rfl rfl rfl rfl rfl ?_
  refine zgo_ret rfl rfl c3_ ?_
  refine zr_ict hM rfl rfl h4 ?_
  exact k
set_option maxHeartbeats 4000000 in
set_option maxRecDepth 16384 in
theorem s144_947_t {n L : Nat} {σ : Ks} {g : List Nat} {cl : Bool} {r : Zr} {v4 : Int32} {w5 : Option Int32} {w6 : Option Int32} {x1 : Nat} {σ2 : Ks} {c2 : Bool} {r2 : Int32} {σ3 : Ks} {c3 : Bool} {r3 : Int32} (hn : 2 ≤ n ∧ n ≤ 5) (z1 : zix (v4 + (Int32.ofInt 1)) L = some x1) (c2_ : ZR 21 0 [.val (.ref (kad n (0, 0, 0))), .val (.int (σ 60 x1))] [] (khp n L σ g) true (.inl (some (.int r2)), khp n L σ2 g, c2)) (c3_ : ZR 134 0 [.val (.ref (kad n (22, 0, 0))), .val (.int (σ2 60 x1))] [] (khp n L σ2 g) true (.inl (some (.int r3)), khp n L σ3 g, c3)) (h4 : zcnd .eq r2 r3 = true) (k : ZR 144 1355 [.val (.ref (kad n (28, 0, 0))), .val (.ref (kad n (0, 0, 0))), .val (.ref (kad n (22, 0, 0))), .val (.ref (kad n (27, 0, 0))), .val (.int v4), zop w5, zop w6] [] (khp n L σ3 (g)) (cl && c2 && c3) r) : ZR 144 947 [.val (.ref (kad n (28, 0, 0))), .val (.ref (kad n (0, 0, 0))), .val (.ref (kad n (22, 0, 0))), .val (.ref (kad n (27, 0, 0))), .val (.int v4), zop w5, zop w6] [] (khp n L σ g) cl r := by
  have hM : zmi[144]? = some _ := rfl
  have l1 := (zix_some z1).2.2
  refine zr_fr hM rfl rfl rfl ?_
  refine zr_fr hM rfl rfl rfl ?_
  refine zr_fr hM rfl rfl rfl ?_
  refine zr_fr hM rfl rfl rfl ?_
  refine zr_fr hM rfl rfl rfl ?_
  refine zr_iald (κ := (28, 0, 0)) hn hM rfl rfl rfl z1 ?_
  refine zr_virt (κ := (0, 0, 0)) hn hM rfl rfl rfl rfl rfl rfl rfl rfl rfl ?_
  refine zgo_ret rfl rfl c2_ ?_
  refine zr_fr hM rfl rfl rfl ?_
  refine zr_fr hM rfl rfl rfl ?_
  refine zr_fr hM rfl rfl rfl ?_
  refine zr_fr hM rfl rfl rfl ?_
  refine zr_fr hM rfl rfl rfl ?_
  refine zr_iald (κ := (28, 0, 0)) hn hM rfl rfl rfl z1 ?_
  refine zr_virt (κ := (22, 0, 0)) hn hM rfl rfl rfl rfl rfl rfl rfl rfl rfl ?_
  refine zgo_ret rfl rfl c3_ ?_
  refine zr_ict hM rfl rfl h4 ?_
  exact k
set_option maxHeartbeats 4000000 in
set_option maxRecDepth 16384 in
theorem s144_972_tft {n L : Nat} {σ : Ks} {g g3 : List Nat} {cl : Bool} {r : Zr} {v4 : Int32} {w5 : Option Int32} {w6 : Option Int32} {x1 : Nat} {σ2 : Ks} {c2 : Bool} {r2 : Int32} {σ3 : Ks} {c3 : Bool} {r3 : Int32} {r4 : Int32} {x7 : Nat} (hn : 2 ≤ n ∧ n ≤ 5) (z1 : zix (v4 + (Int32.ofInt 1)) L = some x1) (c2_ : ZR 84 0 [.val (.ref (kad n (0, 0, 0))), .val (.int (σ 60 x1)), .val (.ref (kad n (27, 0, 0))), .unset] [] (khp n L σ g) true (.inl (some (.int r2)), khp n L σ2 g3, c2)) (c3_ : ZR 99 0 [.val (.ref (kad n (22, 0, 0))), .val (.int (σ2 60 x1)), .unset, .unset, .unset, .unset, .unset, .unset, .unset, .unset] [] (khp n L σ2 g3) true (.inl (some (.int r3)), khp n L σ3 g3, c3)) (c4_ : ZR 98 0 [.val (.ref (kad n (22, 0, 0)))] [] (khp n L σ3 g3) true (.inl (some (.int r4)), khp n L σ3 g3, true)) (h5 : zcnd .eq r4 r2 = true) (h6 : zcnd .ne r2 0 = false) (z7 : zix (Int32.ofInt 0) 1 = some x7) (h8 : zcnd .eq (lg_cmp (σ3 50 x7).toInt64 r3.toInt64) 0 = true) (k : ZR 144 1355 [.val (.ref (kad n (28, 0, 0))), .val (.ref (kad n (0, 0, 0))), .val (.ref (kad n (22, 0, 0))), .val (.ref (kad n (27, 0, 0))), .val (.int v4), .val (.int r2), .val (.int r3)] [] (khp n L σ3 g3) (cl && c2 && c3) r) : ZR 144 972 [.val (.ref (kad n (28, 0, 0))), .val (.ref (kad n (0, 0, 0))), .val (.ref (kad n (22, 0, 0))), .val (.ref (kad n (27, 0, 0))), .val (.int v4), zop w5, zop w6] [] (khp n L σ g) cl r := by
  have hM : zmi[144]? = some _ := rfl
  have l1 := (zix_some z1).2.2
  have l7 := (zix_some z7).2.2
  refine zr_fr hM rfl rfl rfl ?_
  refine zr_fr hM rfl rfl rfl ?_
  refine zr_fr hM rfl rfl rfl ?_
  refine zr_fr hM rfl rfl rfl ?_
  refine zr_fr hM rfl rfl rfl ?_
  refine zr_iald (κ := (28, 0, 0)) hn hM rfl rfl rfl z1 ?_
  refine zr_fr hM rfl rfl rfl ?_
  refine zr_stat hM rfl rfl rfl rfl rfl rfl ?_
  refine zgo_ret rfl rfl c2_ ?_
  refine zr_fr (ls' := [.val (.ref (kad n (28, 0, 0))), .val (.ref (kad n (0, 0, 0))), .val (.ref (kad n (22, 0, 0))), .val (.ref (kad n (27, 0, 0))), .val (.int v4), .val (.int r2), zop w6]) hM rfl rfl (by cases w5 <;> rfl) ?_
  refine zr_fr hM rfl rfl rfl ?_
  refine zr_fr hM rfl rfl rfl ?_
  refine zr_fr hM rfl rfl rfl ?_
  refine zr_fr hM rfl rfl rfl ?_
  refine zr_fr hM rfl rfl rfl ?_
  refine zr_iald (κ := (28, 0, 0)) hn hM rfl rfl rfl z1 ?_
  refine zr_virt (κ := (22, 0, 0)) hn hM rfl rfl rfl rfl rfl rfl rfl rfl rfl ?_
  refine zgo_ret rfl rfl c3_ ?_
  refine zr_fr (ls' := [.val (.ref (kad n (28, 0, 0))), .val (.ref (kad n (0, 0, 0))), .val (.ref (kad n (22, 0, 0))), .val (.ref (kad n (27, 0, 0))), .val (.int v4), .val (.int r2), .val (.int r3)]) hM rfl rfl (by cases w6 <;> rfl) ?_
  refine zr_fr hM rfl rfl rfl ?_
  refine zr_virt (κ := (22, 0, 0)) hn hM rfl rfl rfl rfl rfl rfl rfl rfl rfl ?_
  refine zgo_ret rfl rfl c4_ ?_
  rw [Bool.and_true]
  refine zr_fr hM rfl rfl rfl ?_
  refine zr_ict hM rfl rfl h5 ?_
  refine zr_fr hM rfl rfl rfl ?_
  refine zr_iff hM rfl rfl h6 ?_
  refine zr_fr hM rfl rfl rfl ?_
  refine zr_fr hM rfl rfl rfl ?_
  refine zr_lald (κ := (27, 0, 0)) hn hM rfl rfl rfl z7 ?_
  refine zr_fr hM rfl rfl rfl ?_
  refine zr_fr hM rfl rfl rfl ?_
  refine zr_fr hM rfl rfl rfl ?_
  refine zr_ift hM rfl rfl h8 ?_
  refine zr_fr hM rfl rfl rfl ?_
  exact k
set_option maxHeartbeats 4000000 in
set_option maxRecDepth 16384 in
theorem s144_972_tt {n L : Nat} {σ : Ks} {g g3 : List Nat} {cl : Bool} {r : Zr} {v4 : Int32} {w5 : Option Int32} {w6 : Option Int32} {x1 : Nat} {σ2 : Ks} {c2 : Bool} {r2 : Int32} {σ3 : Ks} {c3 : Bool} {r3 : Int32} {r4 : Int32} (hn : 2 ≤ n ∧ n ≤ 5) (z1 : zix (v4 + (Int32.ofInt 1)) L = some x1) (c2_ : ZR 84 0 [.val (.ref (kad n (0, 0, 0))), .val (.int (σ 60 x1)), .val (.ref (kad n (27, 0, 0))), .unset] [] (khp n L σ g) true (.inl (some (.int r2)), khp n L σ2 g3, c2)) (c3_ : ZR 99 0 [.val (.ref (kad n (22, 0, 0))), .val (.int (σ2 60 x1)), .unset, .unset, .unset, .unset, .unset, .unset, .unset, .unset] [] (khp n L σ2 g3) true (.inl (some (.int r3)), khp n L σ3 g3, c3)) (c4_ : ZR 98 0 [.val (.ref (kad n (22, 0, 0)))] [] (khp n L σ3 g3) true (.inl (some (.int r4)), khp n L σ3 g3, true)) (h5 : zcnd .eq r4 r2 = true) (h6 : zcnd .ne r2 0 = true) (k : ZR 144 1355 [.val (.ref (kad n (28, 0, 0))), .val (.ref (kad n (0, 0, 0))), .val (.ref (kad n (22, 0, 0))), .val (.ref (kad n (27, 0, 0))), .val (.int v4), .val (.int r2), .val (.int r3)] [] (khp n L σ3 g3) (cl && c2 && c3) r) : ZR 144 972 [.val (.ref (kad n (28, 0, 0))), .val (.ref (kad n (0, 0, 0))), .val (.ref (kad n (22, 0, 0))), .val (.ref (kad n (27, 0, 0))), .val (.int v4), zop w5, zop w6] [] (khp n L σ g) cl r := by
  have hM : zmi[144]? = some _ := rfl
  have l1 := (zix_some z1).2.2
  refine zr_fr hM rfl rfl rfl ?_
  refine zr_fr hM rfl rfl rfl ?_
  refine zr_fr hM rfl rfl rfl ?_
  refine zr_fr hM rfl rfl rfl ?_
  refine zr_fr hM rfl rfl rfl ?_
  refine zr_iald (κ := (28, 0, 0)) hn hM rfl rfl rfl z1 ?_
  refine zr_fr hM rfl rfl rfl ?_
  refine zr_stat hM rfl rfl rfl rfl rfl rfl ?_
  refine zgo_ret rfl rfl c2_ ?_
  refine zr_fr (ls' := [.val (.ref (kad n (28, 0, 0))), .val (.ref (kad n (0, 0, 0))), .val (.ref (kad n (22, 0, 0))), .val (.ref (kad n (27, 0, 0))), .val (.int v4), .val (.int r2), zop w6]) hM rfl rfl (by cases w5 <;> rfl) ?_
  refine zr_fr hM rfl rfl rfl ?_
  refine zr_fr hM rfl rfl rfl ?_
  refine zr_fr hM rfl rfl rfl ?_
  refine zr_fr hM rfl rfl rfl ?_
  refine zr_fr hM rfl rfl rfl ?_
  refine zr_iald (κ := (28, 0, 0)) hn hM rfl rfl rfl z1 ?_
  refine zr_virt (κ := (22, 0, 0)) hn hM rfl rfl rfl rfl rfl rfl rfl rfl rfl ?_
  refine zgo_ret rfl rfl c3_ ?_
  refine zr_fr (ls' := [.val (.ref (kad n (28, 0, 0))), .val (.ref (kad n (0, 0, 0))), .val (.ref (kad n (22, 0, 0))), .val (.ref (kad n (27, 0, 0))), .val (.int v4), .val (.int r2), .val (.int r3)]) hM rfl rfl (by cases w6 <;> rfl) ?_
  refine zr_fr hM rfl rfl rfl ?_
  refine zr_virt (κ := (22, 0, 0)) hn hM rfl rfl rfl rfl rfl rfl rfl rfl rfl ?_
  refine zgo_ret rfl rfl c4_ ?_
  rw [Bool.and_true]
  refine zr_fr hM rfl rfl rfl ?_
  refine zr_ict hM rfl rfl h5 ?_
  refine zr_fr hM rfl rfl rfl ?_
  refine zr_ift hM rfl rfl h6 ?_
  refine zr_fr hM rfl rfl rfl ?_
  exact k
set_option maxHeartbeats 4000000 in
set_option maxRecDepth 16384 in
theorem s144_1028_t {n L : Nat} {σ : Ks} {g : List Nat} {cl : Bool} {r : Zr} {v4 : Int32} {w5 : Option Int32} {w6 : Option Int32} {x1 : Nat} {σ2 : Ks} {c2 : Bool} {r2 : Int32} {σ3 : Ks} {c3 : Bool} {r3 : Int32} (hn : 2 ≤ n ∧ n ≤ 5) (z1 : zix (v4 + (Int32.ofInt 1)) L = some x1) (c2_ : ZR 22 0 [.val (.ref (kad n (0, 0, 0))), .val (.int (σ 60 x1))] [] (khp n L σ g) true (.inl (some (.int r2)), khp n L σ2 g, c2)) (c3_ : ZR 110 0 [.val (.ref (kad n (22, 0, 0))), .val (.int (σ2 60 x1))] [] (khp n L σ2 g) true (.inl (some (.int r3)), khp n L σ3 g, c3)) (h4 : zcnd .eq r2 r3 = true) (k : ZR 144 1355 [.val (.ref (kad n (28, 0, 0))), .val (.ref (kad n (0, 0, 0))), .val (.ref (kad n (22, 0, 0))), .val (.ref (kad n (27, 0, 0))), .val (.int v4), zop w5, zop w6] [] (khp n L σ3 (g)) (cl && c2 && c3) r) : ZR 144 1028 [.val (.ref (kad n (28, 0, 0))), .val (.ref (kad n (0, 0, 0))), .val (.ref (kad n (22, 0, 0))), .val (.ref (kad n (27, 0, 0))), .val (.int v4), zop w5, zop w6] [] (khp n L σ g) cl r := by
  have hM : zmi[144]? = some _ := rfl
  have l1 := (zix_some z1).2.2
  refine zr_fr hM rfl rfl rfl ?_
  refine zr_fr hM rfl rfl rfl ?_
  refine zr_fr hM rfl rfl rfl ?_
  refine zr_fr hM rfl rfl rfl ?_
  refine zr_fr hM rfl rfl rfl ?_
  refine zr_iald (κ := (28, 0, 0)) hn hM rfl rfl rfl z1 ?_
  refine zr_virt (κ := (0, 0, 0)) hn hM rfl rfl rfl rfl rfl rfl rfl rfl rfl ?_
  refine zgo_ret rfl rfl c2_ ?_
  refine zr_fr hM rfl rfl rfl ?_
  refine zr_fr hM rfl rfl rfl ?_
  refine zr_fr hM rfl rfl rfl ?_
  refine zr_fr hM rfl rfl rfl ?_
  refine zr_fr hM rfl rfl rfl ?_
  refine zr_iald (κ := (28, 0, 0)) hn hM rfl rfl rfl z1 ?_
  refine zr_virt (κ := (22, 0, 0)) hn hM rfl rfl rfl rfl rfl rfl rfl rfl rfl ?_
  refine zgo_ret rfl rfl c3_ ?_
  refine zr_ict hM rfl rfl h4 ?_
  exact k
set_option maxHeartbeats 4000000 in
set_option maxRecDepth 16384 in
theorem s144_1053_t {n L : Nat} {σ : Ks} {g : List Nat} {cl : Bool} {r : Zr} {v4 : Int32} {w5 : Option Int32} {w6 : Option Int32} {x1 : Nat} {σ2 : Ks} {c2 : Bool} {r2 : Int32} {σ3 : Ks} {c3 : Bool} {r3 : Int32} (hn : 2 ≤ n ∧ n ≤ 5) (z1 : zix (v4 + (Int32.ofInt 1)) L = some x1) (c2_ : ZR 25 0 [.val (.ref (kad n (0, 0, 0))), .val (.int (σ 60 x1))] [] (khp n L σ g) true (.inl (some (.int r2)), khp n L σ2 g, c2)) (c3_ : ZR 111 0 [.val (.ref (kad n (22, 0, 0))), .val (.int (σ2 60 x1)), .unset] [] (khp n L σ2 g) true (.inl (some (.int r3)), khp n L σ3 g, c3)) (h4 : zcnd .eq r2 r3 = true) (k : ZR 144 1355 [.val (.ref (kad n (28, 0, 0))), .val (.ref (kad n (0, 0, 0))), .val (.ref (kad n (22, 0, 0))), .val (.ref (kad n (27, 0, 0))), .val (.int v4), zop w5, zop w6] [] (khp n L σ3 (g)) (cl && c2 && c3) r) : ZR 144 1053 [.val (.ref (kad n (28, 0, 0))), .val (.ref (kad n (0, 0, 0))), .val (.ref (kad n (22, 0, 0))), .val (.ref (kad n (27, 0, 0))), .val (.int v4), zop w5, zop w6] [] (khp n L σ g) cl r := by
  have hM : zmi[144]? = some _ := rfl
  have l1 := (zix_some z1).2.2
  refine zr_fr hM rfl rfl rfl ?_
  refine zr_fr hM rfl rfl rfl ?_
  refine zr_fr hM rfl rfl rfl ?_
  refine zr_fr hM rfl rfl rfl ?_
  refine zr_fr hM rfl rfl rfl ?_
  refine zr_iald (κ := (28, 0, 0)) hn hM rfl rfl rfl z1 ?_
  refine zr_virt (κ := (0, 0, 0)) hn hM rfl rfl rfl rfl rfl rfl rfl rfl rfl ?_
  refine zgo_ret rfl rfl c2_ ?_
  refine zr_fr hM rfl rfl rfl ?_
  refine zr_fr hM rfl rfl rfl ?_
  refine zr_fr hM rfl rfl rfl ?_
  refine zr_fr hM rfl rfl rfl ?_
  refine zr_fr hM rfl rfl rfl ?_
  refine zr_iald (κ := (28, 0, 0)) hn hM rfl rfl rfl z1 ?_
  refine zr_virt (κ := (22, 0, 0)) hn hM rfl rfl rfl rfl rfl rfl rfl rfl rfl ?_
  refine zgo_ret rfl rfl c3_ ?_
  refine zr_ict hM rfl rfl h4 ?_
  exact k
set_option maxHeartbeats 4000000 in
set_option maxRecDepth 16384 in
theorem s144_1078_t {n L : Nat} {σ : Ks} {g : List Nat} {cl : Bool} {r : Zr} {v4 : Int32} {w5 : Option Int32} {w6 : Option Int32} {x1 : Nat} {x2 : Nat} {σ3 : Ks} {c3 : Bool} {r3 : Int32} {σ4 : Ks} {c4 : Bool} {r4 : Int32} (hn : 2 ≤ n ∧ n ≤ 5) (z1 : zix (v4 + (Int32.ofInt 1)) L = some x1) (z2 : zix (v4 + (Int32.ofInt 2)) L = some x2) (c3_ : ZR 28 0 [.val (.ref (kad n (0, 0, 0))), .val (.int (σ 60 x1)), .val (.int (σ 60 x2))] [] (khp n L σ g) true (.inl (some (.int r3)), khp n L σ3 g, c3)) (c4_ : ZR 112 0 [.val (.ref (kad n (22, 0, 0))), .val (.int (σ3 60 x1)), .val (.int (σ3 60 x2))] [] (khp n L σ3 g) true (.inl (some (.int r4)), khp n L σ4 g, c4)) (h5 : zcnd .eq r3 r4 = true) (k : ZR 144 1355 [.val (.ref (kad n (28, 0, 0))), .val (.ref (kad n (0, 0, 0))), .val (.ref (kad n (22, 0, 0))), .val (.ref (kad n (27, 0, 0))), .val (.int v4), zop w5, zop w6] [] (khp n L σ4 (g)) (cl && c3 && c4) r) : ZR 144 1078 [.val (.ref (kad n (28, 0, 0))), .val (.ref (kad n (0, 0, 0))), .val (.ref (kad n (22, 0, 0))), .val (.ref (kad n (27, 0, 0))), .val (.int v4), zop w5, zop w6] [] (khp n L σ g) cl r := by
  have hM : zmi[144]? = some _ := rfl
  have l1 := (zix_some z1).2.2
  have l2 := (zix_some z2).2.2
  refine zr_fr hM rfl rfl rfl ?_
  refine zr_fr hM rfl rfl rfl ?_
  refine zr_fr hM rfl rfl rfl ?_
  refine zr_fr hM rfl rfl rfl ?_
  refine zr_fr hM rfl rfl rfl ?_
  refine zr_iald (κ := (28, 0, 0)) hn hM rfl rfl rfl z1 ?_
  refine zr_fr hM rfl rfl rfl ?_
  refine zr_fr hM rfl rfl rfl ?_
  refine zr_fr hM rfl rfl rfl ?_
  refine zr_fr hM rfl rfl rfl ?_
  refine zr_iald (κ := (28, 0, 0)) hn hM rfl rfl rfl z2 ?_
  refine zr_virt (κ := (0, 0, 0)) hn hM rfl rfl rfl rfl rfl rfl rfl rfl rfl ?_
  refine zgo_ret rfl rfl c3_ ?_
  refine zr_fr hM rfl rfl rfl ?_
  refine zr_fr hM rfl rfl rfl ?_
  refine zr_fr hM rfl rfl rfl ?_
  refine zr_fr hM rfl rfl rfl ?_
  refine zr_fr hM rfl rfl rfl ?_
  refine zr_iald (κ := (28, 0, 0)) hn hM rfl rfl rfl z1 ?_
  refine zr_fr hM rfl rfl rfl ?_
  refine zr_fr hM rfl rfl rfl ?_
  refine zr_fr hM rfl rfl rfl ?_
  refine zr_fr hM rfl rfl rfl ?_
  refine zr_iald (κ := (28, 0, 0)) hn hM rfl rfl rfl z2 ?_
  refine zr_virt (κ := (22, 0, 0)) hn hM rfl rfl rfl rfl rfl rfl rfl rfl rfl ?_
  refine zgo_ret rfl rfl c4_ ?_
  refine zr_ict hM rfl rfl h5 ?_
  exact k
set_option maxHeartbeats 4000000 in
set_option maxRecDepth 16384 in
theorem s144_1115_tft {n L : Nat} {σ : Ks} {g g3 : List Nat} {cl : Bool} {r : Zr} {v4 : Int32} {w5 : Option Int32} {w6 : Option Int32} {x1 : Nat} {x2 : Nat} {x3 : Nat} {σ4 : Ks} {c4 : Bool} {r4 : Int32} {σ5 : Ks} {c5 : Bool} {r5 : Int32} {r6 : Int32} {x9 : Nat} (hn : 2 ≤ n ∧ n ≤ 5) (z1 : zix (v4 + (Int32.ofInt 1)) L = some x1) (z2 : zix (v4 + (Int32.ofInt 2)) L = some x2) (z3 : zix (v4 + (Int32.ofInt 3)) L = some x3) (c4_ : ZR 92 0 [.val (.ref (kad n (0, 0, 0))), .val (.int (σ 60 x1)), .val (.int (σ 60 x2)), .val (.int (σ 60 x3)), .val (.ref (kad n (27, 0, 0))), .unset] [] (khp n L σ g) true (.inl (some (.int r4)), khp n L σ4 g3, c4)) (c5_ : ZR 135 0 [.val (.ref (kad n (22, 0, 0))), .val (.int (σ4 60 x1)), .val (.int (σ4 60 x2)), .val (.int (σ4 60 x3))] [] (khp n L σ4 g3) true (.inl (some (.int r5)), khp n L σ5 g3, c5)) (c6_ : ZR 98 0 [.val (.ref (kad n (22, 0, 0)))] [] (khp n L σ5 g3) true (.inl (some (.int r6)), khp n L σ5 g3, true)) (h7 : zcnd .eq r6 r4 = true) (h8 : zcnd .ne r4 0 = false) (z9 : zix (Int32.ofInt 0) 1 = some x9) (h10 : zcnd .eq (lg_cmp (σ5 50 x9).toInt64 r5.toInt64) 0 = true) (k : ZR 144 1355 [.val (.ref (kad n (28, 0, 0))), .val (.ref (kad n (0, 0, 0))), .val (.ref (kad n (22, 0, 0))), .val (.ref (kad n (27, 0, 0))), .val (.int v4), .val (.int r4), .val (.int r5)] [] (khp n L σ5 g3) (cl && c4 && c5) r) : ZR 144 1115 [.val (.ref (kad n (28, 0, 0))), .val (.ref (kad n (0, 0, 0))), .val (.ref (kad n (22, 0, 0))), .val (.ref (kad n (27, 0, 0))), .val (.int v4), zop w5, zop w6] [] (khp n L σ g) cl r := by
  have hM : zmi[144]? = some _ := rfl
  have l1 := (zix_some z1).2.2
  have l2 := (zix_some z2).2.2
  have l3 := (zix_some z3).2.2
  have l9 := (zix_some z9).2.2
  refine zr_fr hM rfl rfl rfl ?_
  refine zr_fr hM rfl rfl rfl ?_
  refine zr_fr hM rfl rfl rfl ?_
  refine zr_fr hM rfl rfl rfl ?_
  refine zr_fr hM rfl rfl rfl ?_
  refine zr_iald (κ := (28, 0, 0)) hn hM rfl rfl rfl z1 ?_
  refine zr_fr hM rfl rfl rfl ?_
  refine zr_fr hM rfl rfl rfl ?_
  refine zr_fr hM rfl rfl rfl ?_
  refine zr_fr hM rfl rfl rfl ?_
  refine zr_iald (κ := (28, 0, 0)) hn hM rfl rfl rfl z2 ?_
  refine zr_fr hM rfl rfl rfl ?_
  refine zr_fr hM rfl rfl rfl ?_
  refine zr_fr hM rfl rfl rfl ?_
  refine zr_fr hM rfl rfl rfl ?_
  refine zr_iald (κ := (28, 0, 0)) hn hM rfl rfl rfl z3 ?_
  refine zr_fr hM rfl rfl rfl ?_
  refine zr_stat hM rfl rfl rfl rfl rfl rfl ?_
  refine zgo_ret rfl rfl c4_ ?_
  refine zr_fr (ls' := [.val (.ref (kad n (28, 0, 0))), .val (.ref (kad n (0, 0, 0))), .val (.ref (kad n (22, 0, 0))), .val (.ref (kad n (27, 0, 0))), .val (.int v4), .val (.int r4), zop w6]) hM rfl rfl (by cases w5 <;> rfl) ?_
  refine zr_fr hM rfl rfl rfl ?_
  refine zr_fr hM rfl rfl rfl ?_
  refine zr_fr hM rfl rfl rfl ?_
  refine zr_fr hM rfl rfl rfl ?_
  refine zr_fr hM rfl rfl rfl ?_
  refine zr_iald (κ := (28, 0, 0)) hn hM rfl rfl rfl z1 ?_
  refine zr_fr hM rfl rfl rfl ?_
  refine zr_fr hM rfl rfl rfl ?_
  refine zr_fr hM rfl rfl rfl ?_
  refine zr_fr hM rfl rfl rfl ?_
  refine zr_iald (κ := (28, 0, 0)) hn hM rfl rfl rfl z2 ?_
  refine zr_fr hM rfl rfl rfl ?_
  refine zr_fr hM rfl rfl rfl ?_
  refine zr_fr hM rfl rfl rfl ?_
  refine zr_fr hM rfl rfl rfl ?_
  refine zr_iald (κ := (28, 0, 0)) hn hM rfl rfl rfl z3 ?_
  refine zr_virt (κ := (22, 0, 0)) hn hM rfl rfl rfl rfl rfl rfl rfl rfl rfl ?_
  refine zgo_ret rfl rfl c5_ ?_
  refine zr_fr (ls' := [.val (.ref (kad n (28, 0, 0))), .val (.ref (kad n (0, 0, 0))), .val (.ref (kad n (22, 0, 0))), .val (.ref (kad n (27, 0, 0))), .val (.int v4), .val (.int r4), .val (.int r5)]) hM rfl rfl (by cases w6 <;> rfl) ?_
  refine zr_fr hM rfl rfl rfl ?_
  refine zr_virt (κ := (22, 0, 0)) hn hM rfl rfl rfl rfl rfl rfl rfl rfl rfl ?_
  refine zgo_ret rfl rfl c6_ ?_
  rw [Bool.and_true]
  refine zr_fr hM rfl rfl rfl ?_
  refine zr_ict hM rfl rfl h7 ?_
  refine zr_fr hM rfl rfl rfl ?_
  refine zr_iff hM rfl rfl h8 ?_
  refine zr_fr hM rfl rfl rfl ?_
  refine zr_fr hM rfl rfl rfl ?_
  refine zr_lald (κ := (27, 0, 0)) hn hM rfl rfl rfl z9 ?_
  refine zr_fr hM rfl rfl rfl ?_
  refine zr_fr hM rfl rfl rfl ?_
  refine zr_fr hM rfl rfl rfl ?_
  refine zr_ift hM rfl rfl h10 ?_
  refine zr_fr hM rfl rfl rfl ?_
  exact k
set_option maxHeartbeats 4000000 in
set_option maxRecDepth 16384 in
theorem s144_1115_tt {n L : Nat} {σ : Ks} {g g3 : List Nat} {cl : Bool} {r : Zr} {v4 : Int32} {w5 : Option Int32} {w6 : Option Int32} {x1 : Nat} {x2 : Nat} {x3 : Nat} {σ4 : Ks} {c4 : Bool} {r4 : Int32} {σ5 : Ks} {c5 : Bool} {r5 : Int32} {r6 : Int32} (hn : 2 ≤ n ∧ n ≤ 5) (z1 : zix (v4 + (Int32.ofInt 1)) L = some x1) (z2 : zix (v4 + (Int32.ofInt 2)) L = some x2) (z3 : zix (v4 + (Int32.ofInt 3)) L = some x3) (c4_ : ZR 92 0 [.val (.ref (kad n (0, 0, 0))), .val (.int (σ 60 x1)), .val (.int (σ 60 x2)), .val (.int (σ 60 x3)), .val (.ref (kad n (27, 0, 0))), .unset] [] (khp n L σ g) true (.inl (some (.int r4)), khp n L σ4 g3, c4)) (c5_ : ZR 135 0 [.val (.ref (kad n (22, 0, 0))), .val (.int (σ4 60 x1)), .val (.int (σ4 60 x2)), .val (.int (σ4 60 x3))] [] (khp n L σ4 g3) true (.inl (some (.int r5)), khp n L σ5 g3, c5)) (c6_ : ZR 98 0 [.val (.ref (kad n (22, 0, 0)))] [] (khp n L σ5 g3) true (.inl (some (.int r6)), khp n L σ5 g3, true)) (h7 : zcnd .eq r6 r4 = true) (h8 : zcnd .ne r4 0 = true) (k : ZR 144 1355 [.val (.ref (kad n (28, 0, 0))), .val (.ref (kad n (0, 0, 0))), .val (.ref (kad n (22, 0, 0))), .val (.ref (kad n (27, 0, 0))), .val (.int v4), .val (.int r4), .val (.int r5)] [] (khp n L σ5 g3) (cl && c4 && c5) r) : ZR 144 1115 [.val (.ref (kad n (28, 0, 0))), .val (.ref (kad n (0, 0, 0))), .val (.ref (kad n (22, 0, 0))), .val (.ref (kad n (27, 0, 0))), .val (.int v4), zop w5, zop w6] [] (khp n L σ g) cl r := by
  have hM : zmi[144]? = some _ := rfl
  have l1 := (zix_some z1).2.2
  have l2 := (zix_some z2).2.2
  have l3 := (zix_some z3).2.2
  refine zr_fr hM rfl rfl rfl ?_
  refine zr_fr hM rfl rfl rfl ?_
  refine zr_fr hM rfl rfl rfl ?_
  refine zr_fr hM rfl rfl rfl ?_
  refine zr_fr hM rfl rfl rfl ?_
  refine zr_iald (κ := (28, 0, 0)) hn hM rfl rfl rfl z1 ?_
  refine zr_fr hM rfl rfl rfl ?_
  refine zr_fr hM rfl rfl rfl ?_
  refine zr_fr hM rfl rfl rfl ?_
  refine zr_fr hM rfl rfl rfl ?_
  refine zr_iald (κ := (28, 0, 0)) hn hM rfl rfl rfl z2 ?_
  refine zr_fr hM rfl rfl rfl ?_
  refine zr_fr hM rfl rfl rfl ?_
  refine zr_fr hM rfl rfl rfl ?_
  refine zr_fr hM rfl rfl rfl ?_
  refine zr_iald (κ := (28, 0, 0)) hn hM rfl rfl rfl z3 ?_
  refine zr_fr hM rfl rfl rfl ?_
  refine zr_stat hM rfl rfl rfl rfl rfl rfl ?_
  refine zgo_ret rfl rfl c4_ ?_
  refine zr_fr (ls' := [.val (.ref (kad n (28, 0, 0))), .val (.ref (kad n (0, 0, 0))), .val (.ref (kad n (22, 0, 0))), .val (.ref (kad n (27, 0, 0))), .val (.int v4), .val (.int r4), zop w6]) hM rfl rfl (by cases w5 <;> rfl) ?_
  refine zr_fr hM rfl rfl rfl ?_
  refine zr_fr hM rfl rfl rfl ?_
  refine zr_fr hM rfl rfl rfl ?_
  refine zr_fr hM rfl rfl rfl ?_
  refine zr_fr hM rfl rfl rfl ?_
  refine zr_iald (κ := (28, 0, 0)) hn hM rfl rfl rfl z1 ?_
  refine zr_fr hM rfl rfl rfl ?_
  refine zr_fr hM rfl rfl rfl ?_
  refine zr_fr hM rfl rfl rfl ?_
  refine zr_fr hM rfl rfl rfl ?_
  refine zr_iald (κ := (28, 0, 0)) hn hM rfl rfl rfl z2 ?_
  refine zr_fr hM rfl rfl rfl ?_
  refine zr_fr hM rfl rfl rfl ?_
  refine zr_fr hM rfl rfl rfl ?_
  refine zr_fr hM rfl rfl rfl ?_
  refine zr_iald (κ := (28, 0, 0)) hn hM rfl rfl rfl z3 ?_
  refine zr_virt (κ := (22, 0, 0)) hn hM rfl rfl rfl rfl rfl rfl rfl rfl rfl ?_
  refine zgo_ret rfl rfl c5_ ?_
  refine zr_fr (ls' := [.val (.ref (kad n (28, 0, 0))), .val (.ref (kad n (0, 0, 0))), .val (.ref (kad n (22, 0, 0))), .val (.ref (kad n (27, 0, 0))), .val (.int v4), .val (.int r4), .val (.int r5)]) hM rfl rfl (by cases w6 <;> rfl) ?_
  refine zr_fr hM rfl rfl rfl ?_
  refine zr_virt (κ := (22, 0, 0)) hn hM rfl rfl rfl rfl rfl rfl rfl rfl rfl ?_
  refine zgo_ret rfl rfl c6_ ?_
  rw [Bool.and_true]
  refine zr_fr hM rfl rfl rfl ?_
  refine zr_ict hM rfl rfl h7 ?_
  refine zr_fr hM rfl rfl rfl ?_
  refine zr_ift hM rfl rfl h8 ?_
  refine zr_fr hM rfl rfl rfl ?_
  exact k
set_option maxHeartbeats 4000000 in
set_option maxRecDepth 16384 in
theorem s144_1195_t {n L : Nat} {σ : Ks} {g : List Nat} {cl : Bool} {r : Zr} {v4 : Int32} {w5 : Option Int32} {w6 : Option Int32} {x1 : Nat} {x2 : Nat} {x3 : Nat} {σ4 : Ks} {c4 : Bool} {r4 : Int32} {σ5 : Ks} {c5 : Bool} {r5 : Int32} (hn : 2 ≤ n ∧ n ≤ 5) (z1 : zix (v4 + (Int32.ofInt 1)) L = some x1) (z2 : zix (v4 + (Int32.ofInt 2)) L = some x2) (z3 : zix (v4 + (Int32.ofInt 3)) L = some x3) (c4_ : ZR 30 0 [.val (.ref (kad n (0, 0, 0))), .val (.int (σ 60 x1)), .val (.int (σ 60 x2)), .val (.int (σ 60 x3))] [] (khp n L σ g) true (.inl (some (.int r4)), khp n L σ4 g, c4)) (c5_ : ZR 137 0 [.val (.ref (kad n (22, 0, 0))), .val (.int (σ4 60 x1)), .val (.int (σ4 60 x2)), .val (.int (σ4 60 x3))] [] (khp n L σ4 g) true (.inl (some (.int r5)), khp n L σ5 g, c5)) (h6 : zcnd .eq r4 r5 = true) (k : ZR 144 1355 [.val (.ref (kad n (28, 0, 0))), .val (.ref (kad n (0, 0, 0))), .val (.ref (kad n (22, 0, 0))), .val (.ref (kad n (27, 0, 0))), .val (.int v4), zop w5, zop w6] [] (khp n L σ5 (g)) (cl && c4 && c5) r) : ZR 144 1195 [.val (.ref (kad n (28, 0, 0))), .val (.ref (kad n (0, 0, 0))), .val (.ref (kad n (22, 0, 0))), .val (.ref (kad n (27, 0, 0))), .val (.int v4), zop w5, zop w6] [] (khp n L σ g) cl r := by
  have hM : zmi[144]? = some _ := rfl
  have l1 := (zix_some z1).2.2
  have l2 := (zix_some z2).2.2
  have l3 := (zix_some z3).2.2
  refine zr_fr hM rfl rfl rfl ?_
  refine zr_fr hM rfl rfl rfl ?_
  refine zr_fr hM rfl rfl rfl ?_
  refine zr_fr hM rfl rfl rfl ?_
  refine zr_fr hM rfl rfl rfl ?_
  refine zr_iald (κ := (28, 0, 0)) hn hM rfl rfl rfl z1 ?_
  refine zr_fr hM rfl rfl rfl ?_
  refine zr_fr hM rfl rfl rfl ?_
  refine zr_fr hM rfl rfl rfl ?_
  refine zr_fr hM rfl rfl rfl ?_
  refine zr_iald (κ := (28, 0, 0)) hn hM rfl rfl rfl z2 ?_
  refine zr_fr hM rfl rfl rfl ?_
  refine zr_fr hM rfl rfl rfl ?_
  refine zr_fr hM rfl rfl rfl ?_
  refine zr_fr hM rfl rfl rfl ?_
  refine zr_iald (κ := (28, 0, 0)) hn hM rfl rfl rfl z3 ?_
  refine zr_virt (κ := (0, 0, 0)) hn hM rfl rfl rfl rfl rfl rfl rfl rfl rfl ?_
  refine zgo_ret rfl rfl c4_ ?_
  refine zr_fr hM rfl rfl rfl ?_
  refine zr_fr hM rfl rfl rfl ?_
  refine zr_fr hM rfl rfl rfl ?_
  refine zr_fr hM rfl rfl rfl ?_
  refine zr_fr hM rfl rfl rfl ?_
  refine zr_iald (κ := (28, 0, 0)) hn hM rfl rfl rfl z1 ?_
  refine zr_fr hM rfl rfl rfl ?_
  refine zr_fr hM rfl rfl rfl ?_
  refine zr_fr hM rfl rfl rfl ?_
  refine zr_fr hM rfl rfl rfl ?_
  refine zr_iald (κ := (28, 0, 0)) hn hM rfl rfl rfl z2 ?_
  refine zr_fr hM rfl rfl rfl ?_
  refine zr_fr hM rfl rfl rfl ?_
  refine zr_fr hM rfl rfl rfl ?_
  refine zr_fr hM rfl rfl rfl ?_
  refine zr_iald (κ := (28, 0, 0)) hn hM rfl rfl rfl z3 ?_
  refine zr_virt (κ := (22, 0, 0)) hn hM rfl rfl rfl rfl rfl rfl rfl rfl rfl ?_
  refine zgo_ret rfl rfl c5_ ?_
  refine zr_ict hM rfl rfl h6 ?_
  exact k
set_option maxHeartbeats 4000000 in
set_option maxRecDepth 16384 in
theorem s144_1244_t {n L : Nat} {σ : Ks} {g : List Nat} {cl : Bool} {r : Zr} {v4 : Int32} {w5 : Option Int32} {w6 : Option Int32} {x1 : Nat} {x2 : Nat} {x3 : Nat} {σ4 : Ks} {c4 : Bool} {r4 : Int32} {σ5 : Ks} {c5 : Bool} {r5 : Int32} (hn : 2 ≤ n ∧ n ≤ 5) (z1 : zix (v4 + (Int32.ofInt 1)) L = some x1) (z2 : zix (v4 + (Int32.ofInt 2)) L = some x2) (z3 : zix (v4 + (Int32.ofInt 3)) L = some x3) (c4_ : ZR 32 0 [.val (.ref (kad n (0, 0, 0))), .val (.int (σ 60 x1)), .val (.int (σ 60 x2)), .val (.int (σ 60 x3)), .unset] [] (khp n L σ g) true (.inl (some (.int r4)), khp n L σ4 g, c4)) (c5_ : ZR 138 0 [.val (.ref (kad n (22, 0, 0))), .val (.int (σ4 60 x1)), .val (.int (σ4 60 x2)), .val (.int (σ4 60 x3)), .unset, .unset, .unset] [] (khp n L σ4 g) true (.inl (some (.int r5)), khp n L σ5 g, c5)) (h6 : zcnd .eq r4 r5 = true) (k : ZR 144 1355 [.val (.ref (kad n (28, 0, 0))), .val (.ref (kad n (0, 0, 0))), .val (.ref (kad n (22, 0, 0))), .val (.ref (kad n (27, 0, 0))), .val (.int v4), zop w5, zop w6] [] (khp n L σ5 (g)) (cl && c4 && c5) r) : ZR 144 1244 [.val (.ref (kad n (28, 0, 0))), .val (.ref (kad n (0, 0, 0))), .val (.ref (kad n (22, 0, 0))), .val (.ref (kad n (27, 0, 0))), .val (.int v4), zop w5, zop w6] [] (khp n L σ g) cl r := by
  have hM : zmi[144]? = some _ := rfl
  have l1 := (zix_some z1).2.2
  have l2 := (zix_some z2).2.2
  have l3 := (zix_some z3).2.2
  refine zr_fr hM rfl rfl rfl ?_
  refine zr_fr hM rfl rfl rfl ?_
  refine zr_fr hM rfl rfl rfl ?_
  refine zr_fr hM rfl rfl rfl ?_
  refine zr_fr hM rfl rfl rfl ?_
  refine zr_iald (κ := (28, 0, 0)) hn hM rfl rfl rfl z1 ?_
  refine zr_fr hM rfl rfl rfl ?_
  refine zr_fr hM rfl rfl rfl ?_
  refine zr_fr hM rfl rfl rfl ?_
  refine zr_fr hM rfl rfl rfl ?_
  refine zr_iald (κ := (28, 0, 0)) hn hM rfl rfl rfl z2 ?_
  refine zr_fr hM rfl rfl rfl ?_
  refine zr_fr hM rfl rfl rfl ?_
  refine zr_fr hM rfl rfl rfl ?_
  refine zr_fr hM rfl rfl rfl ?_
  refine zr_iald (κ := (28, 0, 0)) hn hM rfl rfl rfl z3 ?_
  refine zr_virt (κ := (0, 0, 0)) hn hM rfl rfl rfl rfl rfl rfl rfl rfl rfl ?_
  refine zgo_ret rfl rfl c4_ ?_
  refine zr_fr hM rfl rfl rfl ?_
  refine zr_fr hM rfl rfl rfl ?_
  refine zr_fr hM rfl rfl rfl ?_
  refine zr_fr hM rfl rfl rfl ?_
  refine zr_fr hM rfl rfl rfl ?_
  refine zr_iald (κ := (28, 0, 0)) hn hM rfl rfl rfl z1 ?_
  refine zr_fr hM rfl rfl rfl ?_
  refine zr_fr hM rfl rfl rfl ?_
  refine zr_fr hM rfl rfl rfl ?_
  refine zr_fr hM rfl rfl rfl ?_
  refine zr_iald (κ := (28, 0, 0)) hn hM rfl rfl rfl z2 ?_
  refine zr_fr hM rfl rfl rfl ?_
  refine zr_fr hM rfl rfl rfl ?_
  refine zr_fr hM rfl rfl rfl ?_
  refine zr_fr hM rfl rfl rfl ?_
  refine zr_iald (κ := (28, 0, 0)) hn hM rfl rfl rfl z3 ?_
  refine zr_virt (κ := (22, 0, 0)) hn hM rfl rfl rfl rfl rfl rfl rfl rfl rfl ?_
  refine zgo_ret rfl rfl c5_ ?_
  refine zr_ict hM rfl rfl h6 ?_
  exact k
set_option maxHeartbeats 4000000 in
set_option maxRecDepth 16384 in
theorem s144_1293_t {n L : Nat} {σ : Ks} {g : List Nat} {cl : Bool} {r : Zr} {v4 : Int32} {w5 : Option Int32} {w6 : Option Int32} {x1 : Nat} {x2 : Nat} {σ3 : Ks} {c3 : Bool} {r3 : Int32} {σ4 : Ks} {c4 : Bool} {r4 : Int32} (hn : 2 ≤ n ∧ n ≤ 5) (z1 : zix (v4 + (Int32.ofInt 1)) L = some x1) (z2 : zix (v4 + (Int32.ofInt 2)) L = some x2) (c3_ : ZR 35 0 [.val (.ref (kad n (0, 0, 0))), .val (.int (σ 60 x1)), .val (.int (σ 60 x2))] [] (khp n L σ g) true (.inl (some (.int r3)), khp n L σ3 g, c3)) (c4_ : ZR 139 0 [.val (.ref (kad n (22, 0, 0))), .val (.int (σ3 60 x1)), .val (.int (σ3 60 x2)), .unset, .unset] [] (khp n L σ3 g) true (.inl (some (.int r4)), khp n L σ4 g, c4)) (h5 : zcnd .eq r3 r4 = true) (k : ZR 144 1355 [.val (.ref (kad n (28, 0, 0))), .val (.ref (kad n (0, 0, 0))), .val (.ref (kad n (22, 0, 0))), .val (.ref (kad n (27, 0, 0))), .val (.int v4), zop w5, zop w6] [] (khp n L σ4 (g)) (cl && c3 && c4) r) : ZR 144 1293 [.val (.ref (kad n (28, 0, 0))), .val (.ref (kad n (0, 0, 0))), .val (.ref (kad n (22, 0, 0))), .val (.ref (kad n (27, 0, 0))), .val (.int v4), zop w5, zop w6] [] (khp n L σ g) cl r := by
  have hM : zmi[144]? = some _ := rfl
  have l1 := (zix_some z1).2.2
  have l2 := (zix_some z2).2.2
  refine zr_fr hM rfl rfl rfl ?_
  refine zr_fr hM rfl rfl rfl ?_
  refine zr_fr hM rfl rfl rfl ?_
  refine zr_fr hM rfl rfl rfl ?_
  refine zr_fr hM rfl rfl rfl ?_
  refine zr_iald (κ := (28, 0, 0)) hn hM rfl rfl rfl z1 ?_
  refine zr_fr hM rfl rfl rfl ?_
  refine zr_fr hM rfl rfl rfl ?_
  refine zr_fr hM rfl rfl rfl ?_
  refine zr_fr hM rfl rfl rfl ?_
  refine zr_iald (κ := (28, 0, 0)) hn hM rfl rfl rfl z2 ?_
  refine zr_virt (κ := (0, 0, 0)) hn hM rfl rfl rfl rfl rfl rfl rfl rfl rfl ?_
  refine zgo_ret rfl rfl c3_ ?_
  refine zr_fr hM rfl rfl rfl ?_
  refine zr_fr hM rfl rfl rfl ?_
  refine zr_fr hM rfl rfl rfl ?_
  refine zr_fr hM rfl rfl rfl ?_
  refine zr_fr hM rfl rfl rfl ?_
  refine zr_iald (κ := (28, 0, 0)) hn hM rfl rfl rfl z1 ?_
  refine zr_fr hM rfl rfl rfl ?_
  refine zr_fr hM rfl rfl rfl ?_
  refine zr_fr hM rfl rfl rfl ?_
  refine zr_fr hM rfl rfl rfl ?_
  refine zr_iald (κ := (28, 0, 0)) hn hM rfl rfl rfl z2 ?_
  refine zr_virt (κ := (22, 0, 0)) hn hM rfl rfl rfl rfl rfl rfl rfl rfl rfl ?_
  refine zgo_ret rfl rfl c4_ ?_
  refine zr_ict hM rfl rfl h5 ?_
  exact k
set_option maxHeartbeats 4000000 in
set_option maxRecDepth 16384 in
theorem s144_1330_t {n L : Nat} {σ : Ks} {g : List Nat} {cl : Bool} {r : Zr} {v4 : Int32} {w5 : Option Int32} {w6 : Option Int32} {x1 : Nat} {σ2 : Ks} {c2 : Bool} {r2 : Int32} {σ3 : Ks} {c3 : Bool} {r3 : Int32} (hn : 2 ≤ n ∧ n ≤ 5) (z1 : zix (v4 + (Int32.ofInt 1)) L = some x1) (c2_ : ZR 42 0 [.val (.ref (kad n (0, 0, 0))), .val (.int (σ 60 x1))] [] (khp n L σ g) true (.inl (some (.int r2)), khp n L σ2 g, c2)) (c3_ : ZR 141 0 [.val (.ref (kad n (22, 0, 0))), .val (.int (σ2 60 x1))] [] (khp n L σ2 g) true (.inl (some (.int r3)), khp n L σ3 g, c3)) (h4 : zcnd .eq r2 r3 = true) (k : ZR 144 1355 [.val (.ref (kad n (28, 0, 0))), .val (.ref (kad n (0, 0, 0))), .val (.ref (kad n (22, 0, 0))), .val (.ref (kad n (27, 0, 0))), .val (.int v4), zop w5, zop w6] [] (khp n L σ3 (g)) (cl && c2 && c3) r) : ZR 144 1330 [.val (.ref (kad n (28, 0, 0))), .val (.ref (kad n (0, 0, 0))), .val (.ref (kad n (22, 0, 0))), .val (.ref (kad n (27, 0, 0))), .val (.int v4), zop w5, zop w6] [] (khp n L σ g) cl r := by
  have hM : zmi[144]? = some _ := rfl
  have l1 := (zix_some z1).2.2
  refine zr_fr hM rfl rfl rfl ?_
  refine zr_fr hM rfl rfl rfl ?_
  refine zr_fr hM rfl rfl rfl ?_
  refine zr_fr hM rfl rfl rfl ?_
  refine zr_fr hM rfl rfl rfl ?_
  refine zr_iald (κ := (28, 0, 0)) hn hM rfl rfl rfl z1 ?_
  refine zr_virt (κ := (0, 0, 0)) hn hM rfl rfl rfl rfl rfl rfl rfl rfl rfl ?_
  refine zgo_ret rfl rfl c2_ ?_
  refine zr_fr hM rfl rfl rfl ?_
  refine zr_fr hM rfl rfl rfl ?_
  refine zr_fr hM rfl rfl rfl ?_
  refine zr_fr hM rfl rfl rfl ?_
  refine zr_fr hM rfl rfl rfl ?_
  refine zr_iald (κ := (28, 0, 0)) hn hM rfl rfl rfl z1 ?_
  refine zr_virt (κ := (22, 0, 0)) hn hM rfl rfl rfl rfl rfl rfl rfl rfl rfl ?_
  refine zgo_ret rfl rfl c3_ ?_
  refine zr_ict hM rfl rfl h4 ?_
  exact k
