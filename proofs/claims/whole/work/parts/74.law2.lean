/-- a call that may throw, with the law's helper before it: both sides answer alike -/
def OpH (hj : Nat) (hls : List Slot) (mj : Nat) (mls : List Slot) (n L B : Nat) (α : Ks) (th ow : Int32) (sc : Nat → Int32) (g : List Nat) : Prop :=
  ∃ code v' α' ow' g' c3 c4, code ≤ 2 ∧ Inv n (B + 30) α' ∧ g'.length ≤ g.length + 1 ∧
  ZR hj 0 hls [] (khp n L (St n α α th ow sc) g) true (.inl (some (.int (nI code))), khp n L (St n α' α th ow' sc) g', c3) ∧
  ZR mj 0 mls [] (khp n L (St n α' α th ow' sc) g') true (.inl (some (.int v')), khp n L (St n α' α' (nI code) ow' sc) g', c4) ∧
  (code = 0 → ow' = v')
section LAW
variable {n L B : Nat} {α : Ks} {th ow : Int32} {sc : Nat → Int32} {g : List Nat} {hj j mj t1 : Nat} {hls ls mls : List Slot}
theorem opH_T (hcap : (khp n L (St n α α th ow sc) g).length < zcap) (ho : OpT j ls mj mls t1 n L B α)
    (hk : ∀ σ σ1 c1 r1, ZR j 0 ls [] (khp n L σ g) true (.inl (some (.int r1)), khp n L σ1 g, c1) → ZR hj 0 hls [] (khp n L σ g) true (.inl (some (.int (Int32.ofInt 0))), khp n L (kup σ1 50 0 r1) g, false))
    (h1 : ∀ σ, ZR j 0 ls [] (khp n L σ g) true (.inr (khp n L σ g).length, khp n L σ g ++ [(t1, [])], false) → ZR hj 0 hls [] (khp n L σ g) true (.inl (some (.int (Int32.ofInt 1))), khp n L σ (g ++ [t1]), false))
    (h2 : ∀ σ, ZR j 0 ls [] (khp n L σ g) true (.inr (khp n L σ g).length, khp n L σ g ++ [(201, [])], false) → ZR hj 0 hls [] (khp n L σ g) true (.inl (some (.int (Int32.ofInt 2))), khp n L σ (g ++ [201]), false)) : OpH hj hls mj mls n L B α th ow sc g := by
  obtain ⟨code, v, α', hcode, hI, hc, hm⟩ := ho
  rcases hc α th ow sc g hcap with ⟨e, cl', hz⟩ | ⟨e, e2, hz⟩ | ⟨e, e2, hz⟩
  · subst e
    obtain ⟨c4, v', hm1, hm2⟩ := hm α' th v sc g
    refine ⟨0, v', α', v, g, false, c4, by omega, hI, by omega, ?_, hm1, fun _ => (hm2 rfl).symm⟩
    have := hk _ _ _ _ hz
    rw [u_ow] at this
    exact this
  · subst e
    subst e2
    obtain ⟨c4, v', hm1, hm2⟩ := hm α' th ow sc (g ++ [t1])
    exact ⟨1, v', α', ow, g ++ [t1], false, c4, by omega, hI, by rw [List.length_append]; exact Nat.le_refl _, h1 _ hz, hm1, fun q => by omega⟩
  · subst e
    subst e2
    obtain ⟨c4, v', hm1, hm2⟩ := hm α' th ow sc (g ++ [201])
    exact ⟨2, v', α', ow, g ++ [201], false, c4, by omega, hI, by rw [List.length_append]; exact Nat.le_refl _, h2 _ hz, hm1, fun q => by omega⟩
theorem opH_U (hcap : (khp n L (St n α α th ow sc) g).length < zcap) (ho : OpU j ls mj mls t1 n L B α)
    (hk : ∀ σ σ1 c1 r1, ZR j 0 ls [] (khp n L σ g) true (.inl (some (.int r1)), khp n L σ1 g, c1) → ZR hj 0 hls [] (khp n L σ g) true (.inl (some (.int (Int32.ofInt 0))), khp n L (kup σ1 50 0 r1) g, false))
    (h1 : ∀ σ, ZR j 0 ls [] (khp n L σ g) true (.inr (khp n L σ g).length, khp n L σ g ++ [(t1, [])], false) → ZR hj 0 hls [] (khp n L σ g) true (.inl (some (.int (Int32.ofInt 1))), khp n L σ (g ++ [t1]), false)) : OpH hj hls mj mls n L B α th ow sc g := by
  obtain ⟨code, v, α', hcode, hI, hc, hm⟩ := ho
  rcases hc α th ow sc g hcap with ⟨e, cl', hz⟩ | ⟨e, e2, hz⟩
  · subst e
    obtain ⟨c4, v', hm1, hm2⟩ := hm α' th v sc g
    refine ⟨0, v', α', v, g, false, c4, by omega, hI, by omega, ?_, hm1, fun _ => (hm2 rfl).symm⟩
    have := hk _ _ _ _ hz
    rw [u_ow] at this
    exact this
  · subst e
    subst e2
    obtain ⟨c4, v', hm1, hm2⟩ := hm α' th ow sc (g ++ [t1])
    exact ⟨1, v', α', ow, g ++ [t1], false, c4, by omega, hI, by rw [List.length_append]; exact Nat.le_refl _, h1 _ hz, hm1, fun q => by omega⟩
theorem lg_same (x : Int64) : zcnd .eq (lg_cmp x x) 0 = true := decide_eq_true ((lg_cmp_eq x x).mpr rfl)
theorem zc_same (x : Int32) : zcnd .eq x x = true := decide_eq_true rfl
theorem zx1 {i : Nat} (k : Nat) (h : i + 5 ≤ L) (hk : k < 5) (hL : L ≤ 2561) : zix (nI i + Int32.ofInt k) L = some (i + k) := zx (nI_add i k) (by omega) (by omega)
/-- the law from the end of a pass on -/
def LG (n L i B gl : Nat) (sc : Nat → Int32) : Prop := ∀ α th ow g cl w5 w6, Inv n (B + 30) α → g.length ≤ gl + 1 → ∃ h' c', ZR 144 1355 [.val (.ref (kad n (28, 0, 0))), .val (.ref (kad n (0, 0, 0))), .val (.ref (kad n (22, 0, 0))), .val (.ref (kad n (27, 0, 0))), .val (.int (nI i)), zop w5, zop w6] [] (khp n L (St n α α th ow sc) g) cl (.inl (some (.int (Int32.ofInt 1))), h', c')
set_option maxHeartbeats 4000000 in
theorem lw_stock {i : Nat} {cl : Bool} {w5 w6 : Option Int32} (hn : 2 ≤ n ∧ n ≤ 5) (hL : L ≤ 2561) (hi : i + 5 ≤ L) (hB : B + 30 < 2 ^ 29) (hcap : (khp n L (St n α α th ow sc) g).length < zcap) (hI : Inv n B α) (K : LG n L i B g.length sc) : ∃ h' c', ZR 144 152 [.val (.ref (kad n (28, 0, 0))), .val (.ref (kad n (0, 0, 0))), .val (.ref (kad n (22, 0, 0))), .val (.ref (kad n (27, 0, 0))), .val (.int (nI i)), zop w5, zop w6] [] (khp n L (St n α α th ow sc) g) cl (.inl (some (.int (Int32.ofInt 1))), h', c') := by
  have ho := op_stock (L := L) hn hI (sc (i + 1)) (sc (i + 2))
  have hh := opH_T (hj := 47) (g := g) (th := th) (ow := ow) (sc := sc) hcap ho (fun σ σ1 c1 r1 q => s47_0_k (x2 := 0) hn q rfl) (fun σ q => s47_0_e200 hn q) (fun σ q => s47_0_e201 hn q)
  obtain ⟨code, v', α', ow', g', c3, c4, hcode, hI', hg, hz, hm, hv⟩ := hh
  by_cases h0 : code = 0
  · subst h0
    obtain ⟨h', c', hk⟩ := K α' (nI 0) ow' g' (cl && c3 && c4) (some (nI 0)) (some v') hI' hg
    refine ⟨h', c', s144_152_tft (x8 := 0) hn (zx1 1 hi (by omega) hL) (zx1 2 hi (by omega) hL) hz hm (s98_0_r hn) (zc_same _) rfl rfl ?_ hk⟩
    show zcnd .eq (lg_cmp ow'.toInt64 v'.toInt64) 0 = true
    rw [hv rfl]
    exact lg_same _
  · obtain ⟨h', c', hk⟩ := K α' (nI code) ow' g' (cl && c3 && c4) (some (nI code)) (some v') hI' hg
    refine ⟨h', c', s144_152_tt hn (zx1 1 hi (by omega) hL) (zx1 2 hi (by omega) hL) hz hm (s98_0_r hn) (zc_same _) ?_ hk⟩
    rw [c_z, zc_ne (by omega) (by omega)]
    exact decide_eq_true h0
set_option maxHeartbeats 4000000 in
theorem lw_sell {i : Nat} {cl : Bool} {w5 w6 : Option Int32} (hn : 2 ≤ n ∧ n ≤ 5) (hL : L ≤ 2561) (hi : i + 5 ≤ L) (hB : B + 30 < 2 ^ 29) (hcap : (khp n L (St n α α th ow sc) g).length < zcap) (hI : Inv n B α) (K : LG n L i B g.length sc) : ∃ h' c', ZR 144 220 [.val (.ref (kad n (28, 0, 0))), .val (.ref (kad n (0, 0, 0))), .val (.ref (kad n (22, 0, 0))), .val (.ref (kad n (27, 0, 0))), .val (.int (nI i)), zop w5, zop w6] [] (khp n L (St n α α th ow sc) g) cl (.inl (some (.int (Int32.ofInt 1))), h', c') := by
  have ho := op_sell (L := L) hn hI (sc (i + 1)) (sc (i + 2)) (sc (i + 3))
  have hh := opH_T (hj := 52) (g := g) (th := th) (ow := ow) (sc := sc) hcap ho (fun σ σ1 c1 r1 q => s52_0_k (x2 := 0) hn q rfl) (fun σ q => s52_0_e200 hn q) (fun σ q => s52_0_e201 hn q)
  obtain ⟨code, v', α', ow', g', c3, c4, hcode, hI', hg, hz, hm, hv⟩ := hh
  by_cases h0 : code = 0
  · subst h0
    obtain ⟨h', c', hk⟩ := K α' (nI 0) ow' g' (cl && c3 && c4) (some (nI 0)) (some v') hI' hg
    refine ⟨h', c', s144_220_tft (x9 := 0) hn (zx1 1 hi (by omega) hL) (zx1 2 hi (by omega) hL) (zx1 3 hi (by omega) hL) hz hm (s98_0_r hn) (zc_same _) rfl rfl ?_ hk⟩
    show zcnd .eq (lg_cmp ow'.toInt64 v'.toInt64) 0 = true
    rw [hv rfl]
    exact lg_same _
  · obtain ⟨h', c', hk⟩ := K α' (nI code) ow' g' (cl && c3 && c4) (some (nI code)) (some v') hI' hg
    refine ⟨h', c', s144_220_tt hn (zx1 1 hi (by omega) hL) (zx1 2 hi (by omega) hL) (zx1 3 hi (by omega) hL) hz hm (s98_0_r hn) (zc_same _) ?_ hk⟩
    rw [c_z, zc_ne (by omega) (by omega)]
    exact decide_eq_true h0
set_option maxHeartbeats 4000000 in
theorem lw_unsell {i : Nat} {cl : Bool} {w5 w6 : Option Int32} (hn : 2 ≤ n ∧ n ≤ 5) (hL : L ≤ 2561) (hi : i + 5 ≤ L) (hB : B + 30 < 2 ^ 29) (hcap : (khp n L (St n α α th ow sc) g).length < zcap) (hI : Inv n B α) (K : LG n L i B g.length sc) : ∃ h' c', ZR 144 300 [.val (.ref (kad n (28, 0, 0))), .val (.ref (kad n (0, 0, 0))), .val (.ref (kad n (22, 0, 0))), .val (.ref (kad n (27, 0, 0))), .val (.int (nI i)), zop w5, zop w6] [] (khp n L (St n α α th ow sc) g) cl (.inl (some (.int (Int32.ofInt 1))), h', c') := by
  have ho := op_unsell (L := L) hn hI (sc (i + 1)) (sc (i + 2)) (sc (i + 3))
  have hh := opH_T (hj := 57) (g := g) (th := th) (ow := ow) (sc := sc) hcap ho (fun σ σ1 c1 r1 q => s57_0_k (x2 := 0) hn q rfl) (fun σ q => s57_0_e200 hn q) (fun σ q => s57_0_e201 hn q)
  obtain ⟨code, v', α', ow', g', c3, c4, hcode, hI', hg, hz, hm, hv⟩ := hh
  by_cases h0 : code = 0
  · subst h0
    obtain ⟨h', c', hk⟩ := K α' (nI 0) ow' g' (cl && c3 && c4) (some (nI 0)) (some v') hI' hg
    refine ⟨h', c', s144_300_tft (x9 := 0) hn (zx1 1 hi (by omega) hL) (zx1 2 hi (by omega) hL) (zx1 3 hi (by omega) hL) hz hm (s98_0_r hn) (zc_same _) rfl rfl ?_ hk⟩
    show zcnd .eq (lg_cmp ow'.toInt64 v'.toInt64) 0 = true
    rw [hv rfl]
    exact lg_same _
  · obtain ⟨h', c', hk⟩ := K α' (nI code) ow' g' (cl && c3 && c4) (some (nI code)) (some v') hI' hg
    refine ⟨h', c', s144_300_tt hn (zx1 1 hi (by omega) hL) (zx1 2 hi (by omega) hL) (zx1 3 hi (by omega) hL) hz hm (s98_0_r hn) (zc_same _) ?_ hk⟩
    rw [c_z, zc_ne (by omega) (by omega)]
    exact decide_eq_true h0
set_option maxHeartbeats 4000000 in
theorem lw_broken {i : Nat} {cl : Bool} {w5 w6 : Option Int32} (hn : 2 ≤ n ∧ n ≤ 5) (hL : L ≤ 2561) (hi : i + 5 ≤ L) (hB : B + 30 < 2 ^ 29) (hcap : (khp n L (St n α α th ow sc) g).length < zcap) (hI : Inv n B α) (K : LG n L i B g.length sc) : ∃ h' c', ZR 144 380 [.val (.ref (kad n (28, 0, 0))), .val (.ref (kad n (0, 0, 0))), .val (.ref (kad n (22, 0, 0))), .val (.ref (kad n (27, 0, 0))), .val (.int (nI i)), zop w5, zop w6] [] (khp n L (St n α α th ow sc) g) cl (.inl (some (.int (Int32.ofInt 1))), h', c') := by
  have ho := op_broken (L := L) hn hI (sc (i + 1)) (sc (i + 2)) (sc (i + 3))
  have hh := opH_T (hj := 59) (g := g) (th := th) (ow := ow) (sc := sc) hcap ho (fun σ σ1 c1 r1 q => s59_0_k (x2 := 0) hn q rfl) (fun σ q => s59_0_e200 hn q) (fun σ q => s59_0_e201 hn q)
  obtain ⟨code, v', α', ow', g', c3, c4, hcode, hI', hg, hz, hm, hv⟩ := hh
  by_cases h0 : code = 0
  · subst h0
    obtain ⟨h', c', hk⟩ := K α' (nI 0) ow' g' (cl && c3 && c4) (some (nI 0)) (some v') hI' hg
    refine ⟨h', c', s144_380_tft (x9 := 0) hn (zx1 1 hi (by omega) hL) (zx1 2 hi (by omega) hL) (zx1 3 hi (by omega) hL) hz hm (s98_0_r hn) (zc_same _) rfl rfl ?_ hk⟩
    show zcnd .eq (lg_cmp ow'.toInt64 v'.toInt64) 0 = true
    rw [hv rfl]
    exact lg_same _
  · obtain ⟨h', c', hk⟩ := K α' (nI code) ow' g' (cl && c3 && c4) (some (nI code)) (some v') hI' hg
    refine ⟨h', c', s144_380_tt hn (zx1 1 hi (by omega) hL) (zx1 2 hi (by omega) hL) (zx1 3 hi (by omega) hL) hz hm (s98_0_r hn) (zc_same _) ?_ hk⟩
    rw [c_z, zc_ne (by omega) (by omega)]
    exact decide_eq_true h0
set_option maxHeartbeats 4000000 in
theorem lw_reserve {i : Nat} {cl : Bool} {w5 w6 : Option Int32} (hn : 2 ≤ n ∧ n ≤ 5) (hL : L ≤ 2561) (hi : i + 5 ≤ L) (hB : B + 30 < 2 ^ 29) (hcap : (khp n L (St n α α th ow sc) g).length < zcap) (hI : Inv n B α) (K : LG n L i B g.length sc) : ∃ h' c', ZR 144 460 [.val (.ref (kad n (28, 0, 0))), .val (.ref (kad n (0, 0, 0))), .val (.ref (kad n (22, 0, 0))), .val (.ref (kad n (27, 0, 0))), .val (.int (nI i)), zop w5, zop w6] [] (khp n L (St n α α th ow sc) g) cl (.inl (some (.int (Int32.ofInt 1))), h', c') := by
  have ho := op_reserve (L := L) hn hI (sc (i + 1)) (sc (i + 2)) (sc (i + 3)) (sc (i + 4))
  have hh := opH_T (hj := 61) (g := g) (th := th) (ow := ow) (sc := sc) hcap ho (fun σ σ1 c1 r1 q => s61_0_k (x2 := 0) hn q rfl) (fun σ q => s61_0_e200 hn q) (fun σ q => s61_0_e201 hn q)
  obtain ⟨code, v', α', ow', g', c3, c4, hcode, hI', hg, hz, hm, hv⟩ := hh
  by_cases h0 : code = 0
  · subst h0
    obtain ⟨h', c', hk⟩ := K α' (nI 0) ow' g' (cl && c3 && c4) (some (nI 0)) (some v') hI' hg
    refine ⟨h', c', s144_460_tft (x10 := 0) hn (zx1 1 hi (by omega) hL) (zx1 2 hi (by omega) hL) (zx1 3 hi (by omega) hL) (zx1 4 hi (by omega) hL) hz hm (s98_0_r hn) (zc_same _) rfl rfl ?_ hk⟩
    show zcnd .eq (lg_cmp ow'.toInt64 v'.toInt64) 0 = true
    rw [hv rfl]
    exact lg_same _
  · obtain ⟨h', c', hk⟩ := K α' (nI code) ow' g' (cl && c3 && c4) (some (nI code)) (some v') hI' hg
    refine ⟨h', c', s144_460_tt hn (zx1 1 hi (by omega) hL) (zx1 2 hi (by omega) hL) (zx1 3 hi (by omega) hL) (zx1 4 hi (by omega) hL) hz hm (s98_0_r hn) (zc_same _) ?_ hk⟩
    rw [c_z, zc_ne (by omega) (by omega)]
    exact decide_eq_true h0
set_option maxHeartbeats 4000000 in
theorem lw_pick {i : Nat} {cl : Bool} {w5 w6 : Option Int32} (hn : 2 ≤ n ∧ n ≤ 5) (hL : L ≤ 2561) (hi : i + 5 ≤ L) (hB : B + 30 < 2 ^ 29) (hcap : (khp n L (St n α α th ow sc) g).length < zcap) (hI : Inv n B α) (K : LG n L i B g.length sc) : ∃ h' c', ZR 144 552 [.val (.ref (kad n (28, 0, 0))), .val (.ref (kad n (0, 0, 0))), .val (.ref (kad n (22, 0, 0))), .val (.ref (kad n (27, 0, 0))), .val (.int (nI i)), zop w5, zop w6] [] (khp n L (St n α α th ow sc) g) cl (.inl (some (.int (Int32.ofInt 1))), h', c') := by
  obtain ⟨v, α', hI', hc, hm⟩ := op_pick (L := L) hn hI (sc (i + 1)) (sc (i + 2))
  obtain ⟨c3, hz⟩ := hc α th ow sc g
  obtain ⟨c4, hz2⟩ := hm α' th ow sc g
  obtain ⟨h', c', hk⟩ := K α' (nI 0) ow g (cl && c3 && c4) w5 w6 hI' (by omega)
  exact ⟨h', c', s144_552_t hn (zx1 1 hi (by omega) hL) (zx1 2 hi (by omega) hL) hz hz2 (zc_same _) hk⟩
set_option maxHeartbeats 4000000 in
theorem lw_tick {i : Nat} {cl : Bool} {w5 w6 : Option Int32} (hn : 2 ≤ n ∧ n ≤ 5) (hL : L ≤ 2561) (hi : i + 5 ≤ L) (hB : B + 30 < 2 ^ 29) (hcap : (khp n L (St n α α th ow sc) g).length < zcap) (hI : Inv n B α) (K : LG n L i B g.length sc) : ∃ h' c', ZR 144 589 [.val (.ref (kad n (28, 0, 0))), .val (.ref (kad n (0, 0, 0))), .val (.ref (kad n (22, 0, 0))), .val (.ref (kad n (27, 0, 0))), .val (.int (nI i)), zop w5, zop w6] [] (khp n L (St n α α th ow sc) g) cl (.inl (some (.int (Int32.ofInt 1))), h', c') := by
  have ho := op_tick (L := L) hn hB hI (sc (i + 1)) (sc (i + 2))
  have hh := opH_T (hj := 65) (g := g) (th := th) (ow := ow) (sc := sc) hcap ho (fun σ σ1 c1 r1 q => s65_0_k (x2 := 0) hn q rfl) (fun σ q => s65_0_e200 hn q) (fun σ q => s65_0_e201 hn q)
  obtain ⟨code, v', α', ow', g', c3, c4, hcode, hI', hg, hz, hm, hv⟩ := hh
  by_cases h0 : code = 0
  · subst h0
    obtain ⟨h', c', hk⟩ := K α' (nI 0) ow' g' (cl && c3 && c4) (some (nI 0)) (some v') hI' hg
    refine ⟨h', c', s144_589_tft (x8 := 0) hn (zx1 1 hi (by omega) hL) (zx1 2 hi (by omega) hL) hz hm (s98_0_r hn) (zc_same _) rfl rfl ?_ hk⟩
    show zcnd .eq (lg_cmp ow'.toInt64 v'.toInt64) 0 = true
    rw [hv rfl]
    exact lg_same _
  · obtain ⟨h', c', hk⟩ := K α' (nI code) ow' g' (cl && c3 && c4) (some (nI code)) (some v') hI' hg
    refine ⟨h', c', s144_589_tt hn (zx1 1 hi (by omega) hL) (zx1 2 hi (by omega) hL) hz hm (s98_0_r hn) (zc_same _) ?_ hk⟩
    rw [c_z, zc_ne (by omega) (by omega)]
    exact decide_eq_true h0
set_option maxHeartbeats 4000000 in
theorem lw_give {i : Nat} {cl : Bool} {w5 w6 : Option Int32} (hn : 2 ≤ n ∧ n ≤ 5) (hL : L ≤ 2561) (hi : i + 5 ≤ L) (hB : B + 30 < 2 ^ 29) (hcap : (khp n L (St n α α th ow sc) g).length < zcap) (hI : Inv n B α) (K : LG n L i B g.length sc) : ∃ h' c', ZR 144 657 [.val (.ref (kad n (28, 0, 0))), .val (.ref (kad n (0, 0, 0))), .val (.ref (kad n (22, 0, 0))), .val (.ref (kad n (27, 0, 0))), .val (.int (nI i)), zop w5, zop w6] [] (khp n L (St n α α th ow sc) g) cl (.inl (some (.int (Int32.ofInt 1))), h', c') := by
  have ho := op_give (L := L) hn hB hI (sc (i + 1)) (sc (i + 2)) (sc (i + 3)) (sc (i + 4))
  have hh := opH_T (hj := 73) (g := g) (th := th) (ow := ow) (sc := sc) hcap ho (fun σ σ1 c1 r1 q => s73_0_k (x2 := 0) hn q rfl) (fun σ q => s73_0_e200 hn q) (fun σ q => s73_0_e201 hn q)
  obtain ⟨code, v', α', ow', g', c3, c4, hcode, hI', hg, hz, hm, hv⟩ := hh
  by_cases h0 : code = 0
  · subst h0
    obtain ⟨h', c', hk⟩ := K α' (nI 0) ow' g' (cl && c3 && c4) (some (nI 0)) (some v') hI' hg
    refine ⟨h', c', s144_657_tft (x10 := 0) hn (zx1 1 hi (by omega) hL) (zx1 2 hi (by omega) hL) (zx1 3 hi (by omega) hL) (zx1 4 hi (by omega) hL) hz hm (s98_0_r hn) (zc_same _) rfl rfl ?_ hk⟩
    show zcnd .eq (lg_cmp ow'.toInt64 v'.toInt64) 0 = true
    rw [hv rfl]
    exact lg_same _
  · obtain ⟨h', c', hk⟩ := K α' (nI code) ow' g' (cl && c3 && c4) (some (nI code)) (some v') hI' hg
    refine ⟨h', c', s144_657_tt hn (zx1 1 hi (by omega) hL) (zx1 2 hi (by omega) hL) (zx1 3 hi (by omega) hL) (zx1 4 hi (by omega) hL) hz hm (s98_0_r hn) (zc_same _) ?_ hk⟩
    rw [c_z, zc_ne (by omega) (by omega)]
    exact decide_eq_true h0
set_option maxHeartbeats 4000000 in
theorem lw_ask {i : Nat} {cl : Bool} {w5 w6 : Option Int32} (hn : 2 ≤ n ∧ n ≤ 5) (hL : L ≤ 2561) (hi : i + 5 ≤ L) (hB : B + 30 < 2 ^ 29) (hcap : (khp n L (St n α α th ow sc) g).length < zcap) (hI : Inv n B α) (K : LG n L i B g.length sc) : ∃ h' c', ZR 144 749 [.val (.ref (kad n (28, 0, 0))), .val (.ref (kad n (0, 0, 0))), .val (.ref (kad n (22, 0, 0))), .val (.ref (kad n (27, 0, 0))), .val (.int (nI i)), zop w5, zop w6] [] (khp n L (St n α α th ow sc) g) cl (.inl (some (.int (Int32.ofInt 1))), h', c') := by
  have ho := op_ask (L := L) hn hI (sc (i + 1)) (sc (i + 2)) (sc (i + 3))
  have hh := opH_T (hj := 79) (g := g) (th := th) (ow := ow) (sc := sc) hcap ho (fun σ σ1 c1 r1 q => s79_0_k (x2 := 0) hn q rfl) (fun σ q => s79_0_e200 hn q) (fun σ q => s79_0_e201 hn q)
  obtain ⟨code, v', α', ow', g', c3, c4, hcode, hI', hg, hz, hm, hv⟩ := hh
  by_cases h0 : code = 0
  · subst h0
    obtain ⟨h', c', hk⟩ := K α' (nI 0) ow' g' (cl && c3 && c4) (some (nI 0)) (some v') hI' hg
    refine ⟨h', c', s144_749_tft (x9 := 0) hn (zx1 1 hi (by omega) hL) (zx1 2 hi (by omega) hL) (zx1 3 hi (by omega) hL) hz hm (s98_0_r hn) (zc_same _) rfl rfl ?_ hk⟩
    show zcnd .eq (lg_cmp ow'.toInt64 v'.toInt64) 0 = true
    rw [hv rfl]
    exact lg_same _
  · obtain ⟨h', c', hk⟩ := K α' (nI code) ow' g' (cl && c3 && c4) (some (nI code)) (some v') hI' hg
    refine ⟨h', c', s144_749_tt hn (zx1 1 hi (by omega) hL) (zx1 2 hi (by omega) hL) (zx1 3 hi (by omega) hL) hz hm (s98_0_r hn) (zc_same _) ?_ hk⟩
    rw [c_z, zc_ne (by omega) (by omega)]
    exact decide_eq_true h0
set_option maxHeartbeats 4000000 in
theorem lw_counted {i : Nat} {cl : Bool} {w5 w6 : Option Int32} (hn : 2 ≤ n ∧ n ≤ 5) (hL : L ≤ 2561) (hi : i + 5 ≤ L) (hB : B + 30 < 2 ^ 29) (hcap : (khp n L (St n α α th ow sc) g).length < zcap) (hI : Inv n B α) (K : LG n L i B g.length sc) : ∃ h' c', ZR 144 829 [.val (.ref (kad n (28, 0, 0))), .val (.ref (kad n (0, 0, 0))), .val (.ref (kad n (22, 0, 0))), .val (.ref (kad n (27, 0, 0))), .val (.int (nI i)), zop w5, zop w6] [] (khp n L (St n α α th ow sc) g) cl (.inl (some (.int (Int32.ofInt 1))), h', c') := by
  have ho := op_counted (L := L) hn hI (sc (i + 1)) (sc (i + 2))
  have hh := opH_T (hj := 82) (g := g) (th := th) (ow := ow) (sc := sc) hcap ho (fun σ σ1 c1 r1 q => s82_0_k (x2 := 0) hn q rfl) (fun σ q => s82_0_e200 hn q) (fun σ q => s82_0_e201 hn q)
  obtain ⟨code, v', α', ow', g', c3, c4, hcode, hI', hg, hz, hm, hv⟩ := hh
  by_cases h0 : code = 0
  · subst h0
    obtain ⟨h', c', hk⟩ := K α' (nI 0) ow' g' (cl && c3 && c4) (some (nI 0)) (some v') hI' hg
    refine ⟨h', c', s144_829_tft (x8 := 0) hn (zx1 1 hi (by omega) hL) (zx1 2 hi (by omega) hL) hz hm (s98_0_r hn) (zc_same _) rfl rfl ?_ hk⟩
    show zcnd .eq (lg_cmp ow'.toInt64 v'.toInt64) 0 = true
    rw [hv rfl]
    exact lg_same _
  · obtain ⟨h', c', hk⟩ := K α' (nI code) ow' g' (cl && c3 && c4) (some (nI code)) (some v') hI' hg
    refine ⟨h', c', s144_829_tt hn (zx1 1 hi (by omega) hL) (zx1 2 hi (by omega) hL) hz hm (s98_0_r hn) (zc_same _) ?_ hk⟩
    rw [c_z, zc_ne (by omega) (by omega)]
    exact decide_eq_true h0
set_option maxHeartbeats 4000000 in
theorem lw_sync {i : Nat} {cl : Bool} {w5 w6 : Option Int32} (hn : 2 ≤ n ∧ n ≤ 5) (hL : L ≤ 2561) (hi : i + 5 ≤ L) (hB : B + 30 < 2 ^ 29) (hcap : (khp n L (St n α α th ow sc) g).length < zcap) (hI : Inv n B α) (K : LG n L i B g.length sc) : ∃ h' c', ZR 144 897 [.val (.ref (kad n (28, 0, 0))), .val (.ref (kad n (0, 0, 0))), .val (.ref (kad n (22, 0, 0))), .val (.ref (kad n (27, 0, 0))), .val (.int (nI i)), zop w5, zop w6] [] (khp n L (St n α α th ow sc) g) cl (.inl (some (.int (Int32.ofInt 1))), h', c') := by
  obtain ⟨v, α', hI', hc, hm⟩ := op_sync (L := L) hn hI (sc (i + 1))
  obtain ⟨c3, hz⟩ := hc α th ow sc g
  obtain ⟨c4, hz2⟩ := hm α' th ow sc g
  obtain ⟨h', c', hk⟩ := K α' (nI 0) ow g (cl && c3 && c4) w5 w6 hI' (by omega)
  exact ⟨h', c', s144_897_t hn (zx1 1 hi (by omega) hL) hz hz2 (zc_same _) hk⟩
set_option maxHeartbeats 4000000 in
theorem lw_crash {i : Nat} {cl : Bool} {w5 w6 : Option Int32} (hn : 2 ≤ n ∧ n ≤ 5) (hL : L ≤ 2561) (hi : i + 5 ≤ L) (hB : B + 30 < 2 ^ 29) (hcap : (khp n L (St n α α th ow sc) g).length < zcap) (hI : Inv n B α) (K : LG n L i B g.length sc) : ∃ h' c', ZR 144 922 [.val (.ref (kad n (28, 0, 0))), .val (.ref (kad n (0, 0, 0))), .val (.ref (kad n (22, 0, 0))), .val (.ref (kad n (27, 0, 0))), .val (.int (nI i)), zop w5, zop w6] [] (khp n L (St n α α th ow sc) g) cl (.inl (some (.int (Int32.ofInt 1))), h', c') := by
  obtain ⟨v, α', hI', hc, hm⟩ := op_crash (L := L) hn hI (sc (i + 1))
  obtain ⟨c3, hz⟩ := hc α th ow sc g
  obtain ⟨c4, hz2⟩ := hm α' th ow sc g
  obtain ⟨h', c', hk⟩ := K α' (nI 0) ow g (cl && c3 && c4) w5 w6 hI' (by omega)
  exact ⟨h', c', s144_922_t hn (zx1 1 hi (by omega) hL) hz hz2 (zc_same _) hk⟩
set_option maxHeartbeats 4000000 in
theorem lw_back {i : Nat} {cl : Bool} {w5 w6 : Option Int32} (hn : 2 ≤ n ∧ n ≤ 5) (hL : L ≤ 2561) (hi : i + 5 ≤ L) (hB : B + 30 < 2 ^ 29) (hcap : (khp n L (St n α α th ow sc) g).length < zcap) (hI : Inv n B α) (K : LG n L i B g.length sc) : ∃ h' c', ZR 144 947 [.val (.ref (kad n (28, 0, 0))), .val (.ref (kad n (0, 0, 0))), .val (.ref (kad n (22, 0, 0))), .val (.ref (kad n (27, 0, 0))), .val (.int (nI i)), zop w5, zop w6] [] (khp n L (St n α α th ow sc) g) cl (.inl (some (.int (Int32.ofInt 1))), h', c') := by
  obtain ⟨v, α', hI', hc, hm⟩ := op_back (L := L) hn hI (sc (i + 1))
  obtain ⟨c3, hz⟩ := hc α th ow sc g
  obtain ⟨c4, hz2⟩ := hm α' th ow sc g
  obtain ⟨h', c', hk⟩ := K α' (nI 0) ow g (cl && c3 && c4) w5 w6 hI' (by omega)
  exact ⟨h', c', s144_947_t hn (zx1 1 hi (by omega) hL) hz hz2 (zc_same _) hk⟩
set_option maxHeartbeats 4000000 in
theorem lw_deliver {i : Nat} {cl : Bool} {w5 w6 : Option Int32} (hn : 2 ≤ n ∧ n ≤ 5) (hL : L ≤ 2561) (hi : i + 5 ≤ L) (hB : B + 30 < 2 ^ 29) (hcap : (khp n L (St n α α th ow sc) g).length < zcap) (hI : Inv n B α) (K : LG n L i B g.length sc) : ∃ h' c', ZR 144 972 [.val (.ref (kad n (28, 0, 0))), .val (.ref (kad n (0, 0, 0))), .val (.ref (kad n (22, 0, 0))), .val (.ref (kad n (27, 0, 0))), .val (.int (nI i)), zop w5, zop w6] [] (khp n L (St n α α th ow sc) g) cl (.inl (some (.int (Int32.ofInt 1))), h', c') := by
  have ho := op_deliver (L := L) hn hB hI (sc (i + 1))
  have hh := opH_U (hj := 84) (g := g) (th := th) (ow := ow) (sc := sc) hcap ho (fun σ σ1 c1 r1 q => s84_0_k (x2 := 0) hn q rfl) (fun σ q => s84_0_e202 hn q)
  obtain ⟨code, v', α', ow', g', c3, c4, hcode, hI', hg, hz, hm, hv⟩ := hh
  by_cases h0 : code = 0
  · subst h0
    obtain ⟨h', c', hk⟩ := K α' (nI 0) ow' g' (cl && c3 && c4) (some (nI 0)) (some v') hI' hg
    refine ⟨h', c', s144_972_tft (x7 := 0) hn (zx1 1 hi (by omega) hL) hz hm (s98_0_r hn) (zc_same _) rfl rfl ?_ hk⟩
    show zcnd .eq (lg_cmp ow'.toInt64 v'.toInt64) 0 = true
    rw [hv rfl]
    exact lg_same _
  · obtain ⟨h', c', hk⟩ := K α' (nI code) ow' g' (cl && c3 && c4) (some (nI code)) (some v') hI' hg
    refine ⟨h', c', s144_972_tt hn (zx1 1 hi (by omega) hL) hz hm (s98_0_r hn) (zc_same _) ?_ hk⟩
    rw [c_z, zc_ne (by omega) (by omega)]
    exact decide_eq_true h0
set_option maxHeartbeats 4000000 in
theorem lw_drop {i : Nat} {cl : Bool} {w5 w6 : Option Int32} (hn : 2 ≤ n ∧ n ≤ 5) (hL : L ≤ 2561) (hi : i + 5 ≤ L) (hB : B + 30 < 2 ^ 29) (hcap : (khp n L (St n α α th ow sc) g).length < zcap) (hI : Inv n B α) (K : LG n L i B g.length sc) : ∃ h' c', ZR 144 1028 [.val (.ref (kad n (28, 0, 0))), .val (.ref (kad n (0, 0, 0))), .val (.ref (kad n (22, 0, 0))), .val (.ref (kad n (27, 0, 0))), .val (.int (nI i)), zop w5, zop w6] [] (khp n L (St n α α th ow sc) g) cl (.inl (some (.int (Int32.ofInt 1))), h', c') := by
  obtain ⟨v, α', hI', hc, hm⟩ := op_drop (L := L) hn hI (sc (i + 1))
  obtain ⟨c3, hz⟩ := hc α th ow sc g
  obtain ⟨c4, hz2⟩ := hm α' th ow sc g
  obtain ⟨h', c', hk⟩ := K α' (nI 0) ow g (cl && c3 && c4) w5 w6 hI' (by omega)
  exact ⟨h', c', s144_1028_t hn (zx1 1 hi (by omega) hL) hz hz2 (zc_same _) hk⟩
set_option maxHeartbeats 4000000 in
theorem lw_twice {i : Nat} {cl : Bool} {w5 w6 : Option Int32} (hn : 2 ≤ n ∧ n ≤ 5) (hL : L ≤ 2561) (hi : i + 5 ≤ L) (hB : B + 30 < 2 ^ 29) (hcap : (khp n L (St n α α th ow sc) g).length < zcap) (hI : Inv n B α) (K : LG n L i B g.length sc) : ∃ h' c', ZR 144 1053 [.val (.ref (kad n (28, 0, 0))), .val (.ref (kad n (0, 0, 0))), .val (.ref (kad n (22, 0, 0))), .val (.ref (kad n (27, 0, 0))), .val (.int (nI i)), zop w5, zop w6] [] (khp n L (St n α α th ow sc) g) cl (.inl (some (.int (Int32.ofInt 1))), h', c') := by
  obtain ⟨v, α', hI', hc, hm⟩ := op_twice (L := L) hn hI (sc (i + 1))
  obtain ⟨c3, hz⟩ := hc α th ow sc g
  obtain ⟨c4, hz2⟩ := hm α' th ow sc g
  obtain ⟨h', c', hk⟩ := K α' (nI 0) ow g (cl && c3 && c4) w5 w6 hI' (by omega)
  exact ⟨h', c', s144_1053_t hn (zx1 1 hi (by omega) hL) hz hz2 (zc_same _) hk⟩
set_option maxHeartbeats 4000000 in
theorem lw_slot {i : Nat} {cl : Bool} {w5 w6 : Option Int32} (hn : 2 ≤ n ∧ n ≤ 5) (hL : L ≤ 2561) (hi : i + 5 ≤ L) (hB : B + 30 < 2 ^ 29) (hcap : (khp n L (St n α α th ow sc) g).length < zcap) (hI : Inv n B α) (K : LG n L i B g.length sc) : ∃ h' c', ZR 144 1078 [.val (.ref (kad n (28, 0, 0))), .val (.ref (kad n (0, 0, 0))), .val (.ref (kad n (22, 0, 0))), .val (.ref (kad n (27, 0, 0))), .val (.int (nI i)), zop w5, zop w6] [] (khp n L (St n α α th ow sc) g) cl (.inl (some (.int (Int32.ofInt 1))), h', c') := by
  obtain ⟨v, α', hI', hc, hm⟩ := op_slot (L := L) hn hI (sc (i + 1)) (sc (i + 2))
  obtain ⟨c3, hz⟩ := hc α th ow sc g
  obtain ⟨c4, hz2⟩ := hm α' th ow sc g
  obtain ⟨h', c', hk⟩ := K α' (nI 0) ow g (cl && c3 && c4) w5 w6 hI' (by omega)
  exact ⟨h', c', s144_1078_t hn (zx1 1 hi (by omega) hL) (zx1 2 hi (by omega) hL) hz hz2 (zc_same _) hk⟩
set_option maxHeartbeats 4000000 in
theorem lw_has {i : Nat} {cl : Bool} {w5 w6 : Option Int32} (hn : 2 ≤ n ∧ n ≤ 5) (hL : L ≤ 2561) (hi : i + 5 ≤ L) (hB : B + 30 < 2 ^ 29) (hcap : (khp n L (St n α α th ow sc) g).length < zcap) (hI : Inv n B α) (K : LG n L i B g.length sc) : ∃ h' c', ZR 144 1115 [.val (.ref (kad n (28, 0, 0))), .val (.ref (kad n (0, 0, 0))), .val (.ref (kad n (22, 0, 0))), .val (.ref (kad n (27, 0, 0))), .val (.int (nI i)), zop w5, zop w6] [] (khp n L (St n α α th ow sc) g) cl (.inl (some (.int (Int32.ofInt 1))), h', c') := by
  have ho := op_has (L := L) hn hI (sc (i + 1)) (sc (i + 2)) (sc (i + 3))
  have hh := opH_U (hj := 92) (g := g) (th := th) (ow := ow) (sc := sc) hcap ho (fun σ σ1 c1 r1 q => s92w_0_k (x2 := 0) hn q rfl) (fun σ q => s92_0_e202 hn q)
  obtain ⟨code, v', α', ow', g', c3, c4, hcode, hI', hg, hz, hm, hv⟩ := hh
  by_cases h0 : code = 0
  · subst h0
    obtain ⟨h', c', hk⟩ := K α' (nI 0) ow' g' (cl && c3 && c4) (some (nI 0)) (some v') hI' hg
    refine ⟨h', c', s144_1115_tft (x9 := 0) hn (zx1 1 hi (by omega) hL) (zx1 2 hi (by omega) hL) (zx1 3 hi (by omega) hL) hz hm (s98_0_r hn) (zc_same _) rfl rfl ?_ hk⟩
    show zcnd .eq (lg_cmp ow'.toInt64 v'.toInt64) 0 = true
    rw [hv rfl]
    exact lg_same _
  · obtain ⟨h', c', hk⟩ := K α' (nI code) ow' g' (cl && c3 && c4) (some (nI code)) (some v') hI' hg
    refine ⟨h', c', s144_1115_tt hn (zx1 1 hi (by omega) hL) (zx1 2 hi (by omega) hL) (zx1 3 hi (by omega) hL) hz hm (s98_0_r hn) (zc_same _) ?_ hk⟩
    rw [c_z, zc_ne (by omega) (by omega)]
    exact decide_eq_true h0
set_option maxHeartbeats 4000000 in
theorem lw_news {i : Nat} {cl : Bool} {w5 w6 : Option Int32} (hn : 2 ≤ n ∧ n ≤ 5) (hL : L ≤ 2561) (hi : i + 5 ≤ L) (hB : B + 30 < 2 ^ 29) (hcap : (khp n L (St n α α th ow sc) g).length < zcap) (hI : Inv n B α) (K : LG n L i B g.length sc) : ∃ h' c', ZR 144 1195 [.val (.ref (kad n (28, 0, 0))), .val (.ref (kad n (0, 0, 0))), .val (.ref (kad n (22, 0, 0))), .val (.ref (kad n (27, 0, 0))), .val (.int (nI i)), zop w5, zop w6] [] (khp n L (St n α α th ow sc) g) cl (.inl (some (.int (Int32.ofInt 1))), h', c') := by
  obtain ⟨v, α', hI', hc, hm⟩ := op_news (L := L) hn hI (sc (i + 1)) (sc (i + 2)) (sc (i + 3))
  obtain ⟨c3, hz⟩ := hc α th ow sc g
  obtain ⟨c4, hz2⟩ := hm α' th ow sc g
  obtain ⟨h', c', hk⟩ := K α' (nI 0) ow g (cl && c3 && c4) w5 w6 hI' (by omega)
  exact ⟨h', c', s144_1195_t hn (zx1 1 hi (by omega) hL) (zx1 2 hi (by omega) hL) (zx1 3 hi (by omega) hL) hz hz2 (zc_same _) hk⟩
set_option maxHeartbeats 4000000 in
theorem lw_pair {i : Nat} {cl : Bool} {w5 w6 : Option Int32} (hn : 2 ≤ n ∧ n ≤ 5) (hL : L ≤ 2561) (hi : i + 5 ≤ L) (hB : B + 30 < 2 ^ 29) (hcap : (khp n L (St n α α th ow sc) g).length < zcap) (hI : Inv n B α) (K : LG n L i B g.length sc) : ∃ h' c', ZR 144 1244 [.val (.ref (kad n (28, 0, 0))), .val (.ref (kad n (0, 0, 0))), .val (.ref (kad n (22, 0, 0))), .val (.ref (kad n (27, 0, 0))), .val (.int (nI i)), zop w5, zop w6] [] (khp n L (St n α α th ow sc) g) cl (.inl (some (.int (Int32.ofInt 1))), h', c') := by
  obtain ⟨v, α', hI', hc, hm⟩ := op_pair (L := L) hn hB hI (sc (i + 1)) (sc (i + 2)) (sc (i + 3))
  obtain ⟨c3, hz⟩ := hc α th ow sc g
  obtain ⟨c4, hz2⟩ := hm α' th ow sc g
  obtain ⟨h', c', hk⟩ := K α' (nI 0) ow g (cl && c3 && c4) w5 w6 hI' (by omega)
  exact ⟨h', c', s144_1244_t hn (zx1 1 hi (by omega) hL) (zx1 2 hi (by omega) hL) (zx1 3 hi (by omega) hL) hz hz2 (zc_same _) hk⟩
set_option maxHeartbeats 4000000 in
theorem lw_total {i : Nat} {cl : Bool} {w5 w6 : Option Int32} (hn : 2 ≤ n ∧ n ≤ 5) (hL : L ≤ 2561) (hi : i + 5 ≤ L) (hB : B + 30 < 2 ^ 29) (hcap : (khp n L (St n α α th ow sc) g).length < zcap) (hI : Inv n B α) (K : LG n L i B g.length sc) : ∃ h' c', ZR 144 1293 [.val (.ref (kad n (28, 0, 0))), .val (.ref (kad n (0, 0, 0))), .val (.ref (kad n (22, 0, 0))), .val (.ref (kad n (27, 0, 0))), .val (.int (nI i)), zop w5, zop w6] [] (khp n L (St n α α th ow sc) g) cl (.inl (some (.int (Int32.ofInt 1))), h', c') := by
  obtain ⟨v, α', hI', hc, hm⟩ := op_total (L := L) hn hB hI (sc (i + 1)) (sc (i + 2))
  obtain ⟨c3, hz⟩ := hc α th ow sc g
  obtain ⟨c4, hz2⟩ := hm α' th ow sc g
  obtain ⟨h', c', hk⟩ := K α' (nI 0) ow g (cl && c3 && c4) w5 w6 hI' (by omega)
  exact ⟨h', c', s144_1293_t hn (zx1 1 hi (by omega) hL) (zx1 2 hi (by omega) hL) hz hz2 (zc_same _) hk⟩
set_option maxHeartbeats 4000000 in
theorem lw_look {i : Nat} {cl : Bool} {w5 w6 : Option Int32} (hn : 2 ≤ n ∧ n ≤ 5) (hL : L ≤ 2561) (hi : i + 5 ≤ L) (hB : B + 30 < 2 ^ 29) (hcap : (khp n L (St n α α th ow sc) g).length < zcap) (hI : Inv n B α) (K : LG n L i B g.length sc) : ∃ h' c', ZR 144 1330 [.val (.ref (kad n (28, 0, 0))), .val (.ref (kad n (0, 0, 0))), .val (.ref (kad n (22, 0, 0))), .val (.ref (kad n (27, 0, 0))), .val (.int (nI i)), zop w5, zop w6] [] (khp n L (St n α α th ow sc) g) cl (.inl (some (.int (Int32.ofInt 1))), h', c') := by
  obtain ⟨v, α', hI', hc, hm⟩ := op_look (L := L) hn hI (sc (i + 1))
  obtain ⟨c3, hz⟩ := hc α th ow sc g
  obtain ⟨c4, hz2⟩ := hm α' th ow sc g
  obtain ⟨h', c', hk⟩ := K α' (nI 0) ow g (cl && c3 && c4) w5 w6 hI' (by omega)
  exact ⟨h', c', s144_1330_t hn (zx1 1 hi (by omega) hL) hz hz2 (zc_same _) hk⟩
theorem law_gt {i L : Nat} (hi : i < 2 ^ 30) (hL : L < 2 ^ 30) : zcnd .gt (nI i) (Int32.ofNat L - Int32.ofInt 5) = decide (L < i + 5) := by
  have e : (Int32.ofNat L - Int32.ofInt 5).toInt = (L : Int) - 5 := by
    show (nI L - nI 5).toInt = _
    rw [Int32.toInt_sub, nI_toInt (by omega), nI_toInt (by omega)]
    rw [Int.bmod_eq_of_le] <;> omega
  show decide (Int32.ofNat L - Int32.ofInt 5 < nI i) = _
  by_cases h : L < i + 5
  · rw [decide_eq_true h]
    exact decide_eq_true (by rw [Int32.lt_iff_toInt_lt, e, nI_toInt (by omega)]; omega)
  · rw [decide_eq_false h]
    exact decide_eq_false (by rw [Int32.lt_iff_toInt_lt, e, nI_toInt (by omega)]; omega)
theorem and31i (x : Int32) : 0 ≤ (x &&& (Int8.ofInt 31).toInt32).toInt ∧ (x &&& (Int8.ofInt 31).toInt32).toInt < 32 := by
  have e : (Int8.ofInt 31).toInt32 = nI 31 := rfl
  rw [e]
  have h1 : (x &&& nI 31).toBitVec.toNat ≤ 31 := by
    rw [Int32.toBitVec_and, BitVec.toNat_and]
    exact Nat.le_trans Nat.and_le_right (by decide)
  have h2 : (x &&& nI 31).toInt = (x &&& nI 31).toBitVec.toInt := rfl
  rw [h2, BitVec.toInt_eq_toNat_of_lt (by omega)]
  omega
theorem law_loop (hn : 2 ≤ n ∧ n ≤ 5) (hL : L ≤ 2561) : ∀ (m i B : Nat) (α : Ks) (th ow : Int32) (g : List Nat) (cl : Bool) (w5 w6 : Option Int32), L < i + 5 * m → i ≤ 2600 → B ≤ 30 * i → g.length ≤ i → Inv n B α → ∃ h' c', ZR 144 33 [.val (.ref (kad n (28, 0, 0))), .val (.ref (kad n (0, 0, 0))), .val (.ref (kad n (22, 0, 0))), .val (.ref (kad n (27, 0, 0))), .val (.int (nI i)), zop w5, zop w6] [] (khp n L (St n α α th ow sc) g) cl (.inl (some (.int (Int32.ofInt 1))), h', c')
  | 0, i, B, α, th, ow, g, cl, w5, w6, hm, hi, hB, hg, hI => ⟨_, _, s144_33_t hn (by rw [law_gt (by omega) (by omega)]; exact decide_eq_true (by omega))⟩
  | m + 1, i, B, α, th, ow, g, cl, w5, w6, hm, hi, hB, hg, hI => by
    by_cases hlt : L < i + 5
    · exact ⟨_, _, s144_33_t hn (by rw [law_gt (by omega) (by omega)]; exact decide_eq_true hlt)⟩
    have h1 : zcnd .gt (nI i) (Int32.ofNat L - Int32.ofInt 5) = false := by rw [law_gt (by omega) (by omega)]; exact decide_eq_false hlt
    have hi5 : i + 5 ≤ L := by omega
    have z2 : zix (nI i) L = some i := zix_nI (by omega) (by omega)
    have hcap : (khp n L (St n α α th ow sc) g).length < zcap := by
      rw [khp_len]
      have hk : n * (23 + 12 * n) ≤ 5 * 83 := Nat.mul_le_mul (by omega) (by omega)
      unfold knn zcap
      omega
    have K : LG n L i B g.length sc := by
      intro α' th' ow' g' cl' w5' w6' hI' hg'
      obtain ⟨h', c', hk⟩ := law_loop hn hL m (i + 5) (B + 30) α' th' ow' g' cl' w5' w6' (by omega) (by omega) (by omega) (by omega) hI'
      refine ⟨h', c', s144_1355_r hn ?_⟩
      have e : nI i + Int32.ofInt 5 = nI (i + 5) := nI_add i 5
      rw [e]
      exact hk
    obtain ⟨hlo, hhi⟩ := and31i (sc i)
    generalize hx : (sc i &&& (Int8.ofInt 31).toInt32).toInt = x at hlo hhi
    have hcs : x = 0 ∨ x = 1 ∨ x = 2 ∨ x = 3 ∨ x = 4 ∨ x = 5 ∨ x = 6 ∨ x = 7 ∨ x = 8 ∨ x = 9 ∨ x = 10 ∨ x = 11 ∨ x = 12 ∨ x = 13 ∨ x = 14 ∨ x = 15 ∨ x = 16 ∨ x = 17 ∨ x = 18 ∨ x = 19 ∨ x = 20 ∨ x = 21 ∨ 21 < x := by omega
    rcases hcs with rfl | rfl | rfl | rfl | rfl | rfl | rfl | rfl | rfl | rfl | rfl | rfl | rfl | rfl | rfl | rfl | rfl | rfl | rfl | rfl | rfl | rfl | hd
    · obtain ⟨h', c', hk⟩ := lw_stock (cl := cl) (w5 := w5) (w6 := w6) hn hL hi5 (by omega) hcap hI K
      exact ⟨h', c', s144_33_fs0_ hn h1 z2 hx hk⟩
    · obtain ⟨h', c', hk⟩ := lw_sell (cl := cl) (w5 := w5) (w6 := w6) hn hL hi5 (by omega) hcap hI K
      exact ⟨h', c', s144_33_fs1_ hn h1 z2 hx hk⟩
    · obtain ⟨h', c', hk⟩ := lw_unsell (cl := cl) (w5 := w5) (w6 := w6) hn hL hi5 (by omega) hcap hI K
      exact ⟨h', c', s144_33_fs2_ hn h1 z2 hx hk⟩
    · obtain ⟨h', c', hk⟩ := lw_broken (cl := cl) (w5 := w5) (w6 := w6) hn hL hi5 (by omega) hcap hI K
      exact ⟨h', c', s144_33_fs3_ hn h1 z2 hx hk⟩
    · obtain ⟨h', c', hk⟩ := lw_reserve (cl := cl) (w5 := w5) (w6 := w6) hn hL hi5 (by omega) hcap hI K
      exact ⟨h', c', s144_33_fs4_ hn h1 z2 hx hk⟩
    · obtain ⟨h', c', hk⟩ := lw_pick (cl := cl) (w5 := w5) (w6 := w6) hn hL hi5 (by omega) hcap hI K
      exact ⟨h', c', s144_33_fs5_ hn h1 z2 hx hk⟩
    · obtain ⟨h', c', hk⟩ := lw_tick (cl := cl) (w5 := w5) (w6 := w6) hn hL hi5 (by omega) hcap hI K
      exact ⟨h', c', s144_33_fs6_ hn h1 z2 hx hk⟩
    · obtain ⟨h', c', hk⟩ := lw_give (cl := cl) (w5 := w5) (w6 := w6) hn hL hi5 (by omega) hcap hI K
      exact ⟨h', c', s144_33_fs7_ hn h1 z2 hx hk⟩
    · obtain ⟨h', c', hk⟩ := lw_ask (cl := cl) (w5 := w5) (w6 := w6) hn hL hi5 (by omega) hcap hI K
      exact ⟨h', c', s144_33_fs8_ hn h1 z2 hx hk⟩
    · obtain ⟨h', c', hk⟩ := lw_counted (cl := cl) (w5 := w5) (w6 := w6) hn hL hi5 (by omega) hcap hI K
      exact ⟨h', c', s144_33_fs9_ hn h1 z2 hx hk⟩
    · obtain ⟨h', c', hk⟩ := lw_sync (cl := cl) (w5 := w5) (w6 := w6) hn hL hi5 (by omega) hcap hI K
      exact ⟨h', c', s144_33_fs10_ hn h1 z2 hx hk⟩
    · obtain ⟨h', c', hk⟩ := lw_crash (cl := cl) (w5 := w5) (w6 := w6) hn hL hi5 (by omega) hcap hI K
      exact ⟨h', c', s144_33_fs11_ hn h1 z2 hx hk⟩
    · obtain ⟨h', c', hk⟩ := lw_back (cl := cl) (w5 := w5) (w6 := w6) hn hL hi5 (by omega) hcap hI K
      exact ⟨h', c', s144_33_fs12_ hn h1 z2 hx hk⟩
    · obtain ⟨h', c', hk⟩ := lw_deliver (cl := cl) (w5 := w5) (w6 := w6) hn hL hi5 (by omega) hcap hI K
      exact ⟨h', c', s144_33_fs13_ hn h1 z2 hx hk⟩
    · obtain ⟨h', c', hk⟩ := lw_drop (cl := cl) (w5 := w5) (w6 := w6) hn hL hi5 (by omega) hcap hI K
      exact ⟨h', c', s144_33_fs14_ hn h1 z2 hx hk⟩
    · obtain ⟨h', c', hk⟩ := lw_twice (cl := cl) (w5 := w5) (w6 := w6) hn hL hi5 (by omega) hcap hI K
      exact ⟨h', c', s144_33_fs15_ hn h1 z2 hx hk⟩
    · obtain ⟨h', c', hk⟩ := lw_slot (cl := cl) (w5 := w5) (w6 := w6) hn hL hi5 (by omega) hcap hI K
      exact ⟨h', c', s144_33_fs16_ hn h1 z2 hx hk⟩
    · obtain ⟨h', c', hk⟩ := lw_has (cl := cl) (w5 := w5) (w6 := w6) hn hL hi5 (by omega) hcap hI K
      exact ⟨h', c', s144_33_fs17_ hn h1 z2 hx hk⟩
    · obtain ⟨h', c', hk⟩ := lw_news (cl := cl) (w5 := w5) (w6 := w6) hn hL hi5 (by omega) hcap hI K
      exact ⟨h', c', s144_33_fs18_ hn h1 z2 hx hk⟩
    · obtain ⟨h', c', hk⟩ := lw_pair (cl := cl) (w5 := w5) (w6 := w6) hn hL hi5 (by omega) hcap hI K
      exact ⟨h', c', s144_33_fs19_ hn h1 z2 hx hk⟩
    · obtain ⟨h', c', hk⟩ := lw_total (cl := cl) (w5 := w5) (w6 := w6) hn hL hi5 (by omega) hcap hI K
      exact ⟨h', c', s144_33_fs20_ hn h1 z2 hx hk⟩
    · obtain ⟨h', c', hk⟩ := lw_look (cl := cl) (w5 := w5) (w6 := w6) hn hL hi5 (by omega) hcap hI K
      exact ⟨h', c', s144_33_fs21_ hn h1 z2 hx hk⟩
    · obtain ⟨h', c', hk⟩ := K α th ow g cl w5 w6 (Inv_mono (by omega) hI) (by omega)
      exact ⟨h', c', s144_33_fd hn h1 z2 (Or.inr (by rw [show (St n α α th ow sc 60 i) = sc i from rfl, hx]; exact hd)) hk⟩
end LAW
