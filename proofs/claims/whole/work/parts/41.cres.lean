section CRES
variable {n L : Nat} {σ : Ks} {g : List Nat} {cl : Bool} {b c : Nat}
theorem c_find (hn : 2 ≤ n ∧ n ≤ 5) (hb : b < 2 * n) (hc : σ b 19 = nI c) (h6 : c ≤ 6) (id : Int32) : ZR 12 0 [.val (.ref (kad n (8, b, 0))), .val (.int id), .unset] [] (khp n L σ g) cl (.inl (some (.int (fres (fnd (fun i => σ b (20 + 4 * i)) id c 0)))), khp n L σ g, cl) := by
  have loop : ∀ k i, i + k = c → ZR 12 2 [.val (.ref (kad n (8, b, 0))), .val (.int id), .val (.int (nI i))] [] (khp n L σ g) cl (.inl (some (.int (fres (fnd (fun i => σ b (20 + 4 * i)) id k i)))), khp n L σ g, cl) := by
    intro k
    induction k with
    | zero =>
      intro i hi
      exact s12_2_t hn hb (by rw [hc, zc_ge (by omega) (by omega)]; simp; omega)
    | succ k ih =>
      intro i hi
      have h1 : zcnd .ge (nI i) (σ b 19) = false := by rw [hc, zc_ge (by omega) (by omega)]; simp; omega
      have z2 : zix (nI i) 6 = some i := zix_nI (by omega) (by decide)
      unfold fnd
      by_cases he : σ b (20 + 4 * i) = id
      · rw [if_pos he]
        exact s12_2_ff hn hb h1 z2 (zc_nef he)
      · rw [if_neg he]
        refine s12_2_ft hn hb h1 z2 (zc_net he) ?_
        rw [nI_inc]
        exact ih (i + 1) (by omega)
  exact s12_0_r hn hb (loop c 0 (by omega))
theorem c_unitsOf (hn : 2 ≤ n ∧ n ≤ 5) (hb : b < 2 * n) (hc : σ b 19 = nI c) (h6 : c ≤ 6) (a : Int32) : ZR 41 0 [.val (.ref (kad n (8, b, 0))), .val (.int a), .unset, .unset] [] (khp n L σ g) cl (.inl (some (.int (sm (fun i => if σ b (20 + 4 * i + 1) = a then σ b (20 + 4 * i + 2) else 0) c 0 0))), khp n L σ g, cl) := by
  have loop : ∀ k i acc, i + k = c → ZR 41 4 [.val (.ref (kad n (8, b, 0))), .val (.int a), .val (.int acc), .val (.int (nI i))] [] (khp n L σ g) cl (.inl (some (.int (sm (fun i => if σ b (20 + 4 * i + 1) = a then σ b (20 + 4 * i + 2) else 0) k i acc))), khp n L σ g, cl) := by
    intro k
    induction k with
    | zero =>
      intro i acc hi
      exact s41_4_t hn hb (by rw [hc, zc_ge (by omega) (by omega)]; simp; omega)
    | succ k ih =>
      intro i acc hi
      have h1 : zcnd .ge (nI i) (σ b 19) = false := by rw [hc, zc_ge (by omega) (by omega)]; simp; omega
      have z2 : zix (nI i) 6 = some i := zix_nI (by omega) (by decide)
      unfold sm
      by_cases he : σ b (20 + 4 * i + 1) = a
      · rw [if_pos he]
        refine s41_4_ff hn hb h1 z2 (zc_nef he) ?_
        rw [nI_inc]
        exact ih (i + 1) _ (by omega)
      · rw [if_neg he, Int32.add_zero]
        refine s41_4_ft hn hb h1 z2 (zc_net he) ?_
        rw [nI_inc]
        exact ih (i + 1) _ (by omega)
  exact s41_0_r hn hb (loop c 0 _ (by omega))
/-- a record without its i-th reservation -/
def remR (R : Nat → Int32) (i c : Nat) : Nat → Int32 := rup (shf R (20 + 4 * i) (20 + 4 * c) 4) 19 (nI c)
theorem c_remove (hn : 2 ≤ n ∧ n ≤ 5) (hb : b < 2 * n) {i : Nat} (hc : σ b 19 = nI (c + 1)) (h6 : c + 1 ≤ 6) (hi : i ≤ c) : ZR 13 0 [.val (.ref (kad n (8, b, 0))), .val (.int (nI i)), .unset] [] (khp n L σ g) cl (.inl none, khp n L (krow σ b (remR (σ b) i c)) g, false) := by
  have loop : ∀ k x, x + k = c → i ≤ x → ZR 13 12 [.val (.ref (kad n (8, b, 0))), .val (.int (nI i)), .val (.int (nI x))] [] (khp n L (krow σ b (rup (shf (σ b) (20 + 4 * i) (20 + 4 * x) 4) 19 (nI c))) g) false (.inl none, khp n L (krow σ b (remR (σ b) i c)) g, false) := by
    intro k
    induction k with
    | zero =>
      intro x hx hix
      have : x = c := by omega
      subst this
      exact s13_12_t hn hb (by rw [krow_same, rup_same, zc_ge (by omega) (by omega)]; simp)
    | succ k ih =>
      intro x hx hix
      have h1 : zcnd .ge (nI x) (krow σ b (rup (shf (σ b) (20 + 4 * i) (20 + 4 * x) 4) 19 (nI c)) b 19) = false := by rw [krow_same, rup_same, zc_ge (by omega) (by omega)]; simp; omega
      have z2 : zix (nI x + Int32.ofInt 1) 6 = some (x + 1) := by rw [nI_inc]; exact zix_nI (by omega) (by decide)
      have z3 : zix (nI x) 6 = some x := zix_nI (by omega) (by decide)
      refine s13_12_f hn hb h1 z2 z3 ?_
      rw [nI_inc]
      refine zr_st ?_ (ih (x + 1) (by omega) (by omega))
      simp (disch := omega) only [kup_krow2, krow_same, rup_ne, rup_same]
      congr 1
      funext y
      simp only [rup, shf]
      repeat' split
      all_goals first | rfl | (exfalso; omega) | (congr 1; omega)
  refine s13_0_r hn hb ?_
  rw [hc, nI_dec, kup_krow]
  have e0 : rup (σ b) 19 (nI c) = rup (shf (σ b) (20 + 4 * i) (20 + 4 * i) 4) 19 (nI c) := by
    congr 1
    funext y
    simp only [shf]
    rw [if_neg (by omega)]
  rw [e0]
  exact loop (c - i) i (by omega) (Nat.le_refl _)
end CRES
