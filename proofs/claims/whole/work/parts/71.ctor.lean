theorem k_fill {h H H' : Zh} {a i : Nat} {y : Value} {v : Int32} (ha : 1 ≤ a) (hl : h.length = a) (hc : H[i]? = some (100, [y, y, y, y])) (he : H.set i (100, [.int v, .int v, .int v, .int v]) = H') : ZR 7 0 [.val (.ref (a + i)), .val (.int v), .unset, .unset] [] (h ++ H) true (.inl none, h ++ H', false) := by
  have hM : zmi[7]? = some _ := rfl
  have hi : i < H.length := by
    rcases Nat.lt_or_ge i H.length with q | q
    · exact q
    · rw [List.getElem?_eq_none_iff.mpr q] at hc
      cases hc
  have hg : ∀ c : Zc, (H.set i c)[i]? = some c := fun c => List.getElem?_set_self hi
  subst he
  refine zr_fr hM rfl rfl rfl ?_
  refine zr_fr hM rfl rfl rfl ?_
  refine zr_fr hM rfl rfl rfl ?_
  refine rw_alen (i := i) (m := 4) hl hM rfl hc rfl rfl ?_
  refine zr_fr hM rfl rfl rfl ?_
  refine zr_fr hM rfl rfl rfl ?_
  refine zr_fr hM rfl rfl rfl ?_
  refine zr_icf hM rfl rfl (by decide +kernel) ?_
  refine zr_fr hM rfl rfl rfl ?_
  refine zr_fr hM rfl rfl rfl ?_
  refine zr_fr hM rfl rfl rfl ?_
  refine rw_iast (i := i) (s := 0) (H' := H.set i (100, [.int v, y, y, y])) ha hl hM rfl hc (by show zix _ 4 = some _; decide +kernel) rfl ?_
  refine zr_fr hM rfl rfl rfl ?_
  refine zr_fr hM rfl rfl rfl ?_
  refine zr_fr hM rfl rfl rfl ?_
  refine zr_fr hM rfl rfl rfl ?_
  refine zr_icf hM rfl rfl (by decide +kernel) ?_
  refine zr_fr hM rfl rfl rfl ?_
  refine zr_fr hM rfl rfl rfl ?_
  refine zr_fr hM rfl rfl rfl ?_
  refine rw_iast (i := i) (s := 1) (H' := H.set i (100, [.int v, .int v, y, y])) ha hl hM rfl (hg _) (by show zix _ 4 = some _; decide +kernel) (List.set_set ..) ?_
  refine zr_fr hM rfl rfl rfl ?_
  refine zr_fr hM rfl rfl rfl ?_
  refine zr_fr hM rfl rfl rfl ?_
  refine zr_fr hM rfl rfl rfl ?_
  refine zr_icf hM rfl rfl (by decide +kernel) ?_
  refine zr_fr hM rfl rfl rfl ?_
  refine zr_fr hM rfl rfl rfl ?_
  refine zr_fr hM rfl rfl rfl ?_
  refine rw_iast (i := i) (s := 2) (H' := H.set i (100, [.int v, .int v, .int v, y])) ha hl hM rfl (hg _) (by show zix _ 4 = some _; decide +kernel) (List.set_set ..) ?_
  refine zr_fr hM rfl rfl rfl ?_
  refine zr_fr hM rfl rfl rfl ?_
  refine zr_fr hM rfl rfl rfl ?_
  refine zr_fr hM rfl rfl rfl ?_
  refine zr_icf hM rfl rfl (by decide +kernel) ?_
  refine zr_fr hM rfl rfl rfl ?_
  refine zr_fr hM rfl rfl rfl ?_
  refine zr_fr hM rfl rfl rfl ?_
  refine rw_iast (i := i) (s := 3) (H' := H.set i (100, [.int v, .int v, .int v, .int v])) ha hl hM rfl (hg _) (by show zix _ 4 = some _; decide +kernel) (List.set_set ..) ?_
  refine zr_fr hM rfl rfl rfl ?_
  refine zr_fr hM rfl rfl rfl ?_
  refine zr_fr hM rfl rfl rfl ?_
  refine zr_fr hM rfl rfl rfl ?_
  refine zr_ict hM rfl rfl (by decide +kernel) ?_
  exact rw_vret hM rfl rfl
def b_res (a : Nat) : Zh := [(5, [.int (Int32.ofInt 0), .int (Int32.ofInt 0), .ref (a + 1), .ref (a + 2), .ref (a + 3), .ref (a + 4)]), (100, List.replicate 6 (.int 0)), (100, List.replicate 6 (.int 0)), (100, List.replicate 6 (.int 0)), (100, List.replicate 6 (.int 0))]
theorem k_res {h h0 h1 : Zh} {a : Nat} (ha : 1 ≤ a) (hl : h.length = a) (hc : a + 5 ≤ zcap) (e0 : h ++ [(5, znewv 5)] = h0) (e1 : h ++ b_res a = h1) : ZR 5 0 [.val (.ref a)] [] h0 true (.inl none, h1, false) := by
  subst e0
  subst e1
  have hM : zmi[5]? = some _ := rfl
  show ZR 5 0 [.val (.ref a)] [] (h ++ [(5, [.int 0, .int 0, .null, .null, .null, .null])]) true _
  refine zr_fr hM rfl rfl rfl ?_
  refine rw_obj hM rfl rfl ?_
  refine zr_fr hM rfl rfl rfl ?_
  refine zr_fr hM rfl rfl rfl ?_
  refine rw_putf (i := 0) (H' := [(5, [.int (Int32.ofInt 0), .int 0, .null, .null, .null, .null])]) ha hl hM rfl rfl rfl rfl rfl ?_
  refine zr_fr hM rfl rfl rfl ?_
  refine zr_fr hM rfl rfl rfl ?_
  refine rw_putf (i := 0) (H' := [(5, [.int (Int32.ofInt 0), .int (Int32.ofInt 0), .null, .null, .null, .null])]) ha hl hM rfl rfl rfl rfl rfl ?_
  refine zr_fr hM rfl rfl rfl ?_
  refine zr_fr hM rfl rfl rfl ?_
  refine rw_narr (m := 6) (u := a + 1) (H' := [(5, [.int (Int32.ofInt 0), .int (Int32.ofInt 0), .null, .null, .null, .null]), (100, List.replicate 6 (.int 0))]) hl hM rfl rfl rfl rfl (cap_ok (k := 1) hl rfl (by omega)) rfl rfl ?_
  refine rw_putf (i := 0) (H' := [(5, [.int (Int32.ofInt 0), .int (Int32.ofInt 0), .ref (a + 1), .null, .null, .null]), (100, List.replicate 6 (.int 0))]) ha hl hM rfl rfl rfl rfl rfl ?_
  refine zr_fr hM rfl rfl rfl ?_
  refine zr_fr hM rfl rfl rfl ?_
  refine rw_narr (m := 6) (u := a + 2) (H' := [(5, [.int (Int32.ofInt 0), .int (Int32.ofInt 0), .ref (a + 1), .null, .null, .null]), (100, List.replicate 6 (.int 0)), (100, List.replicate 6 (.int 0))]) hl hM rfl rfl rfl rfl (cap_ok (k := 2) hl rfl (by omega)) rfl rfl ?_
  refine rw_putf (i := 0) (H' := [(5, [.int (Int32.ofInt 0), .int (Int32.ofInt 0), .ref (a + 1), .ref (a + 2), .null, .null]), (100, List.replicate 6 (.int 0)), (100, List.replicate 6 (.int 0))]) ha hl hM rfl rfl rfl rfl rfl ?_
  refine zr_fr hM rfl rfl rfl ?_
  refine zr_fr hM rfl rfl rfl ?_
  refine rw_narr (m := 6) (u := a + 3) (H' := [(5, [.int (Int32.ofInt 0), .int (Int32.ofInt 0), .ref (a + 1), .ref (a + 2), .null, .null]), (100, List.replicate 6 (.int 0)), (100, List.replicate 6 (.int 0)), (100, List.replicate 6 (.int 0))]) hl hM rfl rfl rfl rfl (cap_ok (k := 3) hl rfl (by omega)) rfl rfl ?_
  refine rw_putf (i := 0) (H' := [(5, [.int (Int32.ofInt 0), .int (Int32.ofInt 0), .ref (a + 1), .ref (a + 2), .ref (a + 3), .null]), (100, List.replicate 6 (.int 0)), (100, List.replicate 6 (.int 0)), (100, List.replicate 6 (.int 0))]) ha hl hM rfl rfl rfl rfl rfl ?_
  refine zr_fr hM rfl rfl rfl ?_
  refine zr_fr hM rfl rfl rfl ?_
  refine rw_narr (m := 6) (u := a + 4) (H' := [(5, [.int (Int32.ofInt 0), .int (Int32.ofInt 0), .ref (a + 1), .ref (a + 2), .ref (a + 3), .null]), (100, List.replicate 6 (.int 0)), (100, List.replicate 6 (.int 0)), (100, List.replicate 6 (.int 0)), (100, List.replicate 6 (.int 0))]) hl hM rfl rfl rfl rfl (cap_ok (k := 4) hl rfl (by omega)) rfl rfl ?_
  refine rw_putf (i := 0) (H' := [(5, [.int (Int32.ofInt 0), .int (Int32.ofInt 0), .ref (a + 1), .ref (a + 2), .ref (a + 3), .ref (a + 4)]), (100, List.replicate 6 (.int 0)), (100, List.replicate 6 (.int 0)), (100, List.replicate 6 (.int 0)), (100, List.replicate 6 (.int 0))]) ha hl hM rfl rfl rfl rfl rfl ?_
  exact rw_vret hM rfl rfl
def b_pair (a : Nat) : Zh := [(4, [.int (Int32.ofInt 0), .int (Int32.ofInt 0), .ref (a + 1), .ref (a + 2), .ref (a + 3), .int (Int32.ofInt 0), .int (Int32.ofInt 0), .ref (a + 4), .ref (a + 5)]), (100, List.replicate 4 (.int 0)), (100, List.replicate 4 (.int 0)), (100, List.replicate 4 (.int 0)), (100, List.replicate 4 (.int (Int32.ofInt (-1)))), (100, List.replicate 4 (.int (Int32.ofInt (-1))))]
theorem k_pair {h h0 h1 : Zh} {a : Nat} (ha : 1 ≤ a) (hl : h.length = a) (hc : a + 6 ≤ zcap) (e0 : h ++ [(4, znewv 4)] = h0) (e1 : h ++ b_pair a = h1) : ZR 6 0 [.val (.ref a)] [] h0 true (.inl none, h1, false) := by
  subst e0
  subst e1
  have hM : zmi[6]? = some _ := rfl
  show ZR 6 0 [.val (.ref a)] [] (h ++ [(4, [.int 0, .int 0, .null, .null, .null, .int 0, .int 0, .null, .null])]) true _
  refine zr_fr hM rfl rfl rfl ?_
  refine rw_obj hM rfl rfl ?_
  refine zr_fr hM rfl rfl rfl ?_
  refine zr_fr hM rfl rfl rfl ?_
  refine rw_putf (i := 0) (H' := [(4, [.int (Int32.ofInt 0), .int 0, .null, .null, .null, .int 0, .int 0, .null, .null])]) ha hl hM rfl rfl rfl rfl rfl ?_
  refine zr_fr hM rfl rfl rfl ?_
  refine zr_fr hM rfl rfl rfl ?_
  refine rw_putf (i := 0) (H' := [(4, [.int (Int32.ofInt 0), .int (Int32.ofInt 0), .null, .null, .null, .int 0, .int 0, .null, .null])]) ha hl hM rfl rfl rfl rfl rfl ?_
  refine zr_fr hM rfl rfl rfl ?_
  refine zr_fr hM rfl rfl rfl ?_
  refine rw_narr (m := 4) (u := a + 1) (H' := [(4, [.int (Int32.ofInt 0), .int (Int32.ofInt 0), .null, .null, .null, .int 0, .int 0, .null, .null]), (100, List.replicate 4 (.int 0))]) hl hM rfl rfl rfl rfl (cap_ok (k := 1) hl rfl (by omega)) rfl rfl ?_
  refine rw_putf (i := 0) (H' := [(4, [.int (Int32.ofInt 0), .int (Int32.ofInt 0), .ref (a + 1), .null, .null, .int 0, .int 0, .null, .null]), (100, List.replicate 4 (.int 0))]) ha hl hM rfl rfl rfl rfl rfl ?_
  refine zr_fr hM rfl rfl rfl ?_
  refine zr_fr hM rfl rfl rfl ?_
  refine rw_narr (m := 4) (u := a + 2) (H' := [(4, [.int (Int32.ofInt 0), .int (Int32.ofInt 0), .ref (a + 1), .null, .null, .int 0, .int 0, .null, .null]), (100, List.replicate 4 (.int 0)), (100, List.replicate 4 (.int 0))]) hl hM rfl rfl rfl rfl (cap_ok (k := 2) hl rfl (by omega)) rfl rfl ?_
  refine rw_putf (i := 0) (H' := [(4, [.int (Int32.ofInt 0), .int (Int32.ofInt 0), .ref (a + 1), .ref (a + 2), .null, .int 0, .int 0, .null, .null]), (100, List.replicate 4 (.int 0)), (100, List.replicate 4 (.int 0))]) ha hl hM rfl rfl rfl rfl rfl ?_
  refine zr_fr hM rfl rfl rfl ?_
  refine zr_fr hM rfl rfl rfl ?_
  refine rw_narr (m := 4) (u := a + 3) (H' := [(4, [.int (Int32.ofInt 0), .int (Int32.ofInt 0), .ref (a + 1), .ref (a + 2), .null, .int 0, .int 0, .null, .null]), (100, List.replicate 4 (.int 0)), (100, List.replicate 4 (.int 0)), (100, List.replicate 4 (.int 0))]) hl hM rfl rfl rfl rfl (cap_ok (k := 3) hl rfl (by omega)) rfl rfl ?_
  refine rw_putf (i := 0) (H' := [(4, [.int (Int32.ofInt 0), .int (Int32.ofInt 0), .ref (a + 1), .ref (a + 2), .ref (a + 3), .int 0, .int 0, .null, .null]), (100, List.replicate 4 (.int 0)), (100, List.replicate 4 (.int 0)), (100, List.replicate 4 (.int 0))]) ha hl hM rfl rfl rfl rfl rfl ?_
  refine zr_fr hM rfl rfl rfl ?_
  refine zr_fr hM rfl rfl rfl ?_
  refine rw_putf (i := 0) (H' := [(4, [.int (Int32.ofInt 0), .int (Int32.ofInt 0), .ref (a + 1), .ref (a + 2), .ref (a + 3), .int (Int32.ofInt 0), .int 0, .null, .null]), (100, List.replicate 4 (.int 0)), (100, List.replicate 4 (.int 0)), (100, List.replicate 4 (.int 0))]) ha hl hM rfl rfl rfl rfl rfl ?_
  refine zr_fr hM rfl rfl rfl ?_
  refine zr_fr hM rfl rfl rfl ?_
  refine rw_putf (i := 0) (H' := [(4, [.int (Int32.ofInt 0), .int (Int32.ofInt 0), .ref (a + 1), .ref (a + 2), .ref (a + 3), .int (Int32.ofInt 0), .int (Int32.ofInt 0), .null, .null]), (100, List.replicate 4 (.int 0)), (100, List.replicate 4 (.int 0)), (100, List.replicate 4 (.int 0))]) ha hl hM rfl rfl rfl rfl rfl ?_
  refine zr_fr hM rfl rfl rfl ?_
  refine zr_fr hM rfl rfl rfl ?_
  refine rw_narr (m := 4) (u := a + 4) (H' := [(4, [.int (Int32.ofInt 0), .int (Int32.ofInt 0), .ref (a + 1), .ref (a + 2), .ref (a + 3), .int (Int32.ofInt 0), .int (Int32.ofInt 0), .null, .null]), (100, List.replicate 4 (.int 0)), (100, List.replicate 4 (.int 0)), (100, List.replicate 4 (.int 0)), (100, List.replicate 4 (.int 0))]) hl hM rfl rfl rfl rfl (cap_ok (k := 4) hl rfl (by omega)) rfl rfl ?_
  refine rw_putf (i := 0) (H' := [(4, [.int (Int32.ofInt 0), .int (Int32.ofInt 0), .ref (a + 1), .ref (a + 2), .ref (a + 3), .int (Int32.ofInt 0), .int (Int32.ofInt 0), .ref (a + 4), .null]), (100, List.replicate 4 (.int 0)), (100, List.replicate 4 (.int 0)), (100, List.replicate 4 (.int 0)), (100, List.replicate 4 (.int 0))]) ha hl hM rfl rfl rfl rfl rfl ?_
  refine zr_fr hM rfl rfl rfl ?_
  refine zr_fr hM rfl rfl rfl ?_
  refine rw_narr (m := 4) (u := a + 5) (H' := [(4, [.int (Int32.ofInt 0), .int (Int32.ofInt 0), .ref (a + 1), .ref (a + 2), .ref (a + 3), .int (Int32.ofInt 0), .int (Int32.ofInt 0), .ref (a + 4), .null]), (100, List.replicate 4 (.int 0)), (100, List.replicate 4 (.int 0)), (100, List.replicate 4 (.int 0)), (100, List.replicate 4 (.int 0)), (100, List.replicate 4 (.int 0))]) hl hM rfl rfl rfl rfl (cap_ok (k := 5) hl rfl (by omega)) rfl rfl ?_
  refine rw_putf (i := 0) (H' := [(4, [.int (Int32.ofInt 0), .int (Int32.ofInt 0), .ref (a + 1), .ref (a + 2), .ref (a + 3), .int (Int32.ofInt 0), .int (Int32.ofInt 0), .ref (a + 4), .ref (a + 5)]), (100, List.replicate 4 (.int 0)), (100, List.replicate 4 (.int 0)), (100, List.replicate 4 (.int 0)), (100, List.replicate 4 (.int 0)), (100, List.replicate 4 (.int 0))]) ha hl hM rfl rfl rfl rfl rfl ?_
  refine zr_fr hM rfl rfl rfl ?_
  refine rw_getf (i := 0) hl hM rfl rfl rfl ?_
  refine zr_fr hM rfl rfl rfl ?_
  refine zr_stat hM rfl rfl rfl rfl rfl rfl ?_
  refine zgo_ret rfl rfl (k_fill (i := 4) (H' := [(4, [.int (Int32.ofInt 0), .int (Int32.ofInt 0), .ref (a + 1), .ref (a + 2), .ref (a + 3), .int (Int32.ofInt 0), .int (Int32.ofInt 0), .ref (a + 4), .ref (a + 5)]), (100, List.replicate 4 (.int 0)), (100, List.replicate 4 (.int 0)), (100, List.replicate 4 (.int 0)), (100, List.replicate 4 (.int (Int32.ofInt (-1)))), (100, List.replicate 4 (.int 0))]) ha hl rfl rfl) ?_
  refine zr_fr hM rfl rfl rfl ?_
  refine rw_getf (i := 0) hl hM rfl rfl rfl ?_
  refine zr_fr hM rfl rfl rfl ?_
  refine zr_stat hM rfl rfl rfl rfl rfl rfl ?_
  refine zgo_ret rfl rfl (k_fill (i := 5) (H' := [(4, [.int (Int32.ofInt 0), .int (Int32.ofInt 0), .ref (a + 1), .ref (a + 2), .ref (a + 3), .int (Int32.ofInt 0), .int (Int32.ofInt 0), .ref (a + 4), .ref (a + 5)]), (100, List.replicate 4 (.int 0)), (100, List.replicate 4 (.int 0)), (100, List.replicate 4 (.int 0)), (100, List.replicate 4 (.int (Int32.ofInt (-1)))), (100, List.replicate 4 (.int (Int32.ofInt (-1))))]) ha hl rfl rfl) ?_
  exact rw_vret hM rfl rfl
def b_net (a : Nat) : Zh := [(3, [.int (Int32.ofInt 0), .int (Int32.ofInt 0), .ref (a + 1)]), (100, List.replicate 144 (.int 0))]
theorem k_net {h h0 h1 : Zh} {a : Nat} (ha : 1 ≤ a) (hl : h.length = a) (hc : a + 2 ≤ zcap) (e0 : h ++ [(3, znewv 3)] = h0) (e1 : h ++ b_net a = h1) : ZR 8 0 [.val (.ref a)] [] h0 true (.inl none, h1, false) := by
  subst e0
  subst e1
  have hM : zmi[8]? = some _ := rfl
  show ZR 8 0 [.val (.ref a)] [] (h ++ [(3, [.int 0, .int 0, .null])]) true _
  refine zr_fr hM rfl rfl rfl ?_
  refine rw_obj hM rfl rfl ?_
  refine zr_fr hM rfl rfl rfl ?_
  refine zr_fr hM rfl rfl rfl ?_
  refine rw_putf (i := 0) (H' := [(3, [.int (Int32.ofInt 0), .int 0, .null])]) ha hl hM rfl rfl rfl rfl rfl ?_
  refine zr_fr hM rfl rfl rfl ?_
  refine zr_fr hM rfl rfl rfl ?_
  refine rw_putf (i := 0) (H' := [(3, [.int (Int32.ofInt 0), .int (Int32.ofInt 0), .null])]) ha hl hM rfl rfl rfl rfl rfl ?_
  refine zr_fr hM rfl rfl rfl ?_
  refine zr_fr hM rfl rfl rfl ?_
  refine rw_narr (m := 144) (u := a + 1) (H' := [(3, [.int (Int32.ofInt 0), .int (Int32.ofInt 0), .null]), (100, List.replicate 144 (.int 0))]) hl hM rfl rfl rfl rfl (cap_ok (k := 1) hl rfl (by omega)) rfl rfl ?_
  refine rw_putf (i := 0) (H' := [(3, [.int (Int32.ofInt 0), .int (Int32.ofInt 0), .ref (a + 1)]), (100, List.replicate 144 (.int 0))]) ha hl hM rfl rfl rfl rfl rfl ?_
  exact rw_vret hM rfl rfl
/-- the books of the pairs -/
def b_prs (a : Nat) : Nat → Zh
  | 0 => []
  | k + 1 => b_prs a k ++ b_pair (a + (11 + 6 * k))
theorem b_prs_len (a : Nat) : ∀ k, (b_prs a k).length = 6 * k
  | 0 => rfl
  | k + 1 => by
    show (b_prs a k ++ b_pair (a + (11 + 6 * k))).length = _
    rw [List.length_append, b_prs_len a k]
    show 6 * k + 6 = _
    omega
/-- references, k of them set -/
def b_arr (n : Nat) (f : Nat → Nat) (k : Nat) : List Value := (List.range n).map fun i => if i < k then .ref (f i) else .null
theorem b_arr0 (n : Nat) (f : Nat → Nat) : List.replicate n Value.null = b_arr n f 0 := by
  apply List.ext_getElem?
  intro i
  unfold b_arr
  by_cases hi : i < n
  · simp [hi]
  · rw [List.getElem?_eq_none_iff.mpr (by simpa using hi), List.getElem?_eq_none_iff.mpr (by simpa using hi)]
theorem b_arr_len (n : Nat) (f : Nat → Nat) (k : Nat) : (b_arr n f k).length = n := by simp [b_arr]
theorem b_arr_set {n : Nat} {f : Nat → Nat} {k : Nat} (hk : k < n) : (b_arr n f k).set k (.ref (f k)) = b_arr n f (k + 1) := by
  apply List.ext_getElem?
  intro i
  by_cases hi : i < n
  · by_cases hik : i = k
    · subst hik
      rw [List.getElem?_set_self (by rw [b_arr_len]; exact hi)]
      simp [b_arr, hi]
    · rw [List.getElem?_set_ne (Ne.symm hik)]
      unfold b_arr
      simp only [List.getElem?_map, List.getElem?_range hi, Option.map_some]
      by_cases h1 : i < k
      · rw [if_pos h1, if_pos (by omega)]
      · rw [if_neg h1, if_neg (by omega)]
  · rw [List.getElem?_eq_none_iff.mpr (by rw [List.length_set, b_arr_len]; omega), List.getElem?_eq_none_iff.mpr (by rw [b_arr_len]; omega)]
def b_hd (n a k : Nat) : Zh := [(2, [.ref (a + 1), .ref (a + 2), .ref (a + 3), .ref (a + 4), .int (Int32.ofInt 0), .int (Int32.ofInt 0), .ref (a + 5), .ref (a + 10)]), (100, List.replicate 4 (.int 0)), (100, List.replicate 4 (.int 0)), (100, List.replicate 4 (.int 0)), (100, List.replicate 4 (.int 0)), (5, [.int (Int32.ofInt 0), .int (Int32.ofInt 0), .ref (a + 6), .ref (a + 7), .ref (a + 8), .ref (a + 9)]), (100, List.replicate 6 (.int 0)), (100, List.replicate 6 (.int 0)), (100, List.replicate 6 (.int 0)), (100, List.replicate 6 (.int 0)), (104, b_arr n (fun i => a + (11 + 6 * i)) k)]
def b_bk (n a k : Nat) : Zh := b_hd n a k ++ b_prs a k
theorem b_bk_len (n a k : Nat) : (b_bk n a k).length = 11 + 6 * k := by
  show (b_hd n a k ++ b_prs a k).length = _
  rw [List.length_append, b_prs_len]
  rfl
theorem k_bkl {h : Zh} {n a : Nat} (ha : 1 ≤ a) (hl : h.length = a) (hn : n ≤ 5) (hc : a + 11 + 6 * n ≤ zcap) : ∀ (m k : Nat), k + m = n → ZR 4 63 [.val (.ref a), .val (.int (nI n)), .val (.int (nI k))] [] (h ++ b_bk n a k) false (.inl none, h ++ b_bk n a n, false)
  | 0, k, e => by
    have hM : zmi[4]? = some _ := rfl
    subst e
    refine zr_fr hM rfl rfl rfl ?_
    refine zr_fr hM rfl rfl rfl ?_
    refine zr_ict hM rfl rfl (by rw [zc_ge (by omega) (by omega)]; exact decide_eq_true (Nat.le_refl _)) ?_
    exact rw_vret hM rfl rfl
  | m + 1, k, e => by
    have hM : zmi[4]? = some _ := rfl
    have hk : k < n := by omega
    refine zr_fr hM rfl rfl rfl ?_
    refine zr_fr hM rfl rfl rfl ?_
    refine zr_icf hM rfl rfl (by rw [zc_ge (by omega) (by omega)]; exact decide_eq_false (by omega)) ?_
    refine zr_fr hM rfl rfl rfl ?_
    refine rw_getf (i := 0) hl hM rfl rfl rfl ?_
    refine zr_fr hM rfl rfl rfl ?_
    refine rw_new (u := a + (11 + 6 * k)) (H' := b_bk n a k ++ [(4, znewv 4)]) hl hM rfl rfl (cap_ok (k := 11 + 6 * k) hl (b_bk_len n a k) (by omega)) (by rw [b_bk_len]) rfl ?_
    refine zr_fr hM rfl rfl rfl ?_
    refine rw_spec (b := a + (11 + 6 * k)) (c := (4, znewv 4)) hM rfl rfl rfl rfl rfl rfl (app_get hl (by rw [List.getElem?_append_right (by rw [b_bk_len]; omega), b_bk_len, Nat.sub_self]; rfl)) rfl rfl ?_
    refine zgo_ret (h' := h ++ (b_bk n a k ++ b_pair (a + (11 + 6 * k)))) rfl rfl (k_pair (h := h ++ b_bk n a k) (a := a + (11 + 6 * k)) (by omega) (app_len hl (b_bk_len n a k)) (by omega) (app3 rfl) (app3 rfl)) ?_
    refine rw_aast (i := 10) (e := 11 + 6 * k) (s := k) (H' := b_bk n a (k + 1)) (d := (4, _)) ha hl hM rfl rfl (by rw [List.getElem?_append_right (by rw [b_bk_len]; omega), b_bk_len, Nat.sub_self]; rfl) rfl (Or.inr ⟨rfl, rfl⟩) (by rw [b_arr_len]; exact zix_nI hk (by omega)) ?_ ?_
    · rw [b_arr_set (f := fun i => a + (11 + 6 * i)) hk]
      rfl
    refine zr_fr hM rfl rfl rfl ?_
    refine zr_fr hM rfl rfl rfl ?_
    rw [nI_inc]
    exact k_bkl ha hl hn hc m (k + 1) (by omega)
theorem k_book {h h0 h1 : Zh} {n a : Nat} (ha : 1 ≤ a) (hl : h.length = a) (hn : n ≤ 5) (hc : a + 11 + 6 * n ≤ zcap) (e0 : h ++ [(2, znewv 2)] = h0) (e1 : h ++ b_bk n a n = h1) : ZR 4 0 [.val (.ref a), .val (.int (nI n)), .unset] [] h0 true (.inl none, h1, false) := by
  subst e0
  subst e1
  have hM : zmi[4]? = some _ := rfl
  show ZR 4 0 [.val (.ref a), .val (.int (nI n)), .unset] [] (h ++ [(2, [.null, .null, .null, .null, .int 0, .int 0, .null, .null])]) true _
  refine zr_fr hM rfl rfl rfl ?_
  refine rw_obj hM rfl rfl ?_
  refine zr_fr hM rfl rfl rfl ?_
  refine zr_fr hM rfl rfl rfl ?_
  refine rw_narr (m := 4) (u := a + 1) (H' := [(2, [.null, .null, .null, .null, .int 0, .int 0, .null, .null]), (100, List.replicate 4 (.int 0))]) hl hM rfl rfl rfl rfl (cap_ok (k := 1) hl rfl (by omega)) rfl rfl ?_
  refine rw_putf (i := 0) (H' := [(2, [.ref (a + 1), .null, .null, .null, .int 0, .int 0, .null, .null]), (100, List.replicate 4 (.int 0))]) ha hl hM rfl rfl rfl rfl rfl ?_
  refine zr_fr hM rfl rfl rfl ?_
  refine zr_fr hM rfl rfl rfl ?_
  refine rw_narr (m := 4) (u := a + 2) (H' := [(2, [.ref (a + 1), .null, .null, .null, .int 0, .int 0, .null, .null]), (100, List.replicate 4 (.int 0)), (100, List.replicate 4 (.int 0))]) hl hM rfl rfl rfl rfl (cap_ok (k := 2) hl rfl (by omega)) rfl rfl ?_
  refine rw_putf (i := 0) (H' := [(2, [.ref (a + 1), .ref (a + 2), .null, .null, .int 0, .int 0, .null, .null]), (100, List.replicate 4 (.int 0)), (100, List.replicate 4 (.int 0))]) ha hl hM rfl rfl rfl rfl rfl ?_
  refine zr_fr hM rfl rfl rfl ?_
  refine zr_fr hM rfl rfl rfl ?_
  refine rw_narr (m := 4) (u := a + 3) (H' := [(2, [.ref (a + 1), .ref (a + 2), .null, .null, .int 0, .int 0, .null, .null]), (100, List.replicate 4 (.int 0)), (100, List.replicate 4 (.int 0)), (100, List.replicate 4 (.int 0))]) hl hM rfl rfl rfl rfl (cap_ok (k := 3) hl rfl (by omega)) rfl rfl ?_
  refine rw_putf (i := 0) (H' := [(2, [.ref (a + 1), .ref (a + 2), .ref (a + 3), .null, .int 0, .int 0, .null, .null]), (100, List.replicate 4 (.int 0)), (100, List.replicate 4 (.int 0)), (100, List.replicate 4 (.int 0))]) ha hl hM rfl rfl rfl rfl rfl ?_
  refine zr_fr hM rfl rfl rfl ?_
  refine zr_fr hM rfl rfl rfl ?_
  refine rw_narr (m := 4) (u := a + 4) (H' := [(2, [.ref (a + 1), .ref (a + 2), .ref (a + 3), .null, .int 0, .int 0, .null, .null]), (100, List.replicate 4 (.int 0)), (100, List.replicate 4 (.int 0)), (100, List.replicate 4 (.int 0)), (100, List.replicate 4 (.int 0))]) hl hM rfl rfl rfl rfl (cap_ok (k := 4) hl rfl (by omega)) rfl rfl ?_
  refine rw_putf (i := 0) (H' := [(2, [.ref (a + 1), .ref (a + 2), .ref (a + 3), .ref (a + 4), .int 0, .int 0, .null, .null]), (100, List.replicate 4 (.int 0)), (100, List.replicate 4 (.int 0)), (100, List.replicate 4 (.int 0)), (100, List.replicate 4 (.int 0))]) ha hl hM rfl rfl rfl rfl rfl ?_
  refine zr_fr hM rfl rfl rfl ?_
  refine zr_fr hM rfl rfl rfl ?_
  refine rw_putf (i := 0) (H' := [(2, [.ref (a + 1), .ref (a + 2), .ref (a + 3), .ref (a + 4), .int (Int32.ofInt 0), .int 0, .null, .null]), (100, List.replicate 4 (.int 0)), (100, List.replicate 4 (.int 0)), (100, List.replicate 4 (.int 0)), (100, List.replicate 4 (.int 0))]) ha hl hM rfl rfl rfl rfl rfl ?_
  refine zr_fr hM rfl rfl rfl ?_
  refine zr_fr hM rfl rfl rfl ?_
  refine rw_putf (i := 0) (H' := [(2, [.ref (a + 1), .ref (a + 2), .ref (a + 3), .ref (a + 4), .int (Int32.ofInt 0), .int (Int32.ofInt 0), .null, .null]), (100, List.replicate 4 (.int 0)), (100, List.replicate 4 (.int 0)), (100, List.replicate 4 (.int 0)), (100, List.replicate 4 (.int 0))]) ha hl hM rfl rfl rfl rfl rfl ?_
  refine zr_fr hM rfl rfl rfl ?_
  refine rw_new (u := a + 5) (H' := [(2, [.ref (a + 1), .ref (a + 2), .ref (a + 3), .ref (a + 4), .int (Int32.ofInt 0), .int (Int32.ofInt 0), .null, .null]), (100, List.replicate 4 (.int 0)), (100, List.replicate 4 (.int 0)), (100, List.replicate 4 (.int 0)), (100, List.replicate 4 (.int 0)), (5, [.int 0, .int 0, .null, .null, .null, .null])]) hl hM rfl rfl (cap_ok (k := 5) hl rfl (by omega)) rfl rfl ?_
  refine zr_fr hM rfl rfl rfl ?_
  refine rw_spec (b := a + 5) (c := (5, _)) hM rfl rfl rfl rfl rfl rfl (app_get (i := 5) hl rfl) rfl rfl ?_
  refine zgo_ret (h' := h ++ [(2, [.ref (a + 1), .ref (a + 2), .ref (a + 3), .ref (a + 4), .int (Int32.ofInt 0), .int (Int32.ofInt 0), .null, .null]), (100, List.replicate 4 (.int 0)), (100, List.replicate 4 (.int 0)), (100, List.replicate 4 (.int 0)), (100, List.replicate 4 (.int 0)), (5, [.int (Int32.ofInt 0), .int (Int32.ofInt 0), .ref (a + 6), .ref (a + 7), .ref (a + 8), .ref (a + 9)]), (100, List.replicate 6 (.int 0)), (100, List.replicate 6 (.int 0)), (100, List.replicate 6 (.int 0)), (100, List.replicate 6 (.int 0))]) rfl rfl (k_res (h := h ++ [(2, [.ref (a + 1), .ref (a + 2), .ref (a + 3), .ref (a + 4), .int (Int32.ofInt 0), .int (Int32.ofInt 0), .null, .null]), (100, List.replicate 4 (.int 0)), (100, List.replicate 4 (.int 0)), (100, List.replicate 4 (.int 0)), (100, List.replicate 4 (.int 0))]) (a := a + 5) (by omega) (app_len hl rfl) (by omega) (app3 rfl) (app3 rfl)) ?_
  refine rw_putf (i := 0) (H' := [(2, [.ref (a + 1), .ref (a + 2), .ref (a + 3), .ref (a + 4), .int (Int32.ofInt 0), .int (Int32.ofInt 0), .ref (a + 5), .null]), (100, List.replicate 4 (.int 0)), (100, List.replicate 4 (.int 0)), (100, List.replicate 4 (.int 0)), (100, List.replicate 4 (.int 0)), (5, [.int (Int32.ofInt 0), .int (Int32.ofInt 0), .ref (a + 6), .ref (a + 7), .ref (a + 8), .ref (a + 9)]), (100, List.replicate 6 (.int 0)), (100, List.replicate 6 (.int 0)), (100, List.replicate 6 (.int 0)), (100, List.replicate 6 (.int 0))]) ha hl hM rfl rfl rfl rfl rfl ?_
  refine zr_fr hM rfl rfl rfl ?_
  refine zr_fr hM rfl rfl rfl ?_
  refine rw_anew (m := n) (u := a + 10) (H' := [(2, [.ref (a + 1), .ref (a + 2), .ref (a + 3), .ref (a + 4), .int (Int32.ofInt 0), .int (Int32.ofInt 0), .ref (a + 5), .null]), (100, List.replicate 4 (.int 0)), (100, List.replicate 4 (.int 0)), (100, List.replicate 4 (.int 0)), (100, List.replicate 4 (.int 0)), (5, [.int (Int32.ofInt 0), .int (Int32.ofInt 0), .ref (a + 6), .ref (a + 7), .ref (a + 8), .ref (a + 9)]), (100, List.replicate 6 (.int 0)), (100, List.replicate 6 (.int 0)), (100, List.replicate 6 (.int 0)), (100, List.replicate 6 (.int 0)), (104, List.replicate n .null)]) hl hM rfl (Or.inr rfl) rfl (by omega) (cap_ok (k := 10) hl rfl (by omega)) rfl rfl ?_
  refine rw_putf (i := 0) (H' := [(2, [.ref (a + 1), .ref (a + 2), .ref (a + 3), .ref (a + 4), .int (Int32.ofInt 0), .int (Int32.ofInt 0), .ref (a + 5), .ref (a + 10)]), (100, List.replicate 4 (.int 0)), (100, List.replicate 4 (.int 0)), (100, List.replicate 4 (.int 0)), (100, List.replicate 4 (.int 0)), (5, [.int (Int32.ofInt 0), .int (Int32.ofInt 0), .ref (a + 6), .ref (a + 7), .ref (a + 8), .ref (a + 9)]), (100, List.replicate 6 (.int 0)), (100, List.replicate 6 (.int 0)), (100, List.replicate 6 (.int 0)), (100, List.replicate 6 (.int 0)), (104, List.replicate n .null)]) ha hl hM rfl rfl rfl rfl rfl ?_
  refine zr_fr hM rfl rfl rfl ?_
  refine zr_fr hM rfl rfl rfl ?_
  rw [b_arr0 n (fun i => a + (11 + 6 * i))]
  exact k_bkl ha hl hn hc n 0 (Nat.zero_add n)
def b_till (n a : Nat) : Zh := (1, [.int (Int32.ofInt 1), .ref (a + 1), .ref (a + (12 + 6 * n))]) :: (b_bk n (a + 1) n ++ b_bk n (a + (12 + 6 * n)) n)
theorem b_till_len (n a : Nat) : (b_till n a).length = 23 + 12 * n := by
  show (b_bk n (a + 1) n ++ b_bk n (a + (12 + 6 * n)) n).length + 1 = _
  rw [List.length_append, b_bk_len, b_bk_len]
  omega
theorem k_till {h h0 h1 : Zh} {n a : Nat} (ha : 1 ≤ a) (hl : h.length = a) (hn : n ≤ 5) (hc : a + 23 + 12 * n ≤ zcap) (e0 : h ++ [(1, znewv 1)] = h0) (e1 : h ++ b_till n a = h1) : ZR 3 0 [.val (.ref a), .val (.int (nI n))] [] h0 true (.inl none, h1, false) := by
  subst e0
  subst e1
  have hM : zmi[3]? = some _ := rfl
  have hb1 : ∀ c : Zc, (c :: b_bk n (a + 1) n).length = 12 + 6 * n := fun c => by
    rw [List.length_cons, b_bk_len]
    omega
  show ZR 3 0 [.val (.ref a), .val (.int (nI n))] [] (h ++ [(1, [.int 0, .null, .null])]) true _
  refine zr_fr hM rfl rfl rfl ?_
  refine rw_obj hM rfl rfl ?_
  refine zr_fr hM rfl rfl rfl ?_
  refine zr_fr hM rfl rfl rfl ?_
  refine rw_putf (i := 0) (H' := [(1, [.int (Int32.ofInt 1), .null, .null])]) ha hl hM rfl rfl rfl (by decide +kernel) rfl ?_
  refine zr_fr hM rfl rfl rfl ?_
  refine rw_new (u := a + 1) (H' := [(1, [.int (Int32.ofInt 1), .null, .null]), (2, znewv 2)]) hl hM rfl rfl (cap_ok (k := 1) hl rfl (by omega)) rfl rfl ?_
  refine zr_fr hM rfl rfl rfl ?_
  refine zr_fr hM rfl rfl rfl ?_
  refine rw_spec (b := a + 1) (c := (2, znewv 2)) hM rfl rfl rfl rfl rfl rfl (app_get (i := 1) hl rfl) rfl rfl ?_
  refine zgo_ret (h' := h ++ ((1, [.int (Int32.ofInt 1), .null, .null]) :: b_bk n (a + 1) n)) rfl rfl (k_book (h := h ++ [(1, [.int (Int32.ofInt 1), .null, .null])]) (a := a + 1) (by omega) (app_len hl rfl) hn (by omega) (app3 rfl) (app3 rfl)) ?_
  refine rw_putf (i := 0) (H' := (1, [.int (Int32.ofInt 1), .ref (a + 1), .null]) :: b_bk n (a + 1) n) ha hl hM rfl rfl rfl rfl rfl ?_
  refine zr_fr hM rfl rfl rfl ?_
  refine rw_new (u := a + (12 + 6 * n)) (H' := ((1, [.int (Int32.ofInt 1), .ref (a + 1), .null]) :: b_bk n (a + 1) n) ++ [(2, znewv 2)]) hl hM rfl rfl (cap_ok (k := 12 + 6 * n) hl (hb1 _) (by omega)) (by rw [hb1]) rfl ?_
  refine zr_fr hM rfl rfl rfl ?_
  refine zr_fr hM rfl rfl rfl ?_
  refine rw_spec (b := a + (12 + 6 * n)) (c := (2, znewv 2)) hM rfl rfl rfl rfl rfl rfl (app_get hl (by rw [List.getElem?_append_right (by rw [hb1]; omega), hb1, Nat.sub_self]; rfl)) rfl rfl ?_
  refine zgo_ret (h' := h ++ (((1, [.int (Int32.ofInt 1), .ref (a + 1), .null]) :: b_bk n (a + 1) n) ++ b_bk n (a + (12 + 6 * n)) n)) rfl rfl (k_book (h := h ++ ((1, [.int (Int32.ofInt 1), .ref (a + 1), .null]) :: b_bk n (a + 1) n)) (a := a + (12 + 6 * n)) (by omega) (app_len hl (hb1 _)) hn (by omega) (app3 rfl) (app3 rfl)) ?_
  refine rw_putf (i := 0) (H' := b_till n a) ha hl hM rfl rfl rfl rfl rfl ?_
  exact rw_vret hM rfl rfl
/-- the tills -/
def b_tls (n a : Nat) : Nat → Zh
  | 0 => []
  | k + 1 => b_tls n a k ++ b_till n (a + (2 + k * (23 + 12 * n)))
theorem b_tls_len (n a : Nat) : ∀ k, (b_tls n a k).length = k * (23 + 12 * n)
  | 0 => by rw [Nat.zero_mul]; rfl
  | k + 1 => by
    show (b_tls n a k ++ b_till n (a + (2 + k * (23 + 12 * n)))).length = _
    rw [List.length_append, b_tls_len n a k, b_till_len, Nat.add_mul k 1 (23 + 12 * n), Nat.one_mul]
def b_pm (n a k : Nat) : Zh := [(0, [.ref (a + 1), .null]), (103, b_arr n (fun i => a + (2 + i * (23 + 12 * n))) k)] ++ b_tls n a k
theorem b_pm_len (n a k : Nat) : (b_pm n a k).length = 2 + k * (23 + 12 * n) := by
  show (b_tls n a k).length + 1 + 1 = _
  rw [b_tls_len]
  omega
def b_all (n a : Nat) : Zh := [(0, [.ref (a + 1), .ref (a + (2 + n * (23 + 12 * n)))]), (103, b_arr n (fun i => a + (2 + i * (23 + 12 * n))) n)] ++ b_tls n a n ++ b_net (a + (2 + n * (23 + 12 * n)))
theorem b_all_len (n a : Nat) : (b_all n a).length = 4 + n * (23 + 12 * n) := by
  unfold b_all
  rw [List.length_append, List.length_append, b_tls_len]
  show 2 + n * (23 + 12 * n) + 2 = _
  omega
theorem k_pml {h : Zh} {n a : Nat} {p : Int32} (ha : 1 ≤ a) (hl : h.length = a) (hn : n ≤ 5) (hc : a + 500 ≤ zcap) : ∀ (m k : Nat), k + m = n → ZR 0 24 [.val (.ref a), .val (.int p), .val (.int (nI n)), .val (.int (nI k))] [] (h ++ b_pm n a k) false (.inl none, h ++ b_all n a, false)
  | 0, k, e => by
    have hM : zmi[0]? = some _ := rfl
    have hw : k * (23 + 12 * n) ≤ 5 * 83 := Nat.mul_le_mul (by omega) (by omega)
    have ek : n = k := by omega
    have e1 : b_pm n a k = b_pm n a n := by rw [ek]
    rw [e1]
    have hw : n * (23 + 12 * n) ≤ 5 * 83 := Nat.mul_le_mul (by omega) (by omega)
    refine zr_fr hM rfl rfl rfl ?_
    refine zr_fr hM rfl rfl rfl ?_
    refine zr_ict hM rfl rfl (by rw [zc_ge (by omega) (by omega)]; exact decide_eq_true (by omega)) ?_
    refine zr_fr hM rfl rfl rfl ?_
    refine rw_new (u := a + (2 + n * (23 + 12 * n))) (H' := b_pm n a n ++ [(3, znewv 3)]) hl hM rfl rfl (cap_ok (k := 2 + n * (23 + 12 * n)) hl (b_pm_len n a n) (by omega)) (by rw [b_pm_len]) rfl ?_
    refine zr_fr hM rfl rfl rfl ?_
    refine rw_spec (b := a + (2 + n * (23 + 12 * n))) (c := (3, znewv 3)) hM rfl rfl rfl rfl rfl rfl (app_get hl (by rw [List.getElem?_append_right (by rw [b_pm_len]; omega), b_pm_len, Nat.sub_self]; rfl)) rfl rfl ?_
    refine zgo_ret (h' := h ++ (b_pm n a n ++ b_net (a + (2 + n * (23 + 12 * n))))) rfl rfl (k_net (h := h ++ b_pm n a n) (a := a + (2 + n * (23 + 12 * n))) (by omega) (app_len hl (b_pm_len n a n)) (by omega) (app3 rfl) (app3 rfl)) ?_
    refine rw_putf (i := 0) (H' := b_all n a) ha hl hM rfl rfl rfl rfl rfl ?_
    exact rw_vret hM rfl rfl
  | m + 1, k, e => by
    have hM : zmi[0]? = some _ := rfl
    have hk : k < n := by omega
    have hw : (k + 1) * (23 + 12 * n) ≤ 5 * 83 := Nat.mul_le_mul (by omega) (by omega)
    rw [Nat.add_mul k 1 (23 + 12 * n), Nat.one_mul] at hw
    refine zr_fr hM rfl rfl rfl ?_
    refine zr_fr hM rfl rfl rfl ?_
    refine zr_icf hM rfl rfl (by rw [zc_ge (by omega) (by omega)]; exact decide_eq_false (by omega)) ?_
    refine zr_fr hM rfl rfl rfl ?_
    refine rw_getf (i := 0) hl hM rfl rfl rfl ?_
    refine zr_fr hM rfl rfl rfl ?_
    refine rw_new (u := a + (2 + k * (23 + 12 * n))) (H' := b_pm n a k ++ [(1, znewv 1)]) hl hM rfl rfl (cap_ok (k := 2 + k * (23 + 12 * n)) hl (b_pm_len n a k) (by omega)) (by rw [b_pm_len]) rfl ?_
    refine zr_fr hM rfl rfl rfl ?_
    refine zr_fr hM rfl rfl rfl ?_
    refine rw_spec (b := a + (2 + k * (23 + 12 * n))) (c := (1, znewv 1)) hM rfl rfl rfl rfl rfl rfl (app_get hl (by rw [List.getElem?_append_right (by rw [b_pm_len]; omega), b_pm_len, Nat.sub_self]; rfl)) rfl rfl ?_
    refine zgo_ret (h' := h ++ (b_pm n a k ++ b_till n (a + (2 + k * (23 + 12 * n))))) rfl rfl (k_till (h := h ++ b_pm n a k) (a := a + (2 + k * (23 + 12 * n))) (by omega) (app_len hl (b_pm_len n a k)) hn (by omega) (app3 rfl) (app3 rfl)) ?_
    refine rw_aast (i := 1) (e := 2 + k * (23 + 12 * n)) (s := k) (H' := b_pm n a (k + 1)) (d := (1, _)) ha hl hM rfl rfl (by rw [List.getElem?_append_right (by rw [b_pm_len]; omega), b_pm_len, Nat.sub_self]; rfl) rfl (Or.inl ⟨rfl, rfl⟩) (by rw [b_arr_len]; exact zix_nI hk (by omega)) ?_ ?_
    · rw [b_arr_set (f := fun i => a + (2 + i * (23 + 12 * n))) hk]
      rfl
    refine zr_fr hM rfl rfl rfl ?_
    refine zr_fr hM rfl rfl rfl ?_
    rw [nI_inc]
    exact k_pml ha hl hn hc m (k + 1) (by omega)
/-- the number of tills -/
def clampT (x : Int32) : Nat := if x < 2 then 2 else if 5 < x then 5 else x.toNatClampNeg
theorem clampT_ok (x : Int32) : 2 ≤ clampT x ∧ clampT x ≤ 5 := by
  unfold clampT
  split
  · omega
  split
  · omega
  · rename_i h1 h2
    rw [Int32.lt_iff_toInt_lt] at h1 h2
    have e2 : (2 : Int32).toInt = 2 := by decide
    have e5 : (5 : Int32).toInt = 5 := by decide
    have e : x.toNatClampNeg = x.toInt.toNat := rfl
    rw [e]
    omega
theorem clampT_in {x : Int32} (h1 : ¬ x < 2) (h2 : ¬ 5 < x) : x = nI (clampT x) := by
  have hc := clampT_ok x
  apply Int32.toInt_inj.mp
  rw [nI_toInt (by omega)]
  unfold clampT
  rw [if_neg h1, if_neg h2]
  rw [Int32.lt_iff_toInt_lt] at h1 h2
  have e2 : (2 : Int32).toInt = 2 := by decide
  have e : x.toNatClampNeg = x.toInt.toNat := rfl
  rw [e]
  omega
theorem k_min {h : Zh} {x : Int32} : ∃ y, ZR 1 0 [.val (.int (Int32.ofInt 5)), .val (.int x)] [] h true (.inl (some (.int y)), h, true) ∧ y = (if 5 < x then 5 else x) := by
  have hM : zmi[1]? = some _ := rfl
  by_cases hx : 5 < x
  · refine ⟨5, ?_, by rw [if_pos hx]⟩
    refine zr_fr hM rfl rfl rfl ?_
    refine zr_fr hM rfl rfl rfl ?_
    refine zr_icf hM rfl rfl ?_ ?_
    · show decide (x < Int32.ofInt 5) = false
      apply decide_eq_false
      intro q
      have e5 : Int32.ofInt 5 = 5 := rfl
      rw [e5] at q
      rw [Int32.lt_iff_toInt_lt] at q hx
      omega
    refine zr_fr hM rfl rfl rfl ?_
    refine zr_fr hM rfl rfl rfl ?_
    exact zr_iret hM rfl rfl
  · by_cases hy : x < 5
    · refine ⟨x, ?_, by rw [if_neg hx]⟩
      refine zr_fr hM rfl rfl rfl ?_
      refine zr_fr hM rfl rfl rfl ?_
      refine zr_ict hM rfl rfl (decide_eq_true hy) ?_
      refine zr_fr hM rfl rfl rfl ?_
      exact zr_iret hM rfl rfl
    · have hxe : x = 5 := by
        apply Int32.toInt_inj.mp
        rw [Int32.lt_iff_toInt_lt] at hx hy
        omega
      refine ⟨5, ?_, by rw [if_neg hx, hxe]⟩
      refine zr_fr hM rfl rfl rfl ?_
      refine zr_fr hM rfl rfl rfl ?_
      refine zr_icf hM rfl rfl ?_ ?_
      · rw [hxe]; decide +kernel
      refine zr_fr hM rfl rfl rfl ?_
      refine zr_fr hM rfl rfl rfl ?_
      exact zr_iret hM rfl rfl
theorem k_max {h : Zh} {x : Int32} : ∃ y, ZR 2 0 [.val (.int (Int32.ofInt 2)), .val (.int x)] [] h true (.inl (some (.int y)), h, true) ∧ y = (if x < 2 then 2 else x) := by
  have hM : zmi[2]? = some _ := rfl
  by_cases hx : x < 2
  · refine ⟨2, ?_, by rw [if_pos hx]⟩
    refine zr_fr hM rfl rfl rfl ?_
    refine zr_fr hM rfl rfl rfl ?_
    refine zr_icf hM rfl rfl ?_ ?_
    · show decide (Int32.ofInt 2 < x) = false
      apply decide_eq_false
      intro q
      have e5 : Int32.ofInt 2 = 2 := rfl
      rw [e5] at q
      rw [Int32.lt_iff_toInt_lt] at q hx
      omega
    refine zr_fr hM rfl rfl rfl ?_
    refine zr_fr hM rfl rfl rfl ?_
    exact zr_iret hM rfl rfl
  · by_cases hy : 2 < x
    · refine ⟨x, ?_, by rw [if_neg hx]⟩
      refine zr_fr hM rfl rfl rfl ?_
      refine zr_fr hM rfl rfl rfl ?_
      refine zr_ict hM rfl rfl (decide_eq_true hy) ?_
      refine zr_fr hM rfl rfl rfl ?_
      exact zr_iret hM rfl rfl
    · have hxe : x = 2 := by
        apply Int32.toInt_inj.mp
        rw [Int32.lt_iff_toInt_lt] at hx hy
        omega
      refine ⟨2, ?_, by rw [if_neg hx, hxe]⟩
      refine zr_fr hM rfl rfl rfl ?_
      refine zr_fr hM rfl rfl rfl ?_
      refine zr_icf hM rfl rfl ?_ ?_
      · rw [hxe]; decide +kernel
      refine zr_fr hM rfl rfl rfl ?_
      refine zr_fr hM rfl rfl rfl ?_
      exact zr_iret hM rfl rfl
theorem clampT_eq (x : Int32) : (if (if 5 < x then 5 else x) < 2 then 2 else (if 5 < x then 5 else x)) = nI (clampT x) := by
  by_cases h1 : 5 < x
  · rw [if_pos h1, if_neg (by decide)]
    unfold clampT
    rw [if_neg, if_pos h1]
    · rfl
    · intro q
      rw [Int32.lt_iff_toInt_lt] at q h1
      have e2 : (2 : Int32).toInt = 2 := by decide
      have e5 : (5 : Int32).toInt = 5 := by decide
      omega
  · rw [if_neg h1]
    by_cases h2 : x < 2
    · rw [if_pos h2]
      unfold clampT
      rw [if_pos h2]
      rfl
    · rw [if_neg h2]
      exact clampT_in h2 h1
theorem k_pm {h h0 h1 : Zh} {n a : Nat} {x : Int32} (ha : 1 ≤ a) (hl : h.length = a) (hc : a + 500 ≤ zcap) (hn : clampT x = n) (e0 : h ++ [(0, znewv 0)] = h0) (e1 : h ++ b_all n a = h1) : ZR 0 0 [.val (.ref a), .val (.int x), .unset, .unset] [] h0 true (.inl none, h1, false) := by
  subst e0
  subst e1
  have hM : zmi[0]? = some _ := rfl
  have hn5 := clampT_ok x
  rw [hn] at hn5
  obtain ⟨y1, hy1, hv1⟩ := k_min (h := h ++ [(0, [.null, .null])]) (x := x)
  obtain ⟨y2, hy2, hv2⟩ := k_max (h := h ++ [(0, [.null, .null])]) (x := y1)
  have hv : y2 = nI n := by rw [hv2, hv1, clampT_eq, hn]
  subst hv
  show ZR 0 0 [.val (.ref a), .val (.int x), .unset, .unset] [] (h ++ [(0, [.null, .null])]) true _
  refine zr_fr hM rfl rfl rfl ?_
  refine rw_obj hM rfl rfl ?_
  refine zr_fr hM rfl rfl rfl ?_
  refine zr_fr hM rfl rfl rfl ?_
  refine zr_fr hM rfl rfl rfl ?_
  refine zr_stat hM rfl rfl rfl rfl rfl rfl ?_
  refine zgo_ret rfl rfl hy1 ?_
  refine zr_stat hM rfl rfl rfl rfl rfl rfl ?_
  refine zgo_ret rfl rfl hy2 ?_
  refine zr_fr hM rfl rfl rfl ?_
  refine zr_fr hM rfl rfl rfl ?_
  refine zr_fr hM rfl rfl rfl ?_
  refine rw_anew (m := n) (u := a + 1) (H' := [(0, [.null, .null]), (103, List.replicate n .null)]) hl hM rfl (Or.inl rfl) rfl (by omega) (cap_ok (k := 1) hl rfl (by omega)) rfl rfl ?_
  refine rw_putf (i := 0) (H' := [(0, [.ref (a + 1), .null]), (103, List.replicate n .null)]) ha hl hM rfl rfl rfl rfl rfl ?_
  refine zr_fr hM rfl rfl rfl ?_
  refine zr_fr hM rfl rfl rfl ?_
  rw [b_arr0 n (fun i => a + (2 + i * (23 + 12 * n)))]
  exact k_pml ha hl hn5.2 hc n 0 (Nat.zero_add n)
