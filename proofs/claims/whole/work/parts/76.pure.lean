set_option maxRecDepth 16384 in
theorem zpure (xs : List Int32) (h : xs.length ≤ 2561) : ∃ (f : Nat) (h' : Zh) (cl : Bool), zrun f 144 0 [.val (.ref 0), .unset, .unset, .unset, .unset, .unset, .unset] [] [(100, xs.map Value.int)] true = some (.inl (some (.int 1)), h', cl) := by
  have hM : zmi[144]? = some _ := rfl
  have hn := clampT_ok (xs.getD 0 0)
  generalize hne : clampT (xs.getD 0 0) = n at hn
  have hw : n * (23 + 12 * n) ≤ 5 * 83 := Nat.mul_le_mul (by omega) (by omega)
  have hl : ([(100, xs.map Value.int)] : Zh).length = 1 := rfl
  obtain ⟨km, ko⟩ := kad_m hn
  obtain ⟨h', c', hk⟩ := law_loop (L := xs.length) (sc := fun s => xs.getD s 0) hn h (xs.length + 1) 1 0 α0 0 0 [] false none none (by omega) (by omega) (by omega) (by simp) (inv0 hn.2)
  rw [khp0 hn, ← sc_map, km, ko] at hk
  have main : ZR 144 0 [.val (.ref 0), .unset, .unset, .unset, .unset, .unset, .unset] [] ([(100, xs.map Value.int)] ++ []) true (.inl (some (.int 1)), h', c') := by
    refine rw_new (a := 1) (u := 1) (H' := [(0, znewv 0)]) hl hM rfl rfl (cap_ok (k := 0) hl rfl (by unfold zcap; omega)) rfl rfl ?_
    refine zr_fr hM rfl rfl rfl ?_
    refine zr_fr hM rfl rfl rfl ?_
    refine zr_fr hM rfl rfl rfl ?_
    refine zr_stat hM rfl rfl rfl rfl rfl rfl ?_
    refine zgo_ret rfl rfl (k_cell h rfl) ?_
    refine rw_spec (b := 1) (c := (0, znewv 0)) hM rfl rfl rfl rfl rfl rfl rfl rfl rfl ?_
    refine zgo_ret (h' := [(100, xs.map Value.int)] ++ b_all n 1) rfl rfl (k_pm (h := [(100, xs.map Value.int)]) (a := 1) (by omega) hl (by unfold zcap; omega) hne rfl rfl) ?_
    refine zr_fr hM rfl rfl rfl ?_
    refine rw_new (a := 1) (u := 1 + (4 + n * (23 + 12 * n))) (H' := b_all n 1 ++ [(6, znewv 6)]) hl hM rfl rfl (cap_ok (k := 4 + n * (23 + 12 * n)) hl (b_all_len n 1) (by unfold zcap; omega)) (by rw [b_all_len]) rfl ?_
    refine zr_fr hM rfl rfl rfl ?_
    refine zr_fr hM rfl rfl rfl ?_
    refine zr_fr hM rfl rfl rfl ?_
    refine zr_stat hM rfl rfl rfl rfl rfl rfl ?_
    refine zgo_ret rfl rfl (k_cell h rfl) ?_
    refine rw_spec (b := 1 + (4 + n * (23 + 12 * n))) (c := (6, znewv 6)) hM rfl rfl rfl rfl rfl rfl (app_get hl (by rw [List.getElem?_append_right (by rw [b_all_len]; omega), b_all_len, Nat.sub_self]; rfl)) rfl rfl ?_
    refine zgo_ret (h' := [(100, xs.map Value.int)] ++ (b_all n 1 ++ mH n (1 + (4 + n * (23 + 12 * n))) (fT 5).1 (fT 5).2)) rfl rfl (k_mm (h := [(100, xs.map Value.int)] ++ b_all n 1) (a := 1 + (4 + n * (23 + 12 * n))) (by omega) (app_len hl (b_all_len n 1)) (by unfold zcap; omega) hne (app3 rfl) (app3 rfl)) ?_
    refine zr_fr hM rfl rfl rfl ?_
    refine zr_fr hM rfl rfl rfl ?_
    refine rw_narr (a := 1) (m := 1) (u := 1 + (4 + n * (23 + 12 * n)) + 5) (H' := (b_all n 1 ++ mH n (1 + (4 + n * (23 + 12 * n))) (fT 5).1 (fT 5).2) ++ [(101, [.long 0])]) hl hM rfl rfl rfl rfl (cap_ok (k := 4 + n * (23 + 12 * n) + 5) hl (by rw [List.length_append, b_all_len]; rfl) (by unfold zcap; omega)) (by rw [List.length_append, b_all_len]; show 1 + (4 + n * (23 + 12 * n) + 5) = _; omega) rfl ?_
    refine zr_fr hM rfl rfl rfl ?_
    refine zr_fr hM rfl rfl rfl ?_
    refine zr_fr hM rfl rfl rfl ?_
    have e : ([(100, xs.map Value.int)] : Zh) ++ ((b_all n 1 ++ mH n (1 + (4 + n * (23 + 12 * n))) (fT 5).1 (fT 5).2) ++ [(101, [.long 0])]) = (100, xs.map Value.int) :: rawT n := by
      have e1 : 1 + (4 + n * (23 + 12 * n)) = 5 + n * (23 + 12 * n) := by omega
      unfold rawT mH
      rw [fT_1, fT_2, e1]
      rfl
    rw [e]
    exact hk
  obtain ⟨f, hf⟩ := main
  exact ⟨f, h', c', hf⟩
