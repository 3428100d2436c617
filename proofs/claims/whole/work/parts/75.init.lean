/-- the abstract state at the start -/
def α0 : Ks := fun x y => if x < 10 then d0 y else if x = 10 then 1 else 0
theorem α0_row {t : Nat} (h : t < 10) : α0 t = d0 := by
  funext y
  unfold α0
  rw [if_pos h]
theorem d0_0 {y : Nat} (h : (y - 44) % 24 < 16) : d0 y = nI 0 := by
  unfold d0
  rw [if_neg (by omega)]
  rfl
theorem d0_m {y : Nat} (h : 16 ≤ (y - 44) % 24) : d0 y = Int32.ofInt (-1) := by
  unfold d0
  rw [if_pos h]
theorem row0 (t : Nat) : RowOk d0 t 0 := by
  refine ⟨⟨0, by omega, d0_0 (by omega), fun i hi => by omega⟩, ⟨0, by omega, d0_0 (by omega)⟩, fun a ha => d0_m (by omega)⟩
theorem opl0 (r m f : Nat) : OpL d0 r 0 0 m f := ⟨fun _ => 0, fun i hi => by omega, fun i j h1 h2 => by omega, fun x hx => by omega, fun i hi => by omega⟩
theorem inv0 {n : Nat} (hn : n ≤ 5) : Inv n 0 α0 := by
  refine ⟨fun t ht => Or.inr rfl, fun t ht => ?_, fun g r hg hr => ?_, ⟨0, rfl, by omega, fun s hs => by omega⟩⟩
  · rw [α0_row (by omega), α0_row (by omega)]
    exact ⟨row0 t, row0 t⟩
  · unfold PairOk
    rw [α0_row (by omega), α0_row (by omega), α0_row (by omega), α0_row (by omega)]
    refine ⟨0, 0, 0, 0, 0, by omega, by omega, by omega, by omega, by omega, by omega, by omega, fun j hj h => ?_, ⟨d0_0 (by omega), d0_0 (by omega), d0_0 (by omega), d0_0 (by omega)⟩, ⟨d0_0 (by omega), d0_0 (by omega), d0_0 (by omega), d0_0 (by omega)⟩, opl0 _ _ _, opl0 _ _ _⟩
    rw [Nat.zero_div] at h
    omega
theorem fT_all : ((List.range 820).all fun s => decide ((fT 5).1 s = d0 (s % 164)) && decide ((fT 5).2 s = d0 (s % 164))) = true := by decide +kernel
theorem ar_congr {N : Nat} {f f' : Nat → Int32} (h : ∀ s, s < N → f s = f' s) : ar N f = ar N f' := by
  unfold ar
  apply List.map_congr_left
  intro s hs
  rw [h s (List.mem_range.mp hs)]
theorem fT_1 : ar 820 (fT 5).1 = ar 820 (fun s => d0 (s % 164)) := by
  apply ar_congr
  intro s hs
  have h := fT_all
  simp only [List.all_eq_true, List.mem_range, Bool.and_eq_true, decide_eq_true_eq] at h
  exact (h s hs).1
theorem fT_2 : ar 820 (fT 5).2 = ar 820 (fun s => d0 (s % 164)) := by
  apply ar_congr
  intro s hs
  have h := fT_all
  simp only [List.all_eq_true, List.mem_range, Bool.and_eq_true, decide_eq_true_eq] at h
  exact (h s hs).2
/-- the heap behind the script when the law's loop begins -/
def rawT (n : Nat) : Zh := (b_all n 1 ++ mH n (5 + n * (23 + 12 * n)) (fun s => d0 (s % 164)) (fun s => d0 (s % 164))) ++ [(101, [.long 0])]
def kT (n : Nat) : Zh := ((List.range (knn n)).drop 1).map fun a => kcell n 0 (St n α0 α0 0 0 (fun _ => 0)) (kof n a)
theorem rawT_2 : kT 2 = rawT 2 := by decide +kernel
theorem rawT_3 : kT 3 = rawT 3 := by decide +kernel
theorem rawT_4 : kT 4 = rawT 4 := by decide +kernel
theorem rawT_5 : kT 5 = rawT 5 := by decide +kernel
theorem rawT_ok {n : Nat} (hn : 2 ≤ n ∧ n ≤ 5) : kT n = rawT n := by
  have hc : n = 2 ∨ n = 3 ∨ n = 4 ∨ n = 5 := by omega
  rcases hc with rfl | rfl | rfl | rfl
  · exact rawT_2
  · exact rawT_3
  · exact rawT_4
  · exact rawT_5
def locB (d : Kd) : Bool := match d with
  | .inl p => decide (p.1 < 35 ∨ (40 ≤ p.1 ∧ p.1 < 43) ∨ p.1 = 50)
  | .inr _ => true
theorem loc_all : ((List.range 4).all fun m => (List.range (knn (m + 2))).all fun a => decide (a = 0) || (decide ((kof (m + 2) a).1 < 28) && (List.range (klen (m + 2) 0 (kof (m + 2) a))).all fun s => locB (kloc (kof (m + 2) a) s))) = true := by decide +kernel
theorem klen_L {n L : Nat} {κ : Ky} (h : κ.1 < 28) : klen n L κ = klen n 0 κ := by
  obtain ⟨k, b, o⟩ := κ
  dsimp only at h
  have hc : k = 0 ∨ k = 1 ∨ k = 2 ∨ k = 3 ∨ k = 4 ∨ k = 5 ∨ k = 6 ∨ k = 7 ∨ k = 8 ∨ k = 9 ∨ k = 10 ∨ k = 11 ∨ k = 12 ∨ k = 13 ∨ k = 14 ∨ k = 15 ∨ k = 16 ∨ k = 17 ∨ k = 18 ∨ k = 19 ∨ k = 20 ∨ k = 21 ∨ k = 22 ∨ k = 23 ∨ k = 24 ∨ k = 25 ∨ k = 26 ∨ k = 27 := by omega
  rcases hc with rfl | rfl | rfl | rfl | rfl | rfl | rfl | rfl | rfl | rfl | rfl | rfl | rfl | rfl | rfl | rfl | rfl | rfl | rfl | rfl | rfl | rfl | rfl | rfl | rfl | rfl | rfl | rfl <;> rfl
theorem St_sc {n : Nat} {α β : Ks} {th ow : Int32} {sc sc' : Nat → Int32} {x y : Nat} (h : x < 35 ∨ (40 ≤ x ∧ x < 43) ∨ x = 50) : St n α β th ow sc x y = St n α β th ow sc' x y := by
  unfold St
  (repeat' split) <;> first | rfl | omega
theorem kc_sc {n L a : Nat} {sc : Nat → Int32} (hn : 2 ≤ n ∧ n ≤ 5) (h0 : a ≠ 0) (ha : a < knn n) : kcell n L (St n α0 α0 0 0 sc) (kof n a) = kcell n 0 (St n α0 α0 0 0 (fun _ => 0)) (kof n a) := by
  obtain ⟨m, rfl⟩ : ∃ m, n = m + 2 := ⟨n - 2, by omega⟩
  have h := loc_all
  simp only [List.all_eq_true, List.mem_range, Bool.and_eq_true, Bool.or_eq_true, decide_eq_true_eq] at h
  rcases h m (by omega) a ha with h1 | ⟨h1, h2⟩
  · exact absurd h1 h0
  unfold kcell
  rw [klen_L h1]
  congr 1
  apply List.map_congr_left
  intro s hs
  have h3 := h2 s (List.mem_range.mp hs)
  cases hd : kloc (kof (m + 2) a) s with
  | inr κ => rfl
  | inl p =>
    rw [hd] at h3
    have h4 : p.1 < 35 ∨ (40 ≤ p.1 ∧ p.1 < 43) ∨ p.1 = 50 := of_decide_eq_true h3
    unfold kv
    dsimp only
    rw [St_sc (sc' := fun _ => 0) h4]
theorem khp0 {n L : Nat} {sc : Nat → Int32} (hn : 2 ≤ n ∧ n ≤ 5) : khp n L (St n α0 α0 0 0 sc) [] = (100, (List.range L).map fun s => Value.int (sc s)) :: rawT n := by
  rw [← rawT_ok hn]
  unfold khp kT
  have e : List.range (knn n) = 0 :: (List.range (knn n)).drop 1 := by
    cases hk : knn n with
    | zero => unfold knn at hk; omega
    | succ k => rw [List.range_succ_eq_map]; rfl
  rw [List.map_nil, List.append_nil]
  conv => lhs; rw [e]
  rw [List.map_cons]
  congr 1
  apply List.map_congr_left
  intro a ha
  have h1 : a ∈ List.range (knn n) := List.mem_of_mem_drop ha
  refine kc_sc hn ?_ (List.mem_range.mp h1)
  rintro rfl
  obtain ⟨i, hi, hx⟩ := List.getElem_of_mem ha
  rw [List.getElem_drop, List.getElem_range] at hx
  omega
theorem sc_map (xs : List Int32) : xs.map Value.int = (List.range xs.length).map fun s => Value.int (xs.getD s 0) := by
  apply List.ext_getElem?
  intro i
  by_cases hi : i < xs.length
  · simp [hi]
  · rw [List.getElem?_eq_none_iff.mpr (by simpa using hi), List.getElem?_eq_none_iff.mpr (by simpa using hi)]
theorem k_cell {xs : List Int32} {h : Zh} (hx : xs.length ≤ 2561) (hc : h[0]? = some (100, xs.map Value.int)) : ZR 46 0 [.val (.ref 0), .val (.int (Int32.ofInt 0))] [] h true (.inl (some (.int (xs.getD 0 0))), h, true) := by
  have hM : zmi[46]? = some _ := rfl
  have hl : ([] : Zh).length = 0 := rfl
  show ZR 46 0 [.val (.ref (0 + 0)), .val (.int (Int32.ofInt 0))] [] ([] ++ h) true (.inl (some (.int (xs.getD 0 0))), [] ++ h, true)
  refine zr_fr hM rfl rfl rfl ?_
  refine zr_fr hM rfl rfl rfl ?_
  refine rw_alen (i := 0) (m := xs.length) hl hM rfl hc rfl (by simp) ?_
  by_cases h0 : xs.length = 0
  · refine zr_ict hM rfl rfl (by rw [c_0, zc_ge (by omega) (by omega)]; exact decide_eq_true (by omega)) ?_
    refine zr_fr hM rfl rfl rfl ?_
    have e : xs.getD 0 0 = Int32.ofInt 0 := by
      rw [List.eq_nil_of_length_eq_zero h0]
      rfl
    rw [e]
    exact zr_iret hM rfl rfl
  · refine zr_icf hM rfl rfl (by rw [c_0, zc_ge (by omega) (by omega)]; exact decide_eq_false (show ¬ xs.length ≤ 0 by omega)) ?_
    refine zr_fr hM rfl rfl rfl ?_
    refine zr_fr hM rfl rfl rfl ?_
    refine rw_iald (i := 0) (s := 0) (v := .int (xs.getD 0 0)) hl hM rfl hc (by rw [List.length_map]; exact zix_nI (a := 0) (by omega) (by omega)) ?_ ?_
    · have : 0 < xs.length := by omega
      simp [this]
    refine zr_fr hM rfl rfl rfl ?_
    exact zr_iret hM rfl rfl
theorem kad_m {n : Nat} (hn : 2 ≤ n ∧ n ≤ 5) : kad n (22, 0, 0) = 1 + (4 + n * (23 + 12 * n)) ∧ kad n (27, 0, 0) = 1 + (4 + n * (23 + 12 * n)) + 5 := by
  have hc : n = 2 ∨ n = 3 ∨ n = 4 ∨ n = 5 := by omega
  rcases hc with rfl | rfl | rfl | rfl <;> exact ⟨rfl, rfl⟩
