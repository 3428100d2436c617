theorem RowOk_congr2 {R R' : Nat → Int32} {t B : Nat} (h : ∀ y, y = 16 ∨ y = 19 ∨ (20 ≤ y ∧ y < 44 ∧ y % 4 = 1) ∨ (44 ≤ y ∧ 16 ≤ (y - 44) % 24 ∧ (y - 44) % 24 < 20 ∧ (y - 44) / 24 = t) → R' y = R y) : RowOk R t B → RowOk R' t B := by
  rintro ⟨⟨c, c1, c2, c3⟩, ⟨k, k1, k2⟩, h4⟩
  refine ⟨⟨c, c1, by rw [h 19 (by omega)]; exact c2, fun i hi => ?_⟩, ⟨k, k1, by rw [h 16 (by omega)]; exact k2⟩, fun a ha => ?_⟩
  · rw [h _ (by omega)]
    exact c3 i hi
  · rw [h _ (by omega)]
    exact h4 a ha
theorem OpL_congr2 {R R' : Nat → Int32} {r c N m f : Nat} (hc : c ≤ 4) (h : ∀ k, k < 14 → R' (44 + 24 * r + k) = R (44 + 24 * r + k)) : OpL R r c N m f → OpL R' r c N m f := by
  rintro ⟨q, h1, h2, h3, h4⟩
  refine ⟨q, fun i hi => ?_, h2, h3, fun i hi => ?_⟩
  · have e := h (2 + 3 * i) (by omega)
    rw [← Nat.add_assoc] at e
    rw [e]
    exact h1 i hi
  · have e := h (2 + 3 * i + 1) (by omega)
    rw [← Nat.add_assoc, ← Nat.add_assoc] at e
    rw [e]
    exact h4 i hi
theorem PairR_congr2 {G GK R RK G' GK' R' RK' : Nat → Int32} {g r B B' : Nat} (hB : B ≤ B') (h1 : ∀ k, k < 14 → G' (44 + 24 * r + k) = G (44 + 24 * r + k)) (h2 : ∀ k, k < 14 → GK' (44 + 24 * r + k) = GK (44 + 24 * r + k)) (h3 : R' (44 + 24 * g + 14) = R (44 + 24 * g + 14) ∧ R' (44 + 24 * g + 15) = R (44 + 24 * g + 15)) (h4 : RK' (44 + 24 * g + 14) = RK (44 + 24 * g + 14) ∧ RK' (44 + 24 * g + 15) = RK (44 + 24 * g + 15)) : PairR G GK R RK g r B → PairR G' GK' R' RK' g r B' := by
  rintro ⟨N, c, c', f, m, a1, a2, a3, a4, a5, a6, a7, a8, ⟨b1, b2, b3, b4⟩, ⟨d1, d2, d3, d4⟩, e1, e2⟩
  have h10 := h1 0 (by omega)
  have h20 := h2 0 (by omega)
  rw [Nat.add_zero] at h10 h20
  refine ⟨N, c, c', f, m, by omega, a2, a3, a4, a5, a6, a7, a8, ⟨?_, ?_, ?_, ?_⟩, ⟨?_, ?_, ?_, ?_⟩, OpL_congr2 a6 h1 e1, OpL_congr2 a7 h2 e2⟩
  · rw [h10]; exact b1
  · rw [h20]; exact b2
  · rw [h1 1 (by omega)]; exact b3
  · rw [h2 1 (by omega)]; exact b4
  · rw [h3.1]; exact d1
  · rw [h4.1]; exact d2
  · rw [h3.2]; exact d3
  · rw [h4.2]; exact d4
theorem Inv_hear {n B t o a : Nat} {α : Ks} {u s : Int32} (ht : t < n) (hn : n ≤ 5) (hto : o ≠ t) (ha : a < 4) (h : Inv n B α) : Inv n B (aHear α t o a u s) := by
  unfold aHear
  split
  · refine Inv_row ht hn (Nat.le_refl _) (fun x y hxy => ?_) (fun y hy => ?_) ?_ h
    · rw [kup_ne (by omega), kup_ne (by omega)]
    · unfold PC at hy
      rw [kup_ne (by omega), kup_ne (by omega)]
    · refine RowOk_congr2 (fun y hy => ?_) (h.2.1 t ht).1
      rw [kup_ne (by omega), kup_ne (by omega)]
  · exact h
theorem OpL_rem {R : Nat → Int32} {o i c N m f : Nat} (hc : c + 1 ≤ 4) (hi : i ≤ c) {x : Nat} (hx : R (44 + 24 * o + 2 + 3 * i) = nI x) (hx2 : x < 2 ^ 30) (hN : N < 2 ^ 30) (hs : seen m f x = true) : OpL R o (c + 1) N m f → OpL (remO R o i c) o c N m f := by
  rintro ⟨q, h1, h2, h3, h4⟩
  have hqi : q i = x := by
    have e := (h1 i (by omega)).1
    have e2 := (h1 i (by omega)).2
    rw [hx] at e
    exact ((nI_eq (by omega) (by omega)).mp e).symm
  have hlo : ∀ j w, j < i → w < 3 → remO R o i c (44 + 24 * o + 2 + 3 * j + w) = R (44 + 24 * o + 2 + 3 * j + w) := by
    intro j w hj hw
    simp only [remO, rup, shf]
    rw [if_neg (by omega), if_neg (by omega)]
  have hhi : ∀ j w, i ≤ j → j < c → w < 3 → remO R o i c (44 + 24 * o + 2 + 3 * j + w) = R (44 + 24 * o + 2 + 3 * (j + 1) + w) := by
    intro j w hj hj2 hw
    simp only [remO, rup, shf]
    rw [if_neg (by omega), if_pos (by omega)]
    congr 1
    omega
  refine ⟨fun j => if j < i then q j else q (j + 1), fun j hj => ?_, fun j l hjl hl => ?_, fun y hy hys => ?_, fun j hj => ?_⟩
  · show _ = nI (if j < i then q j else q (j + 1)) ∧ (if j < i then q j else q (j + 1)) < N
    by_cases hji : j < i
    · have e := hlo j 0 hji (by omega)
      rw [Nat.add_zero] at e
      rw [e, if_pos hji]
      exact h1 j (by omega)
    · have e := hhi j 0 (by omega) hj (by omega)
      simp only [Nat.add_zero] at e
      rw [e, if_neg hji]
      exact h1 (j + 1) (by omega)
  · show (if j < i then q j else q (j + 1)) < (if l < i then q l else q (l + 1))
    by_cases hji : j < i
    · rw [if_pos hji]
      by_cases hli : l < i
      · rw [if_pos hli]
        exact h2 j l hjl (by omega)
      · rw [if_neg hli]
        exact h2 j (l + 1) (by omega) (by omega)
    · rw [if_neg hji, if_neg (by omega)]
      exact h2 (j + 1) (l + 1) (by omega) (by omega)
  · obtain ⟨j, hj, hjy⟩ := h3 y hy hys
    have hji : j ≠ i := by
      intro e
      rw [e, hqi] at hjy
      rw [← hjy, hs] at hys
      cases hys
    by_cases hlt : j < i
    · exact ⟨j, by omega, by show (if j < i then q j else q (j + 1)) = y; rw [if_pos hlt]; exact hjy⟩
    · exact ⟨j - 1, by omega, by show (if j - 1 < i then q (j - 1) else q (j - 1 + 1)) = y; rw [if_neg (by omega), show j - 1 + 1 = j by omega]; exact hjy⟩
  · by_cases hji : j < i
    · rw [hlo j 1 hji (by omega)]
      exact h4 j (by omega)
    · rw [hhi j 1 (by omega) hj (by omega)]
      exact h4 (j + 1) (by omega)
theorem remO_out {R : Nat → Int32} {o i c y : Nat} (hc : c < 4) (h : y < 44 + 24 * o + 1 ∨ 44 + 24 * o + 14 ≤ y) : remO R o i c y = R y := by
  simp only [remO, rup, shf]
  rw [if_neg (by omega), if_neg (by omega)]
theorem Inv_close {n B t o i c : Nat} {α : Ks} (ht : t < n) (ho : o < n) (hn : n ≤ 5) (hB : B < 2 ^ 29) (hc : α t (44 + 24 * o + 1) = nI (c + 1)) (hc2 : c + 1 ≤ 4) (hi : i ≤ c) {x : Nat} (hx : α t (44 + 24 * o + 2 + 3 * i) = nI x) (hx2 : x < 2 ^ 30) (hsee : seenA α o t x) (h : Inv n B α) : Inv n B (krow α t (remO (α t) o i c)) := by
  obtain ⟨i1, i2, i3, i4⟩ := h
  have hrow : ∀ x, x ≠ t → krow α t (remO (α t) o i c) x = α x := fun x hx => funext fun y => krow_ne hx
  have hkt : krow α t (remO (α t) o i c) t = remO (α t) o i c := krow_row
  have h1415 : ∀ r g k, 14 ≤ k → k < 24 → krow α t (remO (α t) o i c) r (44 + 24 * g + k) = α r (44 + 24 * g + k) := by
    intro r g k hk hk2
    by_cases hrt : r = t
    · subst hrt
      rw [hkt, remO_out (by omega) (by omega)]
    · rw [hrow r hrt]
  refine ⟨fun s hs => ?_, fun s hs => ?_, fun g r hg hr => ?_, ?_⟩
  · unfold UpOk
    rw [hrow 10 (by omega)]
    exact i1 s hs
  · rw [hrow (5 + s) (by omega)]
    refine ⟨?_, (i2 s hs).2⟩
    by_cases hst : s = t
    · subst hst
      rw [hkt]
      refine RowOk_congr2 (fun y hy => ?_) (i2 s hs).1
      exact remO_out (by omega) (by omega)
    · rw [hrow s hst]
      exact (i2 s hs).1
  · have h0 : PairR (α g) (α (5 + g)) (α r) (α (5 + r)) g r B := i3 g r hg hr
    unfold PairOk
    rw [hrow (5 + g) (by omega), hrow (5 + r) (by omega)]
    by_cases hgr : g = t ∧ r = o
    · obtain ⟨rfl, rfl⟩ := hgr
      obtain ⟨N, c0, c', f, m, a1, a2, a3, a4, a5, a6, a7, a8, ⟨b1, b2, b3, b4⟩, ⟨d1, d2, d3, d4⟩, e1, e2⟩ := h0
      have hcc : c0 = c + 1 := by
        rw [hc] at b3
        exact ((nI_eq (by omega) (by omega)).mp b3).symm
      subst hcc
      unfold seenA cn at hsee
      rw [d1, d3, nI_clamp (by omega), nI_clamp (by omega)] at hsee
      refine ⟨N, c, c', f, m, a1, a2, a3, a4, a5, by omega, a7, a8, ⟨?_, b2, ?_, b4⟩, ⟨?_, d2, ?_, d4⟩, ?_, e2⟩
      · rw [hkt, remO_out (by omega) (by omega)]
        exact b1
      · rw [hkt]
        simp only [remO, rup, if_true]
      · rw [h1415 r g 14 (by omega) (by omega)]
        exact d1
      · rw [h1415 r g 15 (by omega) (by omega)]
        exact d3
      · rw [hkt]
        exact OpL_rem hc2 hi hx hx2 (by omega) hsee e1
    · refine PairR_congr2 (Nat.le_refl _) ?_ (fun _ _ => rfl) ⟨h1415 r g 14 (by omega) (by omega), h1415 r g 15 (by omega) (by omega)⟩ ⟨rfl, rfl⟩ h0
      intro k hk
      by_cases hgt : g = t
      · subst hgt
        rw [hkt, remO_out (by omega) (by omega)]
      · rw [hrow g hgt]
  · refine NetOk_mono (fun y => by rw [hrow 11 (by omega)]) (by rw [hrow 12 (by omega)]) ?_ ?_ i4
    · intro f s hf hs
      by_cases hft : f = t
      · subst hft
        rw [hkt, remO_out (by omega) (by omega)]
        exact Nat.le_refl _
      · rw [hrow f hft]
        exact Nat.le_refl _
    · intro f s z hf hs
      unfold seenA
      rw [h1415 f s 14 (by omega) (by omega), h1415 f s 15 (by omega) (by omega)]
      exact id
/-- the row of a giver behind a voucher opened -/
theorem aGive0_row {α : Ks} {t o a c : Nat} {u : Int32} {x : Nat} (h : x ≠ t) : aGive0 α t o a c u x = α x := by
  funext y
  unfold aGive0 aOpen
  rw [kup_ne (by omega), kup_ne (by omega), kup_ne (by omega), kup_ne (by omega), kup_ne (by omega), kup_ne (by omega)]
theorem aGive0_out {α : Ks} {t o a c : Nat} {u : Int32} {y : Nat} (hc : c < 4) (ha : a < 4) (h : 4 ≤ y ∧ (y < 44 + 24 * o ∨ 44 + 24 * o + 14 ≤ y)) : aGive0 α t o a c u t y = α t y := by
  unfold aGive0 aOpen
  rw [kup_ne (by omega), kup_ne (by omega), kup_ne (by omega), kup_ne (by omega), kup_ne (by omega), kup_ne (by omega)]
theorem OpL_give {α : Ks} {t o a c N m f : Nat} {u : Int32} (hc : c < 4) (ha : a < 4) (hN : α t (44 + 24 * o) = nI N) : OpL (α t) o c N m f → OpL (aGive0 α t o a c u t) o (c + 1) (N + 1) m f := by
  rintro ⟨q, h1, h2, h3, h4⟩
  have hlo : ∀ j w, j < c → w < 3 → aGive0 α t o a c u t (44 + 24 * o + 2 + 3 * j + w) = α t (44 + 24 * o + 2 + 3 * j + w) := by
    intro j w hj hw
    unfold aGive0 aOpen
    rw [kup_ne (by omega), kup_ne (by omega), kup_ne (by omega), kup_ne (by omega), kup_ne (by omega), kup_ne (by omega)]
  refine ⟨fun j => if j < c then q j else N, fun j hj => ?_, fun j l hjl hl => ?_, fun y hy hys => ?_, fun j hj => ?_⟩
  · show _ = nI (if j < c then q j else N) ∧ (if j < c then q j else N) < N + 1
    by_cases hji : j < c
    · have e := hlo j 0 hji (by omega)
      rw [Nat.add_zero] at e
      rw [e, if_pos hji]
      have := h1 j (by omega)
      exact ⟨this.1, by omega⟩
    · have hjc : j = c := by omega
      subst hjc
      rw [if_neg (by omega)]
      refine ⟨?_, by omega⟩
      unfold aGive0 aOpen
      rw [kup_ne (by omega), kup_ne (by omega), kup_ne (by omega), kup_ne (by omega), kup_same, kup_ne (by omega)]
      exact hN
  · show (if j < c then q j else N) < (if l < c then q l else N)
    rw [if_pos (by omega)]
    by_cases hli : l < c
    · rw [if_pos hli]
      exact h2 j l hjl hli
    · rw [if_neg hli]
      exact (h1 j (by omega)).2
  · by_cases hyN : y < N
    · obtain ⟨j, hj, hjy⟩ := h3 y hyN hys
      exact ⟨j, by omega, by show (if j < c then q j else N) = y; rw [if_pos hj]; exact hjy⟩
    · exact ⟨c, by omega, by show (if c < c then q c else N) = y; rw [if_neg (by omega)]; omega⟩
  · by_cases hji : j < c
    · rw [hlo j 1 hji (by omega)]
      exact h4 j hji
    · have hjc : j = c := by omega
      subst hjc
      refine ⟨a, ha, ?_⟩
      unfold aGive0 aOpen
      rw [kup_ne (by omega), kup_ne (by omega), kup_ne (by omega), kup_same]
theorem Inv_give {n B t o a c N q0 : Nat} {α : Ks} {u : Int32} (ht : t < n) (ho : o < n) (hn : n ≤ 5) (hB : B < 2 ^ 29) (ha : a < 4) (hN : α t (44 + 24 * o) = nI N) (hc : α t (44 + 24 * o + 1) = nI c) (hc2 : c ≤ 4) (hN2 : N < 2 ^ 30) (hq : 0 < c → α t (44 + 24 * o + 2) = nI q0 ∧ q0 ≤ N) (hcan : aCan c N q0 = true) (h : Inv n B α) : Inv n (B + 1) (aDown (aGive0 α t o a c u) t) := by
  have hc4 : c < 4 := by
    simp only [aCan, Bool.and_eq_true, Bool.or_eq_true, decide_eq_true_eq] at hcan
    omega
  obtain ⟨i1, i2, i3, i4⟩ := Inv_down ht hn h
  have hr0 : ∀ x, x ≠ t → x ≠ 5 + t → aDown (aGive0 α t o a c u) t x = aDown α t x := by
    intro x hx hx2
    funext y
    unfold aDown
    rw [krow_ne hx2, krow_ne hx2, aGive0_row hx]
  have hr1 : aDown (aGive0 α t o a c u) t t = aGive0 α t o a c u t := by
    funext y
    unfold aDown
    rw [krow_ne (by omega)]
  have hr2 : aDown (aGive0 α t o a c u) t (5 + t) = aGive0 α t o a c u t := krow_row
  have ho1 : aDown α t t = α t := by
    funext y
    unfold aDown
    rw [krow_ne (by omega)]
  have ho2 : aDown α t (5 + t) = α t := krow_row
  have hout : ∀ x y, 4 ≤ y ∧ (y < 44 + 24 * o ∨ 44 + 24 * o + 14 ≤ y) → aDown (aGive0 α t o a c u) t x y = aDown α t x y := by
    intro x y hy
    by_cases h1 : x = t
    · rw [h1, hr1, ho1, aGive0_out hc4 ha hy]
    · by_cases h2 : x = 5 + t
      · rw [h2, hr2, ho2, aGive0_out hc4 ha hy]
      · rw [hr0 x h1 h2]
  refine ⟨fun s hs => ?_, fun s hs => ?_, fun g r hg hr => ?_, ?_⟩
  · unfold UpOk
    rw [hr0 10 (by omega) (by omega)]
    exact i1 s hs
  · refine ⟨RowOk_congr2 (fun y hy => hout s y (by omega)) (RowOk_mono (by omega) (i2 s hs).1), RowOk_congr2 (fun y hy => hout (5 + s) y (by omega)) (RowOk_mono (by omega) (i2 s hs).2)⟩
  · have h0 : PairR (aDown α t g) (aDown α t (5 + g)) (aDown α t r) (aDown α t (5 + r)) g r B := i3 g r hg hr
    unfold PairOk
    by_cases hgr : g = t ∧ r = o
    · obtain ⟨rfl, rfl⟩ := hgr
      rw [ho1, ho2] at h0
      obtain ⟨N', c0, c', f, m, a1, a2, a3, a4, a5, a6, a7, a8, ⟨b1, b2, b3, b4⟩, ⟨d1, d2, d3, d4⟩, e1, e2⟩ := h0
      have hcc : c0 = c := by
        rw [hc] at b3
        exact ((nI_eq (by omega) (by omega)).mp b3).symm
      subst hcc
      have hNN : N' = N := by
        rw [hN] at b1
        exact ((nI_eq (by omega) (by omega)).mp b1).symm
      subst hNN
      have hle : N' + 1 ≤ f + 16 := by
        by_cases hfN : f = N'
        · omega
        · have hun : seen m f f = false := by
            unfold seen
            simp
            omega
          obtain ⟨q, q1, q2, q3, q4⟩ := e1
          obtain ⟨j, hj, hjf⟩ := q3 f (by omega) hun
          have hq0 : q 0 = q0 := by
            have e := (q1 0 (by omega)).1
            have e3 := (q1 0 (by omega)).2
            rw [Nat.mul_zero, Nat.add_zero, (hq (by omega)).1] at e
            have := (hq (by omega)).2
            exact ((nI_eq (by omega) (by omega)).mp e).symm
          have hq0f : q 0 ≤ f := by
            by_cases hj0 : j = 0
            · rw [← hjf, hj0]
              exact Nat.le_refl _
            · have := q2 0 j (by omega) hj
              omega
          simp only [aCan, Bool.and_eq_true, Bool.or_eq_true, decide_eq_true_eq] at hcan
          omega
      refine ⟨N' + 1, c0 + 1, c0 + 1, f, m, by omega, by omega, hle, a4, a5, by omega, by omega, fun j hj hb => by have := a8 j hj hb; omega, ?_, ?_, ?_, ?_⟩
      · have hA : aGive0 α g r a c0 u g (44 + 24 * r) = nI (N' + 1) := by
          unfold aGive0 aOpen
          rw [kup_same, kup_ne (by omega), hN, nI_add]
        have hC : aGive0 α g r a c0 u g (44 + 24 * r + 1) = nI (c0 + 1) := by
          unfold aGive0 aOpen
          rw [kup_ne (by omega), kup_same]
        rw [hr1, hr2]
        exact ⟨hA, hA, hC, hC⟩
      · rw [hout r _ (by omega), hout (5 + r) _ (by omega), hout r _ (by omega), hout (5 + r) _ (by omega)]
        exact ⟨d1, d2, d3, d4⟩
      · rw [hr1]
        exact OpL_give hc4 ha hN e1
      · rw [hr2]
        exact OpL_give hc4 ha hN e1
    · refine PairR_congr2 (by omega) ?_ ?_ ⟨hout _ _ (by omega), hout _ _ (by omega)⟩ ⟨hout _ _ (by omega), hout _ _ (by omega)⟩ h0
      · intro k hk
        by_cases hgt : g = t
        · exact hout g _ (by omega)
        · rw [hr0 g hgt (by omega)]
      · intro k hk
        by_cases hgt : g = t
        · exact hout (5 + g) _ (by omega)
        · rw [hr0 (5 + g) (by omega) (by omega)]
  · refine NetOk_mono (fun y => by rw [hr0 11 (by omega) (by omega)]) (by rw [hr0 12 (by omega) (by omega)]) ?_ ?_ i4
    · intro f s hf hs
      by_cases hft : f = t
      · by_cases hso : s = o
        · rw [hft, hso, hr1, ho1, hN]
          unfold aGive0 aOpen
          rw [kup_same, kup_ne (by omega), hN, nI_add]
          unfold cn
          rw [nI_clamp (by omega), nI_clamp (by omega)]
          omega
        · rw [hout f _ (by omega)]
          exact Nat.le_refl _
      · rw [hr0 f hft (by omega)]
        exact Nat.le_refl _
    · intro f s z hf hs
      unfold seenA
      rw [hout f _ (by omega), hout f _ (by omega)]
      exact id
