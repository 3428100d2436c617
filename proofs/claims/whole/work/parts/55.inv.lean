/-- the columns of a record that the pairings' promises speak of -/
def PC (y : Nat) : Prop := 44 ≤ y ∧ (y - 44) % 24 < 16
def OpL (R : Nat → Int32) (r c N m f : Nat) : Prop := ∃ q : Nat → Nat, (∀ i, i < c → R (44 + 24 * r + 2 + 3 * i) = nI (q i) ∧ q i < N) ∧ (∀ i j, i < j → j < c → q i < q j) ∧ (∀ x, x < N → seen m f x = false → ∃ i, i < c ∧ q i = x) ∧ (∀ i, i < c → ∃ a, a < 4 ∧ R (44 + 24 * r + 2 + 3 * i + 1) = nI a)
def PairR (G GK R RK : Nat → Int32) (g r B : Nat) : Prop := ∃ N c c' f m, N ≤ B ∧ f ≤ N ∧ N ≤ f + 16 ∧ m < 2 ^ 16 ∧ m % 2 = 0 ∧ c ≤ 4 ∧ c' ≤ 4 ∧
  (∀ j, j < 16 → m / 2 ^ j % 2 = 1 → f + j < N) ∧
  (G (44 + 24 * r) = nI N ∧ GK (44 + 24 * r) = nI N ∧ G (44 + 24 * r + 1) = nI c ∧ GK (44 + 24 * r + 1) = nI c') ∧
  (R (44 + 24 * g + 14) = nI f ∧ RK (44 + 24 * g + 14) = nI f ∧ R (44 + 24 * g + 15) = nI m ∧ RK (44 + 24 * g + 15) = nI m) ∧
  OpL G r c N m f ∧ OpL GK r c' N m f
def PairOk (α : Ks) (g r B : Nat) : Prop := PairR (α g) (α (5 + g)) (α r) (α (5 + r)) g r B
def RowOk (R : Nat → Int32) (t B : Nat) : Prop := (∃ c, c ≤ 6 ∧ R 19 = nI c ∧ ∀ i, i < c → ∃ a, a < 4 ∧ R (20 + 4 * i + 1) = nI a) ∧ (∃ k, k ≤ B ∧ R 16 = nI k) ∧ (∀ a, a < 4 → R (44 + 24 * t + 16 + a) = Int32.ofInt (-1))
def seenA (α : Ks) (t o x : Nat) : Prop := seen (cn (α t (44 + 24 * o + 15))) (cn (α t (44 + 24 * o + 14))) x = true
def MsgB (α : Ks) (k f t : Nat) (x y : Int32) : Prop :=
  (k = 0 → ∃ z a, x = nI z ∧ a < 4 ∧ y = nI a ∧ z < cn (α f (44 + 24 * t))) ∧ (k = 1 → ∃ z, x = nI z ∧ z < 2 ^ 29 ∧ seenA α f t z) ∧ (k = 2 → f ≠ t ∧ ∃ a, a < 4 ∧ x = nI a) ∧ (k = 3 → ∃ a, a < 4 ∧ x = nI a)
def MsgOk (n : Nat) (α : Ks) (s : Nat) : Prop := ∃ k f t, k < 4 ∧ f < n ∧ t < n ∧ α 11 (6 * s) = nI k ∧ α 11 (6 * s + 1) = nI f ∧ α 11 (6 * s + 2) = nI t ∧ MsgB α k f t (α 11 (6 * s + 3)) (α 11 (6 * s + 4))
def NetOk (n : Nat) (α : Ks) : Prop := ∃ c, α 12 0 = nI c ∧ c ≤ 24 ∧ ∀ s, s < c → MsgOk n α s
def Inv (n B : Nat) (α : Ks) : Prop := (∀ t, t < n → UpOk α t) ∧ (∀ t, t < n → RowOk (α t) t B ∧ RowOk (α (5 + t)) t B) ∧ (∀ g r, g < n → r < n → PairOk α g r B) ∧ NetOk n α
theorem cnI {x : Nat} (h : x < 2 ^ 31) : cn (nI x) = x := nI_clamp h
theorem OpL_congr {R R' : Nat → Int32} {r c N m f : Nat} (hc : c ≤ 4) (h : ∀ y, PC y → R' y = R y) : OpL R r c N m f → OpL R' r c N m f := by
  rintro ⟨q, h1, h2, h3, h4⟩
  refine ⟨q, fun i hi => ?_, h2, h3, fun i hi => ?_⟩
  · rw [h _ (by unfold PC; omega)]
    exact h1 i hi
  · rw [h _ (by unfold PC; omega)]
    exact h4 i hi
theorem PairR_congr {G GK R RK G' GK' R' RK' : Nat → Int32} {g r B B' : Nat} (hB : B ≤ B') (h1 : ∀ y, PC y → G' y = G y) (h2 : ∀ y, PC y → GK' y = GK y) (h3 : ∀ y, PC y → R' y = R y) (h4 : ∀ y, PC y → RK' y = RK y) : PairR G GK R RK g r B → PairR G' GK' R' RK' g r B' := by
  rintro ⟨N, c, c', f, m, a1, a2, a3, a4, a5, a6, a7, a8, ⟨b1, b2, b3, b4⟩, ⟨d1, d2, d3, d4⟩, e1, e2⟩
  refine ⟨N, c, c', f, m, by omega, a2, a3, a4, a5, a6, a7, a8, ⟨?_, ?_, ?_, ?_⟩, ⟨?_, ?_, ?_, ?_⟩, OpL_congr a6 h1 e1, OpL_congr a7 h2 e2⟩
  · rw [h1 _ (by unfold PC; omega)]; exact b1
  · rw [h2 _ (by unfold PC; omega)]; exact b2
  · rw [h1 _ (by unfold PC; omega)]; exact b3
  · rw [h2 _ (by unfold PC; omega)]; exact b4
  · rw [h3 _ (by unfold PC; omega)]; exact d1
  · rw [h4 _ (by unfold PC; omega)]; exact d2
  · rw [h3 _ (by unfold PC; omega)]; exact d3
  · rw [h4 _ (by unfold PC; omega)]; exact d4
theorem RowOk_mono {R : Nat → Int32} {t B B' : Nat} (h : B ≤ B') : RowOk R t B → RowOk R t B' := by
  rintro ⟨h1, ⟨k, h2, h3⟩, h4⟩
  exact ⟨h1, ⟨k, by omega, h3⟩, h4⟩
theorem MsgB_mono {α α' : Ks} {k f t : Nat} {x y : Int32} (h1 : cn (α f (44 + 24 * t)) ≤ cn (α' f (44 + 24 * t))) (h2 : ∀ z, seenA α f t z → seenA α' f t z) : MsgB α k f t x y → MsgB α' k f t x y := by
  rintro ⟨a0, a1, a2, a3⟩
  refine ⟨fun hk => ?_, fun hk => ?_, a2, a3⟩
  · obtain ⟨z, a, b1, b2, b3, b4⟩ := a0 hk
    exact ⟨z, a, b1, b2, b3, by omega⟩
  · obtain ⟨z, b1, b2, b3⟩ := a1 hk
    exact ⟨z, b1, b2, h2 z b3⟩
theorem NetOk_mono {n : Nat} {α α' : Ks} (h0 : ∀ y, α' 11 y = α 11 y) (h00 : α' 12 0 = α 12 0) (h1 : ∀ f t, f < n → t < n → cn (α f (44 + 24 * t)) ≤ cn (α' f (44 + 24 * t))) (h2 : ∀ f t z, f < n → t < n → seenA α f t z → seenA α' f t z) : NetOk n α → NetOk n α' := by
  rintro ⟨c, hc, hc2, hm⟩
  refine ⟨c, by rw [h00]; exact hc, hc2, fun s hs => ?_⟩
  obtain ⟨k, f, t, a1, a2, a3, a4, a5, a6, a7⟩ := hm s hs
  refine ⟨k, f, t, a1, a2, a3, by rw [h0]; exact a4, by rw [h0]; exact a5, by rw [h0]; exact a6, ?_⟩
  rw [h0, h0]
  exact MsgB_mono (h1 f t a2 a3) (fun z => h2 f t z a2 a3) a7
/-- a change in one record now that leaves the pairings -/
theorem Inv_row {n B B' t : Nat} {α α' : Ks} (ht : t < n) (hn : n ≤ 5) (hB : B ≤ B') (h1 : ∀ x y, x ≠ t → α' x y = α x y) (h2 : ∀ y, PC y → α' t y = α t y) (h3 : RowOk (α' t) t B') : Inv n B α → Inv n B' α' := by
  rintro ⟨i1, i2, i3, i4⟩
  have hpc : ∀ x y, PC y → α' x y = α x y := by
    intro x y hy
    by_cases hx : x = t
    · rw [hx]; exact h2 y hy
    · exact h1 x y hx
  have hrow : ∀ x, x ≠ t → α' x = α x := fun x hx => funext fun y => h1 x y hx
  refine ⟨fun s hs => ?_, fun s hs => ?_, fun g r hg hr => ?_, ?_⟩
  · unfold UpOk
    rw [h1 10 s (by omega)]
    exact i1 s hs
  · refine ⟨?_, ?_⟩
    · by_cases hst : s = t
      · rw [hst]; exact h3
      · rw [hrow s hst]
        exact RowOk_mono hB (i2 s hs).1
    · rw [hrow (5 + s) (by omega)]
      exact RowOk_mono hB (i2 s hs).2
  · exact PairR_congr hB (fun y => hpc g y) (fun y => hpc (5 + g) y) (fun y => hpc r y) (fun y => hpc (5 + r) y) (i3 g r hg hr)
  · refine NetOk_mono (fun y => h1 11 y (by omega)) (h1 12 0 (by omega)) ?_ ?_ i4
    · intro f s hf hs
      rw [hpc f _ (by unfold PC; omega)]
      exact Nat.le_refl _
    · intro f s z hf hs
      unfold seenA
      rw [hpc f _ (by unfold PC; omega), hpc f _ (by unfold PC; omega)]
      exact id
theorem Inv_mono {n B B' : Nat} {α : Ks} (hB : B ≤ B') : Inv n B α → Inv n B' α := by
  rintro ⟨i1, i2, i3, i4⟩
  exact ⟨i1, fun s hs => ⟨RowOk_mono hB (i2 s hs).1, RowOk_mono hB (i2 s hs).2⟩, fun g r hg hr => PairR_congr hB (fun _ _ => rfl) (fun _ _ => rfl) (fun _ _ => rfl) (fun _ _ => rfl) (i3 g r hg hr), i4⟩
/-- a row agrees in what RowOk speaks of -/
theorem RowOk_congr {R R' : Nat → Int32} {t B : Nat} (h : ∀ y, y = 16 ∨ y = 19 ∨ (20 ≤ y ∧ y < 44 ∧ y % 4 = 1) ∨ 44 ≤ y → R' y = R y) : RowOk R t B → RowOk R' t B := by
  rintro ⟨⟨c, c1, c2, c3⟩, ⟨k, k1, k2⟩, h4⟩
  refine ⟨⟨c, c1, by rw [h 19 (by omega)]; exact c2, fun i hi => ?_⟩, ⟨k, k1, by rw [h 16 (by omega)]; exact k2⟩, fun a ha => ?_⟩
  · rw [h _ (by omega)]
    exact c3 i hi
  · rw [h _ (by omega)]
    exact h4 a ha
/-- units moved, ids and stamps counted -/
theorem Inv_small {n B t y : Nat} {α : Ks} {v : Int32} (ht : t < n) (hn : n ≤ 5) (hy : y < 16 ∨ y = 17 ∨ y = 18) (h : Inv n B α) : Inv n B (kup α t y v) := by
  refine Inv_row ht hn (Nat.le_refl _) (fun a b hab => kup_ne (by omega)) (fun b hb => kup_ne (by unfold PC at hb; omega)) ?_ h
  exact RowOk_congr (fun b hb => kup_ne (by omega)) (h.2.1 t ht).1
theorem Inv_clock {n B t k : Nat} {α : Ks} (ht : t < n) (hn : n ≤ 5) (hk : k ≤ B + 1) (h : Inv n B α) : Inv n (B + 1) (kup α t 16 (nI k)) := by
  refine Inv_row ht hn (Nat.le_succ _) (fun a b hab => kup_ne (by omega)) (fun b hb => kup_ne (by unfold PC at hb; omega)) ?_ h
  obtain ⟨⟨c, c1, c2, c3⟩, -, h4⟩ := (h.2.1 t ht).1
  refine ⟨⟨c, c1, by rw [kup_ne (by omega)]; exact c2, fun i hi => ?_⟩, ⟨k, hk, kup_same⟩, fun a ha => ?_⟩
  · rw [kup_ne (by omega)]
    exact c3 i hi
  · rw [kup_ne (by omega)]
    exact h4 a ha
theorem Inv_add {n B t c a : Nat} {α : Ks} {u e : Int32} (ht : t < n) (hn : n ≤ 5) (hc : α t 19 = nI c) (hc2 : c < 6) (ha : a < 4) (h : Inv n B α) : Inv n B (aAdd α t c (nI a) u e) := by
  unfold aAdd
  refine Inv_row ht hn (Nat.le_refl _) (fun x y hxy => ?_) (fun y hy => ?_) ?_ h
  · rw [kup_ne (by omega), kup_ne (by omega), kup_ne (by omega), kup_ne (by omega), kup_ne (by omega), kup_ne (by omega)]
  · unfold PC at hy
    rw [kup_ne (by omega), kup_ne (by omega), kup_ne (by omega), kup_ne (by omega), kup_ne (by omega), kup_ne (by omega)]
  · obtain ⟨⟨c', c1, c2, c3⟩, ⟨k, k1, k2⟩, h4⟩ := (h.2.1 t ht).1
    have hcc : c' = c := by
      rw [hc] at c2
      exact ((nI_eq (by omega) (by omega)).mp c2).symm
    subst hcc
    refine ⟨⟨c' + 1, by omega, by rw [kup_ne (by omega), kup_same], fun i hi => ?_⟩, ⟨k, k1, ?_⟩, fun b hb => ?_⟩
    · by_cases hic : i = c'
      · subst hic
        refine ⟨a, ha, ?_⟩
        rw [kup_ne (by omega), kup_ne (by omega), kup_ne (by omega), kup_ne (by omega), kup_same]
      · rw [kup_ne (by omega), kup_ne (by omega), kup_ne (by omega), kup_ne (by omega), kup_ne (by omega), kup_ne (by omega)]
        exact c3 i (by omega)
    · rw [kup_ne (by omega), kup_ne (by omega), kup_ne (by omega), kup_ne (by omega), kup_ne (by omega), kup_ne (by omega)]
      exact k2
    · rw [kup_ne (by omega), kup_ne (by omega), kup_ne (by omega), kup_ne (by omega), kup_ne (by omega), kup_ne (by omega)]
      exact h4 b hb
theorem Inv_remR {n B t c i : Nat} {α : Ks} (ht : t < n) (hn : n ≤ 5) (hc : α t 19 = nI (c + 1)) (hc2 : c + 1 ≤ 6) (hi : i ≤ c) (h : Inv n B α) : Inv n B (krow α t (remR (α t) i c)) := by
  refine Inv_row ht hn (Nat.le_refl _) (fun x y hxy => krow_ne hxy) (fun y hy => ?_) ?_ h
  · rw [krow_same]
    unfold PC at hy
    simp only [remR, rup, shf]
    rw [if_neg (by omega), if_neg (by omega)]
  · rw [krow_row]
    obtain ⟨⟨c', c1, c2, c3⟩, ⟨k, k1, k2⟩, h4⟩ := (h.2.1 t ht).1
    have hcc : c' = c + 1 := by
      rw [hc] at c2
      exact ((nI_eq (by omega) (by omega)).mp c2).symm
    subst hcc
    refine ⟨⟨c, by omega, ?_, fun j hj => ?_⟩, ⟨k, k1, ?_⟩, fun b hb => ?_⟩
    · simp only [remR, rup, if_true]
    · simp only [remR, rup, shf]
      rw [if_neg (by omega)]
      by_cases hji : i ≤ j
      · rw [if_pos (by omega)]
        obtain ⟨b, hb, hbe⟩ := c3 (j + 1) (by omega)
        exact ⟨b, hb, by rw [← hbe]; congr 1⟩
      · rw [if_neg (by omega)]
        exact c3 j (by omega)
    · simp only [remR, rup, shf]
      rw [if_neg (by omega), if_neg (by omega)]
      exact k2
    · simp only [remR, rup, shf]
      rw [if_neg (by omega), if_neg (by omega)]
      exact h4 b hb
theorem Inv_up {n B t : Nat} {α : Ks} {v : Int32} (ht : t < n) (hn : n ≤ 5) (hv : v = 0 ∨ v = 1) (h : Inv n B α) : Inv n B (kup α 10 t v) := by
  obtain ⟨i1, i2, i3, i4⟩ := h
  have hrow : ∀ x, x ≠ 10 → kup α 10 t v x = α x := fun x hx => funext fun y => kup_ne (by omega)
  refine ⟨fun s hs => ?_, fun s hs => ?_, fun g r hg hr => ?_, ?_⟩
  · unfold UpOk kup
    by_cases hst : s = t
    · rw [if_pos ⟨rfl, hst⟩]; exact hv
    · rw [if_neg (by omega)]; exact i1 s hs
  · rw [hrow s (by omega), hrow (5 + s) (by omega)]
    exact i2 s hs
  · unfold PairOk
    rw [hrow g (by omega), hrow r (by omega), hrow (5 + g) (by omega), hrow (5 + r) (by omega)]
    exact i3 g r hg hr
  · refine NetOk_mono (fun y => kup_ne (by omega)) (kup_ne (by omega)) ?_ ?_ i4
    · intro f s hf hs
      rw [kup_ne (by omega)]
      exact Nat.le_refl _
    · intro f s z hf hs
      unfold seenA
      rw [kup_ne (by omega), kup_ne (by omega)]
      exact id
theorem PairR_down1 {G GK R RK : Nat → Int32} {g r B : Nat} : PairR G GK R RK g r B → PairR G G R RK g r B := by
  rintro ⟨N, c, c', f, m, a1, a2, a3, a4, a5, a6, a7, a8, ⟨b1, b2, b3, b4⟩, d, e1, e2⟩
  exact ⟨N, c, c, f, m, a1, a2, a3, a4, a5, a6, a6, a8, ⟨b1, b1, b3, b3⟩, d, e1, e1⟩
theorem PairR_down2 {G GK R RK : Nat → Int32} {g r B : Nat} : PairR G GK R RK g r B → PairR G GK R R g r B := by
  rintro ⟨N, c, c', f, m, a1, a2, a3, a4, a5, a6, a7, a8, b, ⟨d1, d2, d3, d4⟩, e1, e2⟩
  exact ⟨N, c, c', f, m, a1, a2, a3, a4, a5, a6, a7, a8, b, ⟨d1, d1, d3, d3⟩, e1, e2⟩
theorem PairR_back1 {G GK R RK : Nat → Int32} {g r B : Nat} : PairR G GK R RK g r B → PairR GK GK R RK g r B := by
  rintro ⟨N, c, c', f, m, a1, a2, a3, a4, a5, a6, a7, a8, ⟨b1, b2, b3, b4⟩, d, e1, e2⟩
  exact ⟨N, c', c', f, m, a1, a2, a3, a4, a5, a7, a7, a8, ⟨b2, b2, b4, b4⟩, d, e2, e2⟩
theorem PairR_back2 {G GK R RK : Nat → Int32} {g r B : Nat} : PairR G GK R RK g r B → PairR G GK RK RK g r B := by
  rintro ⟨N, c, c', f, m, a1, a2, a3, a4, a5, a6, a7, a8, b, ⟨d1, d2, d3, d4⟩, e1, e2⟩
  exact ⟨N, c, c', f, m, a1, a2, a3, a4, a5, a6, a7, a8, b, ⟨d2, d2, d4, d4⟩, e1, e2⟩
theorem Inv_down {n B t : Nat} {α : Ks} (ht : t < n) (hn : n ≤ 5) (h : Inv n B α) : Inv n B (aDown α t) := by
  obtain ⟨i1, i2, i3, i4⟩ := h
  have hrow : ∀ x, x ≠ 5 + t → aDown α t x = α x := fun x hx => funext fun y => krow_ne hx
  have hkt : aDown α t (5 + t) = α t := krow_row
  refine ⟨fun s hs => ?_, fun s hs => ?_, fun g r hg hr => ?_, ?_⟩
  · unfold UpOk
    rw [hrow 10 (by omega)]
    exact i1 s hs
  · rw [hrow s (by omega)]
    refine ⟨(i2 s hs).1, ?_⟩
    by_cases hst : s = t
    · rw [hst, hkt, ← hst]
      exact (i2 s hs).1
    · rw [hrow (5 + s) (by omega)]
      exact (i2 s hs).2
  · unfold PairOk
    rw [hrow g (by omega), hrow r (by omega)]
    have h0 : PairR (α g) (α (5 + g)) (α r) (α (5 + r)) g r B := i3 g r hg hr
    by_cases hgt : g = t
    · by_cases hrt : r = t
      · rw [hgt, hrt, hkt]
        rw [hgt, hrt] at h0
        exact PairR_down2 (PairR_down1 h0)
      · rw [hgt, hkt, hrow (5 + r) (by omega)]
        rw [hgt] at h0
        exact PairR_down1 h0
    · rw [hrow (5 + g) (by omega)]
      by_cases hrt : r = t
      · rw [hrt, hkt]
        rw [hrt] at h0
        exact PairR_down2 h0
      · rw [hrow (5 + r) (by omega)]
        exact h0
  · refine NetOk_mono (fun y => by rw [hrow 11 (by omega)]) (by rw [hrow 12 (by omega)]) ?_ ?_ i4
    · intro f s hf hs
      rw [hrow f (by omega)]
      exact Nat.le_refl _
    · intro f s z hf hs
      unfold seenA
      rw [hrow f (by omega)]
      exact id
/-- now as it was written down -/
def aBack (α : Ks) (t : Nat) : Ks := krow α t (α (5 + t))
theorem Inv_back {n B t : Nat} {α : Ks} (ht : t < n) (hn : n ≤ 5) (h : Inv n B α) : Inv n B (aBack α t) := by
  obtain ⟨i1, i2, i3, i4⟩ := h
  have hrow : ∀ x, x ≠ t → aBack α t x = α x := fun x hx => funext fun y => krow_ne hx
  have hkt : aBack α t t = α (5 + t) := krow_row
  refine ⟨fun s hs => ?_, fun s hs => ?_, fun g r hg hr => ?_, ?_⟩
  · unfold UpOk
    rw [hrow 10 (by omega)]
    exact i1 s hs
  · rw [hrow (5 + s) (by omega)]
    refine ⟨?_, (i2 s hs).2⟩
    by_cases hst : s = t
    · rw [hst, hkt, ← hst]
      exact (i2 s hs).2
    · rw [hrow s hst]
      exact (i2 s hs).1
  · unfold PairOk
    rw [hrow (5 + g) (by omega), hrow (5 + r) (by omega)]
    have h0 : PairR (α g) (α (5 + g)) (α r) (α (5 + r)) g r B := i3 g r hg hr
    by_cases hgt : g = t
    · by_cases hrt : r = t
      · rw [hgt, hrt, hkt]
        rw [hgt, hrt] at h0
        exact PairR_back2 (PairR_back1 h0)
      · rw [hgt, hkt, hrow r hrt]
        rw [hgt] at h0
        exact PairR_back1 h0
    · rw [hrow g hgt]
      by_cases hrt : r = t
      · rw [hrt, hkt]
        rw [hrt] at h0
        exact PairR_back2 h0
      · rw [hrow r hrt]
        exact h0
  · refine NetOk_mono (fun y => by rw [hrow 11 (by omega)]) (by rw [hrow 12 (by omega)]) ?_ ?_ i4
    · intro f s hf hs
      by_cases hft : f = t
      · subst hft
        rw [hkt]
        obtain ⟨N, c, c', f', m, a1, a2, a3, a4, a5, a6, a7, a8, ⟨b1, b2, b3, b4⟩, d, e1, e2⟩ := i3 f s hf hs
        rw [b1, b2]
        exact Nat.le_refl _
      · rw [hrow f hft]
        exact Nat.le_refl _
    · intro f s z hf hs
      unfold seenA
      by_cases hft : f = t
      · subst hft
        rw [hkt]
        obtain ⟨N, c, c', f', m, a1, a2, a3, a4, a5, a6, a7, a8, b, ⟨d1, d2, d3, d4⟩, e1, e2⟩ := i3 s f hs hf
        rw [d1, d2, d3, d4]
        exact id
      · rw [hrow f hft]
        exact id
theorem Inv_send {n B k f t : Nat} {α : Ks} {x y z : Int32} (hn : n ≤ 5) (hk : k < 4) (hf : f < n) (ht : t < n) (hm : MsgB α k f t x y) (h : Inv n B α) : Inv n B (aSend α (nI k) (nI f) (nI t) x y z) := by
  obtain ⟨i1, i2, i3, ⟨c, hc, hc2, hms⟩⟩ := h
  have hrow : ∀ r, r ≠ 11 ∧ r ≠ 12 → aSend α (nI k) (nI f) (nI t) x y z r = α r := fun r hr => funext fun s => aSend_row hr
  refine ⟨fun s hs => ?_, fun s hs => ?_, fun g r hg hr => ?_, ?_⟩
  · unfold UpOk
    rw [hrow 10 (by omega)]
    exact i1 s hs
  · rw [hrow s (by omega), hrow (5 + s) (by omega)]
    exact i2 s hs
  · unfold PairOk
    rw [hrow g (by omega), hrow r (by omega), hrow (5 + g) (by omega), hrow (5 + r) (by omega)]
    exact i3 g r hg hr
  · have hB : ∀ k' f' t' x' y', f' < n → MsgB α k' f' t' x' y' → MsgB (aSend α (nI k) (nI f) (nI t) x y z) k' f' t' x' y' := by
      intro k' f' t' x' y' hf'
      exact MsgB_mono (by rw [hrow f' (by omega)]; exact Nat.le_refl _) (fun z => by unfold seenA; rw [hrow f' (by omega)]; exact id)
    by_cases hlt : c < 24
    · refine ⟨c + 1, ?_, by omega, ?_⟩
      · unfold aSend
        try dsimp only
        rw [hc, nI_clamp (by omega), if_pos hlt, kup_same]
      · intro s hs
        by_cases hsc : s = c
        · subst hsc
          refine ⟨k, f, t, hk, hf, ht, ?_⟩
          have h3 : aSend α (nI k) (nI f) (nI t) x y z 11 (6 * s + 3) = x := by
            unfold aSend
            try dsimp only
            rw [hc, nI_clamp (by omega), if_pos hlt]
            simp (disch := omega) only [kup_ne, kup_same]
          have h4 : aSend α (nI k) (nI f) (nI t) x y z 11 (6 * s + 4) = y := by
            unfold aSend
            try dsimp only
            rw [hc, nI_clamp (by omega), if_pos hlt]
            simp (disch := omega) only [kup_ne, kup_same]
          rw [h3, h4]
          refine ⟨?_, ?_, ?_, hB k f t x y hf hm⟩
          all_goals
            unfold aSend
            try dsimp only
            rw [hc, nI_clamp (by omega), if_pos hlt]
            simp (disch := omega) only [kup_ne, kup_same]
        · obtain ⟨k', f', t', a1, a2, a3, a4, a5, a6, a7⟩ := hms s (by omega)
          have he : ∀ w, w < 6 → aSend α (nI k) (nI f) (nI t) x y z 11 (6 * s + w) = α 11 (6 * s + w) := by
            intro w hw
            unfold aSend
            try dsimp only
            rw [hc, nI_clamp (by omega), if_pos hlt]
            simp (disch := omega) only [kup_ne, kup_same]
          have he0 := he 0 (by omega)
          rw [Nat.add_zero] at he0
          refine ⟨k', f', t', a1, a2, a3, by rw [he0]; exact a4, by rw [he 1 (by omega)]; exact a5, by rw [he 2 (by omega)]; exact a6, ?_⟩
          rw [he 3 (by omega), he 4 (by omega)]
          exact hB k' f' t' _ _ a2 a7
    · have he : ∀ w, aSend α (nI k) (nI f) (nI t) x y z 11 w = α 11 w := by
        intro w
        unfold aSend
        try dsimp only
        rw [hc, nI_clamp (by omega), if_neg hlt, kup_ne (by omega)]
      refine ⟨c, ?_, hc2, ?_⟩
      · unfold aSend
        try dsimp only
        rw [hc, nI_clamp (by omega), if_neg hlt, kup_ne (by omega)]
        exact hc
      · intro s hs
        obtain ⟨k', f', t', a1, a2, a3, a4, a5, a6, a7⟩ := hms s hs
        refine ⟨k', f', t', a1, a2, a3, by rw [he]; exact a4, by rw [he]; exact a5, by rw [he]; exact a6, ?_⟩
        rw [he, he]
        exact hB k' f' t' _ _ a2 a7
theorem Inv_take {n B s c : Nat} {α : Ks} (hn : n ≤ 5) (hc : α 12 0 = nI (c + 1)) (hc2 : c + 1 ≤ 24) (hs : s ≤ c) (h : Inv n B α) : Inv n B (aTake α s c) := by
  obtain ⟨i1, i2, i3, ⟨c', hc', hc2', hms⟩⟩ := h
  have hcc : c' = c + 1 := by
    rw [hc] at hc'
    exact ((nI_eq (by omega) (by omega)).mp hc').symm
  subst hcc
  have hrow : ∀ r, r ≠ 11 ∧ r ≠ 12 → aTake α s c r = α r := fun r hr => funext fun y => by
    unfold aTake
    rw [krow_ne (by omega), kup_ne (by omega)]
  have hB : ∀ k' f' t' x' y', f' < n → MsgB α k' f' t' x' y' → MsgB (aTake α s c) k' f' t' x' y' := by
    intro k' f' t' x' y' hf'
    exact MsgB_mono (by rw [hrow f' (by omega)]; exact Nat.le_refl _) (fun z => by unfold seenA; rw [hrow f' (by omega)]; exact id)
  refine ⟨fun s hs => ?_, fun s hs => ?_, fun g r hg hr => ?_, ?_⟩
  · unfold UpOk
    rw [hrow 10 (by omega)]
    exact i1 s hs
  · rw [hrow s (by omega), hrow (5 + s) (by omega)]
    exact i2 s hs
  · unfold PairOk
    rw [hrow g (by omega), hrow r (by omega), hrow (5 + g) (by omega), hrow (5 + r) (by omega)]
    exact i3 g r hg hr
  · refine ⟨c, ?_, by omega, ?_⟩
    · unfold aTake
      rw [krow_ne (by omega), kup_same]
    · intro j hj
      by_cases hjs : j < s
      · obtain ⟨k', f', t', a1, a2, a3, a4, a5, a6, a7⟩ := hms j (by omega)
        have he : ∀ w, w < 6 → aTake α s c 11 (6 * j + w) = α 11 (6 * j + w) := by
          intro w hw
          unfold aTake
          rw [krow_same]
          simp only [shf]
          rw [if_neg (by omega)]
        have he0 := he 0 (by omega)
        rw [Nat.add_zero] at he0
        refine ⟨k', f', t', a1, a2, a3, by rw [he0]; exact a4, by rw [he 1 (by omega)]; exact a5, by rw [he 2 (by omega)]; exact a6, ?_⟩
        rw [he 3 (by omega), he 4 (by omega)]
        exact hB k' f' t' _ _ a2 a7
      · obtain ⟨k', f', t', a1, a2, a3, a4, a5, a6, a7⟩ := hms (j + 1) (by omega)
        have he : ∀ w, w < 6 → aTake α s c 11 (6 * j + w) = α 11 (6 * (j + 1) + w) := by
          intro w hw
          unfold aTake
          rw [krow_same]
          simp only [shf]
          rw [if_pos (by omega)]
          congr 1
          omega
        have he0 := he 0 (by omega)
        rw [Nat.add_zero, Nat.add_zero] at he0
        refine ⟨k', f', t', a1, a2, a3, by rw [he0]; exact a4, by rw [he 1 (by omega)]; exact a5, by rw [he 2 (by omega)]; exact a6, ?_⟩
        rw [he 3 (by omega), he 4 (by omega)]
        exact hB k' f' t' _ _ a2 a7
