abbrev Ky : Type := Nat × Nat × Nat
abbrev Kd : Type := (Nat × Nat) ⊕ Ky
/-- where a slot's content lies: a number's place in the flat state, or a key -/
def klocs : List (Nat → Nat → Nat → Kd) := [
  fun _ _ s => if s = 0 then .inr (1, 0, 0) else .inr (20, 0, 0),
  fun _ _ s => .inr (2, s, 0),
  fun b _ s => if s = 0 then .inl (10, b) else if s = 1 then .inr (3, 2 * b, 0) else .inr (3, 2 * b + 1, 0),
  fun b _ s => if s = 4 then .inl (b, 16) else if s = 5 then .inl (b, 18) else if s = 6 then .inr (8, b, 0) else if s = 7 then .inr (13, b, 0) else .inr (4 + s, b, 0),
  fun b _ s => .inl (b, s),
  fun b _ s => .inl (b, 4 + s),
  fun b _ s => .inl (b, 8 + s),
  fun b _ s => .inl (b, 12 + s),
  fun b _ s => if s = 0 then .inl (b, 17) else if s = 1 then .inl (b, 19) else .inr (7 + s, b, 0),
  fun b _ s => .inl (b, 20 + 4 * s),
  fun b _ s => .inl (b, 20 + 4 * s + 1),
  fun b _ s => .inl (b, 20 + 4 * s + 2),
  fun b _ s => .inl (b, 20 + 4 * s + 3),
  fun b _ s => .inr (14, b, s),
  fun b o s => if s = 0 then .inl (b, 44 + 24 * o) else if s = 1 then .inl (b, 44 + 24 * o + 1) else if s = 5 then .inl (b, 44 + 24 * o + 14) else if s = 6 then .inl (b, 44 + 24 * o + 15) else if s = 7 then .inr (18, b, o) else if s = 8 then .inr (19, b, o) else .inr (13 + s, b, o),
  fun b o s => .inl (b, 44 + 24 * o + 2 + 3 * s),
  fun b o s => .inl (b, 44 + 24 * o + 2 + 3 * s + 1),
  fun b o s => .inl (b, 44 + 24 * o + 2 + 3 * s + 2),
  fun b o s => .inl (b, 44 + 24 * o + 16 + s),
  fun b o s => .inl (b, 44 + 24 * o + 20 + s),
  fun _ _ s => if s = 0 then .inl (12, 0) else if s = 1 then .inl (12, 1) else .inr (21, 0, 0),
  fun _ _ s => .inl (11, s),
  fun _ _ s => if s = 0 then .inl (42, 0) else if s = 1 then .inl (42, 1) else if s = 5 then .inl (42, 2) else if s = 6 then .inl (42, 3) else if s = 7 then .inr (26, 0, 0) else .inr (21 + s, 0, 0),
  fun _ _ s => .inl (20 + s / 164, s % 164),
  fun _ _ s => .inl (30 + s / 164, s % 164),
  fun _ _ s => .inl (40, s),
  fun _ _ s => .inl (41, s),
  fun _ _ s => .inl (50, s),
  fun _ _ s => .inl (60, s)]
def kloc (κ : Ky) (s : Nat) : Kd := (klocs.getD κ.1 (fun _ _ _ => .inl (0, 0))) κ.2.1 κ.2.2 s
def ktag (κ : Ky) : Nat := [0, 103, 1, 2, 100, 100, 100, 100, 5, 100, 100, 100, 100, 104, 4, 100, 100, 100, 100, 100, 3, 100, 6, 100, 100, 102, 100, 101, 100].getD κ.1 0
def klen (n L : Nat) (κ : Ky) : Nat := [2, n, 3, 8, 4, 4, 4, 4, 6, 6, 6, 6, 6, n, 9, 4, 4, 4, 4, 4, 3, 144, 8, 820, 820, 5, 150, 1, L].getD κ.1 0
/-- the place of a key's cell in the heap -/
def kad (n : Nat) (κ : Ky) : Nat :=
  let w := 23 + 12 * n
  let v := 11 + 6 * n
  let z := 3 + n * w
  let t := 4 + (κ.2.1 / 2) * w + (κ.2.1 % 2) * v
  [1, 2, 3 + κ.2.1 * w, t, t + 1, t + 2, t + 3, t + 4, t + 5, t + 6, t + 7, t + 8, t + 9, t + 10, t + 11 + 6 * κ.2.2, t + 12 + 6 * κ.2.2, t + 13 + 6 * κ.2.2, t + 14 + 6 * κ.2.2, t + 15 + 6 * κ.2.2, t + 16 + 6 * κ.2.2,
    z, z + 1, z + 2, z + 3, z + 4, z + 5, z + 6, z + 7, 0].getD κ.1 0
def knn (n : Nat) : Nat := 11 + n * (23 + 12 * n)
/-- the key at a place -/
def kof (n a : Nat) : Ky :=
  let w := 23 + 12 * n
  let v := 11 + 6 * n
  let z := 3 + n * w
  if a = 0 then (28, 0, 0) else if a = 1 then (0, 0, 0) else if a = 2 then (1, 0, 0)
  else if z ≤ a then (20 + (a - z), 0, 0)
  else
    let q := (a - 3) / w
    let r := (a - 3) % w
    if r = 0 then (2, q, 0)
    else
      let b := 2 * q + (r - 1) / v
      let x := (r - 1) % v
      if x ≤ 5 then ([3, 4, 5, 6, 7, 8].getD x 0, b, 0) else if x ≤ 10 then (3 + x, b, 0) else (14 + (x - 11) % 6, b, (x - 11) / 6)
def kok (n : Nat) (κ : Ky) : Bool :=
  if κ.1 = 2 then decide (κ.2.1 < n) && decide (κ.2.2 = 0)
  else if 3 ≤ κ.1 ∧ κ.1 ≤ 13 then decide (κ.2.1 < 2 * n) && decide (κ.2.2 = 0)
  else if 14 ≤ κ.1 ∧ κ.1 ≤ 19 then decide (κ.2.1 < 2 * n) && decide (κ.2.2 < n)
  else decide (κ.1 < 29) && decide (κ.2.1 = 0) && decide (κ.2.2 = 0)
theorem kof_all : ((List.range 4).all fun m => (List.range 29).all fun k => (List.range 10).all fun b => (List.range 5).all fun o => !kok (m + 2) (k, b, o) || (decide (kad (m + 2) (k, b, o) < knn (m + 2)) && decide (kof (m + 2) (kad (m + 2) (k, b, o)) = (k, b, o)))) = true := by decide +kernel
theorem kad_all : ((List.range 4).all fun m => (List.range (knn (m + 2))).all fun a => decide (kad (m + 2) (kof (m + 2) a) = a) && kok (m + 2) (kof (m + 2) a)) = true := by decide +kernel
theorem kok_bounds {n : Nat} {κ : Ky} (hn : n ≤ 5) (hk : kok n κ = true) : κ.1 < 29 ∧ κ.2.1 < 10 ∧ κ.2.2 < 5 := by
  unfold kok at hk
  split at hk
  · simp only [Bool.and_eq_true, decide_eq_true_eq] at hk
    omega
  · split at hk
    · simp only [Bool.and_eq_true, decide_eq_true_eq] at hk
      omega
    · split at hk
      · simp only [Bool.and_eq_true, decide_eq_true_eq] at hk
        omega
      · simp only [Bool.and_eq_true, decide_eq_true_eq] at hk
        omega
theorem kof_kad {n : Nat} {κ : Ky} (hn : 2 ≤ n ∧ n ≤ 5) (hk : kok n κ = true) : kad n κ < knn n ∧ kof n (kad n κ) = κ := by
  obtain ⟨m, rfl⟩ : ∃ m, n = m + 2 := ⟨n - 2, by omega⟩
  obtain ⟨h1, h2, h3⟩ := kok_bounds hn.2 hk
  have h := kof_all
  simp only [List.all_eq_true, List.mem_range] at h
  have h4 := h m (by omega) κ.1 h1 κ.2.1 h2 κ.2.2 h3
  have hk2 : kok (m + 2) (κ.1, κ.2.1, κ.2.2) = true := hk
  rw [hk2] at h4
  simpa using h4
theorem kad_kof {n a : Nat} (hn : 2 ≤ n ∧ n ≤ 5) (ha : a < knn n) : kad n (kof n a) = a ∧ kok n (kof n a) = true := by
  obtain ⟨m, rfl⟩ : ∃ m, n = m + 2 := ⟨n - 2, by omega⟩
  have h := kad_all
  simp only [List.all_eq_true, List.mem_range] at h
  have h4 := h m (by omega) a ha
  simpa using h4
abbrev Ks : Type := Nat → Nat → Int32
def kv (n : Nat) (σ : Ks) (tag : Nat) : Kd → Value
  | .inl p => if tag = 101 then .long (σ p.1 p.2).toInt64 else .int (σ p.1 p.2)
  | .inr κ => .ref (kad n κ)
def kcell (n L : Nat) (σ : Ks) (κ : Ky) : Zc := (ktag κ, (List.range (klen n L κ)).map fun s => kv n σ (ktag κ) (kloc κ s))
def khp (n L : Nat) (σ : Ks) (g : List Nat) : Zh := (List.range (knn n)).map (fun a => kcell n L σ (kof n a)) ++ g.map fun t => (t, [])
def kup (σ : Ks) (a i : Nat) (v : Int32) : Ks := fun x y => if x = a ∧ y = i then v else σ x y
theorem khp_get {n L : Nat} {σ : Ks} {g : List Nat} {κ : Ky} (hn : 2 ≤ n ∧ n ≤ 5) (hk : kok n κ = true) : (khp n L σ g)[kad n κ]? = some (kcell n L σ κ) := by
  obtain ⟨h1, h2⟩ := kof_kad hn hk
  unfold khp
  rw [List.getElem?_append_left (by simpa using h1)]
  simp [h1, h2]
theorem khp_len {n L : Nat} {σ : Ks} {g : List Nat} : (khp n L σ g).length = knn n + g.length := by simp [khp]
