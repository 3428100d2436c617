theorem kup_same {σ : Ks} {a i : Nat} {v : Int32} : kup σ a i v a i = v := by simp [kup]
theorem kup_ne {σ : Ks} {a i x y : Nat} {v : Int32} (h : x ≠ a ∨ y ≠ i) : kup σ a i v x y = σ x y := by
  unfold kup
  rw [if_neg (by omega)]
/-- a whole row put in -/
def krow (σ : Ks) (b : Nat) (R : Nat → Int32) : Ks := fun x y => if x = b then R y else σ x y
theorem krow_same {σ : Ks} {b y : Nat} {R : Nat → Int32} : krow σ b R b y = R y := by simp [krow]
theorem krow_row {σ : Ks} {b : Nat} {R : Nat → Int32} : krow σ b R b = R := by funext y; simp [krow]
theorem krow_ne {σ : Ks} {b x y : Nat} {R : Nat → Int32} (h : x ≠ b) : krow σ b R x y = σ x y := by simp [krow, h]
theorem krow_krow {σ : Ks} {b : Nat} {R R' : Nat → Int32} : krow (krow σ b R) b R' = krow σ b R' := by
  funext x y
  simp only [krow]
  split <;> rfl
theorem krow_self {σ : Ks} {b : Nat} : krow σ b (σ b) = σ := by
  funext x y
  simp only [krow]
  split
  · rename_i h; rw [h]
  · rfl
/-- one place of a row -/
def rup (R : Nat → Int32) (i : Nat) (v : Int32) : Nat → Int32 := fun y => if y = i then v else R y
theorem kup_krow {σ : Ks} {b i : Nat} {v : Int32} : kup σ b i v = krow σ b (rup (σ b) i v) := by
  funext x y
  simp only [kup, krow, rup]
  by_cases hx : x = b
  · subst hx
    by_cases hy : y = i <;> simp [hy]
  · simp [hx]
theorem kup_krow2 {σ : Ks} {b i : Nat} {R : Nat → Int32} {v : Int32} : kup (krow σ b R) b i v = krow σ b (rup R i v) := by
  rw [kup_krow, krow_krow, krow_row]
theorem rup_same {R : Nat → Int32} {i : Nat} {v : Int32} : rup R i v i = v := by simp [rup]
theorem rup_ne {R : Nat → Int32} {i y : Nat} {v : Int32} (h : y ≠ i) : rup R i v y = R y := by simp [rup, h]
theorem nI_inc (i : Nat) : nI i + Int32.ofInt 1 = nI (i + 1) := nI_add i 1
theorem nI_dec (i : Nat) : nI (i + 1) - Int32.ofInt 1 = nI i := nI_pred i
theorem nI_sub {a b : Nat} (h : b ≤ a) : nI a - nI b = nI (a - b) := by
  obtain ⟨c, rfl⟩ : ∃ c, a = c + b := ⟨a - b, by omega⟩
  rw [← nI_add, Nat.add_sub_cancel, Int32.add_sub_cancel]
theorem zc_ge {a b : Nat} (ha : a < 2 ^ 31) (hb : b < 2 ^ 31) : zcnd .ge (nI a) (nI b) = decide (b ≤ a) := by
  simp only [zcnd, nI_leI hb ha]
theorem zc_lt {a b : Nat} (ha : a < 2 ^ 31) (hb : b < 2 ^ 31) : zcnd .lt (nI a) (nI b) = decide (a < b) := by
  simp only [zcnd, nI_ltI ha hb]
theorem zc_gt {a b : Nat} (ha : a < 2 ^ 31) (hb : b < 2 ^ 31) : zcnd .gt (nI a) (nI b) = decide (b < a) := by
  simp only [zcnd, nI_ltI hb ha]
theorem zc_le {a b : Nat} (ha : a < 2 ^ 31) (hb : b < 2 ^ 31) : zcnd .le (nI a) (nI b) = decide (a ≤ b) := by
  simp only [zcnd, nI_leI ha hb]
theorem zc_eq {a b : Nat} (ha : a < 2 ^ 31) (hb : b < 2 ^ 31) : zcnd .eq (nI a) (nI b) = decide (a = b) := by
  simp only [zcnd, nI_eq ha hb]
theorem zc_ne {a b : Nat} (ha : a < 2 ^ 31) (hb : b < 2 ^ 31) : zcnd .ne (nI a) (nI b) = decide (¬ a = b) := by
  simp only [zcnd, nI_eq ha hb]
theorem zc_net {x y : Int32} (h : ¬ x = y) : zcnd .ne x y = true := by simp [zcnd, h]
theorem zc_nef {x y : Int32} (h : x = y) : zcnd .ne x y = false := by simp [zcnd, h]
theorem zc_eqt {x y : Int32} (h : x = y) : zcnd .eq x y = true := by simp [zcnd, h]
theorem zc_eqf {x y : Int32} (h : ¬ x = y) : zcnd .eq x y = false := by simp [zcnd, h]
/-- rows d apart moved down from lo up to hi -/
def shf (R : Nat → Int32) (lo hi d : Nat) : Nat → Int32 := fun y => if lo ≤ y ∧ y < hi then R (y + d) else R y
/-- the first place from i on, k places on, that holds id -/
def fnd (f : Nat → Int32) (id : Int32) : Nat → Nat → Option Nat
  | 0, _ => none
  | k + 1, i => if f i = id then some i else fnd f id k (i + 1)
def fres : Option Nat → Int32
  | none => Int32.ofInt (-1)
  | some i => nI i
theorem fnd_lt {f : Nat → Int32} {id : Int32} : ∀ {k i x : Nat}, fnd f id k i = some x → i ≤ x ∧ x < i + k ∧ f x = id
  | 0, i, x, h => by cases h
  | k + 1, i, x, h => by
    unfold fnd at h
    split at h
    · cases h
      exact ⟨Nat.le_refl _, by omega, by assumption⟩
    · obtain ⟨h1, h2, h3⟩ := fnd_lt h
      exact ⟨by omega, by omega, h3⟩
/-- a sum of k terms from i on -/
def sm (f : Nat → Int32) : Nat → Nat → Int32 → Int32
  | 0, _, acc => acc
  | k + 1, i, acc => sm f k (i + 1) (acc + f i)
theorem sm_acc (f : Nat → Int32) : ∀ (k i : Nat) (a b : Int32), sm f k i (a + b) = a + sm f k i b
  | 0, i, a, b => rfl
  | k + 1, i, a, b => by
    unfold sm
    rw [Int32.add_assoc, sm_acc f k]
theorem sm_congr {f f' : Nat → Int32} : ∀ {k i : Nat} {a : Int32}, (∀ x, i ≤ x → x < i + k → f x = f' x) → sm f k i a = sm f' k i a
  | 0, i, a, h => rfl
  | k + 1, i, a, h => by
    unfold sm
    rw [h i (Nat.le_refl _) (by omega)]
    exact sm_congr fun x h1 h2 => h x (by omega) (by omega)
theorem zr_st {j pc : Nat} {ls : List Slot} {st : List Value} {n L : Nat} {σ1 σ2 : Ks} {g : List Nat} {cl : Bool} {r : Zr} (h : σ1 = σ2) (k : ZR j pc ls st (khp n L σ2 g) cl r) : ZR j pc ls st (khp n L σ1 g) cl r := h ▸ k
theorem zr_re {j pc : Nat} {ls : List Slot} {st : List Value} {h : Zh} {cl : Bool} {r r' : Zr} (he : r = r') (k : ZR j pc ls st h cl r) : ZR j pc ls st h cl r' := he ▸ k
/-- the same with another state and another value behind it -/
theorem zr_rv {j pc : Nat} {ls : List Slot} {st : List Value} {h : Zh} {cl cl' : Bool} {n L : Nat} {σ1 σ2 : Ks} {g : List Nat} {v1 v2 : Int32} (hs : σ1 = σ2) (hv : v1 = v2) (k : ZR j pc ls st h cl (.inl (some (.int v1)), khp n L σ1 g, cl')) : ZR j pc ls st h cl (.inl (some (.int v2)), khp n L σ2 g, cl') := by
  subst hs
  subst hv
  exact k
theorem zr_rn {j pc : Nat} {ls : List Slot} {st : List Value} {h : Zh} {cl cl' : Bool} {n L : Nat} {σ1 σ2 : Ks} {g : List Nat} (hs : σ1 = σ2) (k : ZR j pc ls st h cl (.inl none, khp n L σ1 g, cl')) : ZR j pc ls st h cl (.inl none, khp n L σ2 g, cl') := by
  subst hs
  exact k
theorem zx {e : Int32} {a m : Nat} (h : e = nI a) (h2 : a < m) (hm : m < 2 ^ 31) : zix e m = some a := by
  rw [h]
  exact zix_nI h2 hm
theorem kc32 (k : Nat) : Int32.ofInt k = nI k := rfl
theorem c_0 : Int32.ofInt 0 = nI 0 := rfl
theorem c_1 : Int32.ofInt 1 = nI 1 := rfl
theorem c_2 : Int32.ofInt 2 = nI 2 := rfl
theorem c_3 : Int32.ofInt 3 = nI 3 := rfl
theorem c_4 : Int32.ofInt 4 = nI 4 := rfl
theorem c_5 : Int32.ofInt 5 = nI 5 := rfl
theorem c_z : (0 : Int32) = nI 0 := rfl
theorem b_6 : (Int8.ofInt 6).toInt32 = nI 6 := rfl
theorem b_8 : (Int8.ofInt 8).toInt32 = nI 8 := rfl
theorem b_10 : (Int8.ofInt 10).toInt32 = nI 10 := rfl
theorem b_12 : (Int8.ofInt 12).toInt32 = nI 12 := rfl
theorem b_14 : (Int8.ofInt 14).toInt32 = nI 14 := rfl
theorem b_15 : (Int8.ofInt 15).toInt32 = nI 15 := rfl
theorem b_16 : (Int8.ofInt 16).toInt32 = nI 16 := rfl
theorem b_17 : (Int8.ofInt 17).toInt32 = nI 17 := rfl
theorem b_18 : (Int8.ofInt 18).toInt32 = nI 18 := rfl
theorem b_19 : (Int8.ofInt 19).toInt32 = nI 19 := rfl
theorem b_20 : (Int8.ofInt 20).toInt32 = nI 20 := rfl
theorem b_24 : (Int8.ofInt 24).toInt32 = nI 24 := rfl
theorem b_30 : (Int8.ofInt 30).toInt32 = nI 30 := rfl
theorem b_44 : (Int8.ofInt 44).toInt32 = nI 44 := rfl
theorem b_63 : (Int8.ofInt 63).toInt32 = nI 63 := rfl
theorem b_100 : (Int8.ofInt 100).toInt32 = nI 100 := rfl
theorem h_164 : (Int16.ofInt 164).toInt32 = nI 164 := rfl
theorem o_n (k : Nat) : Int32.ofNat k = nI k := rfl
/-- what stands in a record's places that no till has -/
def d0 (y : Nat) : Int32 := if 16 ≤ (y - 44) % 24 then Int32.ofInt (-1) else 0
/-- the flat state out of the class's abstract state and the reference's: rows 0..4 records now, 5..9 kept, 10 up, 11 messages, 12 counts -/
def St (n : Nat) (α β : Ks) (th ow : Int32) (sc : Nat → Int32) : Ks := fun x y =>
  if x < 10 then (if y < 44 + 24 * n then α (x / 2 + 5 * (x % 2)) y else d0 y)
  else if x < 20 then α x y
  else if x < 25 then (if y < 44 + 24 * n then β (x - 20) y else d0 y)
  else if x < 30 then 0
  else if x < 35 then (if y < 44 + 24 * n then β (x - 25) y else d0 y)
  else if x = 40 then 1 - β 10 y
  else if x = 41 then β 11 y
  else if x = 42 then (if y = 0 then th else if y = 1 then nI n else β 12 (y - 2))
  else if x = 50 then (if y = 0 then ow else 0)
  else sc y
section ST
variable {n : Nat} {α β : Ks} {th ow v : Int32} {sc : Nat → Int32} {t y : Nat}
theorem gB (ht : t < 5) (hy : y < 44 + 24 * n) : St n α β th ow sc (2 * t) y = α t y := by
  unfold St
  rw [if_pos (by omega), if_pos hy]
  congr 1
  omega
theorem gK (ht : t < 5) (hy : y < 44 + 24 * n) : St n α β th ow sc (2 * t + 1) y = α (5 + t) y := by
  unfold St
  rw [if_pos (by omega), if_pos hy]
  congr 1
  omega
theorem gU : St n α β th ow sc 10 y = α 10 y := rfl
theorem gN : St n α β th ow sc 11 y = α 11 y := rfl
theorem gC : St n α β th ow sc 12 y = α 12 y := rfl
theorem gM (ht : t < 5) (hy : y < 44 + 24 * n) (hn : n ≤ 5) : St n α β th ow sc (20 + (164 * t + y) / 164) ((164 * t + y) % 164) = β t y := by
  have e1 : (164 * t + y) / 164 = t := by omega
  have e2 : (164 * t + y) % 164 = y := by omega
  rw [e1, e2]
  unfold St
  rw [if_neg (by omega), if_neg (by omega), if_pos (by omega), if_pos hy]
  congr 1
  omega
theorem gMK (ht : t < 5) (hy : y < 44 + 24 * n) (hn : n ≤ 5) : St n α β th ow sc (30 + (164 * t + y) / 164) ((164 * t + y) % 164) = β (5 + t) y := by
  have e1 : (164 * t + y) / 164 = t := by omega
  have e2 : (164 * t + y) % 164 = y := by omega
  rw [e1, e2]
  unfold St
  rw [if_neg (by omega), if_neg (by omega), if_neg (by omega), if_neg (by omega), if_pos (by omega), if_pos hy]
  congr 1
  omega
theorem gD : St n α β th ow sc 40 y = 1 - β 10 y := rfl
theorem gL : St n α β th ow sc 41 y = β 11 y := rfl
theorem g_th : St n α β th ow sc 42 0 = th := rfl
theorem g_n : St n α β th ow sc 42 1 = nI n := rfl
theorem g_ms : St n α β th ow sc 42 2 = β 12 0 := rfl
theorem g_ls : St n α β th ow sc 42 3 = β 12 1 := rfl
theorem g_ow : St n α β th ow sc 50 0 = ow := rfl
theorem g_sc : St n α β th ow sc 60 y = sc y := rfl
/-- the state with one place of the class's part another -/
theorem uA {a c r : Nat} (h0 : ∀ x z, (x = r ∧ z = c) ↔ (x < 10 ∧ z < 44 + 24 * n ∧ x / 2 + 5 * (x % 2) = a ∧ z = c) ∨ (10 ≤ x ∧ x < 20 ∧ x = a ∧ z = c)) : kup (St n α β th ow sc) r c v = St n (kup α a c v) β th ow sc := by
  funext x z
  have h := h0 x z
  unfold St
  show (if x = r ∧ z = c then v else _) = _
  by_cases h1 : x < 10
  · simp only [if_pos h1]
    by_cases h2 : z < 44 + 24 * n
    · simp only [if_pos h2]
      show _ = (if _ then _ else _)
      by_cases h3 : x / 2 + 5 * (x % 2) = a ∧ z = c
      · rw [if_pos h3, if_pos (h.mpr (Or.inl ⟨h1, h2, h3⟩))]
      · rw [if_neg h3, if_neg (fun q => h3 (by have := h.mp q; omega))]
    · simp only [if_neg h2]
      rw [if_neg (fun q => by have := h.mp q; omega)]
  · simp only [if_neg h1]
    by_cases h2 : x < 20
    · simp only [if_pos h2]
      show _ = (if _ then _ else _)
      by_cases h3 : x = a ∧ z = c
      · rw [if_pos h3, if_pos (h.mpr (Or.inr ⟨by omega, h2, h3⟩))]
      · rw [if_neg h3, if_neg (fun q => h3 (by have := h.mp q; omega))]
    · simp only [if_neg h2]
      rw [if_neg (fun q => by have := h.mp q; omega)]
theorem uB (ht : t < 5) (hy : y < 44 + 24 * n) : kup (St n α β th ow sc) (2 * t) y v = St n (kup α t y v) β th ow sc := uA fun x z => by omega
theorem uK (ht : t < 5) (hy : y < 44 + 24 * n) : kup (St n α β th ow sc) (2 * t + 1) y v = St n (kup α (5 + t) y v) β th ow sc := uA fun x z => by omega
theorem uU : kup (St n α β th ow sc) 10 y v = St n (kup α 10 y v) β th ow sc := uA fun x z => by omega
theorem uN : kup (St n α β th ow sc) 11 y v = St n (kup α 11 y v) β th ow sc := uA fun x z => by omega
theorem uC : kup (St n α β th ow sc) 12 y v = St n (kup α 12 y v) β th ow sc := uA fun x z => by omega
theorem uE {a c r d : Nat} {w : Int32} (hr : 20 ≤ r) (h0 : ∀ x z, (x = r ∧ z = d) ↔ (x < 25 ∧ 20 ≤ x ∧ z < 44 + 24 * n ∧ x - 20 = a ∧ z = c) ∨ (30 ≤ x ∧ x < 35 ∧ z < 44 + 24 * n ∧ x - 25 = a ∧ z = c) ∨ (x = 40 ∧ 10 = a ∧ z = c) ∨ (x = 41 ∧ 11 = a ∧ z = c) ∨ (x = 42 ∧ z ≠ 0 ∧ z ≠ 1 ∧ 12 = a ∧ z - 2 = c)) (hw : w = if a = 10 then 1 - v else v) : kup (St n α β th ow sc) r d w = St n α (kup β a c v) th ow sc := by
  funext x z
  have h := h0 x z
  unfold St
  show (if x = r ∧ z = d then w else _) = _
  by_cases h1 : x < 10
  · simp only [if_pos h1]
    rw [if_neg (by omega)]
  simp only [if_neg h1]
  by_cases h2 : x < 20
  · simp only [if_pos h2]
    rw [if_neg (by omega)]
  simp only [if_neg h2]
  by_cases h3 : x < 25
  · simp only [if_pos h3]
    by_cases h4 : z < 44 + 24 * n
    · simp only [if_pos h4]
      show _ = (if _ then _ else _)
      by_cases h5 : x - 20 = a ∧ z = c
      · rw [if_pos h5, if_pos (h.mpr (by omega)), hw, if_neg (by omega)]
      · rw [if_neg h5, if_neg (fun q => h5 (by have := h.mp q; omega))]
    · simp only [if_neg h4]
      rw [if_neg (fun q => by have := h.mp q; omega)]
  simp only [if_neg h3]
  by_cases h6 : x < 30
  · simp only [if_pos h6]
    rw [if_neg (fun q => by have := h.mp q; omega)]
  simp only [if_neg h6]
  by_cases h7 : x < 35
  · simp only [if_pos h7]
    by_cases h4 : z < 44 + 24 * n
    · simp only [if_pos h4]
      show _ = (if _ then _ else _)
      by_cases h5 : x - 25 = a ∧ z = c
      · rw [if_pos h5, if_pos (h.mpr (by omega)), hw, if_neg (by omega)]
      · rw [if_neg h5, if_neg (fun q => h5 (by have := h.mp q; omega))]
    · simp only [if_neg h4]
      rw [if_neg (fun q => by have := h.mp q; omega)]
  simp only [if_neg h7]
  by_cases h8 : x = 40
  · simp only [if_pos h8]
    show _ = 1 - (if 10 = a ∧ z = c then v else β 10 z)
    by_cases h5 : 10 = a ∧ z = c
    · rw [if_pos h5, if_pos (h.mpr (by omega)), hw, if_pos (by omega)]
    · rw [if_neg h5, if_neg (fun q => h5 (by have := h.mp q; omega))]
  simp only [if_neg h8]
  by_cases h9 : x = 41
  · simp only [if_pos h9]
    show _ = (if _ then _ else _)
    by_cases h5 : 11 = a ∧ z = c
    · rw [if_pos h5, if_pos (h.mpr (by omega)), hw, if_neg (by omega)]
    · rw [if_neg h5, if_neg (fun q => h5 (by have := h.mp q; omega))]
  simp only [if_neg h9]
  by_cases h10 : x = 42
  · simp only [if_pos h10]
    by_cases h11 : z = 0
    · simp only [if_pos h11]
      rw [if_neg (fun q => by have := h.mp q; omega)]
    simp only [if_neg h11]
    by_cases h12 : z = 1
    · simp only [if_pos h12]
      rw [if_neg (fun q => by have := h.mp q; omega)]
    simp only [if_neg h12]
    show _ = (if _ then _ else _)
    by_cases h5 : 12 = a ∧ z - 2 = c
    · rw [if_pos h5, if_pos (h.mpr (by omega)), hw, if_neg (by omega)]
    · rw [if_neg h5, if_neg (fun q => h5 (by have := h.mp q; omega))]
  simp only [if_neg h10]
  rw [if_neg (fun q => by have := h.mp q; omega)]
theorem uM (ht : t < 5) (hy : y < 44 + 24 * n) (hn : n ≤ 5) : kup (St n α β th ow sc) (20 + (164 * t + y) / 164) ((164 * t + y) % 164) v = St n α (kup β t y v) th ow sc := by
  have e1 : (164 * t + y) / 164 = t := by omega
  have e2 : (164 * t + y) % 164 = y := by omega
  rw [e1, e2]
  exact uE (by omega) (fun x z => by omega) (by rw [if_neg (by omega)])
theorem uMK (ht : t < 5) (hy : y < 44 + 24 * n) (hn : n ≤ 5) : kup (St n α β th ow sc) (30 + (164 * t + y) / 164) ((164 * t + y) % 164) v = St n α (kup β (5 + t) y v) th ow sc := by
  have e1 : (164 * t + y) / 164 = t := by omega
  have e2 : (164 * t + y) % 164 = y := by omega
  rw [e1, e2]
  exact uE (by omega) (fun x z => by omega) (by rw [if_neg (by omega)])
theorem uL : kup (St n α β th ow sc) 41 y v = St n α (kup β 11 y v) th ow sc := uE (by omega) (fun x z => by omega) (by rw [if_neg (by omega)])
theorem uD {w : Int32} (hw : w = 1 - v) : kup (St n α β th ow sc) 40 y w = St n α (kup β 10 y v) th ow sc := uE (by omega) (fun x z => by omega) (by rw [if_pos (by omega), hw])
theorem u_ms : kup (St n α β th ow sc) 42 2 v = St n α (kup β 12 0 v) th ow sc := uE (by omega) (fun x z => by omega) (by rw [if_neg (by omega)])
theorem u_ls : kup (St n α β th ow sc) 42 3 v = St n α (kup β 12 1 v) th ow sc := uE (by omega) (fun x z => by omega) (by rw [if_neg (by omega)])
theorem u_th : kup (St n α β th ow sc) 42 0 v = St n α β v ow sc := by
  funext x z
  unfold kup
  by_cases h : x = 42 ∧ z = 0
  · rw [if_pos h, h.1, h.2]
    rfl
  · rw [if_neg h]
    unfold St
    by_cases h10 : x = 42
    · subst h10
      by_cases h11 : z = 0
      · exact absurd ⟨rfl, h11⟩ h
      · simp [h11]
    · simp only [if_neg h10]
theorem u_ow : kup (St n α β th ow sc) 50 0 v = St n α β th v sc := by
  funext x z
  unfold kup
  by_cases h : x = 50 ∧ z = 0
  · rw [if_pos h, h.1, h.2]
    rfl
  · rw [if_neg h]
    unfold St
    by_cases h10 : x = 50
    · subst h10
      by_cases h11 : z = 0
      · exact absurd ⟨rfl, h11⟩ h
      · simp [h11]
    · simp only [if_neg h10]
end ST
