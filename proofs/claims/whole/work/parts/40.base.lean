theorem kup_same {σ : Ks} {a i : Nat} {v : Int32} : kup σ a i v a i = v := by simp [kup]
theorem kup_ne {σ : Ks} {a i x y : Nat} {v : Int32} (h : x ≠ a ∨ y ≠ i) : kup σ a i v x y = σ x y := by
  unfold kup
  rw [if_neg (by omega)]
/-- a whole row put in -/
def krow (σ : Ks) (b : Nat) (R : Nat → Int32) : Ks := fun x y => if x = b then R y else σ x y
theorem krow_same {σ : Ks} {b y : Nat} {R : Nat → Int32} : krow σ b R b y = R y := by simp [krow]
theorem krow_row {σ : Ks} {b : Nat} {R : Nat → Int32} : krow σ b R b = R := by funext y; simp [krow]
theorem krow_ne {σ : Ks} {b x y : Nat} {R : Nat → Int32} (h : x ≠ b) : krow σ b R x y = σ x y := by simp [krow, h]
theorem krow_krow {σ : Ks} {b : Nat} {R R' : Nat → Int32} : krow (krow σ b R) b R' = krow σ b R' := by
  funext x y
  simp only [krow]
  split <;> rfl
theorem krow_self {σ : Ks} {b : Nat} : krow σ b (σ b) = σ := by
  funext x y
  simp only [krow]
  split
  · rename_i h; rw [h]
  · rfl
/-- one place of a row -/
def rup (R : Nat → Int32) (i : Nat) (v : Int32) : Nat → Int32 := fun y => if y = i then v else R y
theorem kup_krow {σ : Ks} {b i : Nat} {v : Int32} : kup σ b i v = krow σ b (rup (σ b) i v) := by
  funext x y
  simp only [kup, krow, rup]
  by_cases hx : x = b
  · subst hx
    by_cases hy : y = i <;> simp [hy]
  · simp [hx]
theorem kup_krow2 {σ : Ks} {b i : Nat} {R : Nat → Int32} {v : Int32} : kup (krow σ b R) b i v = krow σ b (rup R i v) := by
  rw [kup_krow, krow_krow, krow_row]
theorem rup_same {R : Nat → Int32} {i : Nat} {v : Int32} : rup R i v i = v := by simp [rup]
theorem rup_ne {R : Nat → Int32} {i y : Nat} {v : Int32} (h : y ≠ i) : rup R i v y = R y := by simp [rup, h]
theorem nI_inc (i : Nat) : nI i + Int32.ofInt 1 = nI (i + 1) := nI_add i 1
theorem nI_dec (i : Nat) : nI (i + 1) - Int32.ofInt 1 = nI i := nI_pred i
theorem zc_ge {a b : Nat} (ha : a < 2 ^ 31) (hb : b < 2 ^ 31) : zcnd .ge (nI a) (nI b) = decide (b ≤ a) := by
  simp only [zcnd, nI_leI hb ha]
theorem zc_lt {a b : Nat} (ha : a < 2 ^ 31) (hb : b < 2 ^ 31) : zcnd .lt (nI a) (nI b) = decide (a < b) := by
  simp only [zcnd, nI_ltI ha hb]
theorem zc_gt {a b : Nat} (ha : a < 2 ^ 31) (hb : b < 2 ^ 31) : zcnd .gt (nI a) (nI b) = decide (b < a) := by
  simp only [zcnd, nI_ltI hb ha]
theorem zc_le {a b : Nat} (ha : a < 2 ^ 31) (hb : b < 2 ^ 31) : zcnd .le (nI a) (nI b) = decide (a ≤ b) := by
  simp only [zcnd, nI_leI ha hb]
theorem zc_eq {a b : Nat} (ha : a < 2 ^ 31) (hb : b < 2 ^ 31) : zcnd .eq (nI a) (nI b) = decide (a = b) := by
  simp only [zcnd, nI_eq ha hb]
theorem zc_ne {a b : Nat} (ha : a < 2 ^ 31) (hb : b < 2 ^ 31) : zcnd .ne (nI a) (nI b) = decide (¬ a = b) := by
  simp only [zcnd, nI_eq ha hb]
theorem zc_net {x y : Int32} (h : ¬ x = y) : zcnd .ne x y = true := by simp [zcnd, h]
theorem zc_nef {x y : Int32} (h : x = y) : zcnd .ne x y = false := by simp [zcnd, h]
theorem zc_eqt {x y : Int32} (h : x = y) : zcnd .eq x y = true := by simp [zcnd, h]
theorem zc_eqf {x y : Int32} (h : ¬ x = y) : zcnd .eq x y = false := by simp [zcnd, h]
/-- rows d apart moved down from lo up to hi -/
def shf (R : Nat → Int32) (lo hi d : Nat) : Nat → Int32 := fun y => if lo ≤ y ∧ y < hi then R (y + d) else R y
/-- the first place from i on, k places on, that holds id -/
def fnd (f : Nat → Int32) (id : Int32) : Nat → Nat → Option Nat
  | 0, _ => none
  | k + 1, i => if f i = id then some i else fnd f id k (i + 1)
def fres : Option Nat → Int32
  | none => Int32.ofInt (-1)
  | some i => nI i
theorem fnd_lt {f : Nat → Int32} {id : Int32} : ∀ {k i x : Nat}, fnd f id k i = some x → i ≤ x ∧ x < i + k ∧ f x = id
  | 0, i, x, h => by cases h
  | k + 1, i, x, h => by
    unfold fnd at h
    split at h
    · cases h
      exact ⟨Nat.le_refl _, by omega, by assumption⟩
    · obtain ⟨h1, h2, h3⟩ := fnd_lt h
      exact ⟨by omega, by omega, h3⟩
/-- a sum of k terms from i on -/
def sm (f : Nat → Int32) : Nat → Nat → Int32 → Int32
  | 0, _, acc => acc
  | k + 1, i, acc => sm f k (i + 1) (acc + f i)
theorem zr_st {j pc : Nat} {ls : List Slot} {st : List Value} {n L : Nat} {σ1 σ2 : Ks} {g : List Nat} {cl : Bool} {r : Zr} (h : σ1 = σ2) (k : ZR j pc ls st (khp n L σ2 g) cl r) : ZR j pc ls st (khp n L σ1 g) cl r := h ▸ k
theorem zr_re {j pc : Nat} {ls : List Slot} {st : List Value} {h : Zh} {cl : Bool} {r r' : Zr} (he : r = r') (k : ZR j pc ls st h cl r) : ZR j pc ls st h cl r' := he ▸ k
