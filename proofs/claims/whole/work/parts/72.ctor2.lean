def ar (N : Nat) (f : Nat → Int32) : List Value := (List.range N).map fun s => .int (f s)
theorem ar_len (N : Nat) (f : Nat → Int32) : (ar N f).length = N := by simp [ar]
theorem ar_get {N s : Nat} {f : Nat → Int32} (h : s < N) : (ar N f)[s]? = some (.int (f s)) := by simp [ar, h]
theorem ar_set {N s : Nat} {f : Nat → Int32} {v : Int32} (h : s < N) : (ar N f).set s (.int v) = ar N (rup f s v) := by
  apply List.ext_getElem?
  intro i
  by_cases hi : i < N
  · by_cases e : i = s
    · subst e
      rw [List.getElem?_set_self (by rw [ar_len]; exact hi), ar_get hi, rup_same]
    · rw [List.getElem?_set_ne (Ne.symm e), ar_get hi, ar_get hi, rup_ne e]
  · rw [List.getElem?_eq_none_iff.mpr (by rw [List.length_set, ar_len]; omega), List.getElem?_eq_none_iff.mpr (by rw [ar_len]; omega)]
theorem ar_rep (N : Nat) : List.replicate N (Value.int 0) = ar N fun _ => 0 := by
  apply List.ext_getElem?
  intro i
  by_cases hi : i < N
  · rw [ar_get hi]
    simp [hi]
  · rw [List.getElem?_eq_none_iff.mpr (by simpa using hi), List.getElem?_eq_none_iff.mpr (by rw [ar_len]; omega)]
theorem k_other {h : Zh} {t o : Nat} {x y : Int32} (hx : x = nI t) (hy : y = nI o) : ZR 95 0 [.val (.int x), .val (.int y)] [] h true (.inl (some (.int (nI (164 * t + 44 + 24 * o)))), h, true) := by
  have hM : zmi[95]? = some _ := rfl
  have e : (Int16.ofInt 164).toInt32 * nI t + (Int8.ofInt 44).toInt32 + (Int8.ofInt 24).toInt32 * nI o = nI (164 * t + 44 + 24 * o) := by rw [h_164, b_44, b_24, nI_mul, nI_mul, nI_add, nI_add]
  subst hx
  subst hy
  rw [← e]
  refine zr_fr hM rfl rfl rfl ?_
  refine zr_fr hM rfl rfl rfl ?_
  refine zr_fr hM rfl rfl rfl ?_
  refine zr_fr hM rfl rfl rfl ?_
  refine zr_fr hM rfl rfl rfl ?_
  refine zr_fr hM rfl rfl rfl ?_
  refine zr_fr hM rfl rfl rfl ?_
  refine zr_fr hM rfl rfl rfl ?_
  refine zr_fr hM rfl rfl rfl ?_
  exact zr_iret hM rfl rfl
theorem k_at {h : Zh} {t : Nat} : ZR 97 0 [.val (.int (nI t))] [] h true (.inl (some (.int (nI (164 * t)))), h, true) := by
  have hM : zmi[97]? = some _ := rfl
  have e : (Int16.ofInt 164).toInt32 * nI t = nI (164 * t) := by rw [h_164, nI_mul]
  rw [← e]
  refine zr_fr hM rfl rfl rfl ?_
  refine zr_fr hM rfl rfl rfl ?_
  refine zr_fr hM rfl rfl rfl ?_
  exact zr_iret hM rfl rfl
def mH (n a : Nat) (f g : Nat → Int32) : Zh := [(6, [.int 0, .int (nI n), .ref (a + 1), .ref (a + 2), .ref (a + 3), .int 0, .int 0, .ref (a + 4)]), (100, ar 820 f), (100, ar 820 g), (102, List.replicate 5 (.int 0)), (100, List.replicate 150 (.int 0))]
def cpyT (f g : Nat → Int32) (t k : Nat) : Nat → Int32 := fun s => if 164 * t ≤ s ∧ s < 164 * t + k then f s else g s
theorem cpyT_1 {f g : Nat → Int32} {t k : Nat} : rup (cpyT f g t k) (164 * t + k) (f (164 * t + k)) = cpyT f g t (k + 1) := by
  funext s
  unfold rup cpyT
  by_cases e : s = 164 * t + k
  · rw [if_pos e, if_pos (by omega), e]
  · rw [if_neg e]
    by_cases e2 : 164 * t ≤ s ∧ s < 164 * t + k
    · rw [if_pos e2, if_pos (by omega)]
    · rw [if_neg e2, if_neg (by omega)]
theorem k_syl {h : Zh} {n a t : Nat} {f g : Nat → Int32} (ha : 1 ≤ a) (hl : h.length = a) (ht : t < 5) : ∀ (m k : Nat) (cl : Bool), k + m = 164 → ∃ c', ZR 96 2 [.val (.ref a), .val (.int (nI t)), .val (.int (nI k))] [] (h ++ mH n a f (cpyT f g t k)) cl (.inl none, h ++ mH n a f (cpyT f g t 164), c')
  | 0, k, cl, e => by
    have hM : zmi[96]? = some _ := rfl
    have ek : k = 164 := by omega
    subst ek
    refine ⟨cl, ?_⟩
    refine zr_fr hM rfl rfl rfl ?_
    refine zr_fr hM rfl rfl rfl ?_
    refine zr_ict hM rfl rfl (by rw [h_164, zc_ge (by omega) (by omega)]; exact decide_eq_true (by omega)) ?_
    exact zr_vret hM rfl rfl
  | m + 1, k, cl, e => by
    have hM : zmi[96]? = some _ := rfl
    have hk : k < 164 := by omega
    have hs : 164 * t + k < 820 := by omega
    obtain ⟨c', hrec⟩ := k_syl (f := f) (g := g) (n := n) ha hl ht m (k + 1) false (by omega)
    refine ⟨c', ?_⟩
    refine zr_fr hM rfl rfl rfl ?_
    refine zr_fr hM rfl rfl rfl ?_
    refine zr_icf hM rfl rfl (by rw [h_164, zc_ge (by omega) (by omega)]; exact decide_eq_false (by omega)) ?_
    refine zr_fr hM rfl rfl rfl ?_
    refine rw_getf (i := 0) hl hM rfl rfl rfl ?_
    refine zr_fr hM rfl rfl rfl ?_
    refine zr_stat hM rfl rfl rfl rfl rfl rfl ?_
    refine zgo_ret rfl rfl k_at ?_
    rw [Bool.and_true]
    refine zr_fr hM rfl rfl rfl ?_
    refine zr_fr hM rfl rfl rfl ?_
    refine zr_fr hM rfl rfl rfl ?_
    refine rw_getf (i := 0) hl hM rfl rfl rfl ?_
    refine zr_fr hM rfl rfl rfl ?_
    refine zr_stat hM rfl rfl rfl rfl rfl rfl ?_
    refine zgo_ret rfl rfl k_at ?_
    rw [Bool.and_true]
    refine zr_fr hM rfl rfl rfl ?_
    refine zr_fr hM rfl rfl rfl ?_
    refine rw_iald (i := 1) (s := 164 * t + k) (v := .int (f (164 * t + k))) hl hM rfl rfl (by rw [ar_len]; exact zx (nI_add _ _) hs (by omega)) (ar_get hs) ?_
    refine rw_iast (i := 2) (s := 164 * t + k) (H' := mH n a f (cpyT f g t (k + 1))) ha hl hM rfl rfl (by rw [ar_len]; exact zx (nI_add _ _) hs (by omega)) ?_ ?_
    · rw [ar_set hs, cpyT_1]
      rfl
    refine zr_fr hM rfl rfl rfl ?_
    refine zr_fr hM rfl rfl rfl ?_
    rw [nI_inc]
    exact hrec
theorem k_sync {h : Zh} {n a t : Nat} {f g : Nat → Int32} (ha : 1 ≤ a) (hl : h.length = a) (ht : t < 5) : ∃ c', ZR 96 0 [.val (.ref a), .val (.int (nI t)), .unset] [] (h ++ mH n a f g) true (.inl none, h ++ mH n a f (cpyT f g t 164), c') := by
  have hM : zmi[96]? = some _ := rfl
  obtain ⟨c', hk⟩ := k_syl (f := f) (g := g) (n := n) ha hl ht 164 0 true rfl
  refine ⟨c', ?_⟩
  have e : cpyT f g t 0 = g := by
    funext s
    unfold cpyT
    rw [if_neg (by omega)]
  rw [e] at hk
  refine zr_fr hM rfl rfl rfl ?_
  refine zr_fr hM rfl rfl rfl ?_
  exact hk
def fA (f : Nat → Int32) (b k : Nat) : Nat → Int32 := fun s => if (b + 16 ≤ s ∧ s < b + 16 + k) ∨ (b + 20 ≤ s ∧ s < b + 20 + k) then Int32.ofInt (-1) else f s
theorem fA_0 {f : Nat → Int32} {b : Nat} : fA f b 0 = f := by
  funext s
  unfold fA
  rw [if_neg (by omega)]
theorem fA_1 {f : Nat → Int32} {b k : Nat} : rup (rup (fA f b k) (b + 16 + k) (Int32.ofInt (-1))) (b + 20 + k) (Int32.ofInt (-1)) = fA f b (k + 1) := by
  funext s
  unfold rup fA
  by_cases e1 : s = b + 20 + k
  · rw [if_pos e1, if_pos (by omega)]
  rw [if_neg e1]
  by_cases e2 : s = b + 16 + k
  · rw [if_pos e2, if_pos (by omega)]
  rw [if_neg e2]
  by_cases e3 : (b + 16 ≤ s ∧ s < b + 16 + k) ∨ (b + 20 ≤ s ∧ s < b + 20 + k)
  · rw [if_pos e3, if_pos (by omega)]
  · rw [if_neg e3, if_neg (by omega)]
theorem k_mA {h : Zh} {n a t o : Nat} {p : Int32} {f g : Nat → Int32} {r : Zr} (ha : 1 ≤ a) (hl : h.length = a) (ht : t < 5) (ho : o < 5) (K : ZR 94 124 [.val (.ref a), .val (.int p), .val (.int (nI t)), .val (.int (nI o)), .val (.int (nI 4))] [] (h ++ mH n a (fA f (164 * t + 44 + 24 * o) 4) g) false r) : ∀ (m k : Nat), k + m = 4 → ZR 94 78 [.val (.ref a), .val (.int p), .val (.int (nI t)), .val (.int (nI o)), .val (.int (nI k))] [] (h ++ mH n a (fA f (164 * t + 44 + 24 * o) k) g) false r
  | 0, k, e => by
    have hM : zmi[94]? = some _ := rfl
    have ek : k = 4 := by omega
    subst ek
    refine zr_fr hM rfl rfl rfl ?_
    refine zr_fr hM rfl rfl rfl ?_
    refine zr_ict hM rfl rfl (by decide +kernel) ?_
    exact K
  | m + 1, k, e => by
    have hM : zmi[94]? = some _ := rfl
    have hk : k < 4 := by omega
    have hs1 : 164 * t + 44 + 24 * o + 16 + k < 820 := by omega
    have hs2 : 164 * t + 44 + 24 * o + 20 + k < 820 := by omega
    refine zr_fr hM rfl rfl rfl ?_
    refine zr_fr hM rfl rfl rfl ?_
    refine zr_icf hM rfl rfl (by rw [c_4, zc_ge (by omega) (by omega)]; exact decide_eq_false (by omega)) ?_
    refine zr_fr hM rfl rfl rfl ?_
    refine rw_getf (i := 0) hl hM rfl rfl rfl ?_
    refine zr_fr hM rfl rfl rfl ?_
    refine zr_fr hM rfl rfl rfl ?_
    refine zr_stat hM rfl rfl rfl rfl rfl rfl ?_
    refine zgo_ret rfl rfl (k_other (t := t) (o := o) rfl rfl) ?_
    rw [Bool.and_true]
    refine zr_fr hM rfl rfl rfl ?_
    refine zr_fr hM rfl rfl rfl ?_
    refine zr_fr hM rfl rfl rfl ?_
    refine zr_fr hM rfl rfl rfl ?_
    refine zr_fr hM rfl rfl rfl ?_
    refine rw_iast (i := 1) (s := 164 * t + 44 + 24 * o + 16 + k) (H' := mH n a (rup (fA f (164 * t + 44 + 24 * o) k) (164 * t + 44 + 24 * o + 16 + k) (Int32.ofInt (-1))) g) ha hl hM rfl rfl (by rw [ar_len]; exact zx (by rw [b_16, nI_add, nI_add]) hs1 (by omega)) ?_ ?_
    · rw [ar_set hs1]
      rfl
    refine zr_fr hM rfl rfl rfl ?_
    refine rw_getf (i := 0) hl hM rfl rfl rfl ?_
    refine zr_fr hM rfl rfl rfl ?_
    refine zr_fr hM rfl rfl rfl ?_
    refine zr_stat hM rfl rfl rfl rfl rfl rfl ?_
    refine zgo_ret rfl rfl (k_other (t := t) (o := o) rfl rfl) ?_
    rw [Bool.and_true]
    refine zr_fr hM rfl rfl rfl ?_
    refine zr_fr hM rfl rfl rfl ?_
    refine zr_fr hM rfl rfl rfl ?_
    refine zr_fr hM rfl rfl rfl ?_
    refine zr_fr hM rfl rfl rfl ?_
    refine rw_iast (i := 1) (s := 164 * t + 44 + 24 * o + 20 + k) (H' := mH n a (fA f (164 * t + 44 + 24 * o) (k + 1)) g) ha hl hM rfl rfl (by rw [ar_len]; exact zx (by rw [b_20, nI_add, nI_add]) hs2 (by omega)) ?_ ?_
    · rw [ar_set hs2, fA_1]
      rfl
    refine zr_fr hM rfl rfl rfl ?_
    refine zr_fr hM rfl rfl rfl ?_
    rw [nI_inc]
    exact k_mA ha hl ht ho K m (k + 1) (by omega)
def fO (f : Nat → Int32) (t : Nat) : Nat → Nat → Int32
  | 0 => f
  | o + 1 => fA (fO f t o) (164 * t + 44 + 24 * o) 4
theorem k_mO {h : Zh} {n a t : Nat} {p : Int32} {f g : Nat → Int32} {r : Zr} (ha : 1 ≤ a) (hl : h.length = a) (ht : t < 5) (K : ZR 94 130 [.val (.ref a), .val (.int p), .val (.int (nI t)), .val (.int (nI 5)), .val (.int (nI 4))] [] (h ++ mH n a (fO f t 5) g) false r) : ∀ (m o : Nat) (w : Option Int32), o + m = 5 → (m = 0 → w = some (nI 4)) → ZR 94 70 [.val (.ref a), .val (.int p), .val (.int (nI t)), .val (.int (nI o)), zop w] [] (h ++ mH n a (fO f t o) g) false r
  | 0, o, w, e, hw => by
    have hM : zmi[94]? = some _ := rfl
    have ek : o = 5 := by omega
    subst ek
    rw [hw rfl]
    refine zr_fr hM rfl rfl rfl ?_
    refine zr_fr hM rfl rfl rfl ?_
    refine zr_ict hM rfl rfl (by decide +kernel) ?_
    exact K
  | m + 1, o, w, e, hw => by
    have hM : zmi[94]? = some _ := rfl
    have ho : o < 5 := by omega
    refine zr_fr hM rfl rfl rfl ?_
    refine zr_fr hM rfl rfl rfl ?_
    refine zr_icf hM rfl rfl (by rw [c_5, zc_ge (by omega) (by omega)]; exact decide_eq_false (by omega)) ?_
    refine zr_fr hM rfl rfl rfl ?_
    refine zr_fr (ls' := [.val (.ref a), .val (.int p), .val (.int (nI t)), .val (.int (nI o)), .val (.int (nI 0))]) hM rfl rfl (by cases w <;> rfl) ?_
    have hx := k_mA (f := fO f t o) (g := g) (p := p) (n := n) (r := r) ha hl ht ho ?_ 4 0 rfl
    · rw [fA_0] at hx
      exact hx
    refine zr_fr hM rfl rfl rfl ?_
    refine zr_fr hM rfl rfl rfl ?_
    rw [nI_inc]
    exact k_mO ha hl ht K m (o + 1) (some (nI 4)) (by omega) (fun _ => rfl)
def fT : Nat → (Nat → Int32) × (Nat → Int32)
  | 0 => (fun _ => 0, fun _ => 0)
  | t + 1 => (fO (fT t).1 t 5, cpyT (fO (fT t).1 t 5) (fT t).2 t 164)
theorem k_mT {h : Zh} {n a : Nat} {p : Int32} (ha : 1 ≤ a) (hl : h.length = a) : ∀ (m t : Nat) (w3 w4 : Option Int32), t + m = 5 → ZR 94 63 [.val (.ref a), .val (.int p), .val (.int (nI t)), zop w3, zop w4] [] (h ++ mH n a (fT t).1 (fT t).2) false (.inl none, h ++ mH n a (fT 5).1 (fT 5).2, false)
  | 0, t, w3, w4, e => by
    have hM : zmi[94]? = some _ := rfl
    have ek : t = 5 := by omega
    subst ek
    refine zr_fr hM rfl rfl rfl ?_
    refine zr_fr hM rfl rfl rfl ?_
    refine zr_ict hM rfl rfl (by decide +kernel) ?_
    exact rw_vret hM rfl rfl
  | m + 1, t, w3, w4, e => by
    have hM : zmi[94]? = some _ := rfl
    have ht : t < 5 := by omega
    obtain ⟨c', hc'⟩ := k_sync (f := fO (fT t).1 t 5) (g := (fT t).2) (n := n) ha hl ht
    refine zr_fr hM rfl rfl rfl ?_
    refine zr_fr hM rfl rfl rfl ?_
    refine zr_icf hM rfl rfl (by rw [c_5, zc_ge (by omega) (by omega)]; exact decide_eq_false (by omega)) ?_
    refine zr_fr hM rfl rfl rfl ?_
    refine zr_fr (ls' := [.val (.ref a), .val (.int p), .val (.int (nI t)), .val (.int (nI 0)), zop w4]) hM rfl rfl (by cases w3 <;> rfl) ?_
    refine k_mO (f := (fT t).1) (g := (fT t).2) ha hl ht ?_ 5 0 w4 rfl (fun q => by omega)
    refine zr_fr hM rfl rfl rfl ?_
    refine zr_fr hM rfl rfl rfl ?_
    refine rw_virt (b := a) (c := (6, _)) hM rfl rfl rfl rfl rfl rfl (app_get (i := 0) hl rfl) rfl rfl ?_
    refine zgo_ret rfl rfl hc' ?_
    rw [Bool.false_and]
    refine zr_fr hM rfl rfl rfl ?_
    refine zr_fr hM rfl rfl rfl ?_
    rw [nI_inc]
    exact k_mT ha hl m (t + 1) (some (nI 5)) (some (nI 4)) (by omega)
theorem k_mm {h h0 h1 : Zh} {n a : Nat} {x : Int32} (ha : 1 ≤ a) (hl : h.length = a) (hc : a + 5 ≤ zcap) (hn : clampT x = n) (e0 : h ++ [(6, znewv 6)] = h0) (e1 : h ++ mH n a (fT 5).1 (fT 5).2 = h1) : ZR 94 0 [.val (.ref a), .val (.int x), .unset, .unset, .unset] [] h0 true (.inl none, h1, false) := by
  subst e0
  subst e1
  have hM : zmi[94]? = some _ := rfl
  have hn5 := clampT_ok x
  rw [hn] at hn5
  show ZR 94 0 [.val (.ref a), .val (.int x), .unset, .unset, .unset] [] (h ++ [(6, [.int 0, .int 0, .null, .null, .null, .int 0, .int 0, .null])]) true _
  refine zr_fr hM rfl rfl rfl ?_
  refine rw_obj hM rfl rfl ?_
  refine zr_fr hM rfl rfl rfl ?_
  refine zr_fr hM rfl rfl rfl ?_
  refine rw_narr (m := 820) (u := a + 1) (H' := [(6, [.int 0, .int 0, .null, .null, .null, .int 0, .int 0, .null]), (100, List.replicate 820 (.int 0))]) hl hM rfl rfl rfl rfl (cap_ok (k := 1) hl rfl (by omega)) rfl rfl ?_
  refine rw_putf (i := 0) (H' := [(6, [.int 0, .int 0, .ref (a + 1), .null, .null, .int 0, .int 0, .null]), (100, List.replicate 820 (.int 0))]) ha hl hM rfl rfl rfl rfl rfl ?_
  refine zr_fr hM rfl rfl rfl ?_
  refine zr_fr hM rfl rfl rfl ?_
  refine rw_narr (m := 820) (u := a + 2) (H' := [(6, [.int 0, .int 0, .ref (a + 1), .null, .null, .int 0, .int 0, .null]), (100, List.replicate 820 (.int 0)), (100, List.replicate 820 (.int 0))]) hl hM rfl rfl rfl rfl (cap_ok (k := 2) hl rfl (by omega)) rfl rfl ?_
  refine rw_putf (i := 0) (H' := [(6, [.int 0, .int 0, .ref (a + 1), .ref (a + 2), .null, .int 0, .int 0, .null]), (100, List.replicate 820 (.int 0)), (100, List.replicate 820 (.int 0))]) ha hl hM rfl rfl rfl rfl rfl ?_
  refine zr_fr hM rfl rfl rfl ?_
  refine zr_fr hM rfl rfl rfl ?_
  refine rw_narr (m := 5) (u := a + 3) (H' := [(6, [.int 0, .int 0, .ref (a + 1), .ref (a + 2), .null, .int 0, .int 0, .null]), (100, List.replicate 820 (.int 0)), (100, List.replicate 820 (.int 0)), (102, List.replicate 5 (.int 0))]) hl hM rfl rfl rfl rfl (cap_ok (k := 3) hl rfl (by omega)) rfl rfl ?_
  refine rw_putf (i := 0) (H' := [(6, [.int 0, .int 0, .ref (a + 1), .ref (a + 2), .ref (a + 3), .int 0, .int 0, .null]), (100, List.replicate 820 (.int 0)), (100, List.replicate 820 (.int 0)), (102, List.replicate 5 (.int 0))]) ha hl hM rfl rfl rfl rfl rfl ?_
  refine zr_fr hM rfl rfl rfl ?_
  refine zr_fr hM rfl rfl rfl ?_
  refine rw_narr (m := 150) (u := a + 4) (H' := [(6, [.int 0, .int 0, .ref (a + 1), .ref (a + 2), .ref (a + 3), .int 0, .int 0, .null]), (100, List.replicate 820 (.int 0)), (100, List.replicate 820 (.int 0)), (102, List.replicate 5 (.int 0)), (100, List.replicate 150 (.int 0))]) hl hM rfl rfl rfl rfl (cap_ok (k := 4) hl rfl (by omega)) rfl rfl ?_
  refine rw_putf (i := 0) (H' := [(6, [.int 0, .int 0, .ref (a + 1), .ref (a + 2), .ref (a + 3), .int 0, .int 0, .ref (a + 4)]), (100, List.replicate 820 (.int 0)), (100, List.replicate 820 (.int 0)), (102, List.replicate 5 (.int 0)), (100, List.replicate 150 (.int 0))]) ha hl hM rfl rfl rfl rfl rfl ?_
  refine zr_fr hM rfl rfl rfl ?_
  have K : ZR 94 58 [.val (.ref a), .val (.int x), .unset, .unset, .unset] [.int (nI n), .ref a] (h ++ [(6, [.int 0, .int 0, .ref (a + 1), .ref (a + 2), .ref (a + 3), .int 0, .int 0, .ref (a + 4)]), (100, List.replicate 820 (.int 0)), (100, List.replicate 820 (.int 0)), (102, List.replicate 5 (.int 0)), (100, List.replicate 150 (.int 0))]) false (.inl none, h ++ mH n a (fT 5).1 (fT 5).2, false) := by
    refine rw_putf (i := 0) (H' := [(6, [.int 0, .int (nI n), .ref (a + 1), .ref (a + 2), .ref (a + 3), .int 0, .int 0, .ref (a + 4)]), (100, List.replicate 820 (.int 0)), (100, List.replicate 820 (.int 0)), (102, List.replicate 5 (.int 0)), (100, List.replicate 150 (.int 0))]) ha hl hM rfl rfl rfl rfl rfl ?_
    refine zr_fr hM rfl rfl rfl ?_
    refine zr_fr hM rfl rfl rfl ?_
    rw [ar_rep 820]
    exact k_mT ha hl 5 0 none none rfl
  refine zr_fr hM rfl rfl rfl ?_
  refine zr_fr hM rfl rfl rfl ?_
  by_cases h2 : x < 2
  · refine zr_icf hM rfl rfl (decide_eq_false (by intro q; have e2 : Int32.ofInt 2 = 2 := rfl; rw [e2] at q; rw [Int32.lt_iff_toInt_lt] at h2; rw [Int32.le_iff_toInt_le] at q; omega)) ?_
    refine zr_fr hM rfl rfl rfl ?_
    refine zr_fr hM rfl rfl rfl ?_
    have e : Int32.ofInt 2 = nI n := by
      rw [← hn]
      unfold clampT
      rw [if_pos h2]
      rfl
    rw [e]
    exact K
  refine zr_ict hM rfl rfl (decide_eq_true (by have e2 : Int32.ofInt 2 = 2 := rfl; rw [e2]; rw [Int32.lt_iff_toInt_lt] at h2; rw [Int32.le_iff_toInt_le]; omega)) ?_
  refine zr_fr hM rfl rfl rfl ?_
  refine zr_fr hM rfl rfl rfl ?_
  by_cases h5 : 5 < x
  · refine zr_icf hM rfl rfl (decide_eq_false (by intro q; have e2 : Int32.ofInt 5 = 5 := rfl; rw [e2] at q; rw [Int32.lt_iff_toInt_lt] at h5; rw [Int32.le_iff_toInt_le] at q; omega)) ?_
    refine zr_fr hM rfl rfl rfl ?_
    refine zr_fr hM rfl rfl rfl ?_
    have e : Int32.ofInt 5 = nI n := by
      rw [← hn]
      unfold clampT
      rw [if_neg h2, if_pos h5]
      rfl
    rw [e]
    exact K
  refine zr_ict hM rfl rfl (decide_eq_true (by have e2 : Int32.ofInt 5 = 5 := rfl; rw [e2]; rw [Int32.lt_iff_toInt_lt] at h5; rw [Int32.le_iff_toInt_le]; omega)) ?_
  refine zr_fr hM rfl rfl rfl ?_
  have e : x = nI n := by rw [clampT_in h2 h5, hn]
  have K2 := K
  rw [← e] at K2
  exact K2
