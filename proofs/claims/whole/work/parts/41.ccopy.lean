theorem kcp_gen {n L : Nat} {κ1 κ2 : Ky} {r1 r2 : Nat} {f1 f2 : Nat → Nat} {a d k : Nat} {σ σ' : Ks} (hn : 2 ≤ n ∧ n ≤ 5) (hk2 : kok n κ2 = true) (ht1 : ktag κ1 = 100) (ht2 : ktag κ2 = 100)
    (hl1 : ∀ s, s < klen n L κ1 → kloc κ1 s = .inl (r1, f1 s)) (hl2 : ∀ s, s < klen n L κ2 → kloc κ2 s = .inl (r2, f2 s))
    (h1 : a + k ≤ klen n L κ1) (h2 : d + k ≤ klen n L κ2) (hb1 : klen n L κ1 < 2 ^ 31) (hb2 : klen n L κ2 < 2 ^ 31)
    (hA : ∀ s, s < klen n L κ2 → σ' r2 (f2 s) = if d ≤ s ∧ s < d + k then σ r1 (f1 (a + (s - d))) else σ r2 (f2 s))
    (hB : ∀ x y, (∀ s, s < klen n L κ2 → ¬ (x = r2 ∧ y = f2 s)) → σ' x y = σ x y) : Kcp n L σ κ1 (nI a) κ2 (nI d) (nI k) σ' := by
  have ca : (nI a).toNatClampNeg = a := nI_clamp (by omega)
  have cd : (nI d).toNatClampNeg = d := nI_clamp (by omega)
  have ck : (nI k).toNatClampNeg = k := nI_clamp (by omega)
  refine ⟨⟨nI_pos (by omega), nI_pos (by omega), nI_pos (by omega), by rw [ca, ck]; exact h1, by rw [cd, ck]; exact h2⟩, ?_⟩
  intro g
  rw [ca, cd, ck]
  obtain ⟨g1, g2⟩ := kof_kad hn hk2
  unfold khp
  rw [List.set_append_left _ _ (by simpa using g1)]
  congr 1
  apply List.ext_getElem?
  intro x
  by_cases hx : x < knn n
  · by_cases hxk : x = kad n κ2
    · subst hxk
      rw [List.getElem?_set_self (by simpa using g1)]
      simp only [List.getElem?_map, List.getElem?_range g1, Option.map_some, g2]
      unfold kcell
      rw [ht2]
      congr 2
      apply List.ext_getElem?
      intro y
      unfold zcpy
      by_cases hy : y < klen n L κ2
      · simp only [List.getElem?_map, List.length_map, List.length_range, List.getElem?_range hy, Option.map_some, hl2 y hy, ht1]
        congr 1
        show _ = Value.int (σ' r2 (f2 y))
        rw [hA y hy]
        by_cases hc : d ≤ y ∧ y < d + k
        · rw [if_pos hc, if_pos hc]
          have h3 : a + (y - d) < klen n L κ1 := by omega
          simp only [List.getD_eq_getElem?_getD, List.getElem?_map, List.getElem?_range h3, Option.map_some, hl1 _ h3, Option.getD_some]
          rfl
        · rw [if_neg hc, if_neg hc]
          simp only [List.getD_eq_getElem?_getD, List.getElem?_map, List.getElem?_range hy, Option.map_some, hl2 _ hy, Option.getD_some]
          rfl
      · rw [List.getElem?_eq_none_iff.mpr (by simpa using hy), List.getElem?_eq_none_iff.mpr (by simpa using hy)]
    · rw [List.getElem?_set_ne (Ne.symm hxk)]
      simp only [List.getElem?_map, List.getElem?_range hx, Option.map_some]
      obtain ⟨e1, e2⟩ := kad_kof hn hx
      unfold kcell
      congr 2
      apply List.map_congr_left
      intro y hy
      cases hd : kloc (kof n x) y with
      | inr κ => rfl
      | inl p =>
        obtain ⟨p1, p2⟩ := p
        have hi := kinv_ok hn.2 e2 (List.mem_range.mp hy) hd
        have : σ' p1 p2 = σ p1 p2 := by
          apply hB
          rintro s hs ⟨rfl, rfl⟩
          have hj := kinv_ok hn.2 hk2 hs (hl2 s hs)
          rw [hi] at hj
          simp only [Prod.mk.injEq] at hj
          apply hxk
          rw [← e1]
          congr 1
          exact Prod.ext hj.1 (Prod.ext hj.2.1 hj.2.2.1)
        simp only [kv, this]
  · rw [List.getElem?_eq_none_iff.mpr (by simpa using hx), List.getElem?_eq_none_iff.mpr (by simpa using hx)]
/-- row b2's places P copied into row b -/
def kcopy (σ : Ks) (b b2 : Nat) (P : Nat → Bool) : Ks := fun x y => if x = b ∧ P y = true then σ b2 y else σ x y
theorem kcopy_kcopy {σ : Ks} {b b2 : Nat} {P Q : Nat → Bool} (h : b2 ≠ b) : kcopy (kcopy σ b b2 P) b b2 Q = kcopy σ b b2 (fun y => P y || Q y) := by
  funext x y
  simp only [kcopy]
  by_cases hp : P y = true <;> by_cases hq : Q y = true <;> by_cases hx : x = b <;> simp [hp, hq, hx]
theorem kcopy_up {σ : Ks} {b b2 y : Nat} : kup σ b y (σ b2 y) = kcopy σ b b2 (fun z => decide (z = y)) := by
  funext x z
  simp only [kup, kcopy, decide_eq_true_eq]
  by_cases h : x = b ∧ z = y
  · rw [if_pos h, if_pos h, h.2]
  · rw [if_neg h, if_neg h]
theorem kcopy_row {σ : Ks} {b b2 y : Nat} {P : Nat → Bool} (h : b2 ≠ b) : kcopy σ b b2 P b2 y = σ b2 y := by
  simp [kcopy, h]
theorem kcopy_up2 {σ : Ks} {b b2 y : Nat} {P : Nat → Bool} (h : b2 ≠ b) : kup (kcopy σ b b2 P) b y (σ b2 y) = kcopy σ b b2 (fun z => P z || decide (z = y)) := by
  have e : σ b2 y = kcopy σ b b2 P b2 y := (kcopy_row h).symm
  rw [e, kcopy_up, kcopy_kcopy h]
theorem kcopy_congr {σ : Ks} {b b2 : Nat} {P Q : Nat → Bool} (h : ∀ y, P y = Q y) : kcopy σ b b2 P = kcopy σ b b2 Q := by
  rw [show P = Q from funext h]
theorem kcp_whole {n L : Nat} {σ : Ks} {κ1 κ2 : Ky} {b b2 len : Nat} {f : Nat → Nat} {P : Nat → Bool} {k : Int32} (hn : 2 ≤ n ∧ n ≤ 5) (hk2 : kok n κ2 = true) (ht1 : ktag κ1 = 100) (ht2 : ktag κ2 = 100)
    (e1 : klen n L κ1 = len) (e2 : klen n L κ2 = len) (hlen : len < 2 ^ 31) (ek : k = nI len)
    (hl1 : ∀ s, kloc κ1 s = .inl (b2, f s)) (hl2 : ∀ s, kloc κ2 s = .inl (b, f s)) (hP : ∀ y, P y = true ↔ ∃ s, s < len ∧ y = f s) : Kcp n L σ κ1 (Int32.ofInt 0) κ2 (Int32.ofInt 0) k (kcopy σ b b2 P) := by
  rw [ek, c_0]
  refine kcp_gen hn hk2 ht1 ht2 (fun s _ => hl1 s) (fun s _ => hl2 s) (by omega) (by omega) (by omega) (by omega) ?_ ?_
  · intro s hs
    rw [if_pos (by omega), Nat.sub_zero, Nat.zero_add]
    simp only [kcopy]
    rw [if_pos ⟨trivial, (hP _).mpr ⟨s, by omega, rfl⟩⟩]
  · intro x y h
    simp only [kcopy]
    rw [if_neg]
    rintro ⟨rfl, hp⟩
    obtain ⟨s, hs, rfl⟩ := (hP y).mp hp
    exact h s (by omega) ⟨rfl, rfl⟩
section CCOPY
variable {n L : Nat} {σ : Ks} {g : List Nat} {cl : Bool} {b b2 o : Nat}
theorem cp_a {j : Nat} (hj : 4 ≤ j ∧ j ≤ 7) (hn : 2 ≤ n ∧ n ≤ 5) (hb : b < 2 * n) : Kcp n L σ (j, b2, 0) (Int32.ofInt 0) (j, b, 0) (Int32.ofInt 0) (Int32.ofInt 4) (kcopy σ b b2 (fun y => decide (4 * (j - 4) ≤ y ∧ y < 4 * (j - 4) + 4))) := by
  have hk : kok n (j, b, 0) = true := by
    unfold kok
    dsimp only
    rw [if_neg (by omega), if_pos (by omega)]
    simp [hb]
  have hjj : j = 4 ∨ j = 5 ∨ j = 6 ∨ j = 7 := by omega
  rcases hjj with rfl | rfl | rfl | rfl
  · exact kcp_whole (f := fun s => s) (len := 4) hn hk rfl rfl rfl rfl (by decide) rfl (fun s => rfl) (fun s => rfl) (fun y => by simp only [decide_eq_true_eq]; exact ⟨fun h => ⟨y, by omega, rfl⟩, fun ⟨s, h1, h2⟩ => by omega⟩)
  · exact kcp_whole (f := fun s => 4 + s) (len := 4) hn hk rfl rfl rfl rfl (by decide) rfl (fun s => rfl) (fun s => rfl) (fun y => by simp only [decide_eq_true_eq]; exact ⟨fun h => ⟨y - 4, by omega, by omega⟩, fun ⟨s, h1, h2⟩ => by omega⟩)
  · exact kcp_whole (f := fun s => 8 + s) (len := 4) hn hk rfl rfl rfl rfl (by decide) rfl (fun s => rfl) (fun s => rfl) (fun y => by simp only [decide_eq_true_eq]; exact ⟨fun h => ⟨y - 8, by omega, by omega⟩, fun ⟨s, h1, h2⟩ => by omega⟩)
  · exact kcp_whole (f := fun s => 12 + s) (len := 4) hn hk rfl rfl rfl rfl (by decide) rfl (fun s => rfl) (fun s => rfl) (fun y => by simp only [decide_eq_true_eq]; exact ⟨fun h => ⟨y - 12, by omega, by omega⟩, fun ⟨s, h1, h2⟩ => by omega⟩)
theorem cp_r {j : Nat} (hj : 9 ≤ j ∧ j ≤ 12) (hn : 2 ≤ n ∧ n ≤ 5) (hb : b < 2 * n) : Kcp n L σ (j, b2, 0) (Int32.ofInt 0) (j, b, 0) (Int32.ofInt 0) ((Int8.ofInt 6).toInt32) (kcopy σ b b2 (fun y => decide (20 ≤ y ∧ y < 44 ∧ y % 4 = j - 9))) := by
  have hk : kok n (j, b, 0) = true := by
    unfold kok
    dsimp only
    rw [if_neg (by omega), if_pos (by omega)]
    simp [hb]
  have hjj : j = 9 ∨ j = 10 ∨ j = 11 ∨ j = 12 := by omega
  rcases hjj with rfl | rfl | rfl | rfl
  · exact kcp_whole (f := fun s => 20 + 4 * s) (len := 6) hn hk rfl rfl rfl rfl (by decide) rfl (fun s => rfl) (fun s => rfl) (fun y => by simp only [decide_eq_true_eq]; exact ⟨fun h => ⟨(y - 20) / 4, by omega, by omega⟩, fun ⟨s, h1, h2⟩ => by omega⟩)
  · exact kcp_whole (f := fun s => 20 + 4 * s + 1) (len := 6) hn hk rfl rfl rfl rfl (by decide) rfl (fun s => rfl) (fun s => rfl) (fun y => by simp only [decide_eq_true_eq]; exact ⟨fun h => ⟨(y - 20) / 4, by omega, by omega⟩, fun ⟨s, h1, h2⟩ => by omega⟩)
  · exact kcp_whole (f := fun s => 20 + 4 * s + 2) (len := 6) hn hk rfl rfl rfl rfl (by decide) rfl (fun s => rfl) (fun s => rfl) (fun y => by simp only [decide_eq_true_eq]; exact ⟨fun h => ⟨(y - 20) / 4, by omega, by omega⟩, fun ⟨s, h1, h2⟩ => by omega⟩)
  · exact kcp_whole (f := fun s => 20 + 4 * s + 3) (len := 6) hn hk rfl rfl rfl rfl (by decide) rfl (fun s => rfl) (fun s => rfl) (fun y => by simp only [decide_eq_true_eq]; exact ⟨fun h => ⟨(y - 20) / 4, by omega, by omega⟩, fun ⟨s, h1, h2⟩ => by omega⟩)
theorem cp_o {j : Nat} (hj : 15 ≤ j ∧ j ≤ 17) (hn : 2 ≤ n ∧ n ≤ 5) (hb : b < 2 * n) (ho : o < n) : Kcp n L σ (j, b2, o) (Int32.ofInt 0) (j, b, o) (Int32.ofInt 0) (Int32.ofInt 4) (kcopy σ b b2 (fun y => decide (46 + 24 * o ≤ y ∧ y < 58 + 24 * o ∧ (y - (46 + 24 * o)) % 3 = j - 15))) := by
  have hk : kok n (j, b, o) = true := by
    unfold kok
    dsimp only
    rw [if_neg (by omega), if_neg (by omega), if_pos (by omega)]
    simp [hb, ho]
  have hjj : j = 15 ∨ j = 16 ∨ j = 17 := by omega
  rcases hjj with rfl | rfl | rfl
  · exact kcp_whole (f := fun s => 44 + 24 * o + 2 + 3 * s) (len := 4) hn hk rfl rfl rfl rfl (by decide) rfl (fun s => rfl) (fun s => rfl) (fun y => by simp only [decide_eq_true_eq]; exact ⟨fun h => ⟨(y - (46 + 24 * o)) / 3, by omega, by omega⟩, fun ⟨s, h1, h2⟩ => by omega⟩)
  · exact kcp_whole (f := fun s => 44 + 24 * o + 2 + 3 * s + 1) (len := 4) hn hk rfl rfl rfl rfl (by decide) rfl (fun s => rfl) (fun s => rfl) (fun y => by simp only [decide_eq_true_eq]; exact ⟨fun h => ⟨(y - (46 + 24 * o)) / 3, by omega, by omega⟩, fun ⟨s, h1, h2⟩ => by omega⟩)
  · exact kcp_whole (f := fun s => 44 + 24 * o + 2 + 3 * s + 2) (len := 4) hn hk rfl rfl rfl rfl (by decide) rfl (fun s => rfl) (fun s => rfl) (fun y => by simp only [decide_eq_true_eq]; exact ⟨fun h => ⟨(y - (46 + 24 * o)) / 3, by omega, by omega⟩, fun ⟨s, h1, h2⟩ => by omega⟩)
theorem cp_n {j : Nat} (hj : 18 ≤ j ∧ j ≤ 19) (hn : 2 ≤ n ∧ n ≤ 5) (hb : b < 2 * n) (ho : o < n) : Kcp n L σ (j, b2, o) (Int32.ofInt 0) (j, b, o) (Int32.ofInt 0) (Int32.ofInt 4) (kcopy σ b b2 (fun y => decide (60 + 24 * o + 4 * (j - 18) ≤ y ∧ y < 64 + 24 * o + 4 * (j - 18)))) := by
  have hk : kok n (j, b, o) = true := by
    unfold kok
    dsimp only
    rw [if_neg (by omega), if_neg (by omega), if_pos (by omega)]
    simp [hb, ho]
  have hjj : j = 18 ∨ j = 19 := by omega
  rcases hjj with rfl | rfl
  · exact kcp_whole (f := fun s => 44 + 24 * o + 16 + s) (len := 4) hn hk rfl rfl rfl rfl (by decide) rfl (fun s => rfl) (fun s => rfl) (fun y => by simp only [decide_eq_true_eq]; exact ⟨fun h => ⟨y - (60 + 24 * o), by omega, by omega⟩, fun ⟨s, h1, h2⟩ => by omega⟩)
  · exact kcp_whole (f := fun s => 44 + 24 * o + 20 + s) (len := 4) hn hk rfl rfl rfl rfl (by decide) rfl (fun s => rfl) (fun s => rfl) (fun y => by simp only [decide_eq_true_eq]; exact ⟨fun h => ⟨y - (64 + 24 * o), by omega, by omega⟩, fun ⟨s, h1, h2⟩ => by omega⟩)
theorem c_copyR (hn : 2 ≤ n ∧ n ≤ 5) (hb : b < 2 * n) (hb2 : b2 < 2 * n) (hne : b2 ≠ b) : ZR 17 0 [.val (.ref (kad n (8, b, 0))), .val (.ref (kad n (8, b2, 0)))] [] (khp n L σ g) cl (.inl none, khp n L (kcopy σ b b2 (fun y => decide (y = 17 ∨ y = 19 ∨ (20 ≤ y ∧ y < 44)))) g, false) := by
  refine zr_rn ?_ (s17_0_r hn hb hb2 (cp_r (j := 9) (by omega) hn hb) (cp_r (j := 10) (by omega) hn hb) (cp_r (j := 11) (by omega) hn hb) (cp_r (j := 12) (by omega) hn hb))
  rw [kcopy_up, kcopy_up, kcopy_kcopy hne, kcopy_kcopy hne, kcopy_kcopy hne, kcopy_kcopy hne, kcopy_kcopy hne]
  apply kcopy_congr
  intro y
  simp only [← Bool.decide_or, decide_eq_decide]
  omega
theorem c_copyP (hn : 2 ≤ n ∧ n ≤ 5) (hb : b < 2 * n) (hb2 : b2 < 2 * n) (ho : o < n) (hne : b2 ≠ b) : ZR 18 0 [.val (.ref (kad n (14, b, o))), .val (.ref (kad n (14, b2, o)))] [] (khp n L σ g) cl (.inl none, khp n L (kcopy σ b b2 (fun y => decide (44 + 24 * o ≤ y ∧ y < 68 + 24 * o))) g, false) := by
  refine zr_rn ?_ (s18_0_r hn hb hb2 ho ho (cp_o (j := 15) (by omega) hn hb ho) (cp_o (j := 16) (by omega) hn hb ho) (cp_o (j := 17) (by omega) hn hb ho) (cp_n (j := 18) (by omega) hn hb ho) (cp_n (j := 19) (by omega) hn hb ho))
  rw [kcopy_up, kcopy_up, kcopy_kcopy hne, kcopy_kcopy hne, kcopy_kcopy hne, kcopy_kcopy hne, kcopy_up, kcopy_up, kcopy_kcopy hne, kcopy_kcopy hne, kcopy_kcopy hne, kcopy_kcopy hne]
  apply kcopy_congr
  intro y
  simp only [← Bool.decide_or, decide_eq_decide]
  omega
theorem c_copyB (hn : 2 ≤ n ∧ n ≤ 5) (hb : b < 2 * n) (hb2 : b2 < 2 * n) (hne : b2 ≠ b) : ZR 16 0 [.val (.ref (kad n (3, b, 0))), .val (.ref (kad n (3, b2, 0))), .unset] [] (khp n L σ g) cl (.inl none, khp n L (kcopy σ b b2 (fun y => decide (y < 44 + 24 * n))) g, false) := by
  have loop : ∀ k o, o + k = n → ZR 16 85 [.val (.ref (kad n (3, b, 0))), .val (.ref (kad n (3, b2, 0))), .val (.int (nI o))] [] (khp n L (kcopy σ b b2 (fun y => decide (y < 44 + 24 * o))) g) false (.inl none, khp n L (kcopy σ b b2 (fun y => decide (y < 44 + 24 * n))) g, false) := by
    intro k
    induction k with
    | zero =>
      intro o ho
      have : o = n := by omega
      subst this
      exact s16_85_t hn hb hb2 (by rw [o_n, zc_ge (by omega) (by omega)]; simp)
    | succ k ih =>
      intro o ho
      refine s16_85_f hn hb hb2 (by rw [o_n, zc_ge (by omega) (by omega)]; simp; omega) (zix_nI (by omega) (by omega)) (c_copyP hn hb hb2 (by omega) hne) ?_
      rw [nI_inc]
      refine zr_st ?_ (ih (o + 1) (by omega))
      rw [kcopy_kcopy hne]
      apply kcopy_congr
      intro y
      simp only [← Bool.decide_or, decide_eq_decide]
      omega
  refine s16_0_r hn hb hb2 (cp_a (j := 4) (by omega) hn hb) (cp_a (j := 5) (by omega) hn hb) (cp_a (j := 6) (by omega) hn hb) (cp_a (j := 7) (by omega) hn hb) (c_copyR hn hb hb2 hne) ?_
  refine zr_st ?_ (loop n 0 (by omega))
  rw [kcopy_kcopy hne, kcopy_kcopy hne, kcopy_kcopy hne, kcopy_up, kcopy_up, kcopy_kcopy hne, kcopy_kcopy hne, kcopy_kcopy hne]
  apply kcopy_congr
  intro y
  simp only [← Bool.decide_or, decide_eq_decide]
  omega
end CCOPY
section CCOPY2
variable {n L : Nat} {α β : Ks} {th ow : Int32} {sc : Nat → Int32} {g : List Nat} {cl : Bool} {t : Nat}
theorem kcopy_down (ht : t < 5) : kcopy (St n α β th ow sc) (2 * t + 1) (2 * t) (fun y => decide (y < 44 + 24 * n)) = St n (krow α (5 + t) (α t)) β th ow sc := by
  funext x y
  unfold kcopy
  simp only [decide_eq_true_eq]
  by_cases h : x = 2 * t + 1 ∧ y < 44 + 24 * n
  · rw [if_pos h, gB ht h.2, h.1, gK ht h.2, krow_same]
  · rw [if_neg h]
    unfold St
    by_cases h1 : x < 10
    · simp only [if_pos h1]
      by_cases h2 : y < 44 + 24 * n
      · simp only [if_pos h2]
        rw [krow_ne (by omega)]
      · simp only [if_neg h2]
    · simp only [if_neg h1]
      by_cases h2 : x < 20
      · simp only [if_pos h2]
        rw [krow_ne (by omega)]
      · simp only [if_neg h2]
theorem kcopy_back (ht : t < 5) : kcopy (St n α β th ow sc) (2 * t) (2 * t + 1) (fun y => decide (y < 44 + 24 * n)) = St n (krow α t (α (5 + t))) β th ow sc := by
  funext x y
  unfold kcopy
  simp only [decide_eq_true_eq]
  by_cases h : x = 2 * t ∧ y < 44 + 24 * n
  · rw [if_pos h, gK ht h.2, h.1, gB ht h.2, krow_same]
  · rw [if_neg h]
    unfold St
    by_cases h1 : x < 10
    · simp only [if_pos h1]
      by_cases h2 : y < 44 + 24 * n
      · simp only [if_pos h2]
        rw [krow_ne (by omega)]
      · simp only [if_neg h2]
    · simp only [if_neg h1]
      by_cases h2 : x < 20
      · simp only [if_pos h2]
        rw [krow_ne (by omega)]
      · simp only [if_neg h2]
theorem c_writeDown (hn : 2 ≤ n ∧ n ≤ 5) (ht : t < n) : ZR 15 0 [.val (.ref (kad n (2, t, 0)))] [] (khp n L (St n α β th ow sc) g) true (.inl none, khp n L (St n (krow α (5 + t) (α t)) β th ow sc) g, false) := by
  have h := c_copyB (σ := St n α β th ow sc) (b := 2 * t + 1) (b2 := 2 * t) (L := L) (g := g) (cl := true) hn (by omega) (by omega) (by omega)
  rw [kcopy_down (by omega)] at h
  exact s15_0_r (cl := true) hn ht h
theorem c_fallBack (hn : 2 ≤ n ∧ n ≤ 5) (ht : t < n) : ZR 20 0 [.val (.ref (kad n (2, t, 0)))] [] (khp n L (St n α β th ow sc) g) true (.inl none, khp n L (St n (krow α t (α (5 + t))) β th ow sc) g, false) := by
  have h := c_copyB (σ := St n α β th ow sc) (b := 2 * t) (b2 := 2 * t + 1) (L := L) (g := g) (cl := true) hn (by omega) (by omega) (by omega)
  rw [kcopy_back (by omega)] at h
  exact s20_0_r (cl := true) hn ht h
end CCOPY2
