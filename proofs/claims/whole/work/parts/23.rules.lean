def kvv (tag : Nat) (v : Int32) : Value := if tag = 101 then .long v.toInt64 else .int v
theorem kv_up {n : Nat} {σ : Ks} {tag a i : Nat} {v : Int32} {d : Kd} (h : d ≠ .inl (a, i)) : kv n (kup σ a i v) tag d = kv n σ tag d := by
  cases d with
  | inr κ => rfl
  | inl p =>
    obtain ⟨x, y⟩ := p
    have hne : ¬ (x = a ∧ y = i) := fun q => h (by rw [q.1, q.2])
    simp only [kv, kup, hne, if_false]
theorem khp_set {n L : Nat} {σ : Ks} {g : List Nat} {κ : Ky} {s a i : Nat} {v : Int32} (hn : 2 ≤ n ∧ n ≤ 5) (hk : kok n κ = true) (hs : s < klen n L κ) (hl : kloc κ s = .inl (a, i)) :
    khp n L (kup σ a i v) g = (khp n L σ g).set (kad n κ) (ktag κ, (kcell n L σ κ).2.set s (kvv (ktag κ) v)) := by
  have hinj := kinv_ok hn.2 hk hs hl
  obtain ⟨h1, h2⟩ := kof_kad hn hk
  unfold khp
  rw [List.set_append_left _ _ (by simpa using h1)]
  congr 1
  apply List.ext_getElem?
  intro x
  by_cases hx : x < knn n
  · by_cases hxk : x = kad n κ
    · subst hxk
      rw [List.getElem?_set_self (by simpa using h1)]
      simp only [List.getElem?_map, List.getElem?_range h1, Option.map_some, h2]
      unfold kcell
      congr 2
      apply List.ext_getElem?
      intro y
      by_cases hy : y < klen n L κ
      · by_cases hys : y = s
        · subst hys
          rw [List.getElem?_set_self (by simpa using hy)]
          simp only [List.getElem?_map, List.getElem?_range hy, Option.map_some, hl]
          simp [kv, kup, kvv]
        · rw [List.getElem?_set_ne (Ne.symm hys)]
          simp only [List.getElem?_map, List.getElem?_range hy, Option.map_some]
          rw [kv_up]
          intro hq
          have := kinv_ok hn.2 hk hy hq
          rw [hinj] at this
          simp only [Prod.mk.injEq] at this
          exact hys this.2.2.2.symm
      · rw [List.getElem?_eq_none_iff.mpr (by simpa using hy), List.getElem?_eq_none_iff.mpr (by simpa using hy)]
    · rw [List.getElem?_set_ne (Ne.symm hxk)]
      simp only [List.getElem?_map, List.getElem?_range hx, Option.map_some]
      obtain ⟨g1, g2⟩ := kad_kof hn hx
      unfold kcell
      congr 2
      apply List.map_congr_left
      intro y hy
      rw [kv_up]
      intro hq
      have := kinv_ok hn.2 g2 (List.mem_range.mp hy) hq
      rw [hinj] at this
      simp only [Prod.mk.injEq] at this
      apply hxk
      rw [← g1]
      congr 1
      exact (Prod.ext this.1 (Prod.ext this.2.1 this.2.2.1)).symm
  · rw [List.getElem?_eq_none_iff.mpr (by simpa using hx), List.getElem?_eq_none_iff.mpr (by simpa using hx)]
section ZRU
variable {j pc : Nat} {ls ls' : List Slot} {st st' : List Value} {h h' : Zh} {cl : Bool} {r : Zr} {M : Zm} {ins : Instr} {ax : List Nat} {n L : Nat} {σ : Ks} {g : List Nat} {κ : Ky}
theorem zr_of {q : Instr × List Nat} (hM : zmi[j]? = some M) (hq : zlk (zMc M) pc = some q) (k : ∃ f, zstep (zrun f) j pc ls st h cl M q = some r) : ZR j pc ls st h cl r := by
  obtain ⟨f, hf⟩ := k
  exact ⟨f + 1, by rw [zrun_succ, hM, Option.bind_some, hq, Option.bind_some]; exact hf⟩
theorem zr_fr {pc' : Nat} (hM : zmi[j]? = some M) (hq : zlk (zMc M) pc = some (ins, ax)) (hk : zkind ins = 0) (hf : zfr ins pc ls st = some (pc', ls', st')) (k : ZR j pc' ls' st' h cl r) : ZR j pc ls st h cl r := by
  obtain ⟨f, hr⟩ := k
  refine zr_of hM hq ⟨f, ?_⟩
  unfold zstep
  try dsimp only
  rw [hk]
  try dsimp only
  rw [hf, Option.bind_some]
  exact hr
theorem zr_if {cd : ClassFile.Cond} {off : Int} {t : Nat} {x : Int32} (hM : zmi[j]? = some M) (hq : zlk (zMc M) pc = some (.ifCond cd off, ax)) (ht : ztg pc off = some t) (kt : zcnd cd x 0 = true → ZR j t ls st h cl r) (kf : zcnd cd x 0 = false → ZR j (pc + 3) ls st h cl r) : ZR j pc ls (.int x :: st) h cl r := by
  cases hc : zcnd cd x 0 with
  | true => exact zr_fr hM hq rfl (by show zbr (zcnd cd x 0) pc off ls st = _; unfold zbr; rw [ht, Option.bind_some, hc]; rfl) (kt hc)
  | false => exact zr_fr hM hq rfl (by show zbr (zcnd cd x 0) pc off ls st = _; unfold zbr; rw [ht, Option.bind_some, hc]; rfl) (kf hc)
theorem zr_ic {cd : ClassFile.Cond} {off : Int} {t : Nat} {x y : Int32} (hM : zmi[j]? = some M) (hq : zlk (zMc M) pc = some (.if_icmp cd off, ax)) (ht : ztg pc off = some t) (kt : zcnd cd x y = true → ZR j t ls st h cl r) (kf : zcnd cd x y = false → ZR j (pc + 3) ls st h cl r) : ZR j pc ls (.int y :: .int x :: st) h cl r := by
  cases hc : zcnd cd x y with
  | true => exact zr_fr hM hq rfl (by show zbr (zcnd cd x y) pc off ls st = _; unfold zbr; rw [ht, Option.bind_some, hc]; rfl) (kt hc)
  | false => exact zr_fr hM hq rfl (by show zbr (zcnd cd x y) pc off ls st = _; unfold zbr; rw [ht, Option.bind_some, hc]; rfl) (kf hc)
theorem zr_hp {st2 : List Value} {w : Bool} (hM : zmi[j]? = some M) (hq : zlk (zMc M) pc = some (ins, ax)) (hk : zkind ins = 1) (hf : zhp ins ax st h = some (st2, h', w)) (k : ZR j (pc + zlen ins) ls st2 h' (cl && !w) r) : ZR j pc ls st h cl r := by
  obtain ⟨f, hr⟩ := k
  refine zr_of hM hq ⟨f, ?_⟩
  unfold zstep
  try dsimp only
  rw [hk]
  try dsimp only
  rw [hf, Option.bind_some]
  exact hr
theorem zr_clt (k : ZR j pc ls st h cl r) : ZR j pc ls st h (cl && !false) r := by
  rw [Bool.not_false, Bool.and_true]
  exact k
theorem zr_clf (k : ZR j pc ls st h false r) : ZR j pc ls st h (cl && !true) r := by
  rw [Bool.not_true, Bool.and_false]
  exact k
theorem zr_getf {idx ci s : Nat} (hn : 2 ≤ n ∧ n ≤ 5) (hM : zmi[j]? = some M) (hq : zlk (zMc M) pc = some (.getfield idx, ci :: s :: ax)) (hk : kok n κ = true) (ht : ktag κ = ci) (hs0 : Nat.blt s (klen n L κ) = true) (k : ZR j (pc + 3) ls (kv n σ ci (kloc κ s) :: st) (khp n L σ g) cl r) : ZR j pc ls (.ref (kad n κ) :: st) (khp n L σ g) cl r := by
  have hs : s < klen n L κ := by rw [← Nat.blt_eq]; exact hs0
  refine zr_hp (w := false) hM hq rfl ?_ (zr_clt k)
  show ((khp n L σ g)[kad n κ]?).bind _ = _
  rw [khp_get hn hk, Option.bind_some]
  try dsimp only
  rw [if_pos (show (kcell n L σ κ).1 = ci from ht)]
  subst ht
  simp [kcell, hs]
theorem zr_put0 {a i s : Nat} {v : Int32} (hn : 2 ≤ n ∧ n ≤ 5) (hk : kok n κ = true) (hs : s < klen n L κ) (hl : kloc κ s = .inl (a, i)) : (khp n L σ g).set (kad n κ) (ktag κ, (kcell n L σ κ).2.set s (kvv (ktag κ) v)) = khp n L (kup σ a i v) g := (khp_set hn hk hs hl).symm
theorem kad_pos (hn : 2 ≤ n ∧ n ≤ 5) (hk : kok n κ = true) (h28 : κ.1 ≠ 28) : ∃ x, kad n κ = x + 1 := by
  cases hx : kad n κ with
  | succ x => exact ⟨x, rfl⟩
  | zero =>
    have h2 := (kof_kad hn hk).2
    rw [hx] at h2
    have h3 : kof n 0 = (28, 0, 0) := rfl
    rw [h3] at h2
    exact absurd (by rw [← h2]) h28
theorem zr_putf {idx ci s a i : Nat} {v : Int32} (hn : 2 ≤ n ∧ n ≤ 5) (hM : zmi[j]? = some M) (hq : zlk (zMc M) pc = some (.putfield idx, ci :: s :: ax)) (hk : kok n κ = true) (h280 : Nat.beq κ.1 28 = false) (ht : ktag κ = ci) (h1010 : Nat.beq ci 101 = false) (hs0 : Nat.blt s (klen n L κ) = true) (hl : kloc κ s = .inl (a, i)) (hfit : zfit (zfk ci s) (.int v) = true) (k : ZR j (pc + 3) ls st (khp n L (kup σ a i v) g) false r) : ZR j pc ls (.int v :: .ref (kad n κ) :: st) (khp n L σ g) cl r := by
  have hs : s < klen n L κ := by rw [← Nat.blt_eq]; exact hs0
  have h28 : κ.1 ≠ 28 := Nat.ne_of_beq_eq_false h280
  have h101 : ci ≠ 101 := Nat.ne_of_beq_eq_false h1010
  obtain ⟨x, hx⟩ := kad_pos hn hk h28
  refine zr_hp (w := true) (h' := khp n L (kup σ a i v) g) (st2 := st) hM hq rfl ?_ (zr_clf k)
  rw [hx]
  show ((khp n L σ g)[x + 1]?).bind _ = _
  rw [← hx, khp_get hn hk, Option.bind_some]
  try dsimp only
  have hlen : s < (kcell n L σ κ).2.length := by simpa [kcell] using hs
  rw [if_pos ⟨ht, hlen, hfit⟩, ← zr_put0 hn hk hs hl, ht]
  congr 5
  simp [kvv, h101]
theorem zr_alen (hn : 2 ≤ n ∧ n ≤ 5) (hM : zmi[j]? = some M) (hq : zlk (zMc M) pc = some (.arraylength, ax)) (hk : kok n κ = true) (ht0 : (Nat.ble 100 (ktag κ) && Nat.blt (ktag κ) 105) = true) (k : ZR j (pc + 1) ls (.int (Int32.ofNat (klen n L κ)) :: st) (khp n L σ g) cl r) : ZR j pc ls (.ref (kad n κ) :: st) (khp n L σ g) cl r := by
  have ht : 100 ≤ ktag κ ∧ ktag κ < 105 := by
    rw [Bool.and_eq_true] at ht0
    exact ⟨Nat.le_of_ble_eq_true ht0.1, by rw [← Nat.blt_eq]; exact ht0.2⟩
  refine zr_hp (w := false) hM hq rfl ?_ (zr_clt k)
  show ((khp n L σ g)[kad n κ]?).bind _ = _
  rw [khp_get hn hk, Option.bind_some]
  try dsimp only
  rw [if_pos (show 100 ≤ (kcell n L σ κ).1 ∧ (kcell n L σ κ).1 < 105 from ht)]
  simp [kcell]
theorem zrd_k {i : Int32} {s : Nat} {f : Value → Option (List Value × Zh × Bool)} (hn : 2 ≤ n ∧ n ≤ 5) (hk : kok n κ = true) (hz : zix i (klen n L κ) = some s) : zrd (ktag κ) i (kad n κ) (khp n L σ g) f = f (kv n σ (ktag κ) (kloc κ s)) := by
  obtain ⟨-, -, hs⟩ := zix_some hz
  unfold zrd
  rw [khp_get hn hk, Option.bind_some]
  try dsimp only
  rw [if_pos (show (kcell n L σ κ).1 = ktag κ from rfl)]
  have hlen : (kcell n L σ κ).2.length = klen n L κ := by simp [kcell]
  rw [hlen, hz, Option.bind_some]
  simp [kcell, hs]
theorem zr_iald {i : Int32} {s : Nat} (hn : 2 ≤ n ∧ n ≤ 5) (hM : zmi[j]? = some M) (hq : zlk (zMc M) pc = some (.iaload, ax)) (hk : kok n κ = true) (ht : ktag κ = 100) (hz : zix i (klen n L κ) = some s) (k : ZR j (pc + 1) ls (kv n σ 100 (kloc κ s) :: st) (khp n L σ g) cl r) : ZR j pc ls (.int i :: .ref (kad n κ) :: st) (khp n L σ g) cl r := by
  refine zr_hp (w := false) hM hq rfl ?_ (zr_clt k)
  show zrd 100 i (kad n κ) (khp n L σ g) _ = _
  rw [← ht, zrd_k hn hk hz]
theorem zr_bald {i : Int32} {s : Nat} (hn : 2 ≤ n ∧ n ≤ 5) (hM : zmi[j]? = some M) (hq : zlk (zMc M) pc = some (.baload, ax)) (hk : kok n κ = true) (ht : ktag κ = 102) (hz : zix i (klen n L κ) = some s) (k : ZR j (pc + 1) ls (kv n σ 102 (kloc κ s) :: st) (khp n L σ g) cl r) : ZR j pc ls (.int i :: .ref (kad n κ) :: st) (khp n L σ g) cl r := by
  refine zr_hp (w := false) hM hq rfl ?_ (zr_clt k)
  show zrd 102 i (kad n κ) (khp n L σ g) _ = _
  rw [← ht, zrd_k hn hk hz]
theorem zr_lald {i : Int32} {s : Nat} (hn : 2 ≤ n ∧ n ≤ 5) (hM : zmi[j]? = some M) (hq : zlk (zMc M) pc = some (.laload, ax)) (hk : kok n κ = true) (ht : ktag κ = 101) (hz : zix i (klen n L κ) = some s) (k : ZR j (pc + 1) ls (kv n σ 101 (kloc κ s) :: st) (khp n L σ g) cl r) : ZR j pc ls (.int i :: .ref (kad n κ) :: st) (khp n L σ g) cl r := by
  refine zr_hp (w := false) hM hq rfl ?_ (zr_clt k)
  show zrd 101 i (kad n κ) (khp n L σ g) _ = _
  rw [← ht, zrd_k hn hk hz]
theorem zr_aald {i : Int32} {s t : Nat} (hn : 2 ≤ n ∧ n ≤ 5) (hM : zmi[j]? = some M) (hq : zlk (zMc M) pc = some (.aaload, t :: ax)) (hk : kok n κ = true) (ht : ktag κ = t) (h340 : (Nat.beq t 103 || Nat.beq t 104) = true) (hz : zix i (klen n L κ) = some s) (k : ZR j (pc + 1) ls (kv n σ t (kloc κ s) :: st) (khp n L σ g) cl r) : ZR j pc ls (.int i :: .ref (kad n κ) :: st) (khp n L σ g) cl r := by
  refine zr_hp (w := false) hM hq rfl ?_ (zr_clt k)
  have h34 : t = 103 ∨ t = 104 := by
    rw [Bool.or_eq_true] at h340
    rcases h340 with h | h
    · exact Or.inl (Nat.eq_of_beq_eq_true h)
    · exact Or.inr (Nat.eq_of_beq_eq_true h)
  show (if t = 103 ∨ t = 104 then zrd t i (kad n κ) (khp n L σ g) _ else none) = _
  rw [if_pos h34, ← ht, zrd_k hn hk hz]
theorem zwr_k {i : Int32} {s a y : Nat} {v : Int32} {rs : List Value} (hn : 2 ≤ n ∧ n ≤ 5) (hk : kok n κ = true) (hz : zix i (klen n L κ) = some s) (hl : kloc κ s = .inl (a, y)) : zwr (ktag κ) i (kad n κ) (kvv (ktag κ) v) (khp n L σ g) rs = some (rs, khp n L (kup σ a y v) g, true) := by
  obtain ⟨-, -, hs⟩ := zix_some hz
  unfold zwr
  rw [khp_get hn hk, Option.bind_some]
  try dsimp only
  rw [if_pos (show (kcell n L σ κ).1 = ktag κ from rfl)]
  have hlen : (kcell n L σ κ).2.length = klen n L κ := by simp [kcell]
  rw [hlen, hz, Option.bind_some, zr_put0 hn hk hs hl]
theorem zr_iast {i v : Int32} {s a y : Nat} (hn : 2 ≤ n ∧ n ≤ 5) (hM : zmi[j]? = some M) (hq : zlk (zMc M) pc = some (.iastore, ax)) (hk : kok n κ = true) (h280 : Nat.beq κ.1 28 = false) (ht : ktag κ = 100) (hz : zix i (klen n L κ) = some s) (hl : kloc κ s = .inl (a, y)) (k : ZR j (pc + 1) ls st (khp n L (kup σ a y v) g) false r) : ZR j pc ls (.int v :: .int i :: .ref (kad n κ) :: st) (khp n L σ g) cl r := by
  have h28 : κ.1 ≠ 28 := Nat.ne_of_beq_eq_false h280
  obtain ⟨x, hx⟩ := kad_pos hn hk h28
  refine zr_hp (w := true) (h' := khp n L (kup σ a y v) g) (st2 := st) hM hq rfl ?_ (zr_clf k)
  have hw := zwr_k (σ := σ) (g := g) (v := v) (rs := st) hn hk hz hl
  rw [ht, hx] at hw
  rw [hx]
  exact hw
theorem zr_bast {i v : Int32} {s a y : Nat} (hn : 2 ≤ n ∧ n ≤ 5) (hM : zmi[j]? = some M) (hq : zlk (zMc M) pc = some (.bastore, ax)) (hk : kok n κ = true) (h280 : Nat.beq κ.1 28 = false) (ht : ktag κ = 102) (hv : v = 0 ∨ v = 1) (hz : zix i (klen n L κ) = some s) (hl : kloc κ s = .inl (a, y)) (k : ZR j (pc + 1) ls st (khp n L (kup σ a y v) g) false r) : ZR j pc ls (.int v :: .int i :: .ref (kad n κ) :: st) (khp n L σ g) cl r := by
  have h28 : κ.1 ≠ 28 := Nat.ne_of_beq_eq_false h280
  obtain ⟨x, hx⟩ := kad_pos hn hk h28
  refine zr_hp (w := true) (h' := khp n L (kup σ a y v) g) (st2 := st) hM hq rfl ?_ (zr_clf k)
  have hw := zwr_k (σ := σ) (g := g) (v := v) (rs := st) hn hk hz hl
  rw [ht, hx] at hw
  rw [hx]
  show (if v = 0 ∨ v = 1 then zwr 102 i (x + 1) (.int v) (khp n L σ g) st else none) = _
  rw [if_pos hv]
  exact hw
theorem zr_last {i v : Int32} {s a y : Nat} (hn : 2 ≤ n ∧ n ≤ 5) (hM : zmi[j]? = some M) (hq : zlk (zMc M) pc = some (.lastore, ax)) (hk : kok n κ = true) (h280 : Nat.beq κ.1 28 = false) (ht : ktag κ = 101) (hz : zix i (klen n L κ) = some s) (hl : kloc κ s = .inl (a, y)) (k : ZR j (pc + 1) ls st (khp n L (kup σ a y v) g) false r) : ZR j pc ls (.long v.toInt64 :: .int i :: .ref (kad n κ) :: st) (khp n L σ g) cl r := by
  have h28 : κ.1 ≠ 28 := Nat.ne_of_beq_eq_false h280
  obtain ⟨x, hx⟩ := kad_pos hn hk h28
  refine zr_hp (w := true) (h' := khp n L (kup σ a y v) g) (st2 := st) hM hq rfl ?_ (zr_clf k)
  have hw := zwr_k (σ := σ) (g := g) (v := v) (rs := st) hn hk hz hl
  rw [ht, hx] at hw
  rw [hx]
  exact hw
theorem zr_ift {cd : ClassFile.Cond} {off : Int} {t : Nat} {x : Int32} (hM : zmi[j]? = some M) (hq : zlk (zMc M) pc = some (.ifCond cd off, ax)) (ht : ztg pc off = some t) (hc : zcnd cd x 0 = true) (k : ZR j t ls st h cl r) : ZR j pc ls (.int x :: st) h cl r := zr_if hM hq ht (fun _ => k) (fun y => by rw [hc] at y; cases y)
theorem zr_iff {cd : ClassFile.Cond} {off : Int} {t : Nat} {x : Int32} (hM : zmi[j]? = some M) (hq : zlk (zMc M) pc = some (.ifCond cd off, ax)) (ht : ztg pc off = some t) (hc : zcnd cd x 0 = false) (k : ZR j (pc + 3) ls st h cl r) : ZR j pc ls (.int x :: st) h cl r := zr_if hM hq ht (fun y => by rw [hc] at y; cases y) (fun _ => k)
theorem zr_ict {cd : ClassFile.Cond} {off : Int} {t : Nat} {x y : Int32} (hM : zmi[j]? = some M) (hq : zlk (zMc M) pc = some (.if_icmp cd off, ax)) (ht : ztg pc off = some t) (hc : zcnd cd x y = true) (k : ZR j t ls st h cl r) : ZR j pc ls (.int y :: .int x :: st) h cl r := zr_ic hM hq ht (fun _ => k) (fun y => by rw [hc] at y; cases y)
theorem zr_icf {cd : ClassFile.Cond} {off : Int} {t : Nat} {x y : Int32} (hM : zmi[j]? = some M) (hq : zlk (zMc M) pc = some (.if_icmp cd off, ax)) (ht : ztg pc off = some t) (hc : zcnd cd x y = false) (k : ZR j (pc + 3) ls st h cl r) : ZR j pc ls (.int y :: .int x :: st) h cl r := zr_ic hM hq ht (fun y => by rw [hc] at y; cases y) (fun _ => k)
theorem zr_swi {d lo hi : Int} {offs : Array Int} {t : Nat} {x : Int32} {c o : Int} (hM : zmi[j]? = some M) (hq : zlk (zMc M) pc = some (.tableswitch d lo hi offs, ax)) (hx : x.toInt = c) (hr : (decide (lo ≤ c) && decide (c ≤ hi)) = true) (ho : offs[(c - lo).toNat]? = some o) (ht : ztg pc o = some t) (k : ZR j t ls st h cl r) : ZR j pc ls (.int x :: st) h cl r := by
  refine zr_fr hM hq rfl ?_ k
  simp only [Bool.and_eq_true, decide_eq_true_eq] at hr
  show (if x.toInt < lo ∨ hi < x.toInt then _ else _) = _
  rw [hx, if_neg (by omega), ho, Option.bind_some, ht, Option.bind_some]
theorem zr_swo {d lo hi : Int} {offs : Array Int} {t : Nat} {x : Int32} (hM : zmi[j]? = some M) (hq : zlk (zMc M) pc = some (.tableswitch d lo hi offs, ax)) (hx : x.toInt < lo ∨ hi < x.toInt) (ht : ztg pc d = some t) (k : ZR j t ls st h cl r) : ZR j pc ls (.int x :: st) h cl r := by
  refine zr_fr hM hq rfl ?_ k
  show (if x.toInt < lo ∨ hi < x.toInt then _ else _) = _
  rw [if_pos hx, ht, Option.bind_some]
end ZRU
theorem kokT {n t : Nat} (h : t < n) : kok n (2, t, 0) = true := by simp [kok, h]
theorem kokB {n k b : Nat} (hk : (Nat.ble 3 k && Nat.ble k 13) = true) (h : b < 2 * n) : kok n (k, b, 0) = true := by
  rw [Bool.and_eq_true] at hk
  have h1 := Nat.le_of_ble_eq_true hk.1
  have h2 := Nat.le_of_ble_eq_true hk.2
  unfold kok
  rw [if_neg (by show ¬ k = 2; omega), if_pos ⟨h1, h2⟩]
  simp [h]
theorem kokP {n k b o : Nat} (hk : (Nat.ble 14 k && Nat.ble k 19) = true) (h : b < 2 * n) (ho : o < n) : kok n (k, b, o) = true := by
  rw [Bool.and_eq_true] at hk
  have h1 := Nat.le_of_ble_eq_true hk.1
  have h2 := Nat.le_of_ble_eq_true hk.2
  unfold kok
  rw [if_neg (by show ¬ k = 2; omega), if_neg (by show ¬ (3 ≤ k ∧ k ≤ 13); omega), if_pos ⟨h1, h2⟩]
  simp [h, ho]
def zop : Option Int32 → Slot
  | none => .unset
  | some x => .val (.int x)
def zopr : Option Nat → Slot
  | none => .unset
  | some x => .val (.ref x)
theorem khp_thr {n L : Nat} {σ : Ks} {g : List Nat} {t : Nat} : khp n L σ g ++ [(t, [])] = khp n L σ (g ++ [t]) := by
  simp [khp]
