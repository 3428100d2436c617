theorem app_get {h H : Zh} {a i : Nat} {c : Zc} (hl : h.length = a) (hc : H[i]? = some c) : (h ++ H)[a + i]? = some c := by
  subst hl
  rw [List.getElem?_append_right (by omega), Nat.add_sub_cancel_left]
  exact hc
theorem app_set {h H : Zh} {a i : Nat} {c : Zc} (hl : h.length = a) : (h ++ H).set (a + i) c = h ++ H.set i c := by
  subst hl
  rw [List.set_append_right _ _ (by omega), Nat.add_sub_cancel_left]
theorem app3 {h A B C : Zh} (e : A ++ B = C) : h ++ A ++ B = h ++ C := by rw [List.append_assoc, e]
theorem cap_ok {h H : Zh} {a k : Nat} (hl : h.length = a) (hH : H.length = k) (hc : a + k < zcap) : (h ++ H).length < zcap := by
  rw [List.length_append, hl, hH]
  exact hc
theorem app_len {h H : Zh} {a k : Nat} (hl : h.length = a) (hH : H.length = k) : (h ++ H).length = a + k := by
  rw [List.length_append, hl, hH]
section RAW
variable {j pc : Nat} {ls ls' : List Slot} {st st' : List Value} {h H H' : Zh} {a i : Nat} {cl : Bool} {r : Zr} {M N : Zm} {ax : List Nat}
theorem rw_getf {idx ci s : Nat} {vs : List Value} {v : Value} (hl : h.length = a) (hM : zmi[j]? = some M) (hq : zlk (zMc M) pc = some (.getfield idx, ci :: s :: ax)) (hc : H[i]? = some (ci, vs)) (hv : vs[s]? = some v) (k : ZR j (pc + 3) ls (v :: st) (h ++ H) cl r) : ZR j pc ls (.ref (a + i) :: st) (h ++ H) cl r := by
  refine zr_hp (w := false) hM hq rfl ?_ (zr_clt k)
  show ((h ++ H)[a + i]?).bind _ = _
  rw [app_get hl hc, Option.bind_some]
  dsimp only
  rw [if_pos rfl, hv, Option.bind_some]
theorem rw_putf {idx ci s : Nat} {vs : List Value} {v : Value} (ha : 1 ≤ a) (hl : h.length = a) (hM : zmi[j]? = some M) (hq : zlk (zMc M) pc = some (.putfield idx, ci :: s :: ax)) (hc : H[i]? = some (ci, vs)) (hs : Nat.blt s vs.length = true) (hfit : zfit (zfk ci s) v = true) (he : H.set i (ci, vs.set s v) = H') (k : ZR j (pc + 3) ls st (h ++ H') false r) : ZR j pc ls (v :: .ref (a + i) :: st) (h ++ H) cl r := by
  obtain ⟨x, hx⟩ : ∃ x, a + i = x + 1 := ⟨a + i - 1, by omega⟩
  refine zr_hp (w := true) (h' := h ++ H') (st2 := st) hM hq rfl ?_ (zr_clf k)
  rw [hx]
  show ((h ++ H)[x + 1]?).bind _ = _
  rw [← hx, app_get hl hc, Option.bind_some]
  dsimp only
  rw [if_pos ⟨rfl, by rw [← Nat.blt_eq]; exact hs, hfit⟩, app_set hl, he]
theorem rw_alen {c : Zc} {m : Nat} (hl : h.length = a) (hM : zmi[j]? = some M) (hq : zlk (zMc M) pc = some (.arraylength, ax)) (hc : H[i]? = some c) (ht : (Nat.ble 100 c.1 && Nat.blt c.1 105) = true) (hm : c.2.length = m) (k : ZR j (pc + 1) ls (.int (nI m) :: st) (h ++ H) cl r) : ZR j pc ls (.ref (a + i) :: st) (h ++ H) cl r := by
  have ht : 100 ≤ c.1 ∧ c.1 < 105 := by
    rw [Bool.and_eq_true] at ht
    exact ⟨Nat.le_of_ble_eq_true ht.1, by rw [← Nat.blt_eq]; exact ht.2⟩
  refine zr_hp (w := false) hM hq rfl ?_ (zr_clt k)
  show ((h ++ H)[a + i]?).bind _ = _
  rw [app_get hl hc, Option.bind_some]
  rw [if_pos ht, hm]
  rfl
theorem rw_iald {x : Int32} {s : Nat} {vs : List Value} {v : Value} (hl : h.length = a) (hM : zmi[j]? = some M) (hq : zlk (zMc M) pc = some (.iaload, ax)) (hc : H[i]? = some (100, vs)) (hz : zix x vs.length = some s) (hv : vs[s]? = some v) (k : ZR j (pc + 1) ls (v :: st) (h ++ H) cl r) : ZR j pc ls (.int x :: .ref (a + i) :: st) (h ++ H) cl r := by
  refine zr_hp (w := false) hM hq rfl ?_ (zr_clt k)
  show zrd 100 x (a + i) (h ++ H) _ = _
  unfold zrd
  rw [app_get hl hc, Option.bind_some]
  dsimp only
  rw [if_pos rfl, hz, Option.bind_some, hv, Option.bind_some]
theorem rw_iast {x y : Int32} {s : Nat} {vs : List Value} (ha : 1 ≤ a) (hl : h.length = a) (hM : zmi[j]? = some M) (hq : zlk (zMc M) pc = some (.iastore, ax)) (hc : H[i]? = some (100, vs)) (hz : zix x vs.length = some s) (he : H.set i (100, vs.set s (.int y)) = H') (k : ZR j (pc + 1) ls st (h ++ H') false r) : ZR j pc ls (.int y :: .int x :: .ref (a + i) :: st) (h ++ H) cl r := by
  obtain ⟨z, hx⟩ : ∃ z, a + i = z + 1 := ⟨a + i - 1, by omega⟩
  refine zr_hp (w := true) (h' := h ++ H') (st2 := st) hM hq rfl ?_ (zr_clf k)
  rw [hx]
  show zwr 100 x (z + 1) (.int y) (h ++ H) st = _
  unfold zwr
  rw [← hx, app_get hl hc, Option.bind_some]
  dsimp only
  rw [if_pos rfl, hz, Option.bind_some, app_set hl, he]
theorem rw_aast {t e u : Nat} {x : Int32} {s : Nat} {vs : List Value} (ha : 1 ≤ a) (hl : h.length = a) (hM : zmi[j]? = some M) (hq : zlk (zMc M) pc = some (.aastore, t :: ax)) (hc : H[i]? = some (t, vs)) {d : Zc} (hd : H[e]? = some d) (hu : a + e = u) (ht : (t = 103 ∧ d.1 = 1) ∨ (t = 104 ∧ d.1 = 4)) (hz : zix x vs.length = some s) (he : H.set i (t, vs.set s (.ref u)) = H') (k : ZR j (pc + 1) ls st (h ++ H') false r) : ZR j pc ls (.ref u :: .int x :: .ref (a + i) :: st) (h ++ H) cl r := by
  obtain ⟨z, hx⟩ : ∃ z, a + i = z + 1 := ⟨a + i - 1, by omega⟩
  refine zr_hp (w := true) (h' := h ++ H') (st2 := st) hM hq rfl ?_ (zr_clf k)
  rw [hx]
  show ((h ++ H)[u]?).bind _ = _
  rw [← hu, app_get hl hd, Option.bind_some, if_pos ht]
  unfold zwr
  rw [← hx, app_get hl hc, Option.bind_some]
  dsimp only
  rw [if_pos rfl, hz, Option.bind_some, app_set hl, hu, he]
theorem rw_narr {ty : ArrayType} {tag m u : Nat} {v : Value} {x : Int32} (hl : h.length = a) (hM : zmi[j]? = some M) (hq : zlk (zMc M) pc = some (.newarray ty, ax)) (hz : zatag ty = some (tag, v)) (hx : x = nI m) (hm : Nat.ble m 820 = true) (hc : (h ++ H).length < zcap) (hu : a + H.length = u) (he : H ++ [(tag, List.replicate m v)] = H') (k : ZR j (pc + 2) ls (.ref u :: st) (h ++ H') false r) : ZR j pc ls (.int x :: st) (h ++ H) cl r := by
  have hm := Nat.le_of_ble_eq_true hm
  refine zr_hp (w := true) (h' := h ++ H') (st2 := .ref u :: st) hM hq rfl ?_ (zr_clf k)
  show (zatag ty).bind _ = _
  rw [hz, Option.bind_some]
  have h1 : x.toNatClampNeg = m := by rw [hx]; exact nI_clamp (by omega)
  have h0 : ¬ x < 0 := by rw [hx]; exact nI_pos (by omega)
  rw [if_pos ⟨h0, by rw [h1]; exact hm, hc⟩, h1, List.append_assoc, he, List.length_append, hl, hu]
theorem rw_anew {idx t m u : Nat} {x : Int32} (hl : h.length = a) (hM : zmi[j]? = some M) (hq : zlk (zMc M) pc = some (.anewarray idx, t :: ax)) (ht : t = 103 ∨ t = 104) (hx : x = nI m) (hm : m ≤ 820) (hc : (h ++ H).length < zcap) (hu : a + H.length = u) (he : H ++ [(t, List.replicate m .null)] = H') (k : ZR j (pc + 3) ls (.ref u :: st) (h ++ H') false r) : ZR j pc ls (.int x :: st) (h ++ H) cl r := by
  refine zr_hp (w := true) (h' := h ++ H') (st2 := .ref u :: st) hM hq rfl ?_ (zr_clf k)
  have h1 : x.toNatClampNeg = m := by rw [hx]; exact nI_clamp (by omega)
  have h0 : ¬ x < 0 := by rw [hx]; exact nI_pos (by omega)
  show (if _ then _ else _) = _
  rw [if_pos ⟨ht, h0, by rw [h1]; exact hm, hc⟩, h1, List.append_assoc, he, List.length_append, hl, hu]
theorem rw_new {idx t u : Nat} (hl : h.length = a) (hM : zmi[j]? = some M) (hq : zlk (zMc M) pc = some (.new idx, t :: ax)) (ht : Nat.blt t 7 = true) (hc : (h ++ H).length < zcap) (hu : a + H.length = u) (he : H ++ [(t, znewv t)] = H') (k : ZR j (pc + 3) ls (.ref u :: st) (h ++ H') false r) : ZR j pc ls st (h ++ H) cl r := by
  have ht : t < 7 := by rw [← Nat.blt_eq]; exact ht
  obtain ⟨f, hf⟩ := k
  refine zr_of hM hq ⟨f, ?_⟩
  show (if t < 7 then _ else _) = _
  rw [if_pos ht, if_pos hc, List.append_assoc, he, List.length_append, hl, hu]
  exact hf
theorem rw_obj {idx b : Nat} (hM : zmi[j]? = some M) (hq : zlk (zMc M) pc = some (.invokespecial idx, 4 :: ax)) (hc : (Nat.ble 1 (zMf M) && Nat.ble 40 (zMl M) && Nat.ble st.length 8) = true) (k : ZR j (pc + 3) ls st h cl r) : ZR j pc ls (.ref b :: st) h cl r := by
  simp only [Bool.and_eq_true] at hc
  obtain ⟨f, hf⟩ := k
  refine zr_of hM hq ⟨f, ?_⟩
  show (if _ then _ else _) = _
  rw [if_pos ⟨Nat.le_of_ble_eq_true hc.1.1, Nat.le_of_ble_eq_true hc.1.2, Nat.le_of_ble_eq_true hc.2⟩]
  exact hf
theorem rw_spec {idx j' x1 x2 ci b : Nat} {vs st2 : List Value} {c : Zc} (hM : zmi[j]? = some M) (hq : zlk (zMc M) pc = some (.invokespecial idx, 3 :: j' :: x1 :: x2 :: ci :: ax)) (hN : zmi[j']? = some N) (hs : zMs N = false) (hl : Nat.ble (zMp N) st.length = true) (hv : (st.take (zMp N)).reverse = vs) (hd : st.drop (zMp N) = .ref b :: st2) (hc : h[b]? = some c) (ht : c.1 = ci) (h7 : Nat.blt ci 7 = true)
    (k : ∃ f, zcall (zrun f) (zrun f j · ls · · ·) M j' pc (.ref b :: vs) st2 h cl = some r) : ZR j pc ls st h cl r := by
  obtain ⟨f, hf⟩ := k
  refine zr_of hM hq ⟨f, ?_⟩
  show zobj (zrun f) _ M j' ci pc st h cl = _
  rw [zobj_run hN hs hl hv hd hc ht (by rw [← Nat.blt_eq]; exact h7)]
  exact hf
theorem rw_virt {idx j' x1 x2 ci b : Nat} {vs st2 : List Value} {c : Zc} (hM : zmi[j]? = some M) (hq : zlk (zMc M) pc = some (.invokevirtual idx, 2 :: j' :: x1 :: x2 :: ci :: ax)) (hN : zmi[j']? = some N) (hs : zMs N = false) (hl : Nat.ble (zMp N) st.length = true) (hv : (st.take (zMp N)).reverse = vs) (hd : st.drop (zMp N) = .ref b :: st2) (hc : h[b]? = some c) (ht : c.1 = ci) (h7 : Nat.blt ci 7 = true)
    (k : ∃ f, zcall (zrun f) (zrun f j · ls · · ·) M j' pc (.ref b :: vs) st2 h cl = some r) : ZR j pc ls st h cl r := by
  obtain ⟨f, hf⟩ := k
  refine zr_of hM hq ⟨f, ?_⟩
  show zobj (zrun f) _ M j' ci pc st h cl = _
  rw [zobj_run hN hs hl hv hd hc ht (by rw [← Nat.blt_eq]; exact h7)]
  exact hf
theorem rw_vret (hM : zmi[j]? = some M) (hq : zlk (zMc M) pc = some (.return_, ax)) (hr : zMr M = 0) : ZR j pc ls [] h false (.inl none, h, false) := zr_vret hM hq hr
end RAW
