section ZRC
variable {j pc : Nat} {ls ls' : List Slot} {st st' : List Value} {h h' : Zh} {cl : Bool} {r : Zr} {M N : Zm} {ins : Instr} {ax : List Nat} {n L : Nat} {σ : Ks} {g : List Nat} {κ : Ky}
theorem zr_iret {v : Int32} (hM : zmi[j]? = some M) (hq : zlk (zMc M) pc = some (.ireturn, ax)) (hr : zMr M = 1) : ZR j pc ls [.int v] h cl (.inl (some (.int v)), h, cl) := by
  refine zr_of hM hq ⟨0, ?_⟩
  show (if _ then _ else _) = _
  rw [if_pos ⟨rfl, Or.inl hr⟩]
theorem zr_zret {v : Int32} (hM : zmi[j]? = some M) (hq : zlk (zMc M) pc = some (.ireturn, ax)) (hr : zMr M = 2) (hv : v = 0 ∨ v = 1) : ZR j pc ls [.int v] h cl (.inl (some (.int v)), h, cl) := by
  refine zr_of hM hq ⟨0, ?_⟩
  show (if _ then _ else _) = _
  rw [if_pos ⟨rfl, Or.inr ⟨hr, hv⟩⟩]
theorem zr_vret (hM : zmi[j]? = some M) (hq : zlk (zMc M) pc = some (.return_, ax)) (hr : zMr M = 0) : ZR j pc ls [] h cl (.inl none, h, cl) := by
  refine zr_of hM hq ⟨0, ?_⟩
  show (if _ then _ else _) = _
  rw [if_pos ⟨rfl, hr⟩]
theorem zr_ldc {idx v : Nat} (hM : zmi[j]? = some M) (hq : zlk (zMc M) pc = some (.ldc idx, 1 :: v :: ax)) (k : ZR j (pc + 2) ls (.int (Int32.ofNat v) :: st) h cl r) : ZR j pc ls st h cl r := by
  obtain ⟨f, hf⟩ := k
  exact zr_of hM hq ⟨f, hf⟩
theorem zr_ldcw {idx v : Nat} (hM : zmi[j]? = some M) (hq : zlk (zMc M) pc = some (.ldc_w idx, 1 :: v :: ax)) (k : ZR j (pc + 3) ls (.int (Int32.ofNat v) :: st) h cl r) : ZR j pc ls st h cl r := by
  obtain ⟨f, hf⟩ := k
  exact zr_of hM hq ⟨f, hf⟩
def zcok (M N : Zm) (vs st : List Value) : Bool := zroom M N && Nat.ble vs.length (zM0 N) && vs.all zok1 && Nat.ble st.length 8
theorem zcall_run {f : Nat} {j' : Nat} {vs : List Value} {r' : Zr} (hN : zmi[j']? = some N) (hc : zcok M N vs st = true) (hf : zrun f j' 0 (zent N vs) [] h true = some r') : zcall (zrun f) (zrun f j · ls · · ·) M j' pc vs st h cl = zgo (zrun f j · ls · · ·) M pc st cl r' := by
  unfold zcall
  rw [hN, Option.bind_some]
  simp only [zcok, Bool.and_eq_true] at hc
  rw [if_pos ⟨hc.1.1.1, Nat.le_of_ble_eq_true hc.1.1.2, hc.1.2, Nat.le_of_ble_eq_true hc.2⟩, hf, Option.bind_some]
/-- the way behind a call that answers -/
theorem zgo_ret {j' : Nat} {vs : List Value} {v : Option Value} {c' : Bool} (hN : zmi[j']? = some N) (hc : zcok M N vs st = true) (hcal : ZR j' 0 (zent N vs) [] h true (.inl v, h', c')) (k : ZR j (pc + 3) ls (v.toList ++ st) h' (cl && c') r) : ∃ f, zcall (zrun f) (zrun f j · ls · · ·) M j' pc vs st h cl = some r := by
  obtain ⟨f1, h1⟩ := hcal
  obtain ⟨f2, h2⟩ := k
  refine ⟨max f1 f2, ?_⟩
  rw [zcall_run hN hc (zrun_mono (Nat.le_max_left f1 f2) _ _ _ _ _ _ _ h1)]
  exact zrun_mono (Nat.le_max_right f1 f2) _ _ _ _ _ _ _ h2
/-- behind one that throws, without a handler -/
theorem zgo_thr {j' : Nat} {vs : List Value} {t : Nat} {c' : Bool} {h0 : Zh} (hN : zmi[j']? = some N) (hc : zcok M N vs st = true) (hcal : ZR j' 0 (zent N vs) [] h true (.inr h0.length, h0 ++ [(t, [])], c')) (ht : 200 ≤ t ∧ t < 203) (hh : zMh M = []) : ∃ f, zcall (zrun f) (zrun f j · ls · · ·) M j' pc vs st h cl = some (.inr h0.length, h0 ++ [(t, [])], false) := by
  obtain ⟨f1, h1⟩ := hcal
  refine ⟨f1, ?_⟩
  rw [zcall_run hN hc h1]
  unfold zgo
  dsimp only
  rw [List.getElem?_append_right (Nat.le_refl _), Nat.sub_self]
  show (if _ then _ else _) = _
  rw [if_pos ⟨ht.1, ht.2, by simp⟩, hh]
  rfl
/-- behind one that throws, into a handler -/
theorem zgo_cat {j' : Nat} {vs : List Value} {t q : Nat} {c' : Bool} {h0 : Zh} (hN : zmi[j']? = some N) (hc : zcok M N vs st = true) (hcal : ZR j' 0 (zent N vs) [] h true (.inr h0.length, h0 ++ [(t, [])], c')) (ht : 200 ≤ t ∧ t < 203) (hh : zhand (zMh M) pc t = some q) (k : ZR j q ls [.ref h0.length] (h0 ++ [(t, [])]) false r) : ∃ f, zcall (zrun f) (zrun f j · ls · · ·) M j' pc vs st h cl = some r := by
  obtain ⟨f1, h1⟩ := hcal
  obtain ⟨f2, h2⟩ := k
  refine ⟨max f1 f2, ?_⟩
  rw [zcall_run hN hc (zrun_mono (Nat.le_max_left f1 f2) _ _ _ _ _ _ _ h1)]
  unfold zgo
  dsimp only
  rw [List.getElem?_append_right (Nat.le_refl _), Nat.sub_self]
  show (if _ then _ else _) = _
  rw [if_pos ⟨ht.1, ht.2, by simp⟩]
  show (match zhand (zMh M) pc t with | some q => _ | none => _) = _
  rw [hh]
  exact zrun_mono (Nat.le_max_right f1 f2) _ _ _ _ _ _ _ h2
theorem zr_stat {idx j' : Nat} {vs st2 : List Value} (hM : zmi[j]? = some M) (hq : zlk (zMc M) pc = some (.invokestatic idx, 1 :: j' :: ax)) (hN : zmi[j']? = some N) (hs : zMs N = true) (hl : Nat.ble (zMp N) st.length = true) (hv : (st.take (zMp N)).reverse = vs) (hd : st.drop (zMp N) = st2) (k : ∃ f, zcall (zrun f) (zrun f j · ls · · ·) M j' pc vs st2 h cl = some r) : ZR j pc ls st h cl r := by
  obtain ⟨f, hf⟩ := k
  refine zr_of hM hq ⟨f, ?_⟩
  show ((zmi[j']?).bind _) = _
  rw [hN, Option.bind_some, if_pos ⟨hs, Nat.le_of_ble_eq_true hl⟩, hv, hd]
  exact hf
theorem zobj_run {f j' ci a : Nat} {vs st2 : List Value} {c : Zc} (hN : zmi[j']? = some N) (hs : zMs N = false) (hl : Nat.ble (zMp N) st.length = true) (hv : (st.take (zMp N)).reverse = vs) (hd : st.drop (zMp N) = .ref a :: st2) (hc : h[a]? = some c) (ht : c.1 = ci) (h7 : ci < 7) : zobj (zrun f) (zrun f j · ls · · ·) M j' ci pc st h cl = zcall (zrun f) (zrun f j · ls · · ·) M j' pc (.ref a :: vs) st2 h cl := by
  unfold zobj
  rw [hN, Option.bind_some, if_pos ⟨hs, Nat.le_of_ble_eq_true hl⟩, hd]
  show ((h[a]?).bind _) = _
  rw [hc, Option.bind_some, if_pos ⟨ht, h7⟩, hv]
theorem zr_virt {idx j' x1 x2 ci : Nat} {vs st2 : List Value} (hn : 2 ≤ n ∧ n ≤ 5) (hM : zmi[j]? = some M) (hq : zlk (zMc M) pc = some (.invokevirtual idx, 2 :: j' :: x1 :: x2 :: ci :: ax)) (hN : zmi[j']? = some N) (hs : zMs N = false) (hl : Nat.ble (zMp N) st.length = true) (hv : (st.take (zMp N)).reverse = vs) (hd : st.drop (zMp N) = .ref (kad n κ) :: st2) (hk : kok n κ = true) (ht : ktag κ = ci) (h7 : Nat.blt ci 7 = true)
    (k : ∃ f, zcall (zrun f) (zrun f j · ls · · ·) M j' pc (.ref (kad n κ) :: vs) st2 (khp n L σ g) cl = some r) : ZR j pc ls st (khp n L σ g) cl r := by
  obtain ⟨f, hf⟩ := k
  refine zr_of hM hq ⟨f, ?_⟩
  show zobj (zrun f) _ M j' ci pc st (khp n L σ g) cl = _
  rw [zobj_run hN hs hl hv hd (khp_get hn hk) ht (by rw [← Nat.blt_eq]; exact h7)]
  exact hf
/-- a throw of its own -/
theorem zr_throw {idx t sidx ic t' : Nat} {a3 a4 a6 a9 : List Nat} (hM : zmi[j]? = some M) (hq : zlk (zMc M) pc = some (.new idx, t :: ax)) (h3 : zlk (zMc M) (pc + 3) = some (.dup, a3)) (h4 : zlk (zMc M) (pc + 4) = some (.ldc sidx, 2 :: a4)) (h6 : zlk (zMc M) (pc + 6) = some (.invokespecial ic, 5 :: t' :: a6)) (h9 : zlk (zMc M) (pc + 9) = some (.athrow, a9))
    (hc : (Nat.ble 200 t && Nat.blt t 203 && Nat.beq t (200 + t') && decide (zMh M = []) && Nat.ble 6 (zMf M) && Nat.ble 100 (zMl M) && Nat.ble st.length 8) = true) (hcap : h.length < zcap) : ZR j pc ls st h true (.inr h.length, h ++ [(t, [])], false) := by
  simp only [Bool.and_eq_true, decide_eq_true_eq] at hc
  obtain ⟨⟨⟨⟨⟨⟨c1, c2⟩, c3⟩, c4⟩, c5⟩, c6⟩, c7⟩ := hc
  have c1 := Nat.le_of_ble_eq_true c1
  have c2 : t < 203 := by rw [← Nat.blt_eq]; exact c2
  refine zr_of hM hq ⟨0, ?_⟩
  show (if t < 7 then _ else zthr M t pc st h true) = _
  rw [if_neg (by omega)]
  unfold zthr
  rw [h3, Option.bind_some, h4, Option.bind_some, h6, Option.bind_some, h9, Option.bind_some]
  show (if _ then _ else _) = _
  rw [if_pos ⟨c1, c2, Nat.eq_of_beq_eq_true c3, c4, Nat.le_of_ble_eq_true c5, Nat.le_of_ble_eq_true c6, Nat.le_of_ble_eq_true c7, hcap, rfl⟩]
theorem zr_iret2 {v : Int32} (hM : zmi[j]? = some M) (hq : zlk (zMc M) pc = some (.ireturn, ax)) (hr : zMr M = 1) (he : r = (.inl (some (.int v)), h, cl)) : ZR j pc ls [.int v] h cl r := by
  rw [he]
  exact zr_iret hM hq hr
theorem zr_zret2 {v : Int32} (hM : zmi[j]? = some M) (hq : zlk (zMc M) pc = some (.ireturn, ax)) (hr : zMr M = 2) (hv : v = 0 ∨ v = 1) (he : r = (.inl (some (.int v)), h, cl)) : ZR j pc ls [.int v] h cl r := by
  rw [he]
  exact zr_zret hM hq hr hv
theorem zr_vret2 (hM : zmi[j]? = some M) (hq : zlk (zMc M) pc = some (.return_, ax)) (hr : zMr M = 0) (he : r = (.inl none, h, cl)) : ZR j pc ls [] h cl r := by
  rw [he]
  exact zr_vret hM hq hr
theorem zr_throw2 {idx t sidx ic t' : Nat} {a3 a4 a6 a9 : List Nat} (hM : zmi[j]? = some M) (hq : zlk (zMc M) pc = some (.new idx, t :: ax)) (h3 : zlk (zMc M) (pc + 3) = some (.dup, a3)) (h4 : zlk (zMc M) (pc + 4) = some (.ldc sidx, 2 :: a4)) (h6 : zlk (zMc M) (pc + 6) = some (.invokespecial ic, 5 :: t' :: a6)) (h9 : zlk (zMc M) (pc + 9) = some (.athrow, a9))
    (hc : (Nat.ble 200 t && Nat.blt t 203 && Nat.beq t (200 + t') && decide (zMh M = []) && Nat.ble 6 (zMf M) && Nat.ble 100 (zMl M) && Nat.ble st.length 8) = true) (hcap : h.length < zcap) (hcl : cl = true) (he : r = (.inr h.length, h ++ [(t, [])], false)) : ZR j pc ls st h cl r := by
  subst hcl
  rw [he]
  exact zr_throw hM hq h3 h4 h6 h9 hc hcap
theorem zgo_thr2 {j' : Nat} {vs : List Value} {t : Nat} {c' : Bool} {h0 : Zh} (hN : zmi[j']? = some N) (hc : zcok M N vs st = true) (hcal : ZR j' 0 (zent N vs) [] h true (.inr h0.length, h0 ++ [(t, [])], c')) (ht : (Nat.ble 200 t && Nat.blt t 203) = true) (hh : zMh M = []) (he : r = (.inr h0.length, h0 ++ [(t, [])], false)) : ∃ f, zcall (zrun f) (zrun f j · ls · · ·) M j' pc vs st h cl = some r := by
  rw [he]
  rw [Bool.and_eq_true] at ht
  exact zgo_thr hN hc hcal ⟨Nat.le_of_ble_eq_true ht.1, by rw [← Nat.blt_eq]; exact ht.2⟩ hh
/-- a copy of a stretch, as the keyed heap sees it -/
def Kcp (n L : Nat) (σ : Ks) (κ1 : Ky) (sp : Int32) (κ2 : Ky) (dp k : Int32) (σ' : Ks) : Prop :=
  (¬ sp < 0 ∧ ¬ dp < 0 ∧ ¬ k < 0 ∧ sp.toNatClampNeg + k.toNatClampNeg ≤ klen n L κ1 ∧ dp.toNatClampNeg + k.toNatClampNeg ≤ klen n L κ2) ∧
  ∀ g, (khp n L σ g).set (kad n κ2) (100, zcpy (kcell n L σ κ1).2 (kcell n L σ κ2).2 sp.toNatClampNeg dp.toNatClampNeg k.toNatClampNeg) = khp n L σ' g
theorem kint {κ : Ky} (hk : κ.1 < 29) (ht : ktag κ = 100) (s : Nat) : ∃ p, kloc κ s = .inl p := by
  obtain ⟨k, b, o⟩ := κ
  dsimp only at hk
  have hc : k = 0 ∨ k = 1 ∨ k = 2 ∨ k = 3 ∨ k = 4 ∨ k = 5 ∨ k = 6 ∨ k = 7 ∨ k = 8 ∨ k = 9 ∨ k = 10 ∨ k = 11 ∨ k = 12 ∨ k = 13 ∨ k = 14 ∨ k = 15 ∨ k = 16 ∨ k = 17 ∨ k = 18 ∨ k = 19 ∨ k = 20 ∨ k = 21 ∨ k = 22 ∨ k = 23 ∨ k = 24 ∨ k = 25 ∨ k = 26 ∨ k = 27 ∨ k = 28 := by omega
  rcases hc with rfl | rfl | rfl | rfl | rfl | rfl | rfl | rfl | rfl | rfl | rfl | rfl | rfl | rfl | rfl | rfl | rfl | rfl | rfl | rfl | rfl | rfl | rfl | rfl | rfl | rfl | rfl | rfl | rfl
  all_goals first
    | exact ⟨_, rfl⟩
    | (cases ht)
theorem zr_copy {idx : Nat} {κ1 κ2 : Ky} {sp dp k : Int32} {σ' : Ks} (hn : 2 ≤ n ∧ n ≤ 5) (hM : zmi[j]? = some M) (hq : zlk (zMc M) pc = some (.invokestatic idx, 0 :: ax)) (hk1 : kok n κ1 = true) (hk2 : kok n κ2 = true) (ht1 : ktag κ1 = 100) (ht2 : ktag κ2 = 100) (h280 : Nat.beq κ2.1 28 = false) (ha : Kcp n L σ κ1 sp κ2 dp k σ') (hc : (Nat.ble 1 (zMf M) && Nat.ble 40 (zMl M) && Nat.ble st.length 8) = true)
    (kk : ZR j (pc + 3) ls st (khp n L σ' g) false r) : ZR j pc ls (.int k :: .int dp :: .ref (kad n κ2) :: .int sp :: .ref (kad n κ1) :: st) (khp n L σ g) cl r := by
  have h28 : κ2.1 ≠ 28 := Nat.ne_of_beq_eq_false h280
  obtain ⟨x, hx⟩ := kad_pos hn hk2 h28
  simp only [Bool.and_eq_true] at hc
  obtain ⟨⟨c1, c2⟩, c3⟩ := hc
  obtain ⟨⟨a1, a2, a3, a4, a5⟩, a6⟩ := ha
  obtain ⟨f, hf⟩ := kk
  refine zr_of hM hq ⟨f, ?_⟩
  rw [hx]
  show ((khp n L σ g)[kad n κ1]?).bind _ = _
  rw [khp_get hn hk1, Option.bind_some, ← hx, khp_get hn hk2, Option.bind_some]
  have hl1 : (kcell n L σ κ1).2.length = klen n L κ1 := by simp [kcell]
  have hl2 : (kcell n L σ κ2).2.length = klen n L κ2 := by simp [kcell]
  have hb := kok_bounds hn.2 hk1
  have hall : (kcell n L σ κ1).2.all zisi = true := by
    rw [List.all_eq_true]
    intro v hv
    unfold kcell at hv
    obtain ⟨s, -, rfl⟩ := List.mem_map.mp hv
    obtain ⟨p, hp⟩ := kint hb.1 ht1 s
    rw [hp, ht1]
    rfl
  rw [if_pos ⟨ht1, ht2, a1, a2, a3, by rw [hl1]; exact a4, by rw [hl2]; exact a5, hall, Nat.le_of_ble_eq_true c1, Nat.le_of_ble_eq_true c2, Nat.le_of_ble_eq_true c3⟩, a6]
  exact hf
end ZRC
theorem nI_mul (a b : Nat) : nI a * nI b = nI (a * b) := (Int32.ofNat_mul a b).symm
theorem zix_nI {a n : Nat} (h : a < n) (hn : n < 2 ^ 31) : zix (nI a) n = some a := by
  unfold zix
  rw [if_neg (nI_in h hn), nI_clamp (by omega)]
