theorem zrd_some {tag : Nat} {i : Int32} {a : Nat} {h : Zh} {f : Value → Option (List Value × Zh × Bool)} {r : List Value × Zh × Bool} (hr : zrd tag i a h f = some r) : ∃ c k v, h[a]? = some c ∧ c.1 = tag ∧ zix i c.2.length = some k ∧ c.2[k]? = some v ∧ f v = some r := by
  unfold zrd at hr
  obtain ⟨c, hc, hr⟩ := Option.bind_eq_some_iff.mp hr
  split at hr
  · obtain ⟨k, hk, hr⟩ := Option.bind_eq_some_iff.mp hr
    obtain ⟨v, hv, hr⟩ := Option.bind_eq_some_iff.mp hr
    exact ⟨c, k, v, hc, by assumption, hk, hv, hr⟩
  · cases hr
theorem zwr_some {tag : Nat} {i : Int32} {a : Nat} {v : Value} {h : Zh} {rs : List Value} {r : List Value × Zh × Bool} (hr : zwr tag i a v h rs = some r) : ∃ c k, h[a]? = some c ∧ c.1 = tag ∧ zix i c.2.length = some k ∧ r = (rs, h.set a (tag, c.2.set k v), true) := by
  unfold zwr at hr
  obtain ⟨c, hc, hr⟩ := Option.bind_eq_some_iff.mp hr
  split at hr
  · obtain ⟨k, hk, hr⟩ := Option.bind_eq_some_iff.mp hr
    cases hr
    exact ⟨c, k, hc, by assumption, hk, rfl⟩
  · cases hr
theorem zix_some {i : Int32} {n k : Nat} (h : zix i n = some k) : ¬ (i < 0 ∨ n ≤ i.toNatClampNeg) ∧ k = i.toNatClampNeg ∧ k < n := by
  unfold zix at h
  split at h
  · cases h
  · rename_i hno
    cases h
    exact ⟨hno, rfl, Nat.not_le.mp fun q => hno (Or.inr q)⟩
section ZAR
variable {p : Program} {l : Launch} {e : Env} {R : Room} {s : State} {m : MethodId} {args : Array Value} {below : List Frame} {meth : Method} {c : Code} {H : Heap} {locs : List Loc} {cells slots : Nat} {Q : State → Prop}
variable {cc : ByteArray} {pc : Nat} {lz : Array Slot} {b : Nat} {s0 : State} {D : va_G} {h : Zh} {own : String} {init : Bool} {rest : List Value}
/-- the cell of an array -/
theorem zcell (hE : zEn s0 s) (hR : zRel s0 D b h H) {a tag : Nat} {cl : Zc} (hcl : h[a]? = some cl) (htag : cl.1 = tag) (h1 : 100 ≤ tag) (h2 : tag < 105) : ∃ cell, H[zrf b s0.heap.size a]? = some cell ∧ cell.vm ≠ .unknown ∧ s.isArrayOf cell (zaty tag) ∧ s0.isArrayOf cell (zaty tag) ∧ (103 ≤ tag → va_RA s0 cell.cls (zaty tag)) ∧ cell.slots = (cl.2.map (zv b s0.heap.size)).toArray := by
  obtain ⟨cell, g1, -, g2, -⟩ := hR.2.2 a cl hcl
  rw [htag] at g2
  obtain ⟨g3, g4, g5, g6⟩ := g2 h1 h2
  exact ⟨cell, g1, g3, State.isArrayOf_alike hE.1.alike g4, g4, g5, g6⟩
theorem zload_ok (hexec : p.tables.exec = Jvm.exec) (hb : c.code = cc) (hE : zEn s0 s) (hR : zRel s0 D b h H) {ins : Instr} {tag a k : Nat} {cl : Zc} {v : Value} {i : Int32} (hins : (ins = .iaload ∧ tag = 100) ∨ (ins = .laload ∧ tag = 101) ∨ (ins = .baload ∧ tag = 102) ∨ (ins = .aaload ∧ (tag = 103 ∨ tag = 104))) (hdg : decode cc pc = .ok (ins, 1)) (hcl : h[a]? = some cl) (htag : cl.1 = tag) (hk : zix i cl.2.length = some k) (hv : cl.2[k]? = some v)
    (kk : W p l e R s m args below meth c H locs cells slots Q (F0 m (pc + 1) lz (zv b s0.heap.size v :: rest))) : W p l e R s m args below meth c H locs cells slots Q (F0 m pc lz (.int i :: .ref (zrf b s0.heap.size a) :: rest)) := by
  have hr : 100 ≤ tag ∧ tag < 105 := by
    rcases hins with ⟨-, h⟩ | ⟨-, h⟩ | ⟨-, h⟩ | ⟨-, h | h⟩ <;> subst h <;> exact ⟨by decide, by decide⟩
  obtain ⟨cell, g1, g2, g3, -, -, g4⟩ := zcell hE hR hcl htag hr.1 hr.2
  obtain ⟨x1, x2⟩ := zarr_get g4 hk hv
  rcases hins with ⟨rfl, rfl⟩ | ⟨rfl, rfl⟩ | ⟨rfl, rfl⟩ | ⟨rfl, rfl | rfl⟩
  · exact W.iald hexec hb g1 g3 g2 x1 x2 rfl rfl hdg kk
  · exact W.lald hexec hb g1 g3 g2 x1 x2 rfl rfl hdg kk
  · exact W.zald hexec hb g1 g3 g2 x1 x2 rfl rfl hdg kk
  · exact W.aald hexec hb g1 g3 rfl g2 x1 x2 rfl rfl hdg kk
  · exact W.aald hexec hb g1 g3 rfl g2 x1 x2 rfl rfl hdg kk
theorem zalen_ok (hexec : p.tables.exec = Jvm.exec) (hb : c.code = cc) (hE : zEn s0 s) (hR : zRel s0 D b h H) {a : Nat} {cl : Zc} (hdg : decode cc pc = .ok (.arraylength, 1)) (hcl : h[a]? = some cl) (h1 : 100 ≤ cl.1) (h2 : cl.1 < 105)
    (kk : W p l e R s m args below meth c H locs cells slots Q (F0 m (pc + 1) lz (.int (Int32.ofNat cl.2.length) :: rest))) : W p l e R s m args below meth c H locs cells slots Q (F0 m pc lz (.ref (zrf b s0.heap.size a) :: rest)) := by
  obtain ⟨cell, g1, g2, g3, -, -, g4⟩ := zcell hE hR hcl rfl h1 h2
  exact W.alen hexec hb g1 g3 (by rw [g4]; simp) rfl rfl hdg kk
/-- behind a store -/
theorem zstored (hB : zB s0 D b) (hR : zRel s0 D b h H) {H' : Heap} {a tag k : Nat} {cl : Zc} {cell : Cell} {v : Value} (htag : cl.1 = tag) (h1 : 100 ≤ tag) (h2 : tag < 105) (g2 : cell.vm ≠ .unknown) (g3 : s0.isArrayOf cell (zaty tag)) (g4 : 103 ≤ tag → va_RA s0 cell.cls (zaty tag)) (g5 : cell.slots = (cl.2.map (zv b s0.heap.size)).toArray)
    (e1 : H'[zrf b s0.heap.size (a + 1)]? = some (cell.setSlot k (zv b s0.heap.size v))) (e2 : H'.size = H.size) (e3 : ∀ q : Nat, q ≠ zrf b s0.heap.size (a + 1) → H'[q]? = H[q]?) : zRel s0 D b (h.set (a + 1) (tag, cl.2.set k v)) H' := by
  refine hR.set hB.1 e1 ⟨fun y => absurd y (by show ¬ tag < 7; omega), fun _ _ => ⟨g2, g3, g4, ?_⟩, fun y => absurd y (by show ¬ 200 ≤ tag; omega)⟩ e2 e3
  show cell.slots.setIfInBounds k (zv b s0.heap.size v) = _
  rw [g5]
  simp [List.map_set]
theorem zlocs {a k : Nat} (hL : ∀ q ∈ locs, s0.heap.size ≤ q.base) : ∀ q ∈ locs ++ [(⟨zrf b s0.heap.size (a + 1), k⟩ : Loc)], s0.heap.size ≤ q.base := by
  intro q hq
  rcases List.mem_append.mp hq with hq | hq
  · exact hL q hq
  · rw [List.mem_singleton.mp hq]
    simp only [zrf]
    omega
theorem zstore_ok (hexec : p.tables.exec = Jvm.exec) (hb : c.code = cc) (hB : zB s0 D b) (hE : zEn s0 s) (hR : zRel s0 D b h H) (hL : ∀ q ∈ locs, s0.heap.size ≤ q.base) {ins : Instr} {tag a k : Nat} {cl : Zc} {v : Value} {i : Int32} (hins : (ins = .iastore ∧ tag = 100 ∧ ∃ x, v = .int x) ∨ (ins = .lastore ∧ tag = 101 ∧ ∃ x, v = .long x) ∨ (ins = .bastore ∧ tag = 102 ∧ (v = .int 0 ∨ v = .int 1))) (hdg : decode cc pc = .ok (ins, 1)) (hcl : h[a + 1]? = some cl) (htag : cl.1 = tag) (hk : zix i cl.2.length = some k)
    (kk : ∀ (H' : Heap) (locs' : List Loc), zRel s0 D b (h.set (a + 1) (tag, cl.2.set k v)) H' → (∀ q ∈ locs', s0.heap.size ≤ q.base) → W p l e R s m args below meth c H' locs' cells slots Q (F0 m (pc + 1) lz rest)) : W p l e R s m args below meth c H locs cells slots Q (F0 m pc lz (v :: .int i :: .ref (zrf b s0.heap.size (a + 1)) :: rest)) := by
  obtain ⟨x1, x2, x3⟩ := zix_some hk
  have hr : 100 ≤ tag ∧ tag < 105 := by
    rcases hins with ⟨-, h, -⟩ | ⟨-, h, -⟩ | ⟨-, h, -⟩ <;> subst h <;> exact ⟨by decide, by decide⟩
  obtain ⟨cell, g1, g2, g3, g3', g6, g4⟩ := zcell hE hR hcl htag hr.1 hr.2
  have hin : ¬ (i < 0 ∨ cell.slots.size ≤ i.toNatClampNeg) := by rw [g4]; simpa using x1
  subst x2
  rcases hins with ⟨rfl, rfl, x, rfl⟩ | ⟨rfl, rfl, x, rfl⟩ | ⟨rfl, rfl, hx⟩
  · exact W.iast hexec hb g1 g3 g2 hin rfl rfl hdg fun H' e1 e2 e3 => kk H' _ (zstored hB hR htag hr.1 hr.2 g2 g3' g6 g4 e1 e2 e3) (zlocs hL)
  · exact W.last hexec hb g1 g3 g2 hin rfl rfl hdg fun H' e1 e2 e3 => kk H' _ (zstored hB hR htag hr.1 hr.2 g2 g3' g6 g4 e1 e2 e3) (zlocs hL)
  · rcases hx with rfl | rfl
    · exact W.zast hexec hb g1 g3 g2 hin rfl rfl hdg fun H' e1 e2 e3 => kk H' _ (zstored hB hR htag hr.1 hr.2 g2 g3' g6 g4 e1 e2 e3) (zlocs hL)
    · exact W.zast hexec hb g1 g3 g2 hin rfl rfl hdg fun H' e1 e2 e3 => kk H' _ (zstored hB hR htag hr.1 hr.2 g2 g3' g6 g4 e1 e2 e3) (zlocs hL)
theorem zaast_ok (hexec : p.tables.exec = Jvm.exec) (hb : c.code = cc) (hB : zB s0 D b) (hE : zEn s0 s) (hR : zRel s0 D b h H) (hL : ∀ q ∈ locs, s0.heap.size ≤ q.base) {tag a k x : Nat} {cl d : Zc} {i : Int32} (hdg : decode cc pc = .ok (.aastore, 1)) (hcl : h[a + 1]? = some cl) (htag : cl.1 = tag) (hd : h[x]? = some d) (hins : (tag = 103 ∧ d.1 = 1) ∨ (tag = 104 ∧ d.1 = 4)) (hk : zix i cl.2.length = some k)
    (kk : ∀ (H' : Heap) (locs' : List Loc), zRel s0 D b (h.set (a + 1) (tag, cl.2.set k (.ref x))) H' → (∀ q ∈ locs', s0.heap.size ≤ q.base) → W p l e R s m args below meth c H' locs' cells slots Q (F0 m (pc + 1) lz rest)) : W p l e R s m args below meth c H locs cells slots Q (F0 m pc lz (.ref (zrf b s0.heap.size x) :: .int i :: .ref (zrf b s0.heap.size (a + 1)) :: rest)) := by
  obtain ⟨x1, x2, x3⟩ := zix_some hk
  have hr : 103 ≤ tag ∧ tag < 105 := by
    rcases hins with ⟨h, -⟩ | ⟨h, -⟩ <;> subst h <;> exact ⟨by decide, by decide⟩
  obtain ⟨cell, g1, g2, g3, g3', g6, g4⟩ := zcell hE hR hcl htag (by omega) hr.2
  have hin : ¬ (i < 0 ∨ cell.slots.size ≤ i.toNatClampNeg) := by rw [g4]; simpa using x1
  subst x2
  have hK := va_K.moved hE.1.alike hB.2.2.1
  obtain ⟨cellV, v1, v2, -⟩ := hR.2.2 x d hd
  have hd7 : d.1 < 7 := by rcases hins with ⟨-, h⟩ | ⟨-, h⟩ <;> omega
  obtain ⟨v3, v4, -⟩ := v2 hd7
  have key : ∀ C : String, zaty tag = .object C → ∀ T N, zvc[d.1]? = some (C, T, N) → W p l e R s m args below meth c H locs cells slots Q (F0 m pc lz (.ref (zrf b s0.heap.size x) :: .int i :: .ref (zrf b s0.heap.size (a + 1)) :: rest)) := by
    intro C hC T N hz
    have hcls := (hK.1 d.1 _ hz).2
    have hra : va_RA s cell.cls (.object C) := by rw [← hC]; exact (g6 hr.1).moved hE.1.alike
    obtain ⟨kA, comp, k1, k2, k3, -⟩ := hra
    have hcomp : comp = D.1 d.1 := Option.some.inj (k3.symm.trans hcls.1)
    subst hcomp
    obtain ⟨kC, hkC, -⟩ := hcls.2
    refine W.aast hexec hb g1 g3.1 g2 k1 k2 rfl hkC ⟨fun q => hin (Or.inl q), Nat.not_le.mp fun q => hin (Or.inr q)⟩ v1 (fun q h => by rw [v4] at h; cases h) (by rw [v3]; exact hkC) (by rw [v3]; exact va_assign hcls) rfl rfl hdg fun H' e1 e2 e3 => ?_
    exact kk H' _ (zstored (v := .ref x) hB hR htag (by omega) hr.2 g2 g3' g6 g4 e1 e2 e3) (zlocs hL)
  rcases hins with ⟨h1, h2⟩ | ⟨h1, h2⟩
  · subst h1
    exact key "PantryMarket$Till" rfl _ _ (by rw [h2]; rfl)
  · subst h1
    exact key "PantryMarket$Pairing" rfl _ _ (by rw [h2]; rfl)
theorem znew_ok (hexec : p.tables.exec = Jvm.exec) (hb : c.code = cc) (hB : zB s0 D b) (hE : zEn s0 s) (hR : zRel s0 D b h H) (hown : s.vm.findClass own = some m.cls) {idx t w : Nat} (ht : t < 7) (hdg : decode cc pc = .ok (.new idx, 3)) (hev : zevn own idx t w = true) (hcells : cells + 1 ≤ R.cells) (hslots : slots + 820 ≤ R.slots)
    (kk : ∀ H' : Heap, zRel s0 D b (h ++ [(t, znewv t)]) H' → W p l e R s m args below meth c H' locs (cells + 1) (slots + 820) Q (F0 m (pc + 3) lz (.ref (zrf b s0.heap.size h.length) :: rest))) : W p l e R s m args below meth c H locs cells slots Q (F0 m pc lz rest) := by
  obtain ⟨C, T, f1, f2, f3, f4, f5, f6, f7, f8⟩ := zcl_of ht
  unfold zevn at hev
  rw [f1] at hev
  simp only [decide_eq_true_eq] at hev
  have hts : ∀ w ∈ lw_tbl, w.before args s = true := fun w hw => zw_at hB hE hw
  have hK := va_K.moved hE.1.alike hB.2.2.1
  have hKn := hK.1 t _ f1
  refine W.newcK hexec hb hown (hts _ (zmem hev)) (hts _ f5) (hts _ f6) rfl hdg hcells (by omega) hKn.2.1 rfl fun H1 kC hkC e1 z1 o1 => ?_
  obtain ⟨cell, u1, u2, u3, u4⟩ := u_born (zfty t) hts f2 hKn hkC e1 (fun k hk => (f4 k hk).1)
  rw [← hR.top]
  refine W.widen (Nat.le_refl _) (by omega) (kk H1 (hR.push hB.1 u1 ⟨fun _ => ⟨u2, u3, f7, fun k hk => ?_⟩, fun y => absurd y (by show ¬ 100 ≤ t; omega), fun y => absurd y (by show ¬ 200 ≤ t; omega)⟩ z1 o1))
  refine (u4 k hk).trans ?_
  show some (defaultValue (zfty t k)) = _
  rw [(f4 k hk).2.2.2]
  congr 1
  have hlt : k < (znewv t).length := by rw [f7]; exact hk
  have e : (znewv t).getD k .null = zdv (zfk t k) := by
    unfold znewv at hlt ⊢
    unfold zfk
    rw [List.length_map] at hlt
    generalize ((zcls.getD t ("", [], [], [], 0, 0)).2.2.1) = L at hlt ⊢
    simp [List.getD_eq_getElem?_getD, hlt]
  show _ = zv b s0.heap.size ((znewv t).getD k .null)
  rw [e]
  unfold zdv
  split <;> rfl
theorem znewa_ok (hexec : p.tables.exec = Jvm.exec) (hb : c.code = cc) (hB : zB s0 D b) (hE : zEn s0 s) (hR : zRel s0 D b h H) {t : ArrayType} {q : Nat × Value} {n : Int32} (hdg : decode cc pc = .ok (.newarray t, 2)) (hev : Cond.arrayClass (newarray.typeOf t) ∈ lw_tbl) (hq : zatag t = some q) (hn : ¬ n < 0) (hN : n.toNatClampNeg ≤ 820) (hcells : cells + 1 ≤ R.cells) (hslots : slots + 820 ≤ R.slots)
    (kk : ∀ H' : Heap, zRel s0 D b (h ++ [(q.1, List.replicate n.toNatClampNeg q.2)]) H' → W p l e R s m args below meth c H' locs (cells + 1) (slots + 820) Q (F0 m (pc + 2) lz (.ref (zrf b s0.heap.size h.length) :: rest))) : W p l e R s m args below meth c H locs cells slots Q (F0 m pc lz (.int n :: rest)) := by
  have hbytes : n.toNatClampNeg * componentBytes (newarray.typeOf t) ≤ 536870912 := by
    have : componentBytes (newarray.typeOf t) ≤ 8 := by cases t <;> decide
    calc n.toNatClampNeg * componentBytes (newarray.typeOf t) ≤ 820 * 8 := Nat.mul_le_mul hN this
      _ ≤ 536870912 := by decide
  refine va_newaK hexec hb (zw_at hB hE hev) rfl hdg rfl hn rfl hbytes hcells (by omega) rfl fun H1 cA e1 z1 o1 hAr hNm => ?_
  have hAr0 : ArrOfT s0 cA (newarray.typeOf t) := arrOfT_moved hE.1.alike.symm hAr
  rw [← hR.top]
  refine W.widen (Nat.le_refl _) (by omega) (kk H1 (hR.push hB.1 e1 ?_ z1 o1))
  have hz : ∀ v : Value, zv b s0.heap.size v = v → (arrV cA n.toNatClampNeg (fun _ => v)).slots = ((List.replicate n.toNatClampNeg v).map (zv b s0.heap.size)).toArray := by
    intro v hv
    rw [List.map_replicate, hv]
    unfold arrV
    apply Array.ext
    · simp
    · intro i h1 h2
      simp
  cases t <;> simp only [zatag] at hq <;> cases hq
  · exact ⟨fun y => absurd y (by simp), fun _ _ => ⟨(fun y => by cases y), hAr0 _ _, fun y => absurd y (by simp), hz _ rfl⟩, fun y => absurd y (by simp)⟩
  · exact ⟨fun y => absurd y (by simp), fun _ _ => ⟨(fun y => by cases y), hAr0 _ _, fun y => absurd y (by simp), hz _ rfl⟩, fun y => absurd y (by simp)⟩
  · exact ⟨fun y => absurd y (by simp), fun _ _ => ⟨(fun y => by cases y), hAr0 _ _, fun y => absurd y (by simp), hz _ rfl⟩, fun y => absurd y (by simp)⟩
theorem zanew_ok (hexec : p.tables.exec = Jvm.exec) (hb : c.code = cc) (hB : zB s0 D b) (hE : zEn s0 s) (hR : zRel s0 D b h H) (hown : s.vm.findClass own = some m.cls) {idx t w : Nat} {n : Int32} (ht : t = 103 ∨ t = 104) (hdg : decode cc pc = .ok (.anewarray idx, 3)) (hev : zeva own idx t w = true) (hn : ¬ n < 0) (hN : n.toNatClampNeg ≤ 820) (hcells : cells + 1 ≤ R.cells) (hslots : slots + 820 ≤ R.slots)
    (kk : ∀ H' : Heap, zRel s0 D b (h ++ [(t, List.replicate n.toNatClampNeg .null)]) H' → W p l e R s m args below meth c H' locs (cells + 1) (slots + 820) Q (F0 m (pc + 3) lz (.ref (zrf b s0.heap.size h.length) :: rest))) : W p l e R s m args below meth c H locs cells slots Q (F0 m pc lz (.int n :: rest)) := by
  have hts : ∀ w ∈ lw_tbl, w.before args s = true := fun w hw => zw_at hB hE hw
  have key : ∀ C : String, zaty t = .object C → lw_tbl[w]? = some (Cond.classLink own idx C) → Cond.arrayOver (.object C) ∈ lw_tbl → W p l e R s m args below meth c H locs cells slots Q (F0 m pc lz (.int n :: rest)) := by
    intro C hC h1 h2
    refine W.anew hexec hb hown (hts _ (zmem h1)) (hts _ h2) rfl hdg rfl hn (by omega) hcells (by omega) fun cA kA comp f1 f2 f3 f4 => ?_
    rw [← hR.top]
    refine W.widen (Nat.le_refl _) (by omega) (kk _ (hR.push (cell := { cls := cA, slots := Array.replicate n.toNatClampNeg .null, vm := .none }) hB.1 (by simp) ?_ (by simp) (fun q hq => by rw [Array.getElem?_push, if_neg (Nat.ne_of_lt hq)])))
    have hr : va_RA s0 cA (.object C) := va_RA.moved hE.1.alike.symm ⟨kA, comp, f2, f3, f4, f1⟩
    have har : s0.isArrayOf ({ cls := cA, slots := Array.replicate n.toNatClampNeg .null, vm := .none } : Cell) (.object C) := State.isArrayOf_alike hE.1.alike.symm ⟨(fun k h => by cases h), kA, f2, comp, f3⟩
    refine ⟨fun y => absurd y (by rcases ht with rfl | rfl <;> simp), fun _ _ => ⟨(fun y => by cases y), by rw [hC]; exact har, fun _ => by rw [hC]; exact hr, ?_⟩, fun y => absurd y (by rcases ht with rfl | rfl <;> simp)⟩
    simp [zv]
  unfold zeva at hev
  split at hev
  · rename_i C hC
    simp only [Bool.and_eq_true, decide_eq_true_eq] at hev
    exact key C hC hev.1 hev.2
  · cases hev
end ZAR
