theorem zpairs (at_ : Nat) : ∀ (xs : List Value) (i : Nat) (ce : Cell) (k : Nat), k < ce.slots.size → (ce.storePairs at_ (xs.zipIdx i)).slots[k]? = if at_ + i ≤ k ∧ k < at_ + i + xs.length then xs[k - (at_ + i)]? else ce.slots[k]?
  | [], i, ce, k, _ => by
    rw [if_neg (by simp only [List.length_nil]; omega)]
    rfl
  | x :: xs, i, ce, k, hk => by
    rw [List.zipIdx_cons]
    show ((ce.setSlot (at_ + i) x).storePairs at_ (xs.zipIdx (i + 1))).slots[k]? = _
    rw [zpairs at_ xs (i + 1) _ k (by simpa [Cell.setSlot] using hk)]
    by_cases hki : k = at_ + i
    · subst hki
      rw [if_neg (by omega), if_pos (by simp only [List.length_cons]; omega), Nat.sub_self]
      simp [Cell.setSlot, hk]
    · by_cases h : at_ + (i + 1) ≤ k ∧ k < at_ + (i + 1) + xs.length
      · rw [if_pos h, if_pos (by simp only [List.length_cons]; omega)]
        have e : k - (at_ + i) = (k - (at_ + (i + 1))) + 1 := by omega
        rw [e, List.getElem?_cons_succ]
      · rw [if_neg h, if_neg (by simp only [List.length_cons]; omega)]
        simp [Cell.setSlot, Array.getElem?_setIfInBounds, Ne.symm hki]
theorem zcopied {b z : Nat} {cs cd : Cell} {f g : List Value} {sp dp n : Nat} (hf : cs.slots = (f.map (zv b z)).toArray) (hg : cd.slots = (g.map (zv b z)).toArray) (h1 : sp + n ≤ f.length) :
    (cd.storeRun dp (cs.stretch sp n)).slots = ((zcpy f g sp dp n).map (zv b z)).toArray := by
  have hsz : (cd.storeRun dp (cs.stretch sp n)).slots.size = g.length := by
    have := (Cell.storePairs_facts cd dp (cs.stretch sp n).zipIdx).2.2.1
    rw [Cell.storeRun, this, hg]
    simp
  apply Array.ext_getElem?
  intro k
  by_cases hk : k < g.length
  · rw [Cell.storeRun, zpairs dp _ 0 cd k (by rw [hg]; simpa using hk)]
    have hl : (cs.stretch sp n).length = n := by simp [Cell.stretch]
    rw [hl, Nat.add_zero]
    have hr : ((zcpy f g sp dp n).map (zv b z)).toArray[k]? = some (zv b z (if dp ≤ k ∧ k < dp + n then f.getD (sp + (k - dp)) .null else g.getD k .null)) := by
      simp [zcpy, hk]
    rw [hr]
    by_cases h : dp ≤ k ∧ k < dp + n
    · rw [if_pos h, if_pos h]
      have h2 : k - dp < n := by omega
      simp only [Cell.stretch, List.getElem?_map, List.getElem?_range h2, Option.map_some]
      rw [hf]
      have h3 : sp + (k - dp) < f.length := by omega
      simp [h3]
    · rw [if_neg h, if_neg h, hg]
      simp [hk]
  · have e1 : (cd.storeRun dp (cs.stretch sp n)).slots[k]? = none := by
      rw [Array.getElem?_eq_none_iff]; omega
    rw [e1]
    symm
    rw [Array.getElem?_eq_none_iff]
    simp [zcpy]
    omega
theorem zcat_le {z b : Nat} : ∀ r : List Value, ((r.map (zv b z)).map fun v => v.category).sum ≤ 2 * r.length
  | [] => by simp
  | v :: r => by
    have := zcat_le (z := z) (b := b) r
    have h2 : (zv b z v).category ≤ 2 := by cases v <;> simp [zv, Value.category]
    simp only [List.map_cons, List.sum_cons, List.length_cons]
    omega
section ZMO
variable {p : Program} {l : Launch} {e : Env} {R : Room} {s : State} {m : MethodId} {args : Array Value} {below : List Frame} {meth : Method} {c : Code} {H : Heap} {locs : List Loc} {cells slots : Nat} {Q : State → Prop}
variable {cc : ByteArray} {pc : Nat} {lz : Array Slot} {b : Nat} {s0 : State} {D : va_G} {h : Zh} {own : String} {init : Bool} {rest : List Value}
theorem zcopy_ok (hexec : p.tables.exec = Jvm.exec) (hb : c.code = cc) (hml : lz.size = c.maxLocals) (hB : zB s0 D b) (hE : zEn s0 s) (hR : zRel s0 D b h H) (hL : ∀ q ∈ locs, s0.heap.size ≤ q.base) (hown : s.vm.findClass own = some m.cls) {idx w x a : Nat} {cx ca : Zc} {k dp sp : Int32} {r : List Value} (hdg : decode cc pc = .ok (.invokestatic idx, 3)) (hev : lw_tbl[w]? = some (Cond.methodLink own idx arraycopyName)) (hx : h[x]? = some cx) (ha : h[a + 1]? = some ca) (tx : cx.1 = 100) (ta : ca.1 = 100) (h1 : ¬ sp < 0) (h2 : ¬ dp < 0) (h3 : ¬ k < 0) (h4 : sp.toNatClampNeg + k.toNatClampNeg ≤ cx.2.length) (h5 : dp.toNatClampNeg + k.toNatClampNeg ≤ ca.2.length) (hint : cx.2.all zisi = true) (hf : 1 ≤ R.frames) (hlo : 40 ≤ R.locals) (hr : r.length ≤ 8)
    (kk : ∀ (H' : Heap) (locs' : List Loc), zRel s0 D b (h.set (a + 1) (100, zcpy cx.2 ca.2 sp.toNatClampNeg dp.toNatClampNeg k.toNatClampNeg)) H' → (∀ q ∈ locs', s0.heap.size ≤ q.base) → W p l e R s m args below meth c H' locs' cells slots Q (F0 m (pc + 3) lz (r.map (zv b s0.heap.size)))) : W p l e R s m args below meth c H locs cells slots Q (F0 m pc lz (.int k :: .int dp :: .ref (zrf b s0.heap.size (a + 1)) :: .int sp :: .ref (zrf b s0.heap.size x) :: r.map (zv b s0.heap.size))) := by
  have nn : ∀ z : Int32, ¬ z < 0 → z.toInt = (z.toNatClampNeg : Int) := by
    intro z hz
    have hz0 : (0 : Int) ≤ z.toInt := by
      have := Int32.not_lt.mp hz
      simpa using Int32.le_iff_toInt_le.mp this
    show z.toInt = ((z.toInt.toNat : Nat) : Int)
    omega
  have hts : ∀ w ∈ lw_tbl, w.before args s = true := fun w hw => zw_at hB hE hw
  obtain ⟨cs, c1, c2, c3, -, -, c6⟩ := zcell hE hR hx tx (by decide) (by decide)
  obtain ⟨cd, d1, d2, d3, d3', d5, d6⟩ := zcell hE hR ha ta (by decide) (by decide)
  obtain ⟨c30, ks, hks, cm0, hkk0⟩ := c3
  obtain ⟨d30, kd, hkd, cm1, hkk1⟩ := d3
  intro T hT X
  obtain ⟨vm', X', step⟩ := X.arraycopy hexec hown (hts _ (zmem hev)) (hts (.native arraycopyName) (by decide +kernel)) (hts (.static arraycopyName) (by decide +kernel)) (hts (.initialized "java/lang/System") (by decide +kernel)) (src := zrf b s0.heap.size x) (dst := zrf b s0.heap.size (a + 1)) (cs := cs) (cd := cd) (srcPos := sp) (destPos := dp) (n := k) (by rw [hT]; exact c1) (by rw [hT]; exact d1)
    c30 d30 c2 d2 hks hkd hkk0 hkk1 (by rfl) h1 h2 h3
    (by rw [nn sp h1, nn k h3, c6]; simp; omega)
    (by rw [nn dp h2, nn k h3, d6]; simp; omega)
    (fun vm₁ _ i hi => by
      have hlt : sp.toNatClampNeg + i < cx.2.length := by omega
      have hmem : cx.2[sp.toNatClampNeg + i] ∈ cx.2 := List.getElem_mem hlt
      have hq := List.all_eq_true.mp hint _ hmem
      have e : cs.slots.getD (sp.toNatClampNeg + i) .null = zv b s0.heap.size (cx.2[sp.toNatClampNeg + i]) := by
        rw [c6]; simp [hlt]
      rw [e]
      revert hq
      cases cx.2[sp.toNatClampNeg + i] <;> intro hq <;> first | exact ⟨rfl, trivial⟩ | (cases hq))
    (g := F0 m pc lz (.int k :: .int dp :: .ref (zrf b s0.heap.size (a + 1)) :: .int sp :: .ref (zrf b s0.heap.size x) :: r.map (zv b s0.heap.size))) rfl hml (rest := r.map (zv b s0.heap.size)) rfl (by rw [hb]; exact hdg) hf (by
      have := zcat_le (z := s0.heap.size) (b := b) r
      have e7 : nativeFrameWords "java/lang/System" "arraycopy" 5 = 7 := by decide +kernel
      rw [e7]
      show 2 * 0 + _ + _ ≤ _
      omega)
  have hl : zrf b s0.heap.size (a + 1) < H.size := (Array.getElem?_eq_some_iff.mp d1).1
  have hheap : ((T.setVm vm').setCell (zrf b s0.heap.size (a + 1)) (copied cs cd sp dp k)).heap = H.setIfInBounds (zrf b s0.heap.size (a + 1)) (copied cs cd sp dp k) := by rw [← hT]; rfl
  have hfx := Cell.storePairs_facts cd dp.toNatClampNeg (cs.stretch sp.toNatClampNeg k.toNatClampNeg).zipIdx
  have e1 : (copied cs cd sp dp k).vm = cd.vm := hfx.2.1
  have e2 : (copied cs cd sp dp k).cls = cd.cls := hfx.1
  have y1 : (copied cs cd sp dp k).vm ≠ .unknown := by rw [e1]; exact d2
  have y2 : s0.isArrayOf (copied cs cd sp dp k) (zaty 100) := by
    unfold State.isArrayOf
    rw [e1, e2]
    exact d3'
  obtain ⟨t, a1, b1⟩ := kk _ _ (hR.set (H' := H.setIfInBounds (zrf b s0.heap.size (a + 1)) (copied cs cd sp dp k)) (cell := copied cs cd sp dp k) (c' := (100, zcpy cx.2 ca.2 sp.toNatClampNeg dp.toNatClampNeg k.toNatClampNeg)) hB.1 (by simp [Array.getElem?_setIfInBounds, hl])
    ⟨fun y => absurd y (by simp), fun _ _ => ⟨y1, y2, fun y => absurd y (by simp), zcopied c6 d6 h4⟩, fun y => absurd y (by simp)⟩ (by simp) (fun q hq => by simp [Array.getElem?_setIfInBounds, Ne.symm hq]))
    (fun q hq => by
      rcases List.mem_append.mp hq with h | h
      · exact hL q h
      · obtain ⟨z, -, hz⟩ := List.mem_map.mp h
        rw [← hz]
        simp only [zrf]
        omega) _ hheap X'
  exact ⟨t, step t a1, b1⟩
theorem zldc_ok (hexec : p.tables.exec = Jvm.exec) (hb : c.code = cc) (hB : zB s0 D b) (hE : zEn s0 s) (hown : s.vm.findClass own = some m.cls) {idx w v : Nat} (hdg : decode cc pc = .ok (.ldc idx, 2)) (hev : lw_tbl[w]? = some (Cond.constant own idx (Int32.ofNat v)))
    (kk : W p l e R s m args below meth c H locs cells slots Q (F0 m (pc + 2) lz (.int (Int32.ofNat v) :: rest))) : W p l e R s m args below meth c H locs cells slots Q (F0 m pc lz rest) :=
  W.ldc hexec hb hown (zw_at hB hE (zmem hev)) rfl hdg kk
theorem zldcw_ok (hexec : p.tables.exec = Jvm.exec) (hb : c.code = cc) (hB : zB s0 D b) (hE : zEn s0 s) (hown : s.vm.findClass own = some m.cls) {idx w v : Nat} (hdg : decode cc pc = .ok (.ldc_w idx, 3)) (hev : lw_tbl[w]? = some (Cond.constant own idx (Int32.ofNat v)))
    (kk : W p l e R s m args below meth c H locs cells slots Q (F0 m (pc + 3) lz (.int (Int32.ofNat v) :: rest))) : W p l e R s m args below meth c H locs cells slots Q (F0 m pc lz rest) := by
  have hconst : (Cond.constant own idx (Int32.ofNat v)).before args s = true := zw_at hB hE (zmem hev)
  subst hb
  intro T hT X
  obtain ⟨t, a1, b1⟩ := kk T hT X
  refine ⟨t, ?_, b1⟩
  obtain ⟨k, cf, bytes, hk, hcf, hcp, hbb⟩ := Cond.constant_spec hown hconst
  obtain ⟨k', hk', he⟩ := X.warmed.alike.2.2 _ _ hk
  jvm_step X.here [X.here.top, hexec, hdg, ldc_w.wp_int (s := T) (f := F0 m pc lz rest) X.here.top hk' (by rw [he]; exact hcf) hcp, hbb]
  exact a1
theorem zobi_ok (hexec : p.tables.exec = Jvm.exec) (hb : c.code = cc) (hml : lz.size = c.maxLocals) (hB : zB s0 D b) (hE : zEn s0 s) (hown : s.vm.findClass own = some m.cls) {idx w a : Nat} {r : List Value} (hdg : decode cc pc = .ok (.invokespecial idx, 3)) (hev : lw_tbl[w]? = some (Cond.methodLink own idx Lib.objectInit)) (hf : 1 ≤ R.frames) (hlo : 40 ≤ R.locals) (hr : r.length ≤ 8)
    (kk : W p l e R s m args below meth c H locs cells slots Q (F0 m (pc + 3) lz (r.map (zv b s0.heap.size)))) : W p l e R s m args below meth c H locs cells slots Q (F0 m pc lz (.ref a :: r.map (zv b s0.heap.size))) := by
  have hts : ∀ w ∈ lw_tbl, w.before args s = true := fun w hw => zw_at hB hE hw
  refine W.objInit hexec hb hown (hts _ (zmem hev)) (hts _ (by decide +kernel)) (hts _ (by decide +kernel)) rfl hml rfl hdg hf ?_ kk
  have := zcat_le (z := s0.heap.size) (b := b) r
  show 2 * 0 + _ + _ ≤ _
  omega
end ZMO
