theorem zmem {w : Cond} {i : Nat} (h : lw_tbl[i]? = some w) : w ∈ lw_tbl := List.mem_of_getElem? h
section ZHS
variable {p : Program} {l : Launch} {e : Env} {R : Room} {s : State} {m : MethodId} {args : Array Value} {below : List Frame} {meth : Method} {c : Code} {H : Heap} {locs : List Loc} {cells slots : Nat} {Q : State → Prop}
variable {cc : ByteArray} {pc : Nat} {lz : Array Slot} {b : Nat} {s0 : State} {D : va_G} {h : Zh} {own : String} {init : Bool} {rest : List Value}
theorem zw_at (hB : zB s0 D b) (hE : zEn s0 s) {w : Cond} (hw : w ∈ lw_tbl) : w.before args s = true := zwat hE hw (hB.2.1 w hw)
/-- a place of an array's, as the cell has it -/
theorem zarr_get {cell : Cell} {vs : List Value} {z : Nat} (hs : cell.slots = (vs.map (zv b z)).toArray) {i : Int32} {k : Nat} (hk : zix i vs.length = some k) {v : Value} (hv : vs[k]? = some v) :
    ¬ (i < 0 ∨ cell.slots.size ≤ i.toNatClampNeg) ∧ cell.slots[i.toNatClampNeg]? = some (zv b z v) := by
  unfold zix at hk
  split at hk
  · cases hk
  · rename_i hno
    cases hk
    refine ⟨by rw [hs]; simpa using hno, ?_⟩
    rw [hs]
    simp [hv]
theorem zget_ok (hexec : p.tables.exec = Jvm.exec) (hb : c.code = cc) (hB : zB s0 D b) (hE : zEn s0 s) (hown : s.vm.findClass own = some m.cls) {idx ci k w ne a : Nat} {cl : Zc} {v : Value} (hdg : decode cc pc = .ok (.getfield idx, 3)) (hev : zevf own idx ci k w ne = true) (hcl : h[a]? = some cl) (htag : cl.1 = ci) (hv : cl.2[k]? = some v) (hR : zRel s0 D b h H)
    (kk : W p l e R s m args below meth c H locs cells slots Q (F0 m (pc + 3) lz (zv b s0.heap.size v :: rest))) : W p l e R s m args below meth c H locs cells slots Q (F0 m pc lz (.ref (zrf b s0.heap.size a) :: rest)) := by
  unfold zevf at hev
  split at hev
  · rename_i q hq
    obtain ⟨C, T, N⟩ := q
    simp only [Bool.and_eq_true, decide_eq_true_eq] at hev
    obtain ⟨⟨e1, e2⟩, e3⟩ := hev
    obtain ⟨C', T', f1, f2, f3, f4, f5, f6, f7, f8⟩ := zcl_of e1
    cases hq.symm.trans f1
    obtain ⟨cell, g1, g2, -⟩ := hR.2.2 a cl hcl
    obtain ⟨g3, g4, g5, g6⟩ := g2 (by rw [htag]; exact e1)
    rw [htag] at g3 g5 g6
    obtain ⟨hS, hfc, kC, hkC, hkind⟩ := (va_K.moved hE.1.alike hB.2.2.1).1 ci _ f1
    obtain ⟨cf, kf, fi, f, hi, hsl⟩ := hS k e2
    have hts : ∀ w ∈ lw_tbl, w.before args s = true := fun w hw => zw_at hB hE hw
    have hst := (u_facts hfc hkC (u_lays hts f2 e2) hi).1
    have hi' : s.fieldFound? C (T k).2.1 (T k).2.2.1 = some (cf, kf, fi, f) := by
      have := (f4 k e2).2.2.1
      rw [this] at hi
      exact hi
    have hsl2 : cell.slots[f.slot]? = some (zv b s0.heap.size v) := by
      rw [hsl, g6 k e2]
      congr 2
      rw [List.getD_eq_getElem?_getD, hv]
      rfl
    have hkn : cell.vm ≠ .unknown := by rw [g4]; exact fun h => by cases h
    have hw := hts _ (zmem e3)
    by_cases hne : ne = 0
    · rw [if_pos hne] at hw
      exact W.getf hexec hb hown hw hi' hst g1 hkn hsl2 rfl rfl hdg kk
    · rw [if_neg hne] at hw
      exact va_Wgetf hexec hb hown hw hi' hst g1 hkn hsl2 rfl rfl hdg kk
  · cases hev
theorem zfit_ok {ty : FieldType} {kd : Nat} {v : Value} {z : Nat} (hk : zkok ty kd = true) (hf : zfit kd v = true) : narrow ty (zv b z v) = zv b z v ∧ fits ty (zv b z v) = true := by
  unfold zfit at hf
  split at hf
  · simp only [zkok, decide_eq_true_eq] at hk
    subst hk
    exact ⟨rfl, rfl⟩
  · simp only [zkok, decide_eq_true_eq] at hk hf
    subst hk
    rcases hf with rfl | rfl
    · show narrow .boolean (.int _) = .int _ ∧ fits .boolean (.int _) = true
      exact ⟨by decide, by decide⟩
    · show narrow .boolean (.int _) = .int _ ∧ fits .boolean (.int _) = true
      exact ⟨by decide, by decide⟩
  · unfold zkok at hk
    cases ty <;> first | exact ⟨rfl, rfl⟩ | (simp at hk)
  · cases hf
theorem zput_ok (hexec : p.tables.exec = Jvm.exec) (hb : c.code = cc) (hB : zB s0 D b) (hE : zEn s0 s) (hown : s.vm.findClass own = some m.cls) (hinit : init = true → meth.name = "<init>") {idx ci k w ne a : Nat} {cl : Zc} {v : Value} (hdg : decode cc pc = .ok (.putfield idx, 3)) (hev : zevf own idx ci k w ne = true) (hev2 : zevp own init ci k ne = true) (hcl : h[a + 1]? = some cl) (htag : cl.1 = ci) (hk : k < cl.2.length) (hfit : zfit (zfk ci k) v = true) (hR : zRel s0 D b h H) (hL : ∀ q ∈ locs, s0.heap.size ≤ q.base)
    (kk : ∀ (H' : Heap) (locs' : List Loc), zRel s0 D b (h.set (a + 1) (ci, cl.2.set k v)) H' → (∀ q ∈ locs', s0.heap.size ≤ q.base) → W p l e R s m args below meth c H' locs' cells slots Q (F0 m (pc + 3) lz rest)) : W p l e R s m args below meth c H locs cells slots Q (F0 m pc lz (zv b s0.heap.size v :: .ref (zrf b s0.heap.size (a + 1)) :: rest)) := by
  unfold zevf at hev
  split at hev
  · rename_i q hq
    obtain ⟨C, T, N⟩ := q
    simp only [Bool.and_eq_true, decide_eq_true_eq] at hev
    obtain ⟨⟨e1, e2⟩, e3⟩ := hev
    obtain ⟨C', T', f1, f2, f3, f4, f5, f6, f7, f8⟩ := zcl_of e1
    cases hq.symm.trans f1
    obtain ⟨cell, g1, g2, -⟩ := hR.2.2 (a + 1) cl hcl
    obtain ⟨g3, g4, g5, g6⟩ := g2 (by rw [htag]; exact e1)
    rw [htag] at g3 g5 g6
    have hK := va_K.moved hE.1.alike hB.2.2.1
    obtain ⟨hS, hfc, kC, hkC, hkind⟩ := hK.1 ci _ f1
    obtain ⟨cf, kf, fi, f, hi, hsl⟩ := hS k e2
    have hts : ∀ w ∈ lw_tbl, w.before args s = true := fun w hw => zw_at hB hE hw
    have hl3 := u_lays hts f2 e2
    have hst := (u_facts hfc hkC hl3 hi).1
    have hap := va_apart (own := own) hts f2 (zfty ci) (fun k hk => (f4 k hk).1) f3 hK f1
    have hi' : s.fieldFound? C (T k).2.1 (T k).2.2.1 = some (cf, kf, fi, f) := by
      have := (f4 k e2).2.2.1
      rw [this] at hi
      exact hi
    obtain ⟨n1, n2⟩ := zfit_ok (b := b) (z := s0.heap.size) (f4 k e2).2.1 hfit
    have h6 := u_fits hfc hkC hkind hl3 hi (f4 k e2).1 n1 n2
    have hlt : f.slot < cell.slots.size := by rw [hsl]; exact k2_hasslot (g6 k e2)
    have hw := hts _ (zmem e3)
    have fin : ∀ H' : Heap, H'[zrf b s0.heap.size (a + 1)]? = some (cell.setSlot f.slot (zv b s0.heap.size v)) → H'.size = H.size → (∀ q, q ≠ zrf b s0.heap.size (a + 1) → H'[q]? = H[q]?) → W p l e R s m args below meth c H' (locs ++ [⟨zrf b s0.heap.size (a + 1), f.slot⟩]) cells slots Q (F0 m (pc + 3) lz rest) := by
      intro H' x1 x2 x3
      refine kk H' _ (hR.set hB.1 x1 ⟨fun _ => ⟨g3, g4, by rw [List.length_set]; exact g5, fun j hj => ?_⟩, fun y => absurd y (by show ¬ 100 ≤ ci; omega), fun y => absurd y (by show ¬ 200 ≤ ci; omega)⟩ x2 x3) ?_
      · have hset := t_set (V := fun j => zv b s0.heap.size (cl.2.getD j .null)) g6 hap e2 (zv b s0.heap.size v) j hj
        rw [hsl, hset]
        congr 1
        unfold updV
        split
        · rename_i hjk
          subst hjk
          simp [List.getD_eq_getElem?_getD, hk]
        · rename_i hjk
          simp [List.getD_eq_getElem?_getD, List.getElem?_set_ne (Ne.symm hjk)]
      · intro q hq
        rcases List.mem_append.mp hq with hq | hq
        · exact hL q hq
        · rw [List.mem_singleton.mp hq]
          simp only [zrf]
          omega
    unfold zevp at hev2
    rw [f1] at hev2
    simp only [Bool.or_eq_true, Bool.and_eq_true, decide_eq_true_eq] at hev2
    by_cases hfin : (T k).2.2.2 = false
    · have hlay := hts _ (f2 _ (u_in_lay e2))
      unfold u_lay at hlay
      rw [if_neg (by rw [hfin]; decide)] at hlay
      have h7 := u_store hfc hkC hkind hlay hi (f4 k e2).1 n1 n2
      by_cases hne : ne = 0
      · rw [if_pos hne] at hw
        exact W.putK hexec hb (f := f) ⟨hown, hw, ⟨_, _, _, hi'⟩, hst⟩ (by rw [g3]; exact h7) g1 g4 hlt rfl rfl hdg fin
      · rw [if_neg hne] at hw
        exact va_WputK hexec hb hown hw hi' hst (by rw [g3]; exact h7) g1 g4 hlt rfl rfl hdg fin
    · obtain ⟨⟨i1, i2⟩, i3⟩ := hev2.resolve_left hfin
      have hfin2 : (T k).2.2.2 = true := by cases hx : (T k).2.2.2 <;> simp_all
      have hlay := hts _ (f2 _ (u_in_lay e2))
      unfold u_lay at hlay
      rw [if_pos hfin2] at hlay
      have hcf : m.cls = cf := by
        obtain ⟨_, _, c', _, _, _, -, -, hf', -, -, -, hown2, -⟩ := Cond.laysFinal_spec hlay
        have e1 : c' = cf := by have := hi.symm.trans hf'; simp at this; exact this.1.symm
        rw [(f4 k e2).2.2.1, ← i2] at hown2
        rw [← e1]; exact Option.some.inj (hown.symm.trans hown2)
      rw [if_pos i3] at hw
      exact W.putFinK hexec hb hown hw hi' hst hcf (hinit i1) (by rw [g3]; exact h6) g1 g4 hlt rfl rfl hdg fin
  · cases hev
end ZHS
