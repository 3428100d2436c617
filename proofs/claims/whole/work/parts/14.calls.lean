def zout (b z : Nat) : (Option Value ⊕ Nat) → Outcome → Prop
  | .inl v, o => o = .returned (v.map (zv b z))
  | .inr a, o => o = .threw (zrf b z a)
def zE (s0 : State) (D : va_G) (b : Nat) (h0 : Zh) (r : Zr) : Array Value → State → Outcome → State → Prop := fun _ st o t =>
  zout b s0.heap.size r.1 o ∧ zRel s0 D b r.2.1 t.heap ∧ (h0.length ≤ r.2.1.length ∧ r.2.1.length ≤ zcap) ∧ st.WarmedH t.vm ∧
    ∃ L : List Loc, st.sameButNew ({ t with vm := st.vm } : State) L (r.2.1.length - h0.length) (820 * (r.2.1.length - h0.length)) ∧ (∀ q ∈ L, s0.heap.size ≤ q.base) ∧ (r.2.2 = true → L = [] ∧ r.2.1 = h0)
def zQ (below : List Frame) (s : State) (s0 : State) (D : va_G) (b : Nat) (h0 : Zh) (r : Zr) : State → Prop := fun t => ∃ o, t.status = .running ∧ Ended t below o ∧ zE s0 D b h0 r #[] s o t
def zP (s0 : State) (D : va_G) (b : Nat) (vs : List Value) (h0 : Zh) : Array Value → State → Prop := fun a U => a = (vs.map (zv b s0.heap.size)).toArray ∧ s0.WarmedH U.vm ∧ zRel s0 D b h0 U.heap
def zrm (N : Zm) (h0 : Zh) : Room := { frames := zMf N, cells := zcap - h0.length, slots := 820 * (zcap - h0.length), locals := zMl N }
theorem zcw_spec {args : Array Value} {s : State} {y : MethodName} {bytes : ByteArray} {maxL : Nat} {ret : Option FieldType} {hs : List (Nat × Nat × Nat × Nat × Nat × Nat)} (h : (zcw y bytes maxL ret hs).before args s = true) :
    ∃ mk methM cM, s.methodNamed? y = some mk ∧ s.vm.method? mk = some methM ∧ methM.code = some cM ∧ cM.code = bytes ∧ cM.maxLocals = maxL ∧ methM.sig.returnType = ret ∧ methM.locks = false ∧ cM.exceptionTable.toList = tableOf (zh4 hs) ∧ parseMethodDescriptor y.desc = some methM.sig := by
  unfold zcw at h
  split at h
  · rename_i hh
    subst hh
    obtain ⟨mk, hnamed⟩ := Cond.code_named h
    obtain ⟨methM, cM, h1, h2, h3, h4, h5, h6, h7, h8⟩ := Cond.code_spec hnamed h
    refine ⟨mk, methM, cM, hnamed, h1, h2, h3, h4, h5, h6, ?_, h8⟩
    have : cM.exceptionTable = #[] := by simpa using h7
    rw [this]
    rfl
  · obtain ⟨mk, methM, cM, h0, h1, h2, h3, h4, h5, h6, h7, h8⟩ := Cond.codeWith_spec h
    refine ⟨mk, methM, cM, h0, h1, h2, h3, h4, h6, h7, ?_, h8⟩
    rw [← h5, table_eq]
theorem zsame_nil {s s' : State} {c n : Nat} (h : s.sameButNew s' [] c n) : ∀ q : Nat, q < s.heap.size → s'.heap[q]? = s.heap[q]? := by
  intro q hq
  obtain ⟨-, -, -, -, -, h6⟩ := h
  have hc : s.heap[q]? = some s.heap[q] := Array.getElem?_eq_getElem hq
  obtain ⟨c', g1, g2, g3, g4⟩ := h6 q _ hc
  rw [g1, hc, g2]
  have : c'.slots = s.heap[q].slots := Array.ext_getElem? fun i => g4 i (by simp)
  rw [this]
section ZTH
variable {p : Program} {l : Launch} {e : Env} {R : Room} {s : State} {m : MethodId} {args : Array Value} {below : List Frame} {meth : Method} {c : Code} {H : Heap} {locs : List Loc} {cells slots : Nat}
variable {cc : ByteArray} {pc : Nat} {lz : Array Slot} {b : Nat} {s0 : State} {D : va_G} {h : Zh} {own : String} {st : List Value}
theorem zatoms : ∀ x, x < 3 → (∀ a ∈ Bundle.throwableAtoms ++ Bundle.throwableSAtoms ++ Bundle.chainSAtoms (zexn.getD x "") ["java/lang/RuntimeException", "java/lang/Exception"], a ∈ lw_tbl) := by decide +kernel
def zat2 (X : String) : List Cond := [.instantiable X 6, .initialized X, .castable X X, .selects X Bundle.tFill0 Bundle.tFill0, .selects X Bundle.tFill Bundle.tFill,
  .lays X Bundle.tN "cause" "Ljava/lang/Throwable;", .lays X Bundle.tN "stackTrace" Bundle.steD, .lays X Bundle.tN "suppressedExceptions" Bundle.listD, .lays X Bundle.tN "detailMessage" "Ljava/lang/String;",
  .fieldLink Bundle.tN 198 Bundle.tN "backtrace" "Ljava/lang/Object;", .lays Bundle.tN Bundle.tN "backtrace" "Ljava/lang/Object;", .lays X Bundle.tN "backtrace" "Ljava/lang/Object;"]
theorem zatoms2 : ∀ x, x < 3 → ∀ a ∈ zat2 (zexn.getD x ""), a ∈ lw_tbl := by decide +kernel
theorem zexfit : ∀ x, x < 3 → Bundle.fit (zexn.getD x "") = true := by decide +kernel
theorem zown (hB : zB s0 D b) (hE : zEn s0 s) {ic x w : Nat} (hx : x < 3) (hln : lw_tbl[w]? = some (Cond.methodLink own ic (Bundle.initS (zexn.getD x "")))) : ∀ a ∈ Bundle.ownAtoms own ic (zexn.getD x "") ["java/lang/RuntimeException", "java/lang/Exception"], a.before args s = true := by
  have hts : ∀ w ∈ lw_tbl, w.before args s = true := fun w hw => zw_at hB hE hw
  have h2 : ∀ a ∈ zat2 (zexn.getD x ""), a.before args s = true := fun a ha => hts a (zatoms2 x hx a ha)
  have hini : (Cond.initialized "java/lang/Throwable").before #[Value.ref b] s0 = true := hB.2.1 _ (by decide +kernel)
  have hu : (Cond.isRef (.static Bundle.tN "UNASSIGNED_STACK" Bundle.steD)).before args s = true := zref_move hE (hB.2.1 _ (by decide +kernel)) hini hB.2.2.2.1
  have hv : (Cond.isRef (.static Bundle.tN "SUPPRESSED_SENTINEL" Bundle.listD)).before args s = true := zref_move hE (hB.2.1 _ (by decide +kernel)) hini hB.2.2.2.2.1
  intro a ha
  unfold Bundle.ownAtoms at ha
  rcases List.mem_append.mp ha with ha | ha
  · exact hts a (zatoms x hx a ha)
  · simp only [List.mem_cons, List.not_mem_nil, or_false] at ha
    rcases ha with rfl | rfl | rfl | rfl | rfl | rfl | rfl | rfl | rfl | rfl | rfl | rfl | rfl | rfl
    · exact hts _ (zmem hln)
    all_goals first
      | exact hu
      | exact hv
      | exact h2 _ (by simp [zat2])
theorem zthrow_ok (hexec : p.tables.exec = Jvm.exec) (hb : c.code = cc) (htr : e.platform.stackTraces = false) (hB : zB s0 D b) (hE : zEn s0 s) (hR : zRel s0 D b h H) (hown : s.vm.findClass own = some m.cls) (hml : lz.size = c.maxLocals) (hlocks : meth.locks = false) (htab : c.exceptionTable.toList = []) {idx sidx ic t w wl wi : Nat} {tx : String}
    (d0 : decode cc pc = .ok (.new idx, 3)) (d3 : decode cc (pc + 3) = .ok (.dup, 1)) (d4 : decode cc (pc + 4) = .ok (.ldc sidx, 2)) (d6 : decode cc (pc + 6) = .ok (.invokespecial ic, 3)) (d9 : decode cc (pc + 9) = .ok (.athrow, 1)) (ht : 200 ≤ t ∧ t < 203)
    (hcl : lw_tbl[w]? = some (Cond.classLink own idx (zexq t))) (hstr : lw_tbl[wl]? = some (Cond.stringRef own sidx tx)) (hln : lw_tbl[wi]? = some (Cond.methodLink own ic (Bundle.initS (zexq t)))) (hf : 6 ≤ R.frames) (hlo : 100 ≤ R.locals) (hst : st.length ≤ 8) (hcap : h.length < zcap) (hcells : 1 ≤ R.cells) (hslots : 820 ≤ R.slots) :
    W p l e R s m args below meth c H [] 0 0 (zQ below s s0 D b h (.inr h.length, h ++ [(t, [])], false)) (F0 m pc lz (st.map (zv b s0.heap.size))) := by
  have hts : ∀ w ∈ lw_tbl, w.before args s = true := fun w hw => zw_at hB hE hw
  have hx : t - 200 < 3 := by omega
  have h2 : ∀ a ∈ zat2 (zexn.getD (t - 200) ""), a.before args s = true := fun a ha => hts a (zatoms2 _ hx a ha)
  obtain ⟨cX, kX, hfc, hk, hkind, -, -, hn6⟩ := Cond.instantiable_spec (h2 (.instantiable (zexn.getD (t - 200) "") 6) (by simp [zat2]))
  obtain ⟨kS, cfS, iS, aS, -, -, -, -, -, hevS⟩ := Cond.stringRef_spec hown (hts _ (zmem hstr))
  intro T0 hT0 X0
  have hHs : H.size = s.heap.size := by
    have g1 : s.heap.size ≤ T0.heap.size := X0.same.2.1
    have g2 : T0.heap.size ≤ s.heap.size + 0 := X0.same.2.2.1
    rw [hT0] at g1 g2
    omega
  have hHq : ∀ q : Nat, q < s.heap.size → H[q]? = s.heap[q]? := fun q hq => by
    have := zsame_nil X0.same q hq
    rw [← this, ← hT0]
    rfl
  revert T0
  suffices hW : W p l e R s m args below meth c H [] 0 0 (zQ below s s0 D b h (.inr h.length, h ++ [(t, [])], false)) (F0 m pc lz (st.map (zv b s0.heap.size))) from fun T0 hT0 X0 => hW T0 hT0 X0
  refine W.newcK hexec hb hown (hts _ (zmem hcl)) (h2 (.instantiable (zexn.getD (t - 200) "") 6) (by simp [zat2])) (h2 (.initialized (zexn.getD (t - 200) "")) (by simp [zat2])) rfl d0 (by omega) (by omega) hfc rfl fun H1 kC hkC e1 z1 o1 => ?_
  refine lv_dup hexec hb d3 rfl ?_
  intro T hT X
  refine (fun k => ?_ : (∃ U, Steps p.tables e below (T.setTop (F0 m (pc + 6) lz (.ref aS :: .ref H.size :: .ref H.size :: st.map (zv b s0.heap.size)))) U ∧ zQ below s s0 D b h (.inr h.length, h ++ [(t, [])], false) U) → _) ?_
  · obtain ⟨U, k1, k2⟩ := k
    exact ⟨U, X.ldcString hexec hown (text := tx) (a := aS) (hts _ (zmem hstr)) hevS (g := F0 m (pc + 4) lz (.ref H.size :: .ref H.size :: st.map (zv b s0.heap.size))) rfl (by rw [hb]; exact d4) U k1, k2⟩
  · cases hk.symm.trans hkC
    obtain ⟨U, u1, u2, u3, u4, u5, ce, u6, u7⟩ := X.ctorThrowS hexec htr hown (cls := zexn.getD (t - 200) "") (names := ["java/lang/RuntimeException", "java/lang/Exception"]) (ic := ic) (zexfit _ hx) (by decide +kernel) (zown hB hE hx hln) (by simp) (a := H.size) hfc hk (by rw [hT]; exact e1) (by omega) (msg := .ref aS) rfl
      (g := F0 m (pc + 6) lz (.ref aS :: .ref H.size :: .ref H.size :: st.map (zv b s0.heap.size))) rfl hml rfl rfl (rest := st.map (zv b s0.heap.size)) rfl (by rw [hb]; exact d6) (by rw [hb]; exact d9) (by rw [htab]; simp) (by simp; omega) (by
        have := zcat_le (z := s0.heap.size) (b := b) st
        show 2 * 0 + (1 + ((st.map (zv b s0.heap.size)).map fun v => v.category).sum) + (13 * (2 + 1) + 42) ≤ R.locals
        omega) hlocks
    have hU1 : H.size < U.heap.size := (Array.getElem?_eq_some_iff.mp u6).1
    have hU2 : U.heap.size ≤ s.heap.size + (0 + 1) := u5.2.2.1
    refine ⟨U, u1, .threw H.size, u2, u3, ?_, ?_, ?_, u4, [], ?_, ?_, ?_⟩
    · show Outcome.threw H.size = .threw (zrf b s0.heap.size h.length)
      rw [hR.top]
    · refine hR.push hB.1 u6 ⟨fun y => absurd y (by show ¬ t < 7; omega), fun _ y => absurd y (by show ¬ t < 105; omega), fun _ _ => ⟨?_, ?_⟩⟩ (by omega) (fun q hq => ?_)
      · rw [← hE.1.alike.findClass]
        exact u7.cls
      · rw [u7.vm]
        rfl
      · rw [hHq q (by omega)]
        exact zsame_nil u5 q (by omega)
    · exact ⟨by simp, by simp; omega⟩
    · refine u5.mono ?_ ?_
      · simp
      · simp
    · simp
    · exact fun y => by cases y
end ZTH
