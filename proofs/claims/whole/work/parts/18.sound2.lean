theorem zmn_lt {j : Nat} {q : Zn} (h : zmn[j]? = some q) : j < 145 := by
  have h1 := (List.getElem?_eq_some_iff.mp h).1
  have h2 : zmn.length = 145 := by decide +kernel
  omega
/-- what an entry of a call says -/
theorem zevi_spec {own : String} {idx kind j w ne ci : Nat} (h : zevi own idx kind j w ne ci = true) : ∃ (q : Zn) (N : Zm), zmn[j]? = some q ∧ zmi[j]? = some N ∧
    lw_tbl[w]? = some (if ne = 0 then Cond.methodLink own idx q.1 else Cond.methodLinkNest own idx q.1 "PantryMarket") ∧ lw_tbl[q.2.2.2.1]? = some (zcw q.1 q.2.1 (zM0 N) q.2.2.1 (zMh N)) ∧ lw_tbl[q.2.2.2.2.1]? = some (if kind = 1 then Cond.static q.1 else Cond.instanceMethod q.1) ∧ lw_tbl[q.2.2.2.2.2.1]? = some (Cond.initialized q.1.cls) ∧
    (kind = 2 → lw_tbl[q.2.2.2.2.2.2]? = some (Cond.selects q.1.cls q.1 q.1)) ∧ (kind = 3 → q.1.name = "<init>" ∧ q.2.2.1 = none ∧ zMh N = []) ∧ (q.1.cls ≠ "java/lang/invoke/MethodHandle" ∧ q.1.cls ≠ "java/lang/invoke/VarHandle") ∧ plainFor q.1 = true ∧
    (parseMethodDescriptor q.1.desc).map (fun d => d.parameters.length) = some (zMp N) ∧ (kind ≠ 1 → ∃ c, zvc[ci]? = some c ∧ c.1 = q.1.cls) := by
  unfold zevi at h
  split at h
  · rename_i q N hq hN
    simp only [Bool.and_eq_true, Bool.or_eq_true, decide_eq_true_eq] at h
    obtain ⟨⟨⟨⟨⟨⟨⟨⟨⟨⟨h1, h2⟩, h3⟩, h4⟩, h5⟩, h6⟩, h7⟩, h8⟩, h9⟩, h10⟩, h11⟩ := h
    refine ⟨q, N, hq, hN, h1, h2, h3, h4, fun hk => ?_, fun hk => ?_, ⟨h7, h8⟩, h9, h10, fun hk => ?_⟩
    · rcases h5 with h5 | h5
      · exact absurd hk h5
      · exact h5
    · rcases h6 with h6 | h6
      · exact absurd hk h6
      · exact ⟨h6.1.1, h6.1.2, h6.2⟩
    · rcases h11 with h11 | h11
      · exact absurd h11 hk
      · split at h11
        · rename_i cc hcc
          exact ⟨cc, hcc, of_decide_eq_true h11⟩
        · cases h11
  · cases h
section ZS2
variable {p : Program} {l : Launch} {e : Env} {R : Room} {s : State} {m : MethodId} {args : Array Value} {below : List Frame} {meth : Method} {c : Code} {H : Heap} {locs : List Loc}
variable {pc j : Nat} {b : Nat} {s0 : State} {D : va_G} {h h0 : Zh} {N : Zm} {q : Zn} {st : List Value} {ls : List Slot}
theorem zstat_ok (hl : l.stackTraces = false) {n : Nat} (ih : zIH l s0 D b n) (hC : zCx p e R s m meth c s0 D b j N q h0) (hls : ls.length = zM0 N) (hR : zRel s0 D b h H) (hL : ∀ x ∈ locs, s0.heap.size ≤ x.base) (hlen : h0.length ≤ h.length ∧ h.length ≤ zcap) {cl : Bool} (hcl : cl = true → locs = [] ∧ h = h0)
    {idx j' w ne ci : Nat} {N' : Zm} {r : Zr} (hd : decode q.2.1 pc = .ok (.invokestatic idx, 3)) (hev : zevi q.1.cls idx 1 j' w ne ci = true) (hN' : zmi[j']? = some N') (hst : zMp N' ≤ st.length) (hrun : zcall (zrun n) (zrun n j · ls · · ·) N j' pc (st.take (zMp N')).reverse (st.drop (zMp N')) h cl = some r) :
    W p l e R s m args below meth c H locs (h.length - h0.length) (820 * (h.length - h0.length)) (zQ below s s0 D b h0 r) (F0 m pc (zls b s0.heap.size ls) (st.map (zv b s0.heap.size))) := by
  obtain ⟨q', N2, hq', hN2, e1, e2, e3, e4, -, -, e7, e8, e9, -⟩ := zevi_spec hev
  cases hN'.symm.trans hN2
  have hC0 := hC
  obtain ⟨⟨hexec, htr, hB, hE⟩, ⟨hN, hq, hok⟩, ⟨hb, hml, htab, hret, hlocks, hown, hname⟩, hfr, hlo, hce, hsl⟩ := hC
  have hts : ∀ w ∈ lw_tbl, w.before args s = true := fun w hw => zw_at hB hE hw
  refine zcall_ok hl ih hC0 hls hR hL hlen hcl hq' (zmn_lt hq') e8 (fun N3 h3 => by cases hN'.symm.trans h3; exact e2) e4 hrun (by rw [hb]; exact hd) fun T hT X => ?_
  have hl1 : ((st.take (zMp N')).reverse.map (zv b s0.heap.size)).length = zMp N' := by simp; omega
  obtain ⟨mk, vm₁, g1, g2, g3⟩ := zinvS X hexec (own := q.1.cls) (host := "PantryMarket") (idx := idx) (ne := ne) (y := q'.1) hown (hts _ (zmem e1)) (hts _ (zmem e2)) (by have := hts _ (zmem e3); simpa using this) (hts _ (zmem e4)) e7 (g := F0 m pc (zls b s0.heap.size ls) (st.map (zv b s0.heap.size))) rfl (argsL := (st.take (zMp N')).reverse.map (zv b s0.heap.size)) (rest := (st.drop (zMp N')).map (zv b s0.heap.size)) (by rw [hl1]; exact e9) (by
    show st.map (zv b s0.heap.size) = _
    rw [← List.map_reverse, List.reverse_reverse, ← List.map_append, List.take_append_drop]) (by rw [hb]; exact hd)
  exact ⟨mk, vm₁, g1, g2, g3⟩
theorem zobj_ok (hl : l.stackTraces = false) {n : Nat} (ih : zIH l s0 D b n) (hC : zCx p e R s m meth c s0 D b j N q h0) (hls : ls.length = zM0 N) (hR : zRel s0 D b h H) (hL : ∀ x ∈ locs, s0.heap.size ≤ x.base) (hlen : h0.length ≤ h.length ∧ h.length ≤ zcap) {cl : Bool} (hcl : cl = true → locs = [] ∧ h = h0)
    {idx j' w ne ci kind : Nat} {r : Zr} {ins : Instr} (hkind : (kind = 2 ∧ ins = .invokevirtual idx) ∨ (kind = 3 ∧ ins = .invokespecial idx)) (hd : decode q.2.1 pc = .ok (ins, 3)) (hev : zevi q.1.cls idx kind j' w ne ci = true) (hrun : zobj (zrun n) (zrun n j · ls · · ·) N j' ci pc st h cl = some r) :
    W p l e R s m args below meth c H locs (h.length - h0.length) (820 * (h.length - h0.length)) (zQ below s s0 D b h0 r) (F0 m pc (zls b s0.heap.size ls) (st.map (zv b s0.heap.size))) := by
  obtain ⟨q', N2, hq', hN2, e1, e2, e3, e4, e5, e6, e7, e8, e9, e10⟩ := zevi_spec hev
  unfold zobj at hrun
  obtain ⟨N', hN', h1⟩ := Option.bind_eq_some_iff.mp hrun
  have eN : N' = N2 := Option.some.inj (hN'.symm.trans hN2)
  subst eN
  split at h1
  · rename_i hms
    obtain ⟨-, hst⟩ := hms
    obtain ⟨a, r', hr', h2⟩ := zr1_some h1
    obtain ⟨cx, hcx, h3⟩ := Option.bind_eq_some_iff.mp h2
    split at h3
    · rename_i hci
      obtain ⟨htag, hci7⟩ := hci
      have hC0 := hC
      obtain ⟨⟨hexec, htr, hB, hE⟩, ⟨hN, hq, hok⟩, ⟨hb, hml, htab, hret, hlocks, hown, hname⟩, hfr, hlo, hce, hsl⟩ := hC
      have hts : ∀ w ∈ lw_tbl, w.before args s = true := fun w hw => zw_at hB hE hw
      have hk1 : kind ≠ 1 := by rcases hkind with ⟨h, -⟩ | ⟨h, -⟩ <;> omega
      have e3' : (Cond.instanceMethod q'.1).before args s = true := by
        have := hts _ (zmem e3)
        rwa [if_neg hk1] at this
      have hl1 : ((st.take (zMp N')).reverse.map (zv b s0.heap.size)).length = zMp N' := by simp; omega
      have hstk : st.map (zv b s0.heap.size) = ((st.take (zMp N')).reverse.map (zv b s0.heap.size)).reverse ++ .ref (zrf b s0.heap.size a) :: r'.map (zv b s0.heap.size) := by
        rw [← List.map_reverse, List.reverse_reverse]
        conv => lhs; rw [← List.take_append_drop (zMp N') st]
        rw [List.map_append, hr']
        rfl
      have hdg : decode c.code pc = .ok (ins, 3) := by rw [hb]; exact hd
      obtain ⟨cell, x1, x2, -⟩ := hR.2.2 a cx hcx
      obtain ⟨x3, x4, -⟩ := x2 (by rw [htag]; exact hci7)
      refine zcall_ok hl ih hC0 hls hR hL hlen hcl hq' (zmn_lt hq') e8 (fun N3 h3 => by cases hN'.symm.trans h3; exact e2) e4 h3 hdg fun T hT X => ?_
      rcases hkind with ⟨hk, rfl⟩ | ⟨hk, rfl⟩
      · obtain ⟨c3, hc3, hc4⟩ := e10 hk1
        obtain ⟨C, TT, f1, -⟩ := zcl_of hci7
        have hcl3 : s.vm.findClass q'.1.cls = some cell.cls := by
          cases hc3.symm.trans f1
          have := ((va_K.moved hE.1.alike hB.2.2.1).1 ci _ f1).2.1
          rw [x3, htag, ← hc4]
          exact this
        obtain ⟨mk, vm₁, g1, g2, g3⟩ := zinvV X hexec (own := q.1.cls) (host := "PantryMarket") (idx := idx) (ne := ne) (y := q'.1) hown (hts _ (zmem e1)) (hts _ (zmem e2)) e3' (hts _ (zmem (e5 hk))) e7 (a := zrf b s0.heap.size a) (ce := cell) (by rw [hT]; exact x1) (by rw [x4]; rfl) hcl3 (g := F0 m pc (zls b s0.heap.size ls) (st.map (zv b s0.heap.size))) rfl (argsL := (st.take (zMp N')).reverse.map (zv b s0.heap.size)) (rest := r'.map (zv b s0.heap.size)) (by rw [hl1]; exact e9) hstk hdg
        exact ⟨mk, vm₁, g1, g2, g3⟩
      · obtain ⟨y1, y2, y3⟩ := e6 hk
        have hcode : (Cond.code q'.1 q'.2.1 (zM0 N') none).before args s = true := by
          have := hts _ (zmem e2)
          unfold zcw at this
          rw [if_pos y3, y2] at this
          exact this
        obtain ⟨mk, vm₁, g1, g2, g3⟩ := zinvI X hexec (own := q.1.cls) (host := "PantryMarket") (idx := idx) (ne := ne) (y := q'.1) hown (hts _ (zmem e1)) hcode e3' y1 e7 (a := zrf b s0.heap.size a) (g := F0 m pc (zls b s0.heap.size ls) (st.map (zv b s0.heap.size))) rfl (argsL := (st.take (zMp N')).reverse.map (zv b s0.heap.size)) (rest := r'.map (zv b s0.heap.size)) (by rw [hl1]; exact e9) hstk hdg
        exact ⟨mk, vm₁, g1, g2, g3⟩
    · cases h3
  · cases h1
/-- the ends -/
theorem zret_ok (hC : zCx p e R s m meth c s0 D b j N q h0) (hR : zRel s0 D b h H) (hL : ∀ x ∈ locs, s0.heap.size ≤ x.base) (hlen : h0.length ≤ h.length ∧ h.length ≤ zcap) {cl : Bool} (hcl : cl = true → locs = [] ∧ h = h0) {v : Int32} {lz : Array Slot} (hd : decode q.2.1 pc = .ok (.ireturn, 1)) (hv : zMr N = 1 ∨ (zMr N = 2 ∧ (v = 0 ∨ v = 1))) :
    W p l e R s m args below meth c H locs (h.length - h0.length) (820 * (h.length - h0.length)) (zQ below s s0 D b h0 (.inl (some (.int v)), h, cl)) (F0 m pc lz [.int v]) := by
  obtain ⟨⟨hexec, htr, hB, hE⟩, ⟨hN, hq, hok⟩, ⟨hb, hml, htab, hret, hlocks, hown, hname⟩, hfr, hlo, hce, hsl⟩ := hC
  have hrt := (zmok_rest hok hq hN).2
  intro T hT X
  have hr : ∃ ty, meth.sig.returnType = some ty ∧ narrow ty (.int v) = .int v := by
    rw [hret, hrt]
    rcases hv with hv | ⟨hv, hx⟩
    · rw [hv]
      exact ⟨.int, rfl, rfl⟩
    · rw [hv]
      exact ⟨.boolean, rfl, by rcases hx with rfl | rfl <;> decide⟩
  obtain ⟨ty, hr, hnar⟩ := hr
  obtain ⟨fs, hret2, hrun, hended, hW, hframe⟩ := X.leave (v := some (.int v)) (fun h => by rw [hr] at h; cases h) hlocks
  have hmeth' : T.vm.method? m = some meth := X.method'
  refine ⟨T.setFrames fs, ?_, .returned (some (.int v)), hrun, hended, rfl, by show zRel s0 D b h T.heap; rw [hT]; exact hR, hlen, hW, locs, hframe, hL, hcl⟩
  jvm_step X.here [X.here.top, hexec, hb, hd, hmeth', hr, hnar]
  (try refine ⟨rfl, ?_⟩); (try refine ⟨rfl, ?_⟩)
  first | (intro acts; rw [hret2 _ acts rfl rfl rfl]) | rw [hret2 _ _ rfl rfl rfl]
  exact Steps.refl _
theorem zvret_ok (hC : zCx p e R s m meth c s0 D b j N q h0) (hR : zRel s0 D b h H) (hL : ∀ x ∈ locs, s0.heap.size ≤ x.base) (hlen : h0.length ≤ h.length ∧ h.length ≤ zcap) {cl : Bool} (hcl : cl = true → locs = [] ∧ h = h0) {lz : Array Slot} (hd : decode q.2.1 pc = .ok (.return_, 1)) (hv : zMr N = 0) :
    W p l e R s m args below meth c H locs (h.length - h0.length) (820 * (h.length - h0.length)) (zQ below s s0 D b h0 (.inl none, h, cl)) (F0 m pc lz []) := by
  obtain ⟨⟨hexec, htr, hB, hE⟩, ⟨hN, hq, hok⟩, ⟨hb, hml, htab, hret, hlocks, hown, hname⟩, hfr, hlo, hce, hsl⟩ := hC
  have hrt := (zmok_rest hok hq hN).2
  intro T hT X
  have hr : meth.sig.returnType = none := by
    rw [hret, hrt, hv]
    rfl
  obtain ⟨fs, hret2, hrun, hended, hW, hframe⟩ := X.leave (v := none) (fun _ => rfl) hlocks
  have hmeth' : T.vm.method? m = some meth := X.method'
  refine ⟨T.setFrames fs, ?_, .returned none, hrun, hended, rfl, by show zRel s0 D b h T.heap; rw [hT]; exact hR, hlen, hW, locs, hframe, hL, hcl⟩
  jvm_step X.here [X.here.top, hexec, hb, hd, hmeth', hr]
  (try refine ⟨rfl, ?_⟩); (try refine ⟨rfl, ?_⟩)
  first | (intro acts; rw [hret2 _ acts rfl rfl rfl]) | rw [hret2 _ _ rfl rfl rfl]
  exact Steps.refl _
end ZS2
