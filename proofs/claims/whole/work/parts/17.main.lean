/-- what the induction has -/
def zIH (l : Launch) (s0 : State) (D : va_G) (b : Nat) (n : Nat) : Prop :=
  ∀ (j pc : Nat) (ls : List Slot) (st : List Value) (h : Zh) (cl : Bool) (r : Zr), zrun n j pc ls st h cl = some r →
    ∀ (p : Program) (e : Env) (R : Room) (s : State) (m : MethodId) (args : Array Value) (below : List Frame) (meth : Method) (c : Code) (H : Heap) (locs : List Loc) (N : Zm) (q : Zn) (h0 : Zh),
      zCx p e R s m meth c s0 D b j N q h0 → ls.length = zM0 N → zRel s0 D b h H → (∀ x ∈ locs, s0.heap.size ≤ x.base) → (h0.length ≤ h.length ∧ h.length ≤ zcap) → (cl = true → locs = [] ∧ h = h0) →
      W p l e R s m args below meth c H locs (h.length - h0.length) (820 * (h.length - h0.length)) (zQ below s s0 D b h0 r) (F0 m pc (zls b s0.heap.size ls) (st.map (zv b s0.heap.size)))
theorem zents {b z : Nat} {N : Zm} {vs : List Value} : zls b z (zent N vs) = ((vs.map (zv b z)).map Slot.val ++ List.replicate (zM0 N - (vs.map (zv b z)).length) Slot.unset).toArray := by
  unfold zls zent
  simp [zs, Function.comp_def]
theorem zok1_cat {b z : Nat} {vs : List Value} (h : vs.all zok1 = true) : ∀ v ∈ vs.map (zv b z), v.category = 1 := by
  intro v hv
  obtain ⟨x, hx, rfl⟩ := List.mem_map.mp hv
  have := List.all_eq_true.mp h x hx
  cases x <;> first | rfl | (cases this)
/-- a method's contract out of its run -/
theorem zmet_of {l : Launch} (hl : l.stackTraces = false) {s0 : State} {D : va_G} {b n : Nat} (hB : zB s0 D b) (ih : zIH l s0 D b n) {j : Nat} {N : Zm} {q : Zn} (hN : zmi[j]? = some N) (hq : zmn[j]? = some q) (hok : zmok j = true) (hpl : plainFor q.1 = true) {vs : List Value} {h : Zh} {r : Zr} (hvs : vs.length ≤ zM0 N) (hcat : vs.all zok1 = true) (hcap : h.length ≤ zcap) (hrun : zrun n j 0 (zent N vs) [] h true = some r) :
    MetFree l q.1 (headSpec [zcw q.1 q.2.1 (zM0 N) q.2.2.1 (zMh N)] (zrm N h)) (zP s0 D b vs h) (fun _ _ _ _ _ => True) (zE s0 D b h r) := by
  refine MetFree.of_bodySF (code := q.2.1) (maxLocals := zM0 N) (ret := q.2.2.1) hpl ?_ ?_
  · intro args s m hp hn
    obtain ⟨mk, methM, cM, h1, h2, h3, h4, h5, h6, h7, -, -⟩ := zcw_spec (atoms_spec (ws := [zcw q.1 q.2.1 (zM0 N) q.2.2.1 (zMh N)]) hp _ List.mem_cons_self)
    cases hn.symm.trans h1
    exact ⟨methM, cM, h2, h3, h4, h5, h6, h7⟩
  · intro p e s m args below meth c s₁ B hml hP _
    obtain ⟨rfl, hW, hR⟩ := hP
    obtain ⟨mk, methM, cM, h1, h2, h3, h4, h5, h6, h7, h8, -⟩ := zcw_spec (atoms_spec (ws := [zcw q.1 q.2.1 (zM0 N) q.2.2.1 (zMh N)]) B.pre _ List.mem_cons_self)
    cases B.named.symm.trans h1
    cases B.method.symm.trans h2
    have X₀ := Stand.of_body B
    cases X₀.code.symm.trans h3
    have hh0 : s₁.heap = s.heap := by rw [B.state]; rfl
    have hC : zCx p e (zrm N h) s m meth c s0 D b j N q h := ⟨⟨B.exec, by rw [B.admits.platform]; exact hl, hB, hR.en hW⟩, ⟨hN, hq, hok⟩, ⟨B.bytes, hml, h8, B.returns, B.notSynchronized, findClass_of_methodNamed B.named, (name_of_methodNamed B.named B.method).1⟩, ⟨Nat.le_refl _, Nat.le_refl _, Nat.le_refl _, Nat.le_refl _⟩⟩
    have hlen : (zent N vs).length = zM0 N := by simp [zent]; omega
    have K := ih j 0 (zent N vs) [] h true r hrun p e (zrm N h) s m (vs.map (zv b s0.heap.size)).toArray below meth c s.heap [] N q h hC hlen hR (by simp) ⟨Nat.le_refl _, hcap⟩ (fun _ => ⟨rfl, rfl⟩)
    rw [Nat.sub_self, Nat.mul_zero] at K
    obtain ⟨t, a1, o, b1, b2, b3⟩ := K s₁ hh0 X₀
    rw [entry_eq m (vs.map (zv b s0.heap.size)) (zok1_cat hcat), ← zents]
    exact ⟨t, o, a1, b1, b2, b3⟩
section ZCA
variable {p : Program} {l : Launch} {e : Env} {R : Room} {s : State} {m : MethodId} {args : Array Value} {below : List Frame} {meth : Method} {c : Code} {H : Heap} {locs : List Loc}
variable {pc j : Nat} {b : Nat} {s0 : State} {D : va_G} {h h0 : Zh} {N : Zm} {q : Zn} {st : List Value} {ls : List Slot}
set_option maxHeartbeats 4000000 in
theorem zcall_ok (hl : l.stackTraces = false) {n : Nat} (ih : zIH l s0 D b n) (hC : zCx p e R s m meth c s0 D b j N q h0) (hls : ls.length = zM0 N) (hR : zRel s0 D b h H) (hL : ∀ x ∈ locs, s0.heap.size ≤ x.base) (hlen : h0.length ≤ h.length ∧ h.length ≤ zcap) {cl : Bool} (hcl : cl = true → locs = [] ∧ h = h0)
    {j' : Nat} {q' : Zn} (hq' : zmn[j']? = some q') (hj' : j' < 145) (hpl : plainFor q'.1 = true) {w1 w2 : Nat} (hcw : ∀ N', zmi[j']? = some N' → lw_tbl[w1]? = some (zcw q'.1 q'.2.1 (zM0 N') q'.2.2.1 (zMh N'))) (hini : lw_tbl[w2]? = some (Cond.initialized q'.1.cls))
    {vs : List Value} {r : Zr} (hrun : zcall (zrun n) (zrun n j · ls · · ·) N j' pc vs st h cl = some r) {stk : List Value} {ig : Instr} (hdg : decode c.code pc = .ok (ig, 3))
    (hinv : ∀ T : State, T.heap = H → Stand p l e R s m args below meth c T locs (h.length - h0.length) (820 * (h.length - h0.length)) → ∃ mk vm₁, s.methodNamed? q'.1 = some mk ∧ Stand p l e R s m args below meth c (T.setVm vm₁) locs (h.length - h0.length) (820 * (h.length - h0.length)) ∧
      ∀ target, (∀ acts, Steps p.tables e below (doInvoke e ((T.setVm vm₁).setTop (F0 m pc (zls b s0.heap.size ls) (st.map (zv b s0.heap.size)))) acts mk (vs.map (zv b s0.heap.size)).toArray).1 target) → Steps p.tables e below (T.setTop (F0 m pc (zls b s0.heap.size ls) stk)) target) :
    W p l e R s m args below meth c H locs (h.length - h0.length) (820 * (h.length - h0.length)) (zQ below s s0 D b h0 r) (F0 m pc (zls b s0.heap.size ls) stk) := by
  have hC0 := hC
  obtain ⟨⟨hexec, htr, hB, hE⟩, ⟨hN, hq, hok⟩, ⟨hb, hml, htab, hret, hlocks, hown, hname⟩, hfr, hlo, hce, hsl⟩ := hC
  unfold zcall at hrun
  obtain ⟨N', hN', h1⟩ := Option.bind_eq_some_iff.mp hrun
  split at h1
  · rename_i hc4
    obtain ⟨hroom, hvl, hcat, hstl⟩ := hc4
    obtain ⟨r', hr', hgo⟩ := Option.bind_eq_some_iff.mp h1
    simp only [zroom, Bool.and_eq_true, decide_eq_true_eq] at hroom
    have hcwN := hcw N' hN'
    have hM := zmet_of hl hB ih hN' hq' (zmok_all hj') hpl hvl hcat hlen.2 hr'
    have hts : ∀ (a : Array Value) (U : State), zEn s0 U → ∀ w ∈ lw_tbl, w.before a U = true := fun a U hU w hw => zwat hU hw (hB.2.1 w hw)
    intro T hT X
    obtain ⟨mk, vm₁, hn, X₁, step⟩ := hinv T hT X
    have hU : (T.setVm vm₁).heap = H := hT
    have hEU : zEn s0 (T.setVm vm₁) := ⟨State.WarmedH.trans hE.1 X₁.warmed, by rw [hU]; exact hR.2.1⟩
    obtain ⟨mk', methM, cM, g1, g2, g3, -, g5, -⟩ := zcw_spec (hts #[] s hE _ (zmem hcwN))
    cases hn.symm.trans g1
    have hcall : (T.setVm vm₁).calling (F0 m pc (zls b s0.heap.size ls) (st.map (zv b s0.heap.size))) mk (vs.map (zv b s0.heap.size)).toArray = (T.setVm vm₁).setFrames (.invoking mk (vs.map (zv b s0.heap.size)).toArray :: .java (F0 m pc (zls b s0.heap.size ls) (st.map (zv b s0.heap.size))) :: (T.setVm vm₁).frames.tail) := State.calling_eq X₁.here.top _ _ _
    have hhc : ((T.setVm vm₁).calling (F0 m pc (zls b s0.heap.size ls) (st.map (zv b s0.heap.size))) mk (vs.map (zv b s0.heap.size)).toArray).heap = H := by rw [hcall]; exact hT
    have hvc : ((T.setVm vm₁).calling (F0 m pc (zls b s0.heap.size ls) (st.map (zv b s0.heap.size))) mk (vs.map (zv b s0.heap.size)).toArray).vm = vm₁ := by rw [hcall]; rfl
    have hlen1 := hlen.1
    have hlen2 := hlen.2
    obtain ⟨o, s₂, hsteps, hst2, hend, hq2⟩ := zback X₁ hM (g := F0 m pc (zls b s0.heap.size ls) (st.map (zv b s0.heap.size))) rfl (by rw [hml, ← hls]; exact zls_size) hn (a := (vs.map (zv b s0.heap.size)).toArray) (maxL := zM0 N') ⟨methM, cM, g2, g3, g5⟩ (hts _ _ hE _ (zmem hini))
      (atoms_intro fun w hw => by rw [List.mem_singleton.mp hw]; exact hts _ _ hEU _ (zmem hcwN))
      (by show zMf N' + 1 ≤ R.frames; omega)
      (by
        have := zcat_le (z := s0.heap.size) (b := b) st
        show 2 * 0 + ((st.map (zv b s0.heap.size)).map fun v => v.category).sum + (zM0 N' + 11) + zMl N' ≤ R.locals
        omega)
      (by show h.length - h0.length + (zcap - h.length) ≤ R.cells; omega)
      (by show 820 * (h.length - h0.length) + 820 * (zcap - h.length) ≤ R.slots; omega)
      hdg ⟨rfl, by rw [hvc]; exact hEU.1, by rw [hhc]; exact hR⟩
    obtain ⟨hout, hR2, hl2, hW2, L, hsame, hLL, hclr⟩ := hq2
    have hstand := (zstands X₁ hW2 hsame).1
    have hL2 : ∀ x ∈ locs ++ L, s0.heap.size ≤ x.base := fun x hx => by
      rcases List.mem_append.mp hx with hx | hx
      · exact hL x hx
      · exact hLL x hx
    have hl21 := hl2.1
    have hc1 : h.length - h0.length + (r'.2.1.length - h.length) = r'.2.1.length - h0.length := by omega
    have hc2 : 820 * (h.length - h0.length) + 820 * (r'.2.1.length - h.length) = 820 * (r'.2.1.length - h0.length) := by omega
    rw [hc1, hc2] at hstand
    obtain ⟨ro, h', c'⟩ := r'
    cases ro with
    | inl v =>
      have hout : o = .returned (v.map (zv b s0.heap.size)) := hout
      subst hout
      have hs₂ := zafterR X₁ (g := F0 m pc (zls b s0.heap.size ls) (st.map (zv b s0.heap.size))) rfl hdg hW2 hsame hend
      have hgo : zrun n j (pc + 3) ls (v.toList ++ st) h' (cl && c') = some r := hgo
      have K := ih j (pc + 3) ls (v.toList ++ st) h' (cl && c') r hgo p e R s m args below meth c s₂.heap (locs ++ L) N q h0 hC0 hls hR2 hL2 ⟨Nat.le_trans hlen.1 hl2.1, hl2.2⟩ (fun hb => by
        rw [Bool.and_eq_true] at hb
        obtain ⟨k1, k2⟩ := hcl hb.1
        obtain ⟨k3, k4⟩ := hclr hb.2
        refine ⟨by rw [k1, k3]; rfl, ?_⟩
        rw [← k2]
        exact k4)
      obtain ⟨t, a1, b1⟩ := K (({ (T.setVm vm₁) with heap := s₂.heap, slotsUsed := s₂.slotsUsed } : State).setVm s₂.vm) rfl hstand
      refine ⟨t, step t fun acts => ?_, b1⟩
      rw [doInvoke_state]
      refine hsteps.trans ?_
      rw [hs₂]
      have hst3 : (v.toList ++ st).map (zv b s0.heap.size) = (v.map (zv b s0.heap.size)).toList ++ st.map (zv b s0.heap.size) := by cases v <;> simp
      rw [hst3] at a1
      exact a1
    | inr x =>
      have hout : o = .threw (zrf b s0.heap.size x) := hout
      subst hout
      have hs₂ := zafterT X₁ (g := F0 m pc (zls b s0.heap.size ls) (st.map (zv b s0.heap.size))) rfl hW2 hsame hend
      obtain ⟨cx, hcx, hgo2⟩ := Option.bind_eq_some_iff.mp (show ((h'[x]?).bind _) = some r from hgo)
      split at hgo2
      · rename_i htg
        obtain ⟨cell, e1, -, -, e4⟩ := hR2.2.2 x cx hcx
        obtain ⟨e5, e6⟩ := e4 htg.1 htg.2.1
        split at hgo2
        · rename_i q2 hh
          have htab2 := htab
          obtain ⟨vm', X₃, st3⟩ := zcaught hstand hB hE hown (zmok_rest hok hq hN).1 htab2 (g := F0 m pc (zls b s0.heap.size ls) (st.map (zv b s0.heap.size))) (a := zrf b s0.heap.size x) (ce := cell) (tag := cx.1) (q := q2) rfl ⟨htg.1, htg.2.1⟩ e5 e6 e1 hh
          have K := ih j q2 ls [.ref x] h' false r hgo2 p e R s m args below meth c s₂.heap (locs ++ L) N q h0 hC0 hls hR2 hL2 ⟨Nat.le_trans hlen.1 hl2.1, hl2.2⟩ (fun hb => by cases hb)
          obtain ⟨t, a1, b1⟩ := K ((({ (T.setVm vm₁) with heap := s₂.heap, slotsUsed := s₂.slotsUsed } : State).setVm s₂.vm).setVm vm') rfl X₃
          refine ⟨t, step t fun acts => ?_, b1⟩
          rw [doInvoke_state]
          refine hsteps.trans ?_
          rw [hs₂]
          exact st3 t a1
        · split at hgo2
          · rename_i hnil
            cases hgo2
            have htab2 : c.exceptionTable.toList = [] := by rw [htab, hnil]; rfl
            obtain ⟨w1, w2, w3, w4, w5⟩ := hstand.leaveThrown (zrf b s0.heap.size x) (g := F0 m pc (zls b s0.heap.size ls) (st.map (zv b s0.heap.size))) rfl rfl rfl (by rw [htab2]; simp) hlocks
            refine ⟨_, step _ fun acts => ?_, .threw (zrf b s0.heap.size x), w2, w3, rfl, hR2, ⟨Nat.le_trans hlen.1 hl2.1, hl2.2⟩, w4, locs ++ L, w5, hL2, fun hb => by cases hb⟩
            rw [doInvoke_state]
            refine hsteps.trans ?_
            rw [hs₂]
            exact w1
          · cases hgo2
      · cases hgo2
  · cases h1
end ZCA
