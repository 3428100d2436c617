theorem zble (a b : Nat) : decide (a ≤ b) = Nat.ble a b := by
  rw [Bool.eq_iff_iff]
  simp [Nat.ble_eq]
theorem zblt (a b : Nat) : decide (a < b) = Nat.blt a b := by
  rw [Bool.eq_iff_iff]
  simp [Nat.blt_eq]
section ZCT
theorem zgo_cold {Q : Handler → Pre} {E : CtlPost} {e : Env} {d : Bool} {acts : List Action} {S : State} {f : JFrame} {a : Addr} {x : ExceptionTableEntry} {t : List ExceptionTableEntry} {c : ClassId} {vm' : Vm} {ce : Cell} (hx : covers x f.pc = true) (h0 : x.catchType ≠ 0)
    (hg : (Jvm.resolveClass f.method.cls x.catchType).Gives e.toSetting S.vm (.ok c) vm') (hsz : vm'.classes.size ≤ S.vm.classes.size) (hcell : S.heap[a]? = some ce) (hobj : ∀ k, ce.vm ≠ .statics k)
    (hk : ∃ k, vm'.classes[ce.cls]? = some k) (hc : ∃ k, vm'.classes[c]? = some k) :
    wp (findHandler.go f a (x :: t)) Q E e d acts S ↔
      if vm'.assignable ce.cls c = true then Q (.found x.handlerPc) d acts (S.setVm vm') else wp (findHandler.go f a t) Q E e d acts (S.setVm vm') := by
  simp only [covers] at hx
  obtain ⟨ha, ht⟩ := hg.op (op := VmOp.resolveClass f.method.cls x.catchType) rfl
  cases hfit : vm'.assignable ce.cls c <;>
    simp [findHandler.go, hx, h0, ha, ht, hsz, hcell, hobj, hk, hc, hfit, VmOp.dirties, VmOp.acts]
theorem zcastable : ∀ x, x < 3 → Cond.castable (zexn.getD x "") (zexn.getD x "") ∈ lw_tbl := by decide +kernel
/-- which of the three catches which -/
theorem zassign {s0 s : State} {D : va_G} {b : Nat} (hB : zB s0 D b) (hW : s0.vm.Alike s.vm) {x y : Nat} {cx cy : ClassId} (hx : 200 ≤ x ∧ x < 203) (hy : 200 ≤ y ∧ y < 203) (h1 : s.vm.findClass (zexq x) = some cx) (h2 : s.vm.findClass (zexq y) = some cy) : s.vm.assignable cx cy = Nat.beq y x := by
  have h1' : s0.vm.findClass (zexq x) = some cx := by rw [← hW.findClass]; exact h1
  have h2' : s0.vm.findClass (zexq y) = some cy := by rw [← hW.findClass]; exact h2
  rw [hW.assignable]
  by_cases hxy : x = y
  · subst hxy
    obtain ⟨c, t, g1, g2, g3⟩ := Cond.castable_spec (hB.2.1 _ (zcastable (x - 200) (by omega)))
    have e1 : c = cx := Option.some.inj (g1.symm.trans h1')
    have e2 : t = cy := Option.some.inj (g2.symm.trans h2')
    rw [← e1, ← e2, g3]
    simp
  · obtain ⟨c, t, g1, g2, g3⟩ := va_Nc.of (hB.2.2.2.2.2 (x - 200) (y - 200) (by omega) (by omega) (by omega))
    have e1 : c = cx := Option.some.inj (g1.symm.trans h1')
    have e2 : t = cy := Option.some.inj (g2.symm.trans h2')
    rw [← e1, ← e2, g3]
    symm
    cases hq : Nat.beq y x
    · rfl
    · exact absurd (Nat.eq_of_beq_eq_true hq).symm hxy
theorem zfind {s0 s : State} {D : va_G} {b : Nat} {args : Array Value} (hB : zB s0 D b) (hE : zEn s0 s) {own : String} {m : MethodId} (hown : s.vm.findClass own = some m.cls) {e : Env} (hpl : e.platform.magicAccessors = ({} : Platform).magicAccessors) {f : JFrame} (hf : f.method = m) {a : Addr} {ce : Cell} {tag : Nat} (ht : 200 ≤ tag ∧ tag < 203) (hcls : s0.vm.findClass (zexq tag) = some ce.cls) (hst : ce.vm.isStatics = false) :
    ∀ hs : List (Nat × Nat × Nat × Nat × Nat × Nat), (∀ x ∈ hs, zevh own x = true) → ∀ S : State, s.WarmedH S.vm → S.heap[a]? = some ce → ∀ q, zhand hs f.pc tag = some q →
      ∃ vm', s.WarmedH vm' ∧ ∀ (Q : Handler → Pre) (E : CtlPost) (d : Bool) (acts : List Action), wp (findHandler.go f a (tableOf (zh4 hs))) Q E e d acts S ↔ Q (.found q) d acts (S.setVm vm')
  | [], _, _, _, _, q, h => by cases h
  | x :: t, hev, S, hW, hcell, q, h => by
    obtain ⟨x1, x2, x3, x4, x5, x6⟩ := x
    have hev1 := hev _ List.mem_cons_self
    simp only [zevh, Bool.and_eq_true, decide_eq_true_eq] at hev1
    obtain ⟨⟨⟨e1, e2⟩, e3⟩, e4⟩ := hev1
    have htl : ∀ x ∈ t, zevh own x = true := fun y hy => hev y (List.mem_cons_of_mem _ hy)
    unfold zhand at h
    have hE2 : zEn s0 s := hE
    cases hcov : (Nat.ble x1 f.pc && Nat.blt f.pc x2) with
    | false =>
      simp only [hcov, cond_false] at h
      obtain ⟨vm', w1, w2⟩ := zfind (args := args) hB hE hown hpl hf ht hcls hst t htl S hW hcell q h
      refine ⟨vm', w1, fun Q E d acts => ?_⟩
      rw [← w2 Q E d acts]
      refine W.findHandler_go_skip (x := ⟨x1, x2, x3, x4⟩) (t := tableOf (zh4 t)) ?_
      have hc2 : (decide (x1 ≤ f.pc) && decide (f.pc < x2)) = false := by rw [zble, zblt]; exact hcov
      simp only [covers]
      exact hc2
    | true =>
      simp only [hcov, cond_true] at h
      have hcv : covers (⟨x1, x2, x3, x4⟩ : ExceptionTableEntry) f.pc = true := by
        simp only [covers]
        simpa [Nat.ble_eq, Nat.blt_eq] using hcov
      obtain ⟨cc, hfcc, hcl⟩ := Cond.classLink_spec hown (zw_at (args := args) hB hE (zmem e1)) e.platform hpl
      obtain ⟨hg₁, hwarm₁, hready₁⟩ := State.classEntry (e := e) hW hcl
      have hal : s0.vm.Alike (S.vm.noted m.cls x4 (.cls cc)) := hE.1.alike.trans hwarm₁.alike
      have hsz : (S.vm.noted m.cls x4 (.cls cc)).classes.size ≤ S.vm.classes.size := by simp [Vm.noted]
      have hcE : s.vm.findClass (zexq tag) = some ce.cls := by rw [hE.1.alike.findClass]; exact hcls
      have hcE1 : (S.vm.noted m.cls x4 (.cls cc)).findClass (zexq tag) = some ce.cls := by rw [hwarm₁.alike.findClass]; exact hcE
      have hcx1 : (S.vm.noted m.cls x4 (.cls cc)).findClass (zexq x5) = some cc := by rw [hwarm₁.alike.findClass]; exact hfcc
      have has : (S.vm.noted m.cls x4 (.cls cc)).assignable ce.cls cc = Nat.beq x5 tag := zassign (s := S.setVm (S.vm.noted m.cls x4 (.cls cc))) hB hal ht ⟨e2, e3⟩ hcE1 hcx1
      have key : ∀ (Q : Handler → Pre) (E : CtlPost) (d : Bool) (acts : List Action), wp (findHandler.go f a (tableOf (zh4 ((x1, x2, x3, x4, x5, x6) :: t)))) Q E e d acts S ↔ if (S.vm.noted m.cls x4 (.cls cc)).assignable ce.cls cc = true then Q (.found x3) d acts (S.setVm (S.vm.noted m.cls x4 (.cls cc))) else wp (findHandler.go f a (tableOf (zh4 t))) Q E e d acts (S.setVm (S.vm.noted m.cls x4 (.cls cc))) := fun Q E d acts =>
        zgo_cold (x := ⟨x1, x2, x3, x4⟩) (t := tableOf (zh4 t)) hcv e4 (by rw [hf]; exact hg₁) hsz hcell (fun k h => by rw [h] at hst; cases hst) (Vm.classAt_of_findClass hcE1) (Vm.classAt_of_findClass hcx1)
      cases hb : Nat.beq x5 tag with
      | true =>
        simp only [hb, cond_true] at h
        cases h
        refine ⟨_, hwarm₁, fun Q E d acts => ?_⟩
        rw [key Q E d acts, has, hb, if_pos rfl]
      | false =>
        simp only [hb, cond_false] at h
        obtain ⟨vm', w1, w2⟩ := zfind (args := args) hB hE hown hpl hf ht hcls hst t htl (S.setVm (S.vm.noted m.cls x4 (.cls cc))) hwarm₁ hcell q h
        refine ⟨vm', w1, fun Q E d acts => ?_⟩
        rw [key Q E d acts, has, hb, if_neg (by decide)]
        exact w2 Q E d acts
theorem zstepcatch {e : Env} {S : State} {a : Addr} {f : JFrame} {r : List Frame} {pc : Nat} {vm' : Vm} (hfind : ∀ (Q : Handler → Pre) (E : CtlPost) (d : Bool) (acts : List Action), wp (findHandler f a) Q E e d acts S ↔ Q (.found pc) d acts (S.setVm vm')) :
    (stepThrowing e S a (.java f :: r)).Is ((S.setVm vm').setFrames (.java { f with pc := pc, stack := [.ref a] } :: r)) [] := by
  simp only [stepThrowing, searchFrame, vmDo]
  generalize hr : Sem.go _ e false [] S = res
  obtain ⟨as, rfl, ha⟩ := Sem.eq_ok_of hr (a := Handler.found pc) (s' := S.setVm vm') (acts' := []) (by simp [hfind _ _ _ _])
  exact ⟨rfl, ha⟩
theorem zcaught {p : Program} {l : Launch} {e : Env} {R : Room} {s : State} {m : MethodId} {args : Array Value} {below : List Frame} {meth : Method} {c : Code} {U : State} {locs : List Loc} {cells slots : Nat} {s0 : State} {D : va_G} {b : Nat} {own : String} {hs : List (Nat × Nat × Nat × Nat × Nat × Nat)} {g : JFrame} {a : Addr} {ce : Cell} {tag q : Nat}
    (X : Stand p l e R s m args below meth c U locs cells slots) (hB : zB s0 D b) (hE : zEn s0 s) (hown : s.vm.findClass own = some m.cls) (hev : ∀ x ∈ hs, zevh own x = true) (htab : c.exceptionTable.toList = tableOf (zh4 hs)) (hg : g.method = m) (ht : 200 ≤ tag ∧ tag < 203) (hcls : s0.vm.findClass (zexq tag) = some ce.cls) (hst : ce.vm.isStatics = false) (hcell : U.heap[a]? = some ce) (hq : zhand hs g.pc tag = some q) :
    ∃ vm', Stand p l e R s m args below meth c (U.setVm vm') locs cells slots ∧ ∀ target, Steps p.tables e below ((U.setVm vm').setTop { g with pc := q, stack := [.ref a] }) target → Steps p.tables e below ((U.setTop g).pushFrame (.throwing a)) target := by
  have hpl : e.platform.magicAccessors = ({} : Platform).magicAccessors := by rw [X.admits.platform]
  obtain ⟨vm', w1, w2⟩ := zfind (args := args) hB hE hown hpl hg ht hcls hst hs hev ((U.setTop g).pushFrame (.throwing a)) X.warmed hcell q hq
  refine ⟨vm', X.noted w1, fun target hrest => ?_⟩
  have h : At U g.method c below := by rw [hg]; exact X.here
  obtain ⟨hgo, hw⟩ := h.throwing a
  refine Steps.head hgo hw ?_
  have hm : ((U.setTop g).pushFrame (.throwing a)).vm.method? g.method = some meth := by rw [hg]; exact X.method'
  have hfind : ∀ (Q : Handler → Pre) (E : CtlPost) (d : Bool) (acts : List Action), wp (findHandler g a) Q E e d acts ((U.setTop g).pushFrame (.throwing a)) ↔ Q (.found q) d acts (((U.setTop g).pushFrame (.throwing a)).setVm vm') := fun Q E d acts => by
    rw [W.findHandler_eq hm X.code, htab]
    exact w2 Q E d acts
  rw [stepThread_throwing (frames_entered h.top _), (zstepcatch (S := (U.setTop g).pushFrame (.throwing a)) hfind).1]
  obtain ⟨g₀, hg0⟩ := Option.isSome_iff_exists.mp h.top
  obtain ⟨r, hr⟩ := State.topJava?_eq_some.mp hg0
  have e1 : (((U.setTop g).pushFrame (.throwing a)).setVm vm').setFrames (.java { g with pc := q, stack := [.ref a] } :: U.frames.tail) = (U.setVm vm').setTop { g with pc := q, stack := [.ref a] } := by
    have hr' : (U.setVm vm').frames = .java g₀ :: r := hr
    rw [State.setTop_of_frames _ hr', State.pushFrame, State.setTop_of_frames _ hr, hr]
    show (((U.setFrames _).setFrames _).setFrames _).setVm vm' = (U.setFrames _).setVm vm'
    rw [State.setFrames_setFrames, State.setFrames_setFrames]
    rfl
  rw [e1]
  exact hrest
end ZCT
