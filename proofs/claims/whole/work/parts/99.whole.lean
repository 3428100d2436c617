def R_law : String := "PantryMarketLaw"
def lw_P (b : Addr) (xs : List Int32) (args : Array Value) (s : State) : Prop := args = #[.ref b] ∧ s.IntsAt b xs ∧ xs.length ≤ 2561 ∧ (Jvm.Cond.and given_1 narrow_1).before args s = true
def lw_Q (_ : Array Value) (s : State) (o : Outcome) (t : State) : Prop := o = .returned (some (.int 1)) ∧ Framed s o t [] 605903 7278361
def lw_Z (below : List Frame) (a : Array Value) (s : State) : State → Prop := fun t => ∃ o, t.status = .running ∧ Ended t below o ∧ lw_Q a s o t
/-- what holds at the law's entry: the machine, the code, the tables' words (any of lw_tbl by 'hts w (by decide +kernel)'), the script of L ints xs at the cell b, what the Statement gives of the start (any of its parts by flat_of_before) -/
def lw_At (p : Program) (s : State) (m : MethodId) (meth : Method) (c : Code) (b L : Nat) (xs : Nat → Int32) : Prop :=
  p.tables.exec = Jvm.exec ∧ c.code = code ∧ meth.sig.returnType = ret ∧ c.maxLocals = 7 ∧ s.vm.findClass R_law = some m.cls ∧ (∀ w ∈ lw_tbl, w.before #[Value.ref b] s = true) ∧ va_X b L xs s s.heap ∧ b < s.heap.size ∧ meth.locks = false ∧ (Jvm.Cond.and given_1 narrow_1).before #[Value.ref b] s = true ∧ c.exceptionTable.toList = [] ∧ meth.name = "law"
theorem zD_of {s : State} {b : Nat} (hts : ∀ w ∈ lw_tbl, w.before #[Value.ref b] s = true) : ∃ D : va_G, va_K D zvc [] s := by
  have h : ∀ ci : Nat, ∃ d : ClassId × (Nat → Nat), ∀ q : vw_C, zvc[ci]? = some q → u_Kn s q.1 q.2.1 q.2.2 d.1 d.2 := by
    intro ci
    by_cases hci : ci < 7
    · obtain ⟨C, T, f1, f2, f3, f4, f5, f6, f7, f8⟩ := zcl_of hci
      obtain ⟨cC, iS, hK⟩ := u_known hts f2 (hts _ f5)
      refine ⟨(cC, iS), fun q hq => ?_⟩
      cases f1.symm.trans hq
      exact hK
    · refine ⟨(0, fun _ => 0), fun q hq => ?_⟩
      have h1 := (List.getElem?_eq_some_iff.mp hq).1
      have h2 : zvc.length = 7 := by decide +kernel
      omega
  refine ⟨(fun ci => (h ci).choose.1, fun ci => (h ci).choose.2), fun ci q hq => (h ci).choose_spec q hq, fun k q hk => by simp at hk⟩
theorem zcast_of {s : State} {b : Nat} (hgv : (Jvm.Cond.and given_1 narrow_1).before #[Value.ref b] s = true) : ∀ x y : Nat, x < 3 → y < 3 → x ≠ y → (Cond.not (Cond.castable (zexn.getD x "") (zexn.getD y ""))).before #[Value.ref b] s = true := by
  have hs := flat_of_before _ hgv
  have h : ∀ x, x < 3 → ∀ y, y < 3 → x ≠ y → Cond.not (Cond.castable (zexn.getD x "") (zexn.getD y "")) ∈ flatC (Jvm.Cond.and given_1 narrow_1) := by decide +kernel
  exact fun x y hx hy hxy => hs _ (h x hx y hy hxy)
theorem zforget {s t : State} {L : List Loc} {k n k' n' : Nat} (h : s.sameButNew t L k n) (hL : ∀ q ∈ L, s.heap.size ≤ q.base) (hk : k ≤ k') (hn : n ≤ n') : s.sameButNew t [] k' n' :=
  h.weaken (fun y hy hlt => absurd hlt (Nat.not_lt.mpr (hL y hy))) hk hn
theorem whole_start {p : Program} {e : Env} {s : State} {m : MethodId} {below : List Frame} {meth : Method} {c : Code} (l : Launch) (hl : l.stackTraces = false) {b L : Nat} {xs : Nat → Int32} (hL : L ≤ 2561) (C0 : lw_At p s m meth c b L xs) (hpl : e.platform.stackTraces = false) : W p l e room_1 s m #[Value.ref b] below meth c s.heap [] 0 0 (lw_Z below #[Value.ref b] s) (entryFrame m ([Value.ref b] : List Value).toArray 7) := by
  obtain ⟨hexec, hb, hret, hml, hown, hts, hX, hbl, hlocks, hgv, htab, hname⟩ := C0
  obtain ⟨D, hD⟩ := zD_of hts
  have hs := flat_of_before _ hgv
  have hB : zB s D b := ⟨hbl, hts, hD, hs _ (by decide +kernel), hs _ (by decide +kernel), zcast_of hgv⟩
  have hE : zEn s s := ⟨State.WarmedH.refl s, fun q _ => rfl⟩
  obtain ⟨scr, h1, h2, h3, h4, h5⟩ := hX
  have hR : zRel s D b [(100, ((List.range L).map xs).map Value.int)] s.heap := by
    refine ⟨⟨by simp, by simp⟩, fun q _ => rfl, fun k cc hk => ?_⟩
    cases k with
    | succ k => simp at hk
    | zero =>
      cases hk
      refine ⟨scr, h1, fun y => absurd y (by simp), fun _ _ => ⟨h3, h2, fun y => absurd y (by simp), ?_⟩, fun y => absurd y (by simp)⟩
      apply Array.ext_getElem?
      intro i
      by_cases hi : i < L
      · rw [h5 i hi]
        simp [hi, zv]
      · rw [Array.getElem?_eq_none_iff.mpr (by omega)]
        symm
        rw [Array.getElem?_eq_none_iff]
        simp
        omega
  obtain ⟨f, h', cl, hrun⟩ := zpure ((List.range L).map xs) (by simpa using hL)
  have hC : zCx p e room_1 s m meth c s D b 144 _ _ [(100, ((List.range L).map xs).map Value.int)] :=
    ⟨⟨hexec, hpl, hB, hE⟩, ⟨rfl, rfl, zmok_all (by decide)⟩, ⟨hb, hml, by rw [htab]; rfl, hret, hlocks, hown, hname⟩, ⟨by decide, by decide, by simp [zcap, room_1], by simp [zcap, room_1]⟩⟩
  have K := zsound l hl f 144 0 _ [] _ true _ hrun p e room_1 s m #[Value.ref b] below meth c s.heap [] _ _ _ hC rfl hR (by simp) ⟨Nat.le_refl _, by simp [zcap]⟩ (fun _ => ⟨rfl, rfl⟩)
  rw [entry_eq m [Value.ref b] (by simp [Value.category]) 7]
  rw [Nat.sub_self, Nat.mul_zero] at K
  intro T hT X
  obtain ⟨t, a1, o, b1, b2, g1, g2, g3, g4, LL, g5, g6, -⟩ := K T hT X
  refine ⟨t, a1, o, b1, b2, g1, ⟨_, g1⟩, g4, zforget g5 g6 ?_ ?_⟩
  · have := g3.2
    simp [zcap] at this
    show h'.length - _ ≤ _
    simp
    omega
  · have := g3.2
    simp [zcap] at this
    show 820 * (h'.length - _) ≤ _
    simp
    omega
set_option maxHeartbeats 4000000 in
theorem lw_walk (l : Launch) (hl : l.stackTraces = false) (b : Addr) (xs : List Int32) : MetFree l x (headSpec (Jvm.Cond.code x code maxLocals ret :: tables_1) room_1) (lw_P b xs) (fun _ _ _ _ _ => True) lw_Q := by
  refine MetFree.of_bodyS (code := code) (maxLocals := maxLocals) (ret := ret) (by decide) ?_ ?_
  · intro args s m h hn
    obtain ⟨meth, c, h1, h2, h3, h4, h5, h6, -, -⟩ := Cond.code_spec hn (atoms_spec (ws := Jvm.Cond.code x code maxLocals ret :: tables_1) h _ List.mem_cons_self)
    exact ⟨meth, c, h1, h2, h3, h4, h5, h6⟩
  · intro p e s m args below meth c s₁ B hml0 hP _
    obtain ⟨rfl, hx, hbd, hgv⟩ := hP
    obtain ⟨scr, harrAt, hlist, hof, hsmall⟩ := hx
    obtain ⟨hcb, hkn, -, -⟩ := State.arrayAt?_spec harrAt
    have hown : s.vm.findClass R_law = some m.cls := findClass_of_methodNamed B.named
    have hts0 : ∀ c ∈ (Jvm.Cond.code x code maxLocals ret :: tables_1), c.before #[Value.ref b] s = true := atoms_spec (ws := Jvm.Cond.code x code maxLocals ret :: tables_1) B.pre
    have hts : ∀ w ∈ lw_tbl, w.before #[Value.ref b] s = true := k2_hts_sels lw_privs (fun w hw => hts0 w (List.mem_cons_of_mem _ hw)) lw_privs_ok
    have hml : c.maxLocals = 7 := B.maxLocals_eq (hts0 _ List.mem_cons_self)
    have X₀ : Stand p l e room_1 s m #[Value.ref b] below meth c s₁ [] 0 0 := Stand.of_body B
    have htab : c.exceptionTable.toList = [] := by
      obtain ⟨meth', c', g1, g2, -, -, -, -, g7, -⟩ := Cond.code_spec B.named (hts0 _ List.mem_cons_self)
      cases B.method.symm.trans g1
      cases X₀.code.symm.trans g2
      have : c.exceptionTable = #[] := by simpa using g7
      rw [this]
    have hh0 : s₁.heap = s.heap := by rw [B.state]; rfl
    have hsz : scr.slots.size = xs.length := by rw [← Array.length_toList, hlist, List.length_map]
    have hval : ∀ j : Nat, j < xs.length → scr.slots[j]? = some (.int (xs.getD j 0)) := fun j hj => by
      rw [← Array.getElem?_toList, hlist]
      simp [hj]
    have hbl : b < s.heap.size := (Array.getElem?_eq_some_iff.mp hcb).1
    have hX : va_X b xs.length (fun j => xs.getD j 0) s s.heap := ⟨scr, hcb, hof, hkn, hsz, hval⟩
    have K : W p l e room_1 s m #[Value.ref b] below meth c s₁.heap [] 0 0 (lw_Z below #[Value.ref b] s) (entryFrame m ([Value.ref b] : List Value).toArray 7) := by
      rw [hh0]
      exact whole_start l hl hbd ⟨B.exec, B.bytes, B.returns, hml, hown, hts, hX, hbl, B.notSynchronized, hgv, htab, (name_of_methodNamed B.named B.method).1⟩ (by rw [B.admits.platform]; exact hl)
    obtain ⟨t, a1, o, b1, b2, b3⟩ := K s₁ rfl X₀
    exact ⟨t, o, a1, b1, b2, b3⟩
theorem lw_pre_spec {args : Array Value} {s : State} (h : (Jvm.Cond.and given_1 narrow_1).before args s = true) (hr : rest_1_c.before args s = true) : ∃ (b : Addr) (xs : List Int32), lw_P b xs args s := by
  have hs := flat_of_before _ h
  have hq := flat_of_before _ hr
  have hc : (Cond.count 1).before args s = true := hs _ (by decide +kernel)
  have harr : (Cond.arrayOf (.arg 0) .int).before args s = true := hs _ (by decide +kernel)
  have hle : (Cond.le (.length (.arg 0)) (.int 2561)).before args s = true := hs _ (by decide +kernel)
  have hlen : (Cond.isInt (.length (.arg 0))).before args s = true := hq _ (by decide +kernel)
  have hall : (Cond.all (.arg 0) (.isInt (.elem (.arg 0) (.index 0)))).before args s = true := hq _ (by decide +kernel)
  obtain ⟨b, xs, hb, hx⟩ := State.ints_of_pre rfl harr hlen hall
  have hsm : xs.length < 2 ^ 31 := hx.choose_spec.2.2.2
  have hev : (Term.length (.arg 0)).eval args s none [] s = some (.int xs.length.toInt32) := hx.length_eval hb
  have hv := Cond.le_ints hev (show (Term.int 2561).eval args s none [] s = some (.int 2561) from rfl)
  have hd : xs.length.toInt32 ≤ 2561 := by
    simpa [Cond.before, Cond.holds, hv] using hle
  have hN : xs.length ≤ 2561 := (Int32.ofNat_le_ofNat hsm (by decide)).mp (show Int32.ofNat xs.length ≤ Int32.ofNat 2561 from hd)
  exact ⟨b, xs, Cond.one_arg hc (show args[0]? = some (.ref b) from hb), hx, hN, h⟩
theorem lw_comes (l : Launch) (hl : l.stackTraces = false) : Comes l x (Jvm.Cond.code x code maxLocals ret :: tables_1) room_1 (fun tb e args s => Calls_1 tb e args s ∧ rest_1 tb e args s ∧ Pre_1 tb e args s)
    (fun _ _ args s o t => lw_Q args s o t) := by
  intro p e ha hc hk s m args below hf hfit hheap happ hpre
  obtain ⟨b, xs, hP⟩ := lw_pre_spec hpre.2.2 hpre.2.1
  obtain ⟨k, o, h1, h2, h3, hQ⟩ := lw_walk l hl b xs p e ha hc hk s m args below hf ((Spec.applies_iff_loose hf).mp happ).1 hP trivial
  exact ⟨k, o, h1, h2, h3, hQ⟩
theorem lw_frame {s t : State} {o : Outcome} {args : Array Value} (h : Framed s o t [] 605903 7278361) :
    Framed s o t (fieldLocs frame_1_writes args s ++ arrayLocs frame_1_arrays args s ++ staticLocs frame_1_statics s) 605903 7278361 := h
theorem lw_limb (L : Cond) (hL : ∀ (args : Array Value) (s t : State), L.after args s (.returned (some (.int 1))) t = true) :
    ArmFor flags0 classFile x code maxLocals ret World_1 tables_1 room_1 Calls_1 rest_1 Pre_1
      (fun tb e a s o t => postC L tb e a s o t ∧ Framed s o t (fieldLocs frame_1_writes a s ++ arrayLocs frame_1_arrays a s ++ staticLocs frame_1_statics s) 605903 7278361) := by
  intro l hfl _ _ p e ha hc hk s m args below hf hfit hheap happ hpre
  have hl : l.stackTraces = false := by
    unfold Launch.stackTraces
    rw [hfl]
    decide +kernel
  obtain ⟨k, o, h1, h2, h3, rfl, hF⟩ := lw_comes l hl p e ha hc hk s m args below hf hfit hheap happ hpre
  exact ⟨k, _, h1, h2, h3, hL args s _, lw_frame hF⟩
theorem i_vc : Claimed_1_1 ∧ Claimed_1_2 := ⟨lw_limb limb_1_1 (fun args s t => by simp [limb_1_1, Cond.after, Cond.holds, Cond.value]), lw_limb limb_1_2 (fun args s t => Cond.after_iff.mpr (by
  first | (rw [show limb_1_2 = Cond.eq .result (.int 1) from rfl, Cond.eq_ints (x := 1) (y := 1) rfl rfl]; simp; done) | (simp [limb_1_2, Cond.value, Term.eval]; done)))⟩
