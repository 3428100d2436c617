def zwk : Cond → Bool
  | .arrayClass _ => true
  | .arrayOver (.object _) => true
  | .stringRef _ _ _ => true
  | .laysStatic _ _ _ => true
  | .fieldLinkNest _ _ _ _ _ _ => true
  | .methodLinkNest _ _ _ _ => true
  | w => w.onTables && w.keepsFace
theorem zwk_all : lw_tbl.all zwk = true := by decide +kernel
/-- where a state lies behind the start: warmer tables, the old cells as they were -/
def zEn (s0 U : State) : Prop := s0.WarmedH U.vm ∧ ∀ q : Nat, q < s0.heap.size → U.heap[q]? = s0.heap[q]?
theorem zlays_move {s0 U : State} {A A' : Array Value} {o n d : String} (hE : zEn s0 U) (h : (Cond.laysStatic o n d).before A s0 = true) : (Cond.laysStatic o n d).before A' U = true := by
  obtain ⟨c, k, i, f, a, cell, hc, hi, hst, ha, hcell, hs, hcls, hlt, hty⟩ := Cond.laysStatic_spec h
  have hvm := hE.1.alike
  obtain ⟨k', hi', he⟩ := State.fieldFound?_setVm hvm hi
  have hc' : U.vm.findClass o = some c := by rw [hvm.findClass]; exact hc
  have hi2 : U.fieldFound? o n d = some (c, k', i, f) := hi'
  have ha' : k'.statics = some a := by rw [he]; exact ha
  have hty' : k'.staticTypes[f.slot]? = some f.type := by rw [he]; exact hty
  have hcell' : U.heap[a]? = some cell := by rw [hE.2 a (Array.getElem?_eq_some_iff.mp hcell).1]; exact hcell
  simp [Cond.before, Cond.holds, Cond.value, hc', hi2, ha', hcell', hst, hs, hcls, hlt, hty']
theorem zref_move {s0 U : State} {A A' : Array Value} {o n d : String} (hE : zEn s0 U) (hl : (Cond.laysStatic o n d).before A s0 = true) (hini : (Cond.initialized o).before A s0 = true) (h : (Cond.isRef (.static o n d)).before A s0 = true) : (Cond.isRef (.static o n d)).before A' U = true := by
  have hZ := va_Zqof (A := fun q => s0.heap.size ≤ q) hl hini h (fun a ha => Nat.not_le.mpr ha)
  have hZ2 := (hZ.moved hE.1.alike).kept (H1 := U.heap) (fun a ha _ => hE.2 a ha)
  have key : ∀ v : Value, va_Z o n d v (fun q => s0.heap.size ≤ q) U U.heap → (Term.static o n d).eval A' U none [] U = some v := by
    intro v hv
    obtain ⟨cf, kf, fi, f, a, cell, h1, h2, h3, h4, h5, h6, h7, h8⟩ := hv
    simp [Term.eval, State.fieldNamed?, h1, h2, h4, h5, h6, h7]
  rcases hZ2 with hz | ⟨t, hz⟩
  · simp [Cond.before, Cond.holds, Cond.value, key _ hz]
  · simp [Cond.before, Cond.holds, Cond.value, key _ hz]
theorem zwat {s0 U : State} {A A' : Array Value} (hE : zEn s0 U) {w : Cond} (hw : w ∈ lw_tbl) (h : w.before A s0 = true) : w.before A' U = true := by
  have hk : zwk w = true := List.all_eq_true.mp zwk_all w hw
  have face : w.onTables = true → w.keepsFace = true → w.before A' U = true := fun h1 h2 =>
    va_tabs h1 (rfl : (s0.setVm U.vm).vm = U.vm) (Cond.before_shiftedFace (State.Shifted.of_warmed hE.1) w h2 h)
  unfold zwk at hk
  split at hk
  · exact word_at hE.1 (Or.inr ⟨_, rfl⟩) h
  · exact va_AO.use (va_AO.moved hE.1.alike (va_AO.of h))
  · have h1 := Cond.stringRef_warmed hE.1 h
    simp only [Cond.before, Cond.holds, Cond.value, State.names, State.poolOf?, State.resolvedAt?] at h1 ⊢
    exact h1
  · exact zlays_move hE h
  · exact va_tabs rfl (rfl : (s0.setVm U.vm).vm = U.vm) (Cond.fieldLinkNest_warmed hE.1 h)
  · exact va_tabs rfl (rfl : (s0.setVm U.vm).vm = U.vm) (Cond.methodLinkNest_warmed hE.1 h)
  · rw [Bool.and_eq_true] at hk
    exact face hk.1 hk.2
