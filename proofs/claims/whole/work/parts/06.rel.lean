theorem zi1_some {α : Type} {st : List Value} {f : Int32 → List Value → Option α} {q : α} (h : zi1 st f = some q) : ∃ x r, st = .int x :: r ∧ f x r = some q := by
  unfold zi1 at h
  split at h
  · exact ⟨_, _, rfl, h⟩
  · cases h
theorem zr1_some {α : Type} {st : List Value} {f : Nat → List Value → Option α} {q : α} (h : zr1 st f = some q) : ∃ x r, st = .ref x :: r ∧ f x r = some q := by
  unfold zr1 at h
  split at h
  · exact ⟨_, _, rfl, h⟩
  · cases h
theorem zl1_some {α : Type} {st : List Value} {f : Int64 → List Value → Option α} {q : α} (h : zl1 st f = some q) : ∃ x r, st = .long x :: r ∧ f x r = some q := by
  unfold zl1 at h
  split at h
  · exact ⟨_, _, rfl, h⟩
  · cases h
theorem zp1_some {α : Type} {st : List Value} {f : Nat → List Value → Option α} {q : α} (h : zp1 st f = some q) : ∃ x r, st = .ref (x + 1) :: r ∧ f x r = some q := by
  unfold zp1 at h
  split at h
  · exact ⟨_, _, rfl, h⟩
  · cases h
theorem zv1_some {α : Type} {st : List Value} {f : Value → List Value → Option α} {q : α} (h : zv1 st f = some q) : ∃ x r, st = x :: r ∧ f x r = some q := by
  unfold zv1 at h
  split at h
  · exact ⟨_, _, rfl, h⟩
  · cases h
theorem zli_some {α : Type} {ls : List Slot} {i : Nat} {f : Int32 → Option α} {q : α} (h : zli ls i f = some q) : ∃ x, ls[i]? = some (.val (.int x)) ∧ f x = some q := by
  unfold zli at h
  split at h
  · exact ⟨_, by assumption, h⟩
  · cases h
theorem zlr_some {α : Type} {ls : List Slot} {i : Nat} {f : Nat → Option α} {q : α} (h : zlr ls i f = some q) : ∃ x, ls[i]? = some (.val (.ref x)) ∧ f x = some q := by
  unfold zlr at h
  split at h
  · exact ⟨_, by assumption, h⟩
  · cases h
theorem ztg_some {pc t : Nat} {off : Int} (h : ztg pc off = some t) : (pc : Int) + off = (t : Int) := by
  unfold ztg at h
  split at h
  · cases h
    omega
  · cases h
def zrf (b z : Nat) : Nat → Nat
  | 0 => b
  | k + 1 => z + k
def zv (b z : Nat) : Value → Value
  | .ref a => .ref (zrf b z a)
  | v => v
def zs (b z : Nat) : Slot → Slot
  | .val v => .val (zv b z v)
  | x => x
def zls (b z : Nat) (ls : List Slot) : Array Slot := (ls.map (zs b z)).toArray
theorem zls_get {b z : Nat} {ls : List Slot} {i : Nat} {v : Value} (h : ls[i]? = some (.val v)) : (zls b z ls)[i]? = some (.val (zv b z v)) := by
  simp [zls, h, zs]
theorem zls_size {b z : Nat} {ls : List Slot} : (zls b z ls).size = ls.length := by simp [zls]
theorem zst_ok {b z : Nat} {ls l : List Slot} {i : Nat} {v : Value} (h : zst ls i v = some l) (hv : (zv b z v).category = 1) : storeLocals (zls b z ls) i (zv b z v) = some (zls b z l) := by
  unfold zst at h
  split at h
  · rename_i hx
    cases h
    rw [storeLocals_cat1 (x := .unset) (by simp [zls, hx, zs]) hv trivial]
    simp [zls, zs, List.map_set]
  · rename_i w hx
    cases h
    rw [storeLocals_cat1 (x := .val (.int w)) (by simp [zls, hx, zs, zv]) hv rfl]
    simp [zls, zs, List.map_set]
  · rename_i w hx
    cases h
    rw [storeLocals_cat1 (x := .val (.ref (zrf b z w))) (by simp [zls, hx, zs, zv]) hv rfl]
    simp [zls, zs, List.map_set]
  · cases h
theorem zst_len {ls l : List Slot} {i : Nat} {v : Value} (h : zst ls i v = some l) : l.length = ls.length := by
  unfold zst at h
  split at h <;> cases h <;> simp
section ZFR
variable {p : Program} {l : Launch} {e : Env} {R : Room} {s : State} {m : MethodId} {args : Array Value} {below : List Frame} {meth : Method} {c : Code} {H : Heap} {locs : List Loc} {cells slots : Nat} {Q : State → Prop}
variable {cc : ByteArray} {pc : Nat} {ls ls' : List Slot} {b z : Nat} {rest : List Value}
theorem zw_istore (hexec : p.tables.exec = Jvm.exec) (hb : c.code = cc) {i : Nat} {x : Int32} (hdg : decode cc pc = .ok (.istore i, 2)) (h : zst ls i (.int x) = some ls')
    (k : W p l e R s m args below meth c H locs cells slots Q (F0 m (pc + 2) (zls b z ls') rest)) : W p l e R s m args below meth c H locs cells slots Q (F0 m pc (zls b z ls) (.int x :: rest)) := by
  have e' := zst_ok (b := b) (z := z) h rfl
  simp only [zv] at e'
  intro T hT X
  obtain ⟨t, a, b⟩ := k T hT X
  refine ⟨t, ?_, b⟩
  jvm_step X.here [X.here.top, ↓top_set X.here.top, hexec, hb, hdg, e']
  exact a
theorem zw_istore_n (hexec : p.tables.exec = Jvm.exec) (hb : c.code = cc) {i : Fin 4} {x : Int32} (hdg : decode cc pc = .ok (.istore_n i, 1)) (h : zst ls i.val (.int x) = some ls')
    (k : W p l e R s m args below meth c H locs cells slots Q (F0 m (pc + 1) (zls b z ls') rest)) : W p l e R s m args below meth c H locs cells slots Q (F0 m pc (zls b z ls) (.int x :: rest)) := by
  have e' := zst_ok (b := b) (z := z) h rfl
  simp only [zv] at e'
  intro T hT X
  obtain ⟨t, a, b⟩ := k T hT X
  refine ⟨t, ?_, b⟩
  jvm_step X.here [X.here.top, ↓top_set X.here.top, hexec, hb, hdg, e']
  exact a
theorem zw_astore (hexec : p.tables.exec = Jvm.exec) (hb : c.code = cc) {i : Nat} {x : Nat} (hdg : decode cc pc = .ok (.astore i, 2)) (h : zst ls i (.ref x) = some ls')
    (k : W p l e R s m args below meth c H locs cells slots Q (F0 m (pc + 2) (zls b z ls') rest)) : W p l e R s m args below meth c H locs cells slots Q (F0 m pc (zls b z ls) (.ref (zrf b z x) :: rest)) := by
  have e' := zst_ok (b := b) (z := z) h rfl
  simp only [zv] at e'
  intro T hT X
  obtain ⟨t, a, b⟩ := k T hT X
  refine ⟨t, ?_, b⟩
  jvm_step X.here [X.here.top, ↓top_set X.here.top, hexec, hb, hdg, e', Value.isRef]
  exact a
theorem zw_astore_n (hexec : p.tables.exec = Jvm.exec) (hb : c.code = cc) {i : Fin 4} {x : Nat} (hdg : decode cc pc = .ok (.astore_n i, 1)) (h : zst ls i.val (.ref x) = some ls')
    (k : W p l e R s m args below meth c H locs cells slots Q (F0 m (pc + 1) (zls b z ls') rest)) : W p l e R s m args below meth c H locs cells slots Q (F0 m pc (zls b z ls) (.ref (zrf b z x) :: rest)) := by
  have e' := zst_ok (b := b) (z := z) h rfl
  simp only [zv] at e'
  intro T hT X
  obtain ⟨t, a, b⟩ := k T hT X
  refine ⟨t, ?_, b⟩
  jvm_step X.here [X.here.top, ↓top_set X.here.top, hexec, hb, hdg, e', Value.isRef]
  exact a
theorem zw_iinc (hexec : p.tables.exec = Jvm.exec) (hb : c.code = cc) {i : Nat} {n : Int} {x : Int32} (hdg : decode cc pc = .ok (.iinc i n, 3)) (hx : ls[i]? = some (.val (.int x))) (h : zst ls i (.int (x + Int32.ofInt n)) = some ls')
    (k : W p l e R s m args below meth c H locs cells slots Q (F0 m (pc + 3) (zls b z ls') rest)) : W p l e R s m args below meth c H locs cells slots Q (F0 m pc (zls b z ls) rest) := by
  have e' := zst_ok (b := b) (z := z) h rfl
  have hg := zls_get (b := b) (z := z) hx
  simp only [zv] at e' hg
  intro T hT X
  obtain ⟨t, a, b⟩ := k T hT X
  refine ⟨t, ?_, b⟩
  jvm_step X.here [X.here.top, ↓top_set X.here.top, hexec, hb, hdg, hg, e']
  exact a
theorem zw_dup2 (hexec : p.tables.exec = Jvm.exec) (hb : c.code = cc) {y : Int32} {x : Nat} {lz : Array Slot} (hdg : decode cc pc = .ok (.dup2, 1))
    (k : W p l e R s m args below meth c H locs cells slots Q (F0 m (pc + 1) lz (.int y :: .ref x :: .int y :: .ref x :: rest))) : W p l e R s m args below meth c H locs cells slots Q (F0 m pc lz (.int y :: .ref x :: rest)) := by
  intro T hT X
  obtain ⟨t, a, b⟩ := k T hT X
  refine ⟨t, ?_, b⟩
  jvm_step X.here [X.here.top, hexec, hb, hdg, Value.category]
  exact a
end ZFR
