section ZFS
variable {p : Program} {l : Launch} {e : Env} {R : Room} {s : State} {m : MethodId} {args : Array Value} {below : List Frame} {meth : Method} {c : Code} {H : Heap} {locs : List Loc} {cells slots : Nat} {Q : State → Prop}
variable {cc : ByteArray} {pc : Nat} {ls : List Slot} {b z : Nat}
theorem zbr_ok {cd : Bool} {off : Int} {r : Nat × List Slot × List Value} {st : List Value} (h : zbr cd pc off ls st = some r)
    (k : W p l e R s m args below meth c H locs cells slots Q (F0 m r.1 (zls b z r.2.1) (r.2.2.map (zv b z)))) :
    ∃ t : Nat, (pc : Int) + off = (t : Int) ∧ (cd = true → W p l e R s m args below meth c H locs cells slots Q (F0 m t (zls b z ls) (st.map (zv b z)))) ∧ (cd = false → W p l e R s m args below meth c H locs cells slots Q (F0 m (pc + 3) (zls b z ls) (st.map (zv b z)))) := by
  unfold zbr at h
  obtain ⟨t, ht, h⟩ := Option.bind_eq_some_iff.mp h
  cases h
  refine ⟨t, ztg_some ht, fun hc => ?_, fun hc => ?_⟩ <;> (subst hc; exact k)
theorem zif_ok (hexec : p.tables.exec = Jvm.exec) (hb : c.code = cc) {cd : ClassFile.Cond} {x : Int32} {off : Int} {tgt : Nat} {lz : Array Slot} {rest : List Value} (hdg : decode cc pc = .ok (.ifCond cd off, 3)) (ht : (pc : Int) + off = (tgt : Int))
    (kt : zcnd cd x 0 = true → W p l e R s m args below meth c H locs cells slots Q (F0 m tgt lz rest)) (kf : zcnd cd x 0 = false → W p l e R s m args below meth c H locs cells slots Q (F0 m (pc + 3) lz rest)) :
    W p l e R s m args below meth c H locs cells slots Q (F0 m pc lz (.int x :: rest)) := by
  cases cd
  · exact lv_if_eq hexec hb hdg ht (fun h => kt (by simpa [zcnd] using h)) (fun h => kf (by simpa [zcnd] using h))
  · exact lv_if_ne hexec hb hdg ht (fun h => kt (by simpa [zcnd] using h)) (fun h => kf (by simpa [zcnd] using h))
  · exact lv_if_lt hexec hb hdg ht (fun h => kt (by simpa [zcnd] using h)) (fun h => kf (by simpa [zcnd] using h))
  · exact lv_if_ge hexec hb hdg ht (fun h => kt (by simpa [zcnd] using h)) (fun h => kf (by simpa [zcnd] using h))
  · exact lv_if_gt hexec hb hdg ht (fun h => kt (by simpa [zcnd] using h)) (fun h => kf (by simpa [zcnd] using h))
  · exact lv_if_le hexec hb hdg ht (fun h => kt (by simpa [zcnd] using h)) (fun h => kf (by simpa [zcnd] using h))
theorem zcm_ok (hexec : p.tables.exec = Jvm.exec) (hb : c.code = cc) {cd : ClassFile.Cond} {x y : Int32} {off : Int} {tgt : Nat} {lz : Array Slot} {rest : List Value} (hdg : decode cc pc = .ok (.if_icmp cd off, 3)) (ht : (pc : Int) + off = (tgt : Int))
    (kt : zcnd cd x y = true → W p l e R s m args below meth c H locs cells slots Q (F0 m tgt lz rest)) (kf : zcnd cd x y = false → W p l e R s m args below meth c H locs cells slots Q (F0 m (pc + 3) lz rest)) :
    W p l e R s m args below meth c H locs cells slots Q (F0 m pc lz (.int y :: .int x :: rest)) := by
  cases cd
  · exact lv_icmp_eq hexec hb hdg ht (fun h => kt (by simpa [zcnd] using h)) (fun h => kf (by simpa [zcnd] using h))
  · exact lv_icmp_ne hexec hb hdg ht (fun h => kt (by simpa [zcnd] using h)) (fun h => kf (by simpa [zcnd] using h))
  · exact lv_icmp_lt hexec hb hdg ht (fun h => kt (by simpa [zcnd] using h)) (fun h => kf (by simpa [zcnd] using h))
  · exact lv_icmp_ge hexec hb hdg ht (fun h => kt (by simpa [zcnd] using h)) (fun h => kf (by simpa [zcnd] using h))
  · exact lv_icmp_gt hexec hb hdg ht (fun h => kt (by simpa [zcnd] using h)) (fun h => kf (by simpa [zcnd] using h))
  · exact lv_icmp_le hexec hb hdg ht (fun h => kt (by simpa [zcnd] using h)) (fun h => kf (by simpa [zcnd] using h))
set_option maxHeartbeats 4000000 in
theorem zfr_ok (hexec : p.tables.exec = Jvm.exec) (hb : c.code = cc) {ins : Instr} {n : Nat} {st : List Value} {r : Nat × List Slot × List Value} (hdg : decode cc pc = .ok (ins, n)) (hn : n = zlen ins ∨ ztab ins = true) (h : zfr ins pc ls st = some r)
    (k : W p l e R s m args below meth c H locs cells slots Q (F0 m r.1 (zls b z r.2.1) (r.2.2.map (zv b z)))) : W p l e R s m args below meth c H locs cells slots Q (F0 m pc (zls b z ls) (st.map (zv b z))) := by
  have hl : ztab ins = false → decode cc pc = .ok (ins, zlen ins) := fun hf => by
    rcases hn with hn | hn
    · rw [← hn]; exact hdg
    · rw [hf] at hn; cases hn
  cases ins
  case iconst v => cases h; exact lv_iconst hexec hb (hl rfl) rfl k
  case bipush v => cases h; exact lv_bipush hexec hb (hl rfl) rfl k
  case sipush v => cases h; exact lv_sipush hexec hb (hl rfl) rfl k
  case iload i => obtain ⟨x, hx, h⟩ := zli_some h; cases h; exact lv_iload hexec hb (hl rfl) (zls_get hx) k
  case iload_n i => obtain ⟨x, hx, h⟩ := zli_some h; cases h; exact lv_iload_n hexec hb (hl rfl) rfl (zls_get hx) k
  case aload i => obtain ⟨x, hx, h⟩ := zlr_some h; cases h; exact lv_aload hexec hb (hl rfl) (zls_get hx) k
  case aload_n i => obtain ⟨x, hx, h⟩ := zlr_some h; cases h; exact lv_aload_n hexec hb (hl rfl) rfl (zls_get hx) k
  case istore i => obtain ⟨x, r, rfl, h⟩ := zi1_some h; obtain ⟨l', hl', h⟩ := Option.bind_eq_some_iff.mp h; cases h; exact zw_istore hexec hb (hl rfl) hl' k
  case istore_n i => obtain ⟨x, r, rfl, h⟩ := zi1_some h; obtain ⟨l', hl', h⟩ := Option.bind_eq_some_iff.mp h; cases h; exact zw_istore_n hexec hb (hl rfl) hl' k
  case astore i => obtain ⟨x, r, rfl, h⟩ := zr1_some h; obtain ⟨l', hl', h⟩ := Option.bind_eq_some_iff.mp h; cases h; exact zw_astore hexec hb (hl rfl) hl' k
  case astore_n i => obtain ⟨x, r, rfl, h⟩ := zr1_some h; obtain ⟨l', hl', h⟩ := Option.bind_eq_some_iff.mp h; cases h; exact zw_astore_n hexec hb (hl rfl) hl' k
  case iinc i v => obtain ⟨x, hx, h⟩ := zli_some h; obtain ⟨l', hl', h⟩ := Option.bind_eq_some_iff.mp h; cases h; exact zw_iinc hexec hb (hl rfl) hx hl' k
  case pop => obtain ⟨x, r, rfl, h⟩ := zi1_some h; cases h; exact lv_pop hexec hb (hl rfl) rfl k
  case dup => obtain ⟨x, r, rfl, h⟩ := zr1_some h; cases h; exact lv_dup hexec hb (hl rfl) rfl k
  case dup2 => obtain ⟨y, r, rfl, h⟩ := zi1_some h; obtain ⟨x, r, rfl, h⟩ := zr1_some h; cases h; exact zw_dup2 hexec hb (hl rfl) k
  case iadd => obtain ⟨y, r, rfl, h⟩ := zi1_some h; obtain ⟨x, r, rfl, h⟩ := zi1_some h; cases h; exact lv_iadd hexec hb (hl rfl) k
  case isub => obtain ⟨y, r, rfl, h⟩ := zi1_some h; obtain ⟨x, r, rfl, h⟩ := zi1_some h; cases h; exact lv_isub hexec hb (hl rfl) k
  case imul => obtain ⟨y, r, rfl, h⟩ := zi1_some h; obtain ⟨x, r, rfl, h⟩ := zi1_some h; cases h; exact lv_imul hexec hb (hl rfl) k
  case idiv =>
    obtain ⟨y, r, rfl, h1⟩ := zi1_some h; obtain ⟨x, r, rfl, h2⟩ := zi1_some h1
    split at h2
    · cases h2
    · cases h2; exact lv_idiv hexec hb (hl rfl) (by assumption) k
  case irem =>
    obtain ⟨y, r, rfl, h1⟩ := zi1_some h; obtain ⟨x, r, rfl, h2⟩ := zi1_some h1
    split at h2
    · cases h2
    · cases h2; exact lv_irem hexec hb (hl rfl) (by assumption) k
  case ineg => obtain ⟨x, r, rfl, h⟩ := zi1_some h; cases h; exact lv_ineg hexec hb (hl rfl) k
  case iand => obtain ⟨y, r, rfl, h⟩ := zi1_some h; obtain ⟨x, r, rfl, h⟩ := zi1_some h; cases h; exact lv_iand hexec hb (hl rfl) k
  case ior => obtain ⟨y, r, rfl, h⟩ := zi1_some h; obtain ⟨x, r, rfl, h⟩ := zi1_some h; cases h; exact lv_ior hexec hb (hl rfl) k
  case ixor => obtain ⟨y, r, rfl, h⟩ := zi1_some h; obtain ⟨x, r, rfl, h⟩ := zi1_some h; cases h; exact lv_ixor hexec hb (hl rfl) k
  case ishl => obtain ⟨y, r, rfl, h⟩ := zi1_some h; obtain ⟨x, r, rfl, h⟩ := zi1_some h; cases h; exact lv_ishl hexec hb (hl rfl) k
  case ishr => obtain ⟨y, r, rfl, h⟩ := zi1_some h; obtain ⟨x, r, rfl, h⟩ := zi1_some h; cases h; exact lv_ishr hexec hb (hl rfl) k
  case iushr => obtain ⟨y, r, rfl, h⟩ := zi1_some h; obtain ⟨x, r, rfl, h⟩ := zi1_some h; cases h; exact lv_iushr hexec hb (hl rfl) rfl k
  case i2l => obtain ⟨x, r, rfl, h⟩ := zi1_some h; cases h; exact lv_i2l hexec hb (hl rfl) rfl k
  case lcmp => obtain ⟨y, r, rfl, h⟩ := zl1_some h; obtain ⟨x, r, rfl, h⟩ := zl1_some h; cases h; exact W.lcmp hexec hb (hl rfl) k
  case goto off => obtain ⟨t, ht, h⟩ := Option.bind_eq_some_iff.mp h; cases h; exact lv_goto hexec hb (hl rfl) (ztg_some ht) k
  case ifCond cd off => obtain ⟨x, r, rfl, h⟩ := zi1_some h; obtain ⟨t, ht, kt, kf⟩ := zbr_ok h k; exact zif_ok hexec hb (hl rfl) ht kt kf
  case if_icmp cd off => obtain ⟨y, r, rfl, h⟩ := zi1_some h; obtain ⟨x, r, rfl, h⟩ := zi1_some h; obtain ⟨t, ht, kt, kf⟩ := zbr_ok h k; exact zcm_ok hexec hb (hl rfl) ht kt kf
  case tableswitch d lo hi offs =>
    obtain ⟨x, r, rfl, h1⟩ := zi1_some h
    split at h1
    · obtain ⟨t, ht, h3⟩ := Option.bind_eq_some_iff.mp h1; cases h3
      exact lv_tableOut hexec hb hdg (by assumption) (ztg_some ht) k
    · rename_i hno
      obtain ⟨o, ho, h2⟩ := Option.bind_eq_some_iff.mp h1
      obtain ⟨t, ht, h3⟩ := Option.bind_eq_some_iff.mp h2; cases h3
      exact lv_tableIn hexec hb hdg (fun q => hno (Or.inl q)) (fun q => hno (Or.inr q)) ho (ztg_some ht) k
  all_goals exact absurd h (by simp [zfr])
end ZFS
