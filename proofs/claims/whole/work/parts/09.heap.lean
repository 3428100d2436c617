def zR (s0 : State) (D : va_G) (b : Nat) (c : Zc) (cell : Cell) : Prop :=
  (c.1 < 7 → cell.cls = D.1 c.1 ∧ cell.vm = .none ∧ c.2.length = zfn c.1 ∧ ∀ k, k < zfn c.1 → cell.slots[D.2 c.1 k]? = some (zv b s0.heap.size (c.2.getD k .null))) ∧
  (100 ≤ c.1 → c.1 < 105 → cell.vm ≠ .unknown ∧ s0.isArrayOf cell (zaty c.1) ∧ (103 ≤ c.1 → va_RA s0 cell.cls (zaty c.1)) ∧ cell.slots = (c.2.map (zv b s0.heap.size)).toArray) ∧
  (200 ≤ c.1 → c.1 < 203 → s0.vm.findClass (zexn.getD (c.1 - 200) "") = some cell.cls ∧ cell.vm.isStatics = false)
def zRel (s0 : State) (D : va_G) (b : Nat) (h : Zh) (H : Heap) : Prop :=
  (1 ≤ h.length ∧ H.size + 1 = s0.heap.size + h.length) ∧ (∀ q : Nat, q < s0.heap.size → H[q]? = s0.heap[q]?) ∧ ∀ (k : Nat) (c : Zc), h[k]? = some c → ∃ cell, H[zrf b s0.heap.size k]? = some cell ∧ zR s0 D b c cell
theorem zrf_inj {b z : Nat} (hb : b < z) {i j : Nat} (h : zrf b z i = zrf b z j) : i = j := by
  cases i <;> cases j <;> simp only [zrf] at h <;> omega
theorem zRel.set {s0 : State} {D : va_G} {b : Nat} {h : Zh} {H H' : Heap} {k : Nat} {c' : Zc} {cell : Cell} (hb : b < s0.heap.size) (hR : zRel s0 D b h H) (hc : H'[zrf b s0.heap.size (k + 1)]? = some cell) (hz : zR s0 D b c' cell) (hs : H'.size = H.size) (ho : ∀ q : Nat, q ≠ zrf b s0.heap.size (k + 1) → H'[q]? = H[q]?) : zRel s0 D b (h.set (k + 1) c') H' := by
  obtain ⟨h1, h2, h3⟩ := hR
  refine ⟨by rw [List.length_set, hs]; exact h1, fun q hq => ?_, fun i c hi => ?_⟩
  · rw [ho q (by simp only [zrf]; omega)]; exact h2 q hq
  · by_cases hik : i = k + 1
    · subst hik
      rw [List.getElem?_set] at hi
      simp only [if_true] at hi
      split at hi
      · cases hi; exact ⟨cell, hc, hz⟩
      · cases hi
    · rw [List.getElem?_set_ne (Ne.symm hik)] at hi
      obtain ⟨cl, g1, g2⟩ := h3 i c hi
      exact ⟨cl, by rw [ho _ (fun e => hik (zrf_inj hb e))]; exact g1, g2⟩
theorem zRel.push {s0 : State} {D : va_G} {b : Nat} {h : Zh} {H H' : Heap} {c' : Zc} {cell : Cell} (hb : b < s0.heap.size) (hR : zRel s0 D b h H) (hc : H'[H.size]? = some cell) (hz : zR s0 D b c' cell) (hs : H'.size = H.size + 1) (ho : ∀ q : Nat, q < H.size → H'[q]? = H[q]?) : zRel s0 D b (h ++ [c']) H' := by
  obtain ⟨⟨h0, h1⟩, h2, h3⟩ := hR
  refine ⟨⟨by simp, by rw [List.length_append, hs]; simp only [List.length_cons, List.length_nil]; omega⟩, fun q hq => ?_, fun i c hi => ?_⟩
  · rw [ho q (by omega)]; exact h2 q hq
  · by_cases hik : i < h.length
    · rw [List.getElem?_append_left hik] at hi
      obtain ⟨cl, g1, g2⟩ := h3 i c hi
      exact ⟨cl, by rw [ho _ (Array.getElem?_eq_some_iff.mp g1).1]; exact g1, g2⟩
    · have hlt := (List.getElem?_eq_some_iff.mp hi).1
      rw [List.length_append, List.length_cons, List.length_nil] at hlt
      have he : i = h.length := by omega
      subst he
      rw [List.getElem?_append_right (Nat.le_refl _), Nat.sub_self] at hi
      cases hi
      have e : zrf b s0.heap.size h.length = H.size := by
        obtain ⟨n, hn⟩ : ∃ n, h.length = n + 1 := ⟨h.length - 1, by omega⟩
        rw [hn]
        simp only [zrf]
        omega
      exact ⟨cell, by rw [e]; exact hc, hz⟩
theorem zRel.top {s0 : State} {D : va_G} {b : Nat} {h : Zh} {H : Heap} (hR : zRel s0 D b h H) : zrf b s0.heap.size h.length = H.size := by
  obtain ⟨⟨h0, h1⟩, -⟩ := hR
  obtain ⟨n, hn⟩ : ∃ n, h.length = n + 1 := ⟨h.length - 1, by omega⟩
  rw [hn]
  simp only [zrf]
  omega
theorem zRel.en {s0 : State} {D : va_G} {b : Nat} {h : Zh} {U : State} (hR : zRel s0 D b h U.heap) (hW : s0.WarmedH U.vm) : zEn s0 U := ⟨hW, hR.2.1⟩
/-- what is given at the start -/
def zB (s0 : State) (D : va_G) (b : Nat) : Prop :=
  b < s0.heap.size ∧ (∀ w ∈ lw_tbl, w.before #[Value.ref b] s0 = true) ∧ va_K D zvc [] s0 ∧
  (Cond.isRef (.static "java/lang/Throwable" "UNASSIGNED_STACK" "[Ljava/lang/StackTraceElement;")).before #[Value.ref b] s0 = true ∧
  (Cond.isRef (.static "java/lang/Throwable" "SUPPRESSED_SENTINEL" "Ljava/util/List;")).before #[Value.ref b] s0 = true ∧
  ∀ x y : Nat, x < 3 → y < 3 → x ≠ y → (Cond.not (Cond.castable (zexn.getD x "") (zexn.getD y ""))).before #[Value.ref b] s0 = true
def zfty (ci k : Nat) : FieldType := (parseFieldDescriptor (((zvc.getD ci ("", zT [], 0)).2.1 k).2.2.1)).getD .int
def zkok (ty : FieldType) : Nat → Bool
  | 0 => decide (ty = .int)
  | 1 => decide (ty = .boolean)
  | 2 => match ty with
    | .object _ => true
    | .array _ => true
    | _ => false
  | _ => false
def zclok (ci : Nat) : Bool :=
  match zvc[ci]? with
  | none => false
  | some q => decide (q.2.2 = zfn ci) && (u_ws q.1 q.2.1 q.2.2).all (fun w => decide (w ∈ lw_tbl)) && (List.range q.2.2).all (fun a => (List.range q.2.2).all (fun b => decide (a = b ∨ (q.2.1 a).2.1 ≠ (q.2.1 b).2.1))) && (List.range q.2.2).all (fun k => decide (parseFieldDescriptor (q.2.1 k).2.2.1 = some (zfty ci k)) && zkok (zfty ci k) (zfk ci k) && decide ((q.2.1 k).1 = q.1) && decide (defaultValue (zfty ci k) = zdv (zfk ci k)))
    && decide (Cond.instantiable q.1 (zfn ci) ∈ lw_tbl) && decide (Cond.initialized q.1 ∈ lw_tbl) && decide ((znewv ci).length = zfn ci) && decide (zfn ci ≤ 820)
theorem zclok_all : (List.range 7).all zclok = true := by decide +kernel
theorem zcl_of {ci : Nat} (h : ci < 7) : ∃ (C : String) (T : u_T), zvc[ci]? = some (C, T, zfn ci) ∧ (∀ w ∈ u_ws C T (zfn ci), w ∈ lw_tbl) ∧ (∀ a, a < zfn ci → ∀ b, b < zfn ci → a ≠ b → (T a).2.1 ≠ (T b).2.1) ∧
    (∀ k, k < zfn ci → parseFieldDescriptor (T k).2.2.1 = some (zfty ci k) ∧ zkok (zfty ci k) (zfk ci k) = true ∧ (T k).1 = C ∧ defaultValue (zfty ci k) = zdv (zfk ci k)) ∧ Cond.instantiable C (zfn ci) ∈ lw_tbl ∧ Cond.initialized C ∈ lw_tbl ∧ (znewv ci).length = zfn ci ∧ zfn ci ≤ 820 := by
  have h1 := List.all_eq_true.mp zclok_all ci (List.mem_range.mpr h)
  unfold zclok at h1
  split at h1
  · cases h1
  · rename_i q hq
    obtain ⟨C, T, N⟩ := q
    simp only [Bool.and_eq_true, decide_eq_true_eq, List.all_eq_true, List.mem_range] at h1
    obtain ⟨⟨⟨⟨⟨⟨⟨e1, e2⟩, e3⟩, e4⟩, e5⟩, e6⟩, e7⟩, e8⟩ := h1
    subst e1
    refine ⟨C, T, hq, e2, fun a ha b hb hab he => ?_, fun k hk => ?_, e5, e6, e7, e8⟩
    · rcases e3 a ha b hb with h3 | h3
      · exact hab h3
      · exact h3 he
    · obtain ⟨⟨⟨g1, g2⟩, g3⟩, g4⟩ := e4 k hk
      exact ⟨g1, g2, g3, g4⟩
