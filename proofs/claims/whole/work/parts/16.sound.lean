theorem zlk_mem : ∀ {L : List Ze} {pc : Nat} {x : Instr × List Nat}, zlk L pc = some x → (pc, x) ∈ L
  | [], _, _, h => by cases h
  | y :: t, pc, x, h => by
    unfold zlk at h
    cases hb : Nat.beq y.1 pc with
    | true =>
      simp only [hb, cond_true, Option.some.injEq] at h
      have := Nat.eq_of_beq_eq_true hb
      subst h
      subst this
      exact List.mem_cons_self
    | false =>
      simp only [hb, cond_false] at h
      exact List.mem_cons_of_mem _ (zlk_mem h)
theorem zmok_ent {j : Nat} {q : Zn} {N : Zm} (hm : zmok j = true) (hq : zmn[j]? = some q) (hN : zmi[j]? = some N) {pc : Nat} {ins : Instr} {ax : List Nat} (h : zlk (zMc N) pc = some (ins, ax)) :
    (∃ n, decode q.2.1 pc = .ok (ins, n) ∧ (n = zlen ins ∨ ztab ins = true)) ∧ zall q.1.cls (decide (q.1.name = "<init>")) ins ax = true := by
  unfold zmok at hm
  rw [hq, hN] at hm
  simp only [Bool.and_eq_true, List.all_eq_true] at hm
  have h1 := hm.1.1 _ (zlk_mem h)
  unfold zentok at h1
  rw [Bool.and_eq_true] at h1
  obtain ⟨h1, h2⟩ := h1
  refine ⟨?_, h2⟩
  split at h1
  · rename_i i n hd
    simp only [Bool.and_eq_true, Bool.or_eq_true, decide_eq_true_eq] at h1
    obtain ⟨rfl, h3⟩ := h1
    exact ⟨n, hd, h3⟩
  · cases h1
theorem zmok_rest {j : Nat} {q : Zn} {N : Zm} (hm : zmok j = true) (hq : zmn[j]? = some q) (hN : zmi[j]? = some N) : (∀ x ∈ zMh N, zevh q.1.cls x = true) ∧ q.2.2.1 = zrett (zMr N) := by
  unfold zmok at hm
  rw [hq, hN] at hm
  simp only [Bool.and_eq_true, List.all_eq_true, decide_eq_true_eq] at hm
  exact ⟨hm.1.2, hm.2⟩
theorem zdec1 {cc : ByteArray} {pc : Nat} {ins : Instr} (h : ∃ n, decode cc pc = .ok (ins, n) ∧ (n = zlen ins ∨ ztab ins = true)) (ht : ztab ins = false) : decode cc pc = .ok (ins, zlen ins) := by
  obtain ⟨n, h1, h2 | h2⟩ := h
  · rw [← h2]; exact h1
  · rw [ht] at h2; cases h2
theorem zst_len2 {ls l : List Slot} {i : Nat} {v : Value} (h : zst ls i v = some l) : l.length = ls.length := zst_len h
set_option maxHeartbeats 4000000 in
theorem zfr_len {ins : Instr} {pc : Nat} {ls : List Slot} {st : List Value} {r : Nat × List Slot × List Value} (h : zfr ins pc ls st = some r) : r.2.1.length = ls.length := by
  cases ins
  case iconst v => cases h; rfl
  case bipush v => cases h; rfl
  case sipush v => cases h; rfl
  case iload i => obtain ⟨x, hx, h⟩ := zli_some h; cases h; rfl
  case iload_n i => obtain ⟨x, hx, h⟩ := zli_some h; cases h; rfl
  case aload i => obtain ⟨x, hx, h⟩ := zlr_some h; cases h; rfl
  case aload_n i => obtain ⟨x, hx, h⟩ := zlr_some h; cases h; rfl
  case istore i => obtain ⟨x, r, rfl, h⟩ := zi1_some h; obtain ⟨l', hl', h⟩ := Option.bind_eq_some_iff.mp h; cases h; exact zst_len hl'
  case istore_n i => obtain ⟨x, r, rfl, h⟩ := zi1_some h; obtain ⟨l', hl', h⟩ := Option.bind_eq_some_iff.mp h; cases h; exact zst_len hl'
  case astore i => obtain ⟨x, r, rfl, h⟩ := zr1_some h; obtain ⟨l', hl', h⟩ := Option.bind_eq_some_iff.mp h; cases h; exact zst_len hl'
  case astore_n i => obtain ⟨x, r, rfl, h⟩ := zr1_some h; obtain ⟨l', hl', h⟩ := Option.bind_eq_some_iff.mp h; cases h; exact zst_len hl'
  case iinc i v => obtain ⟨x, hx, h⟩ := zli_some h; obtain ⟨l', hl', h⟩ := Option.bind_eq_some_iff.mp h; cases h; exact zst_len hl'
  case pop => obtain ⟨x, r, rfl, h⟩ := zi1_some h; cases h; rfl
  case dup => obtain ⟨x, r, rfl, h⟩ := zr1_some h; cases h; rfl
  case dup2 => obtain ⟨y, r, rfl, h⟩ := zi1_some h; obtain ⟨x, r, rfl, h⟩ := zr1_some h; cases h; rfl
  case idiv =>
    obtain ⟨y, r, rfl, h1⟩ := zi1_some h; obtain ⟨x, r, rfl, h2⟩ := zi1_some h1
    split at h2
    · cases h2
    · cases h2; rfl
  case irem =>
    obtain ⟨y, r, rfl, h1⟩ := zi1_some h; obtain ⟨x, r, rfl, h2⟩ := zi1_some h1
    split at h2
    · cases h2
    · cases h2; rfl
  case ineg => obtain ⟨x, r, rfl, h⟩ := zi1_some h; cases h; rfl
  case i2l => obtain ⟨x, r, rfl, h⟩ := zi1_some h; cases h; rfl
  case lcmp => obtain ⟨y, r, rfl, h⟩ := zl1_some h; obtain ⟨x, r, rfl, h⟩ := zl1_some h; cases h; rfl
  case goto off => obtain ⟨t, ht, h⟩ := Option.bind_eq_some_iff.mp h; cases h; rfl
  case ifCond cd off => obtain ⟨x, r, rfl, h1⟩ := zi1_some h; unfold zbr at h1; obtain ⟨t, ht, h2⟩ := Option.bind_eq_some_iff.mp h1; cases h2; rfl
  case if_icmp cd off => obtain ⟨y, r, rfl, h0⟩ := zi1_some h; obtain ⟨x, r, rfl, h1⟩ := zi1_some h0; unfold zbr at h1; obtain ⟨t, ht, h2⟩ := Option.bind_eq_some_iff.mp h1; cases h2; rfl
  case tableswitch d lo hi offs =>
    obtain ⟨x, r, rfl, h1⟩ := zi1_some h
    split at h1
    · obtain ⟨t, ht, h3⟩ := Option.bind_eq_some_iff.mp h1; cases h3; rfl
    · obtain ⟨o, ho, h2⟩ := Option.bind_eq_some_iff.mp h1
      obtain ⟨t, ht, h3⟩ := Option.bind_eq_some_iff.mp h2; cases h3; rfl
  all_goals first
    | (obtain ⟨y, r, rfl, h⟩ := zi1_some h; obtain ⟨x, r, rfl, h⟩ := zi1_some h; cases h; rfl)
    | exact absurd h (by simp [zfr])
/-- where a method stands -/
def zCx (p : Program) (e : Env) (R : Room) (s : State) (m : MethodId) (meth : Method) (c : Code) (s0 : State) (D : va_G) (b : Nat) (j : Nat) (N : Zm) (q : Zn) (h0 : Zh) : Prop :=
  (p.tables.exec = Jvm.exec ∧ e.platform.stackTraces = false ∧ zB s0 D b ∧ zEn s0 s) ∧ (zmi[j]? = some N ∧ zmn[j]? = some q ∧ zmok j = true) ∧
  (c.code = q.2.1 ∧ c.maxLocals = zM0 N ∧ c.exceptionTable.toList = tableOf (zh4 (zMh N)) ∧ meth.sig.returnType = q.2.2.1 ∧ meth.locks = false ∧ s.vm.findClass q.1.cls = some m.cls ∧ meth.name = q.1.name) ∧
  (zMf N ≤ R.frames ∧ zMl N ≤ R.locals ∧ zcap - h0.length ≤ R.cells ∧ 820 * (zcap - h0.length) ≤ R.slots)
section ZSO
variable {p : Program} {l : Launch} {e : Env} {R : Room} {s : State} {m : MethodId} {args : Array Value} {below : List Frame} {meth : Method} {c : Code} {H : Heap} {locs : List Loc} {Q : State → Prop}
variable {pc j : Nat} {lz : Array Slot} {b : Nat} {s0 : State} {D : va_G} {h h0 : Zh} {N : Zm} {q : Zn} {st : List Value}
set_option maxHeartbeats 4000000 in
theorem zhp_ok (hC : zCx p e R s m meth c s0 D b j N q h0) {ins : Instr} {ax : List Nat} {r : List Value × Zh × Bool} (hd : ∃ n, decode q.2.1 pc = .ok (ins, n) ∧ (n = zlen ins ∨ ztab ins = true)) (hev : zall q.1.cls (decide (q.1.name = "<init>")) ins ax = true) (hr : zhp ins ax st h = some r) (hR : zRel s0 D b h H) (hL : ∀ x ∈ locs, s0.heap.size ≤ x.base) (hlen : h0.length ≤ h.length ∧ h.length ≤ zcap)
    (kk : ∀ (H' : Heap) (locs' : List Loc), zRel s0 D b r.2.1 H' → (∀ x ∈ locs', s0.heap.size ≤ x.base) → (h0.length ≤ r.2.1.length ∧ r.2.1.length ≤ zcap) → (r.2.2 = false → r.2.1 = h ∧ locs' = locs) → W p l e R s m args below meth c H' locs' (r.2.1.length - h0.length) (820 * (r.2.1.length - h0.length)) Q (F0 m (pc + zlen ins) lz (r.1.map (zv b s0.heap.size)))) :
    W p l e R s m args below meth c H locs (h.length - h0.length) (820 * (h.length - h0.length)) Q (F0 m pc lz (st.map (zv b s0.heap.size))) := by
  obtain ⟨⟨hexec, htr, hB, hE⟩, ⟨hN, hq, hok⟩, ⟨hb, hml, htab, hret, hlocks, hown, hname⟩, hfr, hlo, hce, hsl⟩ := hC
  have hinit : decide (q.1.name = "<init>") = true → meth.name = "<init>" := fun y => by rw [hname]; exact of_decide_eq_true y
  have pushed : ∀ x : Zc, (h ++ [x]).length - h0.length = h.length - h0.length + 1 := fun x => by have := hlen.1; simp; omega
  have pushed2 : ∀ x : Zc, 820 * ((h ++ [x]).length - h0.length) = 820 * (h.length - h0.length) + 820 := fun x => by rw [pushed]; omega
  cases ins
  case getfield idx =>
    match ax, hev, hr with
    | ci :: k :: w :: ne :: tl, hev, hr =>
      obtain ⟨a, r', rfl, h1⟩ := zr1_some hr
      obtain ⟨cl, hcl, h2⟩ := Option.bind_eq_some_iff.mp h1
      split at h2
      · rename_i htag
        obtain ⟨v, hv, h3⟩ := Option.bind_eq_some_iff.mp h2
        cases h3
        exact zget_ok hexec hb hB hE hown (zdec1 hd rfl) hev hcl htag hv hR (kk H locs hR hL hlen fun _ => ⟨rfl, rfl⟩)
      · cases h2
  case putfield idx =>
    match ax, hev, hr with
    | ci :: k :: w :: ne :: tl, hev, hr =>
      have hev : (zevf q.1.cls idx ci k w ne && zevp q.1.cls (decide (q.1.name = "<init>")) ci k ne) = true := hev
      rw [Bool.and_eq_true] at hev
      obtain ⟨v, r', rfl, h1⟩ := zv1_some hr
      obtain ⟨a, r', rfl, h1⟩ := zp1_some h1
      obtain ⟨cl, hcl, h2⟩ := Option.bind_eq_some_iff.mp h1
      split at h2
      · rename_i ht
        obtain ⟨htag, hk, hfit⟩ := ht
        cases h2
        refine zput_ok hexec hb hB hE hown hinit (zdec1 hd rfl) hev.1 hev.2 hcl htag hk hfit hR hL fun H' locs' g1 g2 => ?_
        have := kk H' locs' g1 g2 (by simpa using hlen) (fun y => by cases y)
        simp only [List.length_set] at this
        exact this
      · cases h2
  case arraylength =>
    obtain ⟨a, r', rfl, h1⟩ := zr1_some hr
    obtain ⟨cl, hcl, h2⟩ := Option.bind_eq_some_iff.mp h1
    split at h2
    · rename_i ht
      cases h2
      exact zalen_ok hexec hb hE hR (zdec1 hd rfl) hcl ht.1 ht.2 (kk H locs hR hL hlen fun _ => ⟨rfl, rfl⟩)
    · cases h2
  case iaload =>
    obtain ⟨i, r', rfl, h1⟩ := zi1_some hr
    obtain ⟨a, r', rfl, h1⟩ := zr1_some h1
    obtain ⟨cl, k, v, hcl, htag, hk, hv, h3⟩ := zrd_some h1
    cases h3
    exact zload_ok hexec hb hE hR (Or.inl ⟨rfl, rfl⟩) (zdec1 hd rfl) hcl htag hk hv (kk H locs hR hL hlen fun _ => ⟨rfl, rfl⟩)
  case laload =>
    obtain ⟨i, r', rfl, h1⟩ := zi1_some hr
    obtain ⟨a, r', rfl, h1⟩ := zr1_some h1
    obtain ⟨cl, k, v, hcl, htag, hk, hv, h3⟩ := zrd_some h1
    cases h3
    exact zload_ok hexec hb hE hR (Or.inr (Or.inl ⟨rfl, rfl⟩)) (zdec1 hd rfl) hcl htag hk hv (kk H locs hR hL hlen fun _ => ⟨rfl, rfl⟩)
  case baload =>
    obtain ⟨i, r', rfl, h1⟩ := zi1_some hr
    obtain ⟨a, r', rfl, h1⟩ := zr1_some h1
    obtain ⟨cl, k, v, hcl, htag, hk, hv, h3⟩ := zrd_some h1
    cases h3
    exact zload_ok hexec hb hE hR (Or.inr (Or.inr (Or.inl ⟨rfl, rfl⟩))) (zdec1 hd rfl) hcl htag hk hv (kk H locs hR hL hlen fun _ => ⟨rfl, rfl⟩)
  case aaload =>
    match ax, hr with
    | t :: tl, hr =>
      obtain ⟨i, r', rfl, h1⟩ := zi1_some hr
      obtain ⟨a, r', rfl, h1⟩ := zr1_some h1
      split at h1
      · rename_i ht
        obtain ⟨cl, k, v, hcl, htag, hk, hv, h3⟩ := zrd_some h1
        cases h3
        exact zload_ok hexec hb hE hR (Or.inr (Or.inr (Or.inr ⟨rfl, ht⟩))) (zdec1 hd rfl) hcl htag hk hv (kk H locs hR hL hlen fun _ => ⟨rfl, rfl⟩)
      · cases h1
  case iastore =>
    obtain ⟨x, r', rfl, h1⟩ := zi1_some hr
    obtain ⟨i, r', rfl, h1⟩ := zi1_some h1
    obtain ⟨a, r', rfl, h1⟩ := zp1_some h1
    obtain ⟨cl, k, hcl, htag, hk, rfl⟩ := zwr_some h1
    refine zstore_ok hexec hb hB hE hR hL (Or.inl ⟨rfl, rfl, x, rfl⟩) (zdec1 hd rfl) hcl htag hk fun H' locs' g1 g2 => ?_
    have := kk H' locs' g1 g2 (by simpa using hlen) (fun y => by cases y)
    simp only [List.length_set] at this
    exact this
  case lastore =>
    obtain ⟨x, r', rfl, h1⟩ := zl1_some hr
    obtain ⟨i, r', rfl, h1⟩ := zi1_some h1
    obtain ⟨a, r', rfl, h1⟩ := zp1_some h1
    obtain ⟨cl, k, hcl, htag, hk, rfl⟩ := zwr_some h1
    refine zstore_ok hexec hb hB hE hR hL (Or.inr (Or.inl ⟨rfl, rfl, x, rfl⟩)) (zdec1 hd rfl) hcl htag hk fun H' locs' g1 g2 => ?_
    have := kk H' locs' g1 g2 (by simpa using hlen) (fun y => by cases y)
    simp only [List.length_set] at this
    exact this
  case bastore =>
    obtain ⟨x, r', rfl, h1⟩ := zi1_some hr
    obtain ⟨i, r', rfl, h1⟩ := zi1_some h1
    obtain ⟨a, r', rfl, h1⟩ := zp1_some h1
    split at h1
    · rename_i hx
      obtain ⟨cl, k, hcl, htag, hk, rfl⟩ := zwr_some h1
      refine zstore_ok (v := .int x) hexec hb hB hE hR hL (Or.inr (Or.inr ⟨rfl, rfl, by rcases hx with rfl | rfl <;> simp⟩)) (zdec1 hd rfl) hcl htag hk fun H' locs' g1 g2 => ?_
      have := kk H' locs' g1 g2 (by simpa using hlen) (fun y => by cases y)
      simp only [List.length_set] at this
      exact this
    · cases h1
  case aastore =>
    match ax, hr with
    | t :: tl, hr =>
      obtain ⟨x, r', rfl, h1⟩ := zr1_some hr
      obtain ⟨i, r', rfl, h1⟩ := zi1_some h1
      obtain ⟨a, r', rfl, h1⟩ := zp1_some h1
      obtain ⟨d, hd2, h2⟩ := Option.bind_eq_some_iff.mp h1
      split at h2
      · rename_i hx
        obtain ⟨cl, k, hcl, htag, hk, rfl⟩ := zwr_some h2
        refine zaast_ok hexec hb hB hE hR hL (zdec1 hd rfl) hcl htag hd2 hx hk fun H' locs' g1 g2 => ?_
        have := kk H' locs' g1 g2 (by simpa using hlen) (fun y => by cases y)
        simp only [List.length_set] at this
        exact this
      · cases h2
  case newarray t =>
    obtain ⟨n, r', rfl, h1⟩ := zi1_some hr
    obtain ⟨y, hy, h2⟩ := Option.bind_eq_some_iff.mp h1
    split at h2
    · rename_i hx
      obtain ⟨hn, hN8, hcap⟩ := hx
      cases h2
      have hev2 : Cond.arrayClass (newarray.typeOf t) ∈ lw_tbl := of_decide_eq_true hev
      refine znewa_ok hexec hb hB hE hR (zdec1 hd rfl) hev2 hy hn hN8 (by have := hlen.1; omega) (by have := hlen.1; omega) fun H' g1 => ?_
      have := kk H' locs g1 hL ⟨by have := hlen.1; simp; omega, by simp; omega⟩ (fun y => by cases y)
      rw [pushed, show 820 * (h.length - h0.length + 1) = 820 * (h.length - h0.length) + 820 by omega] at this
      exact this
    · cases h2
  case anewarray idx =>
    match ax, hev, hr with
    | t :: w :: tl, hev, hr =>
      obtain ⟨n, r', rfl, h1⟩ := zi1_some hr
      split at h1
      · rename_i hx
        obtain ⟨ht, hn, hN8, hcap⟩ := hx
        cases h1
        refine zanew_ok hexec hb hB hE hR hown ht (zdec1 hd rfl) hev hn hN8 (by have := hlen.1; omega) (by have := hlen.1; omega) fun H' g1 => ?_
        have := kk H' locs g1 hL ⟨by have := hlen.1; simp; omega, by simp; omega⟩ (fun y => by cases y)
        rw [pushed, show 820 * (h.length - h0.length + 1) = 820 * (h.length - h0.length) + 820 by omega] at this
        exact this
      · cases h1
  all_goals exact absurd hr (by simp [zhp])
end ZSO
