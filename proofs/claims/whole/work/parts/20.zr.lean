/-- the step of zrun, with the way on as an argument -/
def zstep (run : Nat → Nat → List Slot → List Value → Zh → Bool → Option Zr) (j pc : Nat) (ls : List Slot) (st : List Value) (h : Zh) (cl : Bool) (M : Zm) (q : Instr × List Nat) : Option Zr :=
      match zkind q.1 with
      | 0 => (zfr q.1 pc ls st).bind fun r => run j r.1 r.2.1 r.2.2 h cl
      | 1 => (zhp q.1 q.2 st h).bind fun r => run j (pc + zlen q.1) ls r.1 r.2.1 (cl && !r.2.2)
      | _ =>
        match q.1, q.2 with
        | .ireturn, _ => zi1 st fun v r => if r = [] ∧ (zMr M = 1 ∨ (zMr M = 2 ∧ (v = 0 ∨ v = 1))) then some (.inl (some (.int v)), h, cl) else none
        | .return_, _ => if st = [] ∧ zMr M = 0 then some (.inl none, h, cl) else none
        | .ldc _, 1 :: v :: _ => run j (pc + 2) ls (.int (Int32.ofNat v) :: st) h cl
        | .ldc_w _, 1 :: v :: _ => run j (pc + 3) ls (.int (Int32.ofNat v) :: st) h cl
        | .new _, t :: _ =>
          if t < 7 then
            (if h.length < zcap then run j (pc + 3) ls (.ref h.length :: st) (h ++ [(t, znewv t)]) false else none)
          else zthr M t pc st h cl
        | .invokespecial _, 4 :: _ => zr1 st fun _ r => if 1 ≤ zMf M ∧ 40 ≤ zMl M ∧ r.length ≤ 8 then run j (pc + 3) ls r h cl else none
        | .invokestatic _, 0 :: _ => zi1 st fun k r => zi1 r fun dp r => zp1 r fun a r => zi1 r fun sp r => zr1 r fun b r =>
          (h[b]?).bind fun c => (h[a + 1]?).bind fun d =>
            if c.1 = 100 ∧ d.1 = 100 ∧ ¬ sp < 0 ∧ ¬ dp < 0 ∧ ¬ k < 0 ∧ sp.toNatClampNeg + k.toNatClampNeg ≤ c.2.length ∧ dp.toNatClampNeg + k.toNatClampNeg ≤ d.2.length ∧ c.2.all zisi = true ∧ 1 ≤ zMf M ∧ 40 ≤ zMl M ∧ r.length ≤ 8 then
              run j (pc + 3) ls r (h.set (a + 1) (100, zcpy c.2 d.2 sp.toNatClampNeg dp.toNatClampNeg k.toNatClampNeg)) false
            else none
        | .invokestatic _, 1 :: j' :: _ =>
          (zmi[j']?).bind fun N => if zMs N = true ∧ zMp N ≤ st.length then
            zcall run (run j · ls · · ·) M j' pc (st.take (zMp N)).reverse (st.drop (zMp N)) h cl else none
        | .invokevirtual _, 2 :: j' :: _ :: _ :: ci :: _ => zobj run (run j · ls · · ·) M j' ci pc st h cl
        | .invokespecial _, 3 :: j' :: _ :: _ :: ci :: _ => zobj run (run j · ls · · ·) M j' ci pc st h cl
        | _, _ => none
theorem zrun_succ (n j pc : Nat) (ls : List Slot) (st : List Value) (h : Zh) (cl : Bool) : zrun (n + 1) j pc ls st h cl = (zmi[j]?).bind fun M => (zlk (zMc M) pc).bind fun q => zstep (zrun n) j pc ls st h cl M q := rfl
abbrev Zrun : Type := Nat → Nat → List Slot → List Value → Zh → Bool → Option Zr
def zle (f g : Zrun) : Prop := ∀ j pc ls st h cl r, f j pc ls st h cl = some r → g j pc ls st h cl = some r
theorem zcall_mono {f g : Zrun} (hfg : zle f g) {j0 : Nat} {ls : List Slot} {M : Zm} {j pc : Nat} {vs st : List Value} {h : Zh} {cl : Bool} {r : Zr} (hr : zcall f (f j0 · ls · · ·) M j pc vs st h cl = some r) : zcall g (g j0 · ls · · ·) M j pc vs st h cl = some r := by
  unfold zcall at hr ⊢
  obtain ⟨N, hN, h1⟩ := Option.bind_eq_some_iff.mp hr
  rw [hN, Option.bind_some]
  split at h1
  · rename_i hc
    rw [if_pos hc]
    obtain ⟨r', hr', h2⟩ := Option.bind_eq_some_iff.mp h1
    rw [hfg _ _ _ _ _ _ _ hr', Option.bind_some]
    obtain ⟨ro, h', c'⟩ := r'
    cases ro with
    | inl v => exact hfg _ _ _ _ _ _ _ h2
    | inr a =>
      unfold zgo at h2 ⊢
      dsimp only at h2 ⊢
      obtain ⟨c, hc1, h3⟩ := Option.bind_eq_some_iff.mp h2
      rw [hc1, Option.bind_some]
      split at h3
      · rename_i hcc
        rw [if_pos hcc]
        split at h3
        · exact hfg _ _ _ _ _ _ _ h3
        · exact h3
      · cases h3
  · cases h1
theorem zobj_mono {f g : Zrun} (hfg : zle f g) {j0 : Nat} {ls : List Slot} {M : Zm} {j ci pc : Nat} {st : List Value} {h : Zh} {cl : Bool} {r : Zr} (hr : zobj f (f j0 · ls · · ·) M j ci pc st h cl = some r) : zobj g (g j0 · ls · · ·) M j ci pc st h cl = some r := by
  unfold zobj at hr ⊢
  obtain ⟨N, hN, h1⟩ := Option.bind_eq_some_iff.mp hr
  rw [hN, Option.bind_some]
  split at h1
  · rename_i hc
    rw [if_pos hc]
    obtain ⟨a, r', hr', h2⟩ := zr1_some h1
    rw [hr']
    show ((h[a]?).bind _) = _
    obtain ⟨c, hc1, h3⟩ := Option.bind_eq_some_iff.mp h2
    rw [hc1, Option.bind_some]
    split at h3
    · rename_i hcc
      rw [if_pos hcc]
      exact zcall_mono hfg h3
    · cases h3
  · cases h1
theorem zstep_mono {f g : Zrun} (hfg : zle f g) {j pc : Nat} {ls : List Slot} {st : List Value} {h : Zh} {cl : Bool} {M : Zm} {q : Instr × List Nat} {r : Zr} (hr : zstep f j pc ls st h cl M q = some r) : zstep g j pc ls st h cl M q = some r := by
  unfold zstep at hr ⊢
  split at hr
  · obtain ⟨r0, hr0, h3⟩ := Option.bind_eq_some_iff.mp hr
    show ((zfr q.1 pc ls st).bind _) = _
    rw [hr0, Option.bind_some]
    exact hfg _ _ _ _ _ _ _ h3
  · obtain ⟨r0, hr0, h3⟩ := Option.bind_eq_some_iff.mp hr
    show ((zhp q.1 q.2 st h).bind _) = _
    rw [hr0, Option.bind_some]
    exact hfg _ _ _ _ _ _ _ h3
  · obtain ⟨ins, ax⟩ := q
    dsimp only at hr ⊢
    split at hr
    · exact hr
    · exact hr
    · exact hfg _ _ _ _ _ _ _ hr
    · exact hfg _ _ _ _ _ _ _ hr
    · split at hr
      · rename_i ht
        rw [if_pos ht]
        split at hr
        · rename_i hc
          rw [if_pos hc]
          exact hfg _ _ _ _ _ _ _ hr
        · cases hr
      · rename_i ht
        rw [if_neg ht]
        exact hr
    · obtain ⟨a, r1, rfl, h3⟩ := zr1_some hr
      show (if _ then _ else _) = _
      split at h3
      · rename_i hc
        rw [if_pos hc]
        exact hfg _ _ _ _ _ _ _ h3
      · cases h3
    · obtain ⟨k, r1, rfl, h31⟩ := zi1_some hr
      obtain ⟨dp, r2, rfl, h32⟩ := zi1_some h31
      obtain ⟨a, r3, rfl, h33⟩ := zp1_some h32
      obtain ⟨sp, r4, rfl, h34⟩ := zi1_some h33
      obtain ⟨x, r5, rfl, h35⟩ := zr1_some h34
      obtain ⟨cx, hx, h4⟩ := Option.bind_eq_some_iff.mp h35
      obtain ⟨ca, ha, h5⟩ := Option.bind_eq_some_iff.mp h4
      show ((h[x]?).bind _) = _
      rw [hx, Option.bind_some, ha, Option.bind_some]
      split at h5
      · rename_i hc
        rw [if_pos hc]
        exact hfg _ _ _ _ _ _ _ h5
      · cases h5
    · obtain ⟨N, hN, h3⟩ := Option.bind_eq_some_iff.mp hr
      show ((zmi[_]?).bind _) = _
      rw [hN, Option.bind_some]
      split at h3
      · rename_i hc
        rw [if_pos hc]
        exact zcall_mono hfg h3
      · cases h3
    · exact zobj_mono hfg hr
    · exact zobj_mono hfg hr
    · cases hr
theorem zrun_mono1 : ∀ n, zle (zrun n) (zrun (n + 1))
  | 0 => fun j pc ls st h cl r hr => by cases hr
  | n + 1 => fun j pc ls st h cl r hr => by
    rw [zrun_succ] at hr ⊢
    obtain ⟨M, hM, h1⟩ := Option.bind_eq_some_iff.mp hr
    obtain ⟨q, hq, h2⟩ := Option.bind_eq_some_iff.mp h1
    rw [hM, Option.bind_some, hq, Option.bind_some]
    exact zstep_mono (zrun_mono1 n) h2
theorem zrun_mono {n m : Nat} (h : n ≤ m) : zle (zrun n) (zrun m) := by
  obtain ⟨k, rfl⟩ := Nat.le.dest h
  induction k with
  | zero => exact fun j pc ls st h cl r hr => hr
  | succ k ih => exact fun j pc ls st h cl r hr => zrun_mono1 (n + k) _ _ _ _ _ _ _ (ih (by omega) _ _ _ _ _ _ _ hr)
/-- it runs to r -/
def ZR (j pc : Nat) (ls : List Slot) (st : List Value) (h : Zh) (cl : Bool) (r : Zr) : Prop := ∃ f, zrun f j pc ls st h cl = some r
