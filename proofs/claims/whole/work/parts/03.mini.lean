abbrev Zc : Type := Nat × List Value
abbrev Zh : Type := List Zc
abbrev Ze : Type := Nat × Instr × List Nat
abbrev Zm : Type := Nat × Nat × Bool × Nat × Nat × Nat × List (Nat × Nat × Nat × Nat × Nat × Nat) × List Ze
abbrev Zr : Type := (Option Value ⊕ Nat) × Zh × Bool
def zM0 (M : Zm) : Nat := M.1
def zMp (M : Zm) : Nat := M.2.1
def zMs (M : Zm) : Bool := M.2.2.1
def zMr (M : Zm) : Nat := M.2.2.2.1
def zMf (M : Zm) : Nat := M.2.2.2.2.1
def zMl (M : Zm) : Nat := M.2.2.2.2.2.1
def zMh (M : Zm) : List (Nat × Nat × Nat × Nat × Nat × Nat) := M.2.2.2.2.2.2.1
def zMc (M : Zm) : List Ze := M.2.2.2.2.2.2.2
def zlk : List Ze → Nat → Option (Instr × List Nat)
  | [], _ => none
  | x :: t, pc => bif Nat.beq x.1 pc then some x.2 else zlk t pc
/-- lengths of the instructions that occur -/
def zlen : Instr → Nat
  | .bipush _ => 2
  | .sipush _ => 3
  | .ldc _ => 2
  | .ldc_w _ => 3
  | .iload _ => 2
  | .aload _ => 2
  | .istore _ => 2
  | .astore _ => 2
  | .iinc _ _ => 3
  | .ifCond _ _ => 3
  | .if_icmp _ _ => 3
  | .goto _ => 3
  | .getfield _ => 3
  | .putfield _ => 3
  | .invokevirtual _ => 3
  | .invokespecial _ => 3
  | .invokestatic _ => 3
  | .new _ => 3
  | .anewarray _ => 3
  | .newarray _ => 2
  | _ => 1
def ztab : Instr → Bool
  | .tableswitch _ _ _ _ => true
  | _ => false
/-- the step's kind: 0 in the frame alone, 1 with the heap, 2 the rest -/
def zkind : Instr → Nat
  | .getfield _ => 1
  | .putfield _ => 1
  | .arraylength => 1
  | .iaload => 1
  | .baload => 1
  | .laload => 1
  | .aaload => 1
  | .iastore => 1
  | .bastore => 1
  | .lastore => 1
  | .aastore => 1
  | .newarray _ => 1
  | .anewarray _ => 1
  | .ireturn => 2
  | .return_ => 2
  | .new _ => 2
  | .ldc _ => 2
  | .ldc_w _ => 2
  | .invokevirtual _ => 2
  | .invokespecial _ => 2
  | .invokestatic _ => 2
  | .athrow => 3
  | _ => 0
def zst (ls : List Slot) (i : Nat) (v : Value) : Option (List Slot) :=
  match ls[i]? with
  | some .unset => some (ls.set i (.val v))
  | some (.val (.int _)) => some (ls.set i (.val v))
  | some (.val (.ref _)) => some (ls.set i (.val v))
  | _ => none
def ztg (pc : Nat) (off : Int) : Option Nat := if 0 ≤ (pc : Int) + off then some ((pc : Int) + off).toNat else none
def zcnd : ClassFile.Cond → Int32 → Int32 → Bool
  | .eq, a, b => decide (a = b)
  | .ne, a, b => decide (¬ a = b)
  | .lt, a, b => decide (a < b)
  | .ge, a, b => decide (b ≤ a)
  | .gt, a, b => decide (b < a)
  | .le, a, b => decide (a ≤ b)
def zbr (b : Bool) (pc : Nat) (off : Int) (ls : List Slot) (r : List Value) : Option (Nat × List Slot × List Value) :=
  (ztg pc off).bind fun t => some (bif b then t else pc + 3, ls, r)
def zi1 {α : Type} (st : List Value) (f : Int32 → List Value → Option α) : Option α :=
  match st with
  | .int x :: r => f x r
  | _ => none
def zr1 {α : Type} (st : List Value) (f : Nat → List Value → Option α) : Option α :=
  match st with
  | .ref x :: r => f x r
  | _ => none
def zl1 {α : Type} (st : List Value) (f : Int64 → List Value → Option α) : Option α :=
  match st with
  | .long x :: r => f x r
  | _ => none
def zli {α : Type} (ls : List Slot) (i : Nat) (f : Int32 → Option α) : Option α :=
  match ls[i]? with
  | some (.val (.int x)) => f x
  | _ => none
def zlr {α : Type} (ls : List Slot) (i : Nat) (f : Nat → Option α) : Option α :=
  match ls[i]? with
  | some (.val (.ref x)) => f x
  | _ => none
def zfr : Instr → Nat → List Slot → List Value → Option (Nat × List Slot × List Value)
  | .iconst n, pc, ls, st => some (pc + 1, ls, .int (Int32.ofInt n) :: st)
  | .bipush n, pc, ls, st => some (pc + 2, ls, .int (Int8.ofInt n).toInt32 :: st)
  | .sipush n, pc, ls, st => some (pc + 3, ls, .int (Int16.ofInt n).toInt32 :: st)
  | .iload i, pc, ls, st => zli ls i fun x => some (pc + 2, ls, .int x :: st)
  | .iload_n i, pc, ls, st => zli ls i.val fun x => some (pc + 1, ls, .int x :: st)
  | .aload i, pc, ls, st => zlr ls i fun x => some (pc + 2, ls, .ref x :: st)
  | .aload_n i, pc, ls, st => zlr ls i.val fun x => some (pc + 1, ls, .ref x :: st)
  | .istore i, pc, ls, st => zi1 st fun x r => (zst ls i (.int x)).bind fun l => some (pc + 2, l, r)
  | .istore_n i, pc, ls, st => zi1 st fun x r => (zst ls i.val (.int x)).bind fun l => some (pc + 1, l, r)
  | .astore i, pc, ls, st => zr1 st fun x r => (zst ls i (.ref x)).bind fun l => some (pc + 2, l, r)
  | .astore_n i, pc, ls, st => zr1 st fun x r => (zst ls i.val (.ref x)).bind fun l => some (pc + 1, l, r)
  | .iinc i n, pc, ls, st => zli ls i fun x => (zst ls i (.int (x + Int32.ofInt n))).bind fun l => some (pc + 3, l, st)
  | .pop, pc, ls, st => zi1 st fun _ r => some (pc + 1, ls, r)
  | .dup, pc, ls, st => zr1 st fun x r => some (pc + 1, ls, .ref x :: .ref x :: r)
  | .dup2, pc, ls, st => zi1 st fun y r => zr1 r fun x r => some (pc + 1, ls, .int y :: .ref x :: .int y :: .ref x :: r)
  | .iadd, pc, ls, st => zi1 st fun y r => zi1 r fun x r => some (pc + 1, ls, .int (x + y) :: r)
  | .isub, pc, ls, st => zi1 st fun y r => zi1 r fun x r => some (pc + 1, ls, .int (x - y) :: r)
  | .imul, pc, ls, st => zi1 st fun y r => zi1 r fun x r => some (pc + 1, ls, .int (x * y) :: r)
  | .idiv, pc, ls, st => zi1 st fun y r => zi1 r fun x r => if y = 0 then none else some (pc + 1, ls, .int (x / y) :: r)
  | .irem, pc, ls, st => zi1 st fun y r => zi1 r fun x r => if y = 0 then none else some (pc + 1, ls, .int (x - x / y * y) :: r)
  | .ineg, pc, ls, st => zi1 st fun x r => some (pc + 1, ls, .int (-x) :: r)
  | .iand, pc, ls, st => zi1 st fun y r => zi1 r fun x r => some (pc + 1, ls, .int (x &&& y) :: r)
  | .ior, pc, ls, st => zi1 st fun y r => zi1 r fun x r => some (pc + 1, ls, .int (x ||| y) :: r)
  | .ixor, pc, ls, st => zi1 st fun y r => zi1 r fun x r => some (pc + 1, ls, .int (x ^^^ y) :: r)
  | .ishl, pc, ls, st => zi1 st fun y r => zi1 r fun x r => some (pc + 1, ls, .int (x <<< (y &&& 31)) :: r)
  | .ishr, pc, ls, st => zi1 st fun y r => zi1 r fun x r => some (pc + 1, ls, .int (x >>> (y &&& 31)) :: r)
  | .iushr, pc, ls, st => zi1 st fun y r => zi1 r fun x r => some (pc + 1, ls, .int (x.toUInt32 >>> (y.toUInt32 &&& Int32.toUInt32 31)).toInt32 :: r)
  | .i2l, pc, ls, st => zi1 st fun x r => some (pc + 1, ls, .long x.toInt64 :: r)
  | .lcmp, pc, ls, st => zl1 st fun y r => zl1 r fun x r => some (pc + 1, ls, .int (lg_cmp x y) :: r)
  | .goto off, pc, ls, st => (ztg pc off).bind fun t => some (t, ls, st)
  | .ifCond cd off, pc, ls, st => zi1 st fun x r => zbr (zcnd cd x 0) pc off ls r
  | .if_icmp cd off, pc, ls, st => zi1 st fun y r => zi1 r fun x r => zbr (zcnd cd x y) pc off ls r
  | .tableswitch d lo hi offs, pc, ls, st => zi1 st fun x r =>
    if x.toInt < lo ∨ hi < x.toInt then (ztg pc d).bind fun t => some (t, ls, r)
    else (offs[(x.toInt - lo).toNat]?).bind fun o => (ztg pc o).bind fun t => some (t, ls, r)
  | _, _, _, _ => none
def zix (i : Int32) (n : Nat) : Option Nat := if i < 0 ∨ n ≤ i.toNatClampNeg then none else some i.toNatClampNeg
/-- a value that a field of the kind takes -/
def zfit : Nat → Value → Bool
  | 0, .int _ => true
  | 1, .int x => decide (x = 0 ∨ x = 1)
  | 2, .ref _ => true
  | _, _ => false
def zfk (ci k : Nat) : Nat := ((zcls.getD ci ("", [], [], [], 0, 0)).2.2.1).getD k 9
def zfn (ci : Nat) : Nat := ((zcls.getD ci ("", [], [], [], 0, 0)).2.1).length
def zdv : Nat → Value
  | 2 => .null
  | _ => .int 0
def znewv (ci : Nat) : List Value := ((zcls.getD ci ("", [], [], [], 0, 0)).2.2.1).map zdv
def zcap : Nat := 8000
def zatag : ArrayType → Option (Nat × Value)
  | .int => some (100, .int 0)
  | .long => some (101, .long 0)
  | .boolean => some (102, .int 0)
  | _ => none
def zp1 {α : Type} (st : List Value) (f : Nat → List Value → Option α) : Option α :=
  match st with
  | .ref (x + 1) :: r => f x r
  | _ => none
def zv1 {α : Type} (st : List Value) (f : Value → List Value → Option α) : Option α :=
  match st with
  | v :: r => f v r
  | _ => none
/-- read at a place -/
def zrd (tag : Nat) (i : Int32) (a : Nat) (h : Zh) (f : Value → Option (List Value × Zh × Bool)) : Option (List Value × Zh × Bool) :=
  (h[a]?).bind fun c => if c.1 = tag then (zix i c.2.length).bind fun k => (c.2[k]?).bind f else none
def zwr (tag : Nat) (i : Int32) (a : Nat) (v : Value) (h : Zh) (r : List Value) : Option (List Value × Zh × Bool) :=
  (h[a]?).bind fun c => if c.1 = tag then (zix i c.2.length).bind fun k => some (r, h.set a (tag, c.2.set k v), true) else none
def zhp : Instr → List Nat → List Value → Zh → Option (List Value × Zh × Bool)
  | .getfield _, ci :: k :: _, st, h => zr1 st fun a r =>
    (h[a]?).bind fun c => if c.1 = ci then (c.2[k]?).bind fun v => some (v :: r, h, false) else none
  | .putfield _, ci :: k :: _, st, h => zv1 st fun v r => zp1 r fun a r =>
    (h[a + 1]?).bind fun c => if c.1 = ci ∧ k < c.2.length ∧ zfit (zfk ci k) v = true then some (r, h.set (a + 1) (ci, c.2.set k v), true) else none
  | .arraylength, _, st, h => zr1 st fun a r =>
    (h[a]?).bind fun c => if 100 ≤ c.1 ∧ c.1 < 105 then some (.int (Int32.ofNat c.2.length) :: r, h, false) else none
  | .iaload, _, st, h => zi1 st fun i r => zr1 r fun a r => zrd 100 i a h fun v => some (v :: r, h, false)
  | .laload, _, st, h => zi1 st fun i r => zr1 r fun a r => zrd 101 i a h fun v => some (v :: r, h, false)
  | .baload, _, st, h => zi1 st fun i r => zr1 r fun a r => zrd 102 i a h fun v => some (v :: r, h, false)
  | .aaload, t :: _, st, h => zi1 st fun i r => zr1 r fun a r => if t = 103 ∨ t = 104 then zrd t i a h fun v => some (v :: r, h, false) else none
  | .iastore, _, st, h => zi1 st fun x r => zi1 r fun i r => zp1 r fun a r => zwr 100 i (a + 1) (.int x) h r
  | .lastore, _, st, h => zl1 st fun x r => zi1 r fun i r => zp1 r fun a r => zwr 101 i (a + 1) (.long x) h r
  | .bastore, _, st, h => zi1 st fun x r => zi1 r fun i r => zp1 r fun a r => if x = 0 ∨ x = 1 then zwr 102 i (a + 1) (.int x) h r else none
  | .aastore, t :: _, st, h => zr1 st fun v r => zi1 r fun i r => zp1 r fun a r =>
    (h[v]?).bind fun d => if (t = 103 ∧ d.1 = 1) ∨ (t = 104 ∧ d.1 = 4) then zwr t i (a + 1) (.ref v) h r else none
  | .newarray t, _, st, h => zi1 st fun n r =>
    (zatag t).bind fun q => if ¬ n < 0 ∧ n.toNatClampNeg ≤ 820 ∧ h.length < zcap then some (.ref h.length :: r, h ++ [(q.1, List.replicate n.toNatClampNeg q.2)], true) else none
  | .anewarray _, t :: _, st, h => zi1 st fun n r =>
    if (t = 103 ∨ t = 104) ∧ ¬ n < 0 ∧ n.toNatClampNeg ≤ 820 ∧ h.length < zcap then some (.ref h.length :: r, h ++ [(t, List.replicate n.toNatClampNeg .null)], true) else none
  | _, _, _, _ => none
/-- a copy of a stretch -/
def zcpy (f g : List Value) (sp dp n : Nat) : List Value := (List.range g.length).map fun k => if dp ≤ k ∧ k < dp + n then f.getD (sp + (k - dp)) .null else g.getD k .null
def zok1 (v : Value) : Bool := match v with
  | .int _ => true
  | .ref _ => true
  | _ => false
def zisi (v : Value) : Bool := match v with
  | .int _ => true
  | _ => false
def zent (M : Zm) (vs : List Value) : List Slot := vs.map Slot.val ++ List.replicate (zM0 M - vs.length) Slot.unset
/-- the room that a call asks -/
def zroom (M N : Zm) : Bool := decide (zMf N + 1 ≤ zMf M) && decide (16 + (zM0 N + 11) + zMl N ≤ zMl M)
def zhand : List (Nat × Nat × Nat × Nat × Nat × Nat) → Nat → Nat → Option Nat
  | [], _, _ => none
  | x :: t, pc, tag => bif (Nat.ble x.1 pc && Nat.blt pc x.2.1) then (bif Nat.beq x.2.2.2.2.1 tag then some x.2.2.1 else zhand t pc tag) else zhand t pc tag
/-- the way on behind a call -/
def zgo (k : Nat → List Value → Zh → Bool → Option Zr) (M : Zm) (pc : Nat) (st : List Value) (cl : Bool) (r : Zr) : Option Zr :=
  match r with
  | (.inl v, h, c) => k (pc + 3) (v.toList ++ st) h (cl && c)
  | (.inr a, h, _) =>
    (h[a]?).bind fun c => if 200 ≤ c.1 ∧ c.1 < 203 ∧ a = h.length - 1 then
      match zhand (zMh M) pc c.1 with
      | some q => k q [.ref a] h false
      | none => if zMh M = [] then some (.inr a, h, false) else none
    else none
def zcall (run : Nat → Nat → List Slot → List Value → Zh → Bool → Option Zr) (k : Nat → List Value → Zh → Bool → Option Zr) (M : Zm) (j pc : Nat) (vs st : List Value) (h : Zh) (cl : Bool) : Option Zr :=
  (zmi[j]?).bind fun N => if zroom M N = true ∧ vs.length ≤ zM0 N ∧ vs.all zok1 = true ∧ st.length ≤ 8 then (run j 0 (zent N vs) [] h true).bind fun r => zgo k M pc st cl r else none
def zobj (run : Nat → Nat → List Slot → List Value → Zh → Bool → Option Zr) (k : Nat → List Value → Zh → Bool → Option Zr) (M : Zm) (j ci pc : Nat) (st : List Value) (h : Zh) (cl : Bool) : Option Zr :=
  (zmi[j]?).bind fun N => if zMs N = false ∧ zMp N ≤ st.length then zr1 (st.drop (zMp N)) fun a r => (h[a]?).bind fun c =>
    if c.1 = ci ∧ ci < 7 then zcall run k M j pc (.ref a :: (st.take (zMp N)).reverse) r h cl else none
  else none
def zthr (M : Zm) (t pc : Nat) (st : List Value) (h : Zh) (cl : Bool) : Option Zr :=
  (zlk (zMc M) (pc + 3)).bind fun q3 => (zlk (zMc M) (pc + 4)).bind fun q4 => (zlk (zMc M) (pc + 6)).bind fun q6 => (zlk (zMc M) (pc + 9)).bind fun q9 =>
    match q3.1, q4, q6, q9.1 with
    | .dup, (.ldc _, 2 :: _), (.invokespecial _, 5 :: t' :: _), .athrow =>
      if 200 ≤ t ∧ t < 203 ∧ t = 200 + t' ∧ zMh M = [] ∧ 6 ≤ zMf M ∧ 100 ≤ zMl M ∧ st.length ≤ 8 ∧ h.length < zcap ∧ cl = true then some (.inr h.length, h ++ [(t, [])], false) else none
    | _, _, _, _ => none
def zrun : Nat → Nat → Nat → List Slot → List Value → Zh → Bool → Option Zr
  | 0, _, _, _, _, _, _ => none
  | n + 1, j, pc, ls, st, h, cl =>
    (zmi[j]?).bind fun M => (zlk (zMc M) pc).bind fun q =>
      match zkind q.1 with
      | 0 => (zfr q.1 pc ls st).bind fun r => zrun n j r.1 r.2.1 r.2.2 h cl
      | 1 => (zhp q.1 q.2 st h).bind fun r => zrun n j (pc + zlen q.1) ls r.1 r.2.1 (cl && !r.2.2)
      | _ =>
        match q.1, q.2 with
        | .ireturn, _ => zi1 st fun v r => if r = [] ∧ (zMr M = 1 ∨ (zMr M = 2 ∧ (v = 0 ∨ v = 1))) then some (.inl (some (.int v)), h, cl) else none
        | .return_, _ => if st = [] ∧ zMr M = 0 then some (.inl none, h, cl) else none
        | .ldc _, 1 :: v :: _ => zrun n j (pc + 2) ls (.int (Int32.ofNat v) :: st) h cl
        | .ldc_w _, 1 :: v :: _ => zrun n j (pc + 3) ls (.int (Int32.ofNat v) :: st) h cl
        | .new _, t :: _ =>
          if t < 7 then
            (if h.length < zcap then zrun n j (pc + 3) ls (.ref h.length :: st) (h ++ [(t, znewv t)]) false else none)
          else zthr M t pc st h cl
        | .invokespecial _, 4 :: _ => zr1 st fun _ r => if 1 ≤ zMf M ∧ 40 ≤ zMl M ∧ r.length ≤ 8 then zrun n j (pc + 3) ls r h cl else none
        | .invokestatic _, 0 :: _ => zi1 st fun k r => zi1 r fun dp r => zp1 r fun a r => zi1 r fun sp r => zr1 r fun b r =>
          (h[b]?).bind fun c => (h[a + 1]?).bind fun d =>
            if c.1 = 100 ∧ d.1 = 100 ∧ ¬ sp < 0 ∧ ¬ dp < 0 ∧ ¬ k < 0 ∧ sp.toNatClampNeg + k.toNatClampNeg ≤ c.2.length ∧ dp.toNatClampNeg + k.toNatClampNeg ≤ d.2.length ∧ c.2.all zisi = true ∧ 1 ≤ zMf M ∧ 40 ≤ zMl M ∧ r.length ≤ 8 then
              zrun n j (pc + 3) ls r (h.set (a + 1) (100, zcpy c.2 d.2 sp.toNatClampNeg dp.toNatClampNeg k.toNatClampNeg)) false
            else none
        | .invokestatic _, 1 :: j' :: _ =>
          (zmi[j']?).bind fun N => if zMs N = true ∧ zMp N ≤ st.length then
            zcall (zrun n) (zrun n j · ls · · ·) M j' pc (st.take (zMp N)).reverse (st.drop (zMp N)) h cl else none
        | .invokevirtual _, 2 :: j' :: _ :: _ :: ci :: _ => zobj (zrun n) (zrun n j · ls · · ·) M j' ci pc st h cl
        | .invokespecial _, 3 :: j' :: _ :: _ :: ci :: _ => zobj (zrun n) (zrun n j · ls · · ·) M j' ci pc st h cl
        | _, _ => none
theorem zrun_test : (zrun 300 2 0 [.val (.int 2), .val (.int 5)] [] [] true) = some (.inl (some (.int 5)), [], true) := by decide +kernel
