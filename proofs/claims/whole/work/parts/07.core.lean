/-! A small machine over pure data: entries (pc, live slots at a loop's head, instruction, a, b, v), rows of ints M, references R, shapes. -/
def xrow (M : xM) (a : Nat) (f : Nat → Int32) : xM := fun i => if i = a then f else M i
def xup (M : xM) (a k : Nat) (v : Int32) : xM := xrow M a (upd (M a) k v)
def xrup (R : Nat → Nat → Option Nat) (a k : Nat) (v : Option Nat) : Nat → Nat → Option Nat := fun i j => if i = a ∧ j = k then v else R i j
def xrv : Option Nat → Value
  | some r => .ref r
  | none => .null
def xunrv : Value → Option (Option Nat)
  | .ref r => some (some r)
  | .null => some none
  | _ => none
def xget : xL → Nat → Option Value
  | [], _ => none
  | v :: _, 0 => v
  | _ :: l, n + 1 => xget l n
def xset : xL → Nat → Option Value → xL
  | [], _, _ => []
  | _ :: l, 0, v => v :: l
  | w :: l, n + 1, v => w :: xset l n v
/-- the slot ahead of a holds no long -/
def xnol : xL → Nat → Bool
  | .some (.long _) :: _, 1 => false
  | .some (.double _) :: _, 1 => false
  | _, 0 => true
  | [], _ => true
  | _ :: l, n + 1 => xnol l n
def xmask : List Bool → xL → xL
  | true :: m, v :: l => v :: xmask m l
  | false :: m, _ :: l => none :: xmask m l
  | _, _ => []
def xseek (t : Nat) : List xE → List xE
  | [] => []
  | e :: is => match Nat.beq e.1 t with
    | true => e :: is
    | false => xseek t is
/-- b values off the stack, the deepest first -/
def xpop : Nat → List Value → List Value → Option (List Value × List Value)
  | 0, st, acc => some (acc, st)
  | _ + 1, [], _ => none
  | n + 1, v :: st, acc => xpop n st (v :: acc)
def xcat : List Value → Nat
  | [] => 0
  | .long _ :: l => xcat l + 2
  | .double _ :: l => xcat l + 2
  | _ :: l => xcat l + 1
def xpush : Option Value → List Value → List Value
  | some v, st => v :: st
  | none, st => st
def xtab (x : Int32) (jp : Nat → Prop) (pc : Nat) : Int → List Int → Prop
  | _, [] => True
  | lo, o :: os => if x.toInt = lo then jp ((pc : Int) + o).toNat else xtab x jp pc (lo + 1) os
/-- the fields of a String constant: its bytes, its coder -/
def xXF (o b : Nat) : Option Value := match b with
  | 0 => some (.ref (o + 100))
  | _ => some (.int 0)
/-- what may be put: an int, a boolean, one of the made objects -/
def xputS (v w : Value) (P : Int32 → Prop) (Q : Nat → Prop) : Prop := match v, w with
  | .int _, .int x => P x
  | .long _, .int x => if x = 0 ∨ x = 1 then P x else False
  | .null, .ref q => match Nat.blt q 1000 with
    | true => Q q
    | false => False
  | _, _ => False
/-- the receiver is one of the made objects -/
def xint : List Value → Bool
  | .ref o :: _ => Nat.blt o 1000
  | _ => false
/-- the receiver is an object of the class (99: a String constant) -/
def xrecv (sh : List (Nat × Nat)) (v : Value) (as : List Value) : Bool := match v, as with
  | .ref ci, .ref o :: _ => match Nat.beq ci 99 with
    | true => Nat.ble 1100 o && Nat.blt o 1115
    | false => match sh[o]? with
      | some (kd, _) => Nat.beq kd (3 + ci)
      | none => false
  | _, _ => false
def xabove (j : Nat) : Int32 := match j with
  | 0 => -1
  | 1 => 0
  | 2 => 0
  | 3 => 0
  | 4 => 1
  | 5 => 3
  | _ => 2
def xsT : List (List Int32) := [[119, 97, 121], [112, 101, 114, 115, 111, 110], [97, 116], [104, 111, 117, 114, 115], [107, 101, 101, 112], [114, 97, 105, 110], [111, 110, 99, 101], [107, 101, 112, 116], [108, 111, 119], [111, 118, 101, 114], [99, 97, 114, 114, 105, 101, 100], [99, 117, 114, 115, 101, 100], [104, 117, 115, 104, 101, 100], [104, 111, 117, 114], [108, 111, 117, 100]]
def xslen (i : Nat) : Nat := (xnth [] xsT i).length
def xsbyt (i j : Nat) : Int32 := xnth 0 (xnth [] xsT i) j
/-- what lies outside: the script, the row of KINDS, the bytes of String constants -/
def xX (L : Nat) (xs : Nat → Int32) (o : Nat) : Option (Nat × (Nat → Int32)) := match Nat.beq o 1000 with
  | true => some (L, xs)
  | false => match Nat.beq o 1001 with
    | true => some (7, xabove)
    | false => match Nat.ble 1200 o && Nat.blt o 1215 with
      | true => some (xslen (o - 1200), xsbyt (o - 1200))
      | false => none
theorem xite {c : Prop} [Decidable c] {A B : Prop} (h1 : c → A) (h2 : ¬ c → B) : if c then A else B := by
  by_cases h : c
  · rw [if_pos h]; exact h1 h
  · rw [if_neg h]; exact h2 h
theorem xif {c : Prop} [Decidable c] {A B : Prop} (h : c) (h1 : A) : if c then A else B := by rw [if_pos h]; exact h1
theorem xelse {c : Prop} [Decidable c] {A B : Prop} (h : ¬ c) (h1 : B) : if c then A else B := by rw [if_neg h]; exact h1
theorem xite_t {c : Prop} [Decidable c] {A B : Prop} (h : if c then A else B) (z : c) : A := by rw [if_pos z] at h; exact h
theorem xite_f {c : Prop} [Decidable c] {A B : Prop} (h : if c then A else B) (z : ¬ c) : B := by rw [if_neg z] at h; exact h
theorem xite_no {c : Prop} [Decidable c] {B : Prop} (h : if c then False else B) : ¬ c ∧ B := by
  by_cases z : c
  · rw [if_pos z] at h; exact h.elim
  · rw [if_neg z] at h; exact ⟨z, h⟩
theorem xite_yes {c : Prop} [Decidable c] {B : Prop} (h : if c then B else False) : c ∧ B := by
  by_cases z : c
  · rw [if_pos z] at h; exact ⟨z, h⟩
  · rw [if_neg z] at h; exact h.elim
def x1 (X : Nat → Option (Nat × (Nat → Int32))) (K : Nat → List Value → xH → (Option Value → xH → Prop) → Prop) (al : Nat → Nat × Nat) (mc ms : Nat) (rt : Nat) (Q : Option Value → xH → Prop)
    (nx : xL → List Value → xH → Nat → Nat → Prop) (jp : Nat → xL → List Value → xH → Nat → Nat → Prop) (e : xE) (ls : xL) (st : List Value) (h : xH) (cs ss : Nat) : Prop :=
  match e with
  | (pc, _, ins, a, b, v) => match ins with
    | .iconst _ => nx ls (v :: st) h cs ss
    | .bipush _ => nx ls (v :: st) h cs ss
    | .sipush _ => nx ls (v :: st) h cs ss
    | .ldc _ => nx ls (v :: st) h cs ss
    | .ldc_w _ => nx ls (v :: st) h cs ss
    | .ldc2_w _ => nx ls (v :: st) h cs ss
    | .lconst _ => nx ls (v :: st) h cs ss
    | .getstatic _ => nx ls (v :: st) h cs ss
    | .iload_n _ => match xget ls a with
      | some (.int x) => nx ls (.int x :: st) h cs ss
      | _ => False
    | .iload _ => match xget ls a with
      | some (.int x) => nx ls (.int x :: st) h cs ss
      | _ => False
    | .lload_n _ => match xget ls a with
      | some (.long x) => nx ls (.long x :: st) h cs ss
      | _ => False
    | .lload _ => match xget ls a with
      | some (.long x) => nx ls (.long x :: st) h cs ss
      | _ => False
    | .aload_n _ => match xget ls a with
      | some (.ref x) => nx ls (.ref x :: st) h cs ss
      | _ => False
    | .aload _ => match xget ls a with
      | some (.ref x) => nx ls (.ref x :: st) h cs ss
      | _ => False
    | .istore_n _ => match st, xnol ls a with
      | .int x :: r, true => nx (xset ls a (some (.int x))) r h cs ss
      | _, _ => False
    | .istore _ => match st, xnol ls a with
      | .int x :: r, true => nx (xset ls a (some (.int x))) r h cs ss
      | _, _ => False
    | .lstore_n _ => match st, xnol ls a with
      | .long x :: r, true => nx (xset (xset ls (a + 1) none) a (some (.long x))) r h cs ss
      | _, _ => False
    | .lstore _ => match st, xnol ls a with
      | .long x :: r, true => nx (xset (xset ls (a + 1) none) a (some (.long x))) r h cs ss
      | _, _ => False
    | .astore_n _ => match st, xnol ls a with
      | .ref x :: r, true => nx (xset ls a (some (.ref x))) r h cs ss
      | _, _ => False
    | .astore _ => match st, xnol ls a with
      | .ref x :: r, true => nx (xset ls a (some (.ref x))) r h cs ss
      | _, _ => False
    | .iinc _ _ => match xget ls a, v, xnol ls a with
      | some (.int x), .int n, true => nx (xset ls a (some (.int (x + n)))) st h cs ss
      | _, _, _ => False
    | .iadd => match st with
      | .int y :: .int x :: r => nx ls (.int (x + y) :: r) h cs ss
      | _ => False
    | .isub => match st with
      | .int y :: .int x :: r => nx ls (.int (x - y) :: r) h cs ss
      | _ => False
    | .imul => match st with
      | .int y :: .int x :: r => nx ls (.int (x * y) :: r) h cs ss
      | _ => False
    | .iand => match st with
      | .int y :: .int x :: r => nx ls (.int (x &&& y) :: r) h cs ss
      | _ => False
    | .ior => match st with
      | .int y :: .int x :: r => nx ls (.int (x ||| y) :: r) h cs ss
      | _ => False
    | .ixor => match st with
      | .int y :: .int x :: r => nx ls (.int (x ^^^ y) :: r) h cs ss
      | _ => False
    | .ishl => match st with
      | .int y :: .int x :: r => nx ls (.int (x <<< (y &&& 31)) :: r) h cs ss
      | _ => False
    | .ishr => match st with
      | .int y :: .int x :: r => nx ls (.int (x >>> (y &&& 31)) :: r) h cs ss
      | _ => False
    | .iushr => match st with
      | .int y :: .int x :: r => nx ls (.int (x.toUInt32 >>> (y.toUInt32 &&& Int32.toUInt32 31)).toInt32 :: r) h cs ss
      | _ => False
    | .idiv => match st with
      | .int y :: .int x :: r => if y = 0 then False else nx ls (.int (x / y) :: r) h cs ss
      | _ => False
    | .irem => match st with
      | .int y :: .int x :: r => if y = 0 then False else nx ls (.int (x - x / y * y) :: r) h cs ss
      | _ => False
    | .ladd => match st with
      | .long y :: .long x :: r => nx ls (.long (x + y) :: r) h cs ss
      | _ => False
    | .lsub => match st with
      | .long y :: .long x :: r => nx ls (.long (x - y) :: r) h cs ss
      | _ => False
    | .land => match st with
      | .long y :: .long x :: r => nx ls (.long (x &&& y) :: r) h cs ss
      | _ => False
    | .lor => match st with
      | .long y :: .long x :: r => nx ls (.long (x ||| y) :: r) h cs ss
      | _ => False
    | .lshl => match st with
      | .int y :: .long x :: r => nx ls (.long (x <<< (y.toInt64 &&& 63)) :: r) h cs ss
      | _ => False
    | .lshr => match st with
      | .int y :: .long x :: r => nx ls (.long (x >>> (y.toInt64 &&& 63)) :: r) h cs ss
      | _ => False
    | .lushr => match st with
      | .int y :: .long x :: r => nx ls (.long (x.toUInt64 >>> (y.toInt64.toUInt64 &&& Int64.toUInt64 63)).toInt64 :: r) h cs ss
      | _ => False
    | .lcmp => match st with
      | .long y :: .long x :: r => nx ls (.int (lg_cmp x y) :: r) h cs ss
      | _ => False
    | .i2l => match st with
      | .int x :: r => nx ls (.long x.toInt64 :: r) h cs ss
      | _ => False
    | .l2i => match st with
      | .long x :: r => nx ls (.int x.toInt32 :: r) h cs ss
      | _ => False
    | .i2b => match st with
      | .int x :: r => nx ls (.int x.toInt8.toInt32 :: r) h cs ss
      | _ => False
    | .i2s => match st with
      | .int x :: r => nx ls (.int x.toInt16.toInt32 :: r) h cs ss
      | _ => False
    | .i2c => match st with
      | .int x :: r => nx ls (.int (x.toUInt32 % 65536).toInt32 :: r) h cs ss
      | _ => False
    | .dup => match st with
      | .int x :: r => nx ls (.int x :: .int x :: r) h cs ss
      | .ref x :: r => nx ls (.ref x :: .ref x :: r) h cs ss
      | _ => False
    | .dup2 => match st with
      | .int y :: .ref x :: r => nx ls (.int y :: .ref x :: .int y :: .ref x :: r) h cs ss
      | _ => False
    | .pop => match st with
      | .int _ :: r => nx ls r h cs ss
      | _ => False
    | .goto _ => jp b ls st h cs ss
    | .ifCond c _ => match st with
      | .int x :: r => match c with
        | .eq => if x = 0 then jp b ls r h cs ss else nx ls r h cs ss
        | .ne => if x = 0 then nx ls r h cs ss else jp b ls r h cs ss
        | .lt => if x < 0 then jp b ls r h cs ss else nx ls r h cs ss
        | .ge => if 0 ≤ x then jp b ls r h cs ss else nx ls r h cs ss
        | .gt => if 0 < x then jp b ls r h cs ss else nx ls r h cs ss
        | .le => if x ≤ 0 then jp b ls r h cs ss else nx ls r h cs ss
      | _ => False
    | .if_icmp c _ => match st with
      | .int y :: .int x :: r => match c with
        | .eq => if x = y then jp b ls r h cs ss else nx ls r h cs ss
        | .ne => if x = y then nx ls r h cs ss else jp b ls r h cs ss
        | .lt => if x < y then jp b ls r h cs ss else nx ls r h cs ss
        | .ge => if y ≤ x then jp b ls r h cs ss else nx ls r h cs ss
        | .gt => if y < x then jp b ls r h cs ss else nx ls r h cs ss
        | .le => if x ≤ y then jp b ls r h cs ss else nx ls r h cs ss
      | _ => False
    | .tableswitch df lo hi offs => match st with
      | .int x :: r => if x.toInt < lo ∨ hi < x.toInt then jp ((pc : Int) + df).toNat ls r h cs ss else xtab x (fun t => jp t ls r h cs ss) pc lo offs.toList
      | _ => False
    | .getfield _ => match st, h with
      | .ref o :: r, (sh, R, M) => match Nat.beq a 99 with
        | true => match Nat.ble 1100 o && Nat.blt o 1115, xXF o b with
          | true, some w => nx ls (w :: r) (sh, R, M) cs ss
          | _, _ => False
        | false => match sh[o]? with
          | some (kd, n) => match Nat.beq kd (3 + a) && Nat.blt b n with
            | true => match v with
              | .null => nx ls (xrv (R o b) :: r) (sh, R, M) cs ss
              | _ => nx ls (.int (M o b) :: r) (sh, R, M) cs ss
            | false => False
          | none => False
      | _, _ => False
    | .putfield _ => match st, h with
      | w :: .ref o :: r, (sh, R, M) => match sh[o]? with
          | some (kd, n) => match Nat.beq kd (3 + a) && Nat.blt b n with
            | true => xputS v w (fun x => nx ls r (sh, R, xup M o b x) cs ss) (fun q => nx ls r (sh, xrup R o b (some q), M) cs ss)
            | false => False
          | none => False
      | _, _ => False
    | .iaload => match st, h with
      | .int i :: .ref o :: r, (sh, R, M) => match sh[o]? with
        | some (kd, n) => match kd with
          | 0 => if i < 0 ∨ n ≤ i.toNatClampNeg then False else nx ls (.int (M o i.toNatClampNeg) :: r) (sh, R, M) cs ss
          | _ => False
        | none => match X o, Nat.blt o 1200 with
          | some (n, f), true => if i < 0 ∨ n ≤ i.toNatClampNeg then False else nx ls (.int (f i.toNatClampNeg) :: r) (sh, R, M) cs ss
          | _, _ => False
      | _, _ => False
    | .baload => match st, h with
      | .int i :: .ref o :: r, (sh, R, M) => match sh[o]? with
        | some _ => False
        | none => match X o, Nat.blt o 1200 with
          | some (n, f), false => if i < 0 ∨ n ≤ i.toNatClampNeg then False else nx ls (.int (f i.toNatClampNeg) :: r) (sh, R, M) cs ss
          | _, _ => False
      | _, _ => False
    | .aaload => match st, h with
      | .int i :: .ref o :: r, (sh, R, M) => match sh[o]? with
        | some (kd, n) => match Nat.beq kd 1 || Nat.beq kd 2 with
          | true => if i < 0 ∨ n ≤ i.toNatClampNeg then False else nx ls (xrv (R o i.toNatClampNeg) :: r) (sh, R, M) cs ss
          | false => False
        | none => False
      | _, _ => False
    | .iastore => match st, h with
      | .int x :: .int i :: .ref o :: r, (sh, R, M) => match sh[o]? with
        | some (kd, n) => match kd with
          | 0 => if i < 0 ∨ n ≤ i.toNatClampNeg then False else nx ls r (sh, R, xup M o i.toNatClampNeg x) cs ss
          | _ => False
        | none => False
      | _, _ => False
    | .aastore => match st, h with
      | .ref q :: .int i :: .ref o :: r, (sh, R, M) => match sh[o]? with
        | some (kd, n) => match kd with
          | 1 => match sh[q]? with
            | some (kq, _) => match Nat.beq kq 6 with
              | true => if i < 0 ∨ n ≤ i.toNatClampNeg then False else nx ls r (sh, xrup R o i.toNatClampNeg (some q), M) cs ss
              | false => False
            | none => False
          | 2 => match Nat.ble 1100 q && Nat.blt q 1115 with
            | true => if i < 0 ∨ n ≤ i.toNatClampNeg then False else nx ls r (sh, xrup R o i.toNatClampNeg (some q), M) cs ss
            | false => False
          | _ => False
        | none => False
      | _, _ => False
    | .arraylength => match st, h with
      | .ref o :: r, (sh, R, M) => match sh[o]? with
        | some (kd, n) => match Nat.blt kd 3 with
          | true => nx ls (.int (Int32.ofNat n) :: r) (sh, R, M) cs ss
          | false => False
        | none => match X o with
          | some (n, _) => nx ls (.int (Int32.ofNat n) :: r) (sh, R, M) cs ss
          | none => False
      | _, _ => False
    | .new _ => match h with
      | (sh, R, M) => (sh.length < 1000 ∧ cs + 1 ≤ mc ∧ ss + b ≤ ms) ∧ nx ls (.ref sh.length :: st) (sh ++ [(3 + a, b)], fun i => if i = sh.length then fun _ => none else R i, xrow M sh.length (fun _ => 0)) (cs + 1) (ss + b)
    | .newarray .int => match st, h with
      | .int i :: r, (sh, R, M) => (sh.length < 1000 ∧ ¬ i < 0 ∧ i.toNatClampNeg ≤ 1000 ∧ cs + 1 ≤ mc ∧ ss + i.toNatClampNeg ≤ ms) ∧ nx ls (.ref sh.length :: r) (sh ++ [(0, i.toNatClampNeg)], fun i => if i = sh.length then fun _ => none else R i, xrow M sh.length (fun _ => 0)) (cs + 1) (ss + i.toNatClampNeg)
      | _, _ => False
    | .anewarray _ => match st, h with
      | .int i :: r, (sh, R, M) => (sh.length < 1000 ∧ ¬ i < 0 ∧ i.toNatClampNeg ≤ 1000 ∧ cs + 1 ≤ mc ∧ ss + i.toNatClampNeg ≤ ms) ∧ nx ls (.ref sh.length :: r) (sh ++ [(a, i.toNatClampNeg)], fun i => if i = sh.length then fun _ => none else R i, xrow M sh.length (fun _ => 0)) (cs + 1) (ss + i.toNatClampNeg)
      | _, _ => False
    | .invokevirtual _ => match xpop b st [] with
      | some (as, r) => match Nat.ble (xcat r) 8 && xrecv h.1 v as && (Nat.ble (cs + (al a).1) mc && Nat.ble (ss + (al a).2) ms) with
        | true => K a as h (fun w h' => nx ls (xpush w r) h' (cs + (al a).1) (ss + (al a).2))
        | false => False
      | none => False
    | .invokespecial _ => match Nat.beq a 999, st with
      | true, .ref o :: r => match Nat.ble (xcat r) 8 && Nat.blt o 1000 with
        | true => nx ls r h cs ss
        | false => False
      | true, _ => False
      | false, _ => match xpop b st [] with
        | some (as, r) => match Nat.ble (xcat r) 8 && xint as && (Nat.ble (cs + (al a).1) mc && Nat.ble (ss + (al a).2) ms) with
          | true => K a as h (fun w h' => nx ls (xpush w r) h' (cs + (al a).1) (ss + (al a).2))
          | false => False
        | none => False
    | .invokestatic _ => match Nat.beq a 998 with
      | true => match st, h with
        | .int n :: .int dp :: .ref t :: .int sp :: .ref o :: r, (sh, R, M) => match sh[o]?, sh[t]?, Nat.ble (xcat r) 8 with
          | some (0, n0), some (0, n1), true => (¬ sp < 0 ∧ ¬ dp < 0 ∧ ¬ n < 0 ∧ sp.toNatClampNeg + n.toNatClampNeg ≤ n0 ∧ dp.toNatClampNeg + n.toNatClampNeg ≤ n1) ∧ nx ls r (sh, R, xrow M t (va_cpy (M o) (M t) sp.toNatClampNeg dp.toNatClampNeg n.toNatClampNeg)) cs ss
          | _, _, _ => False
        | _, _ => False
      | false => match Nat.beq a 996 with
        | true => match st with
          | .int y :: .int x :: r => match Nat.ble (xcat r) 8 with
            | true => nx ls (.int (if x < y then y else x) :: r) h cs ss
            | false => False
          | _ => False
        | false => match Nat.beq a 995 with
          | true => match st with
            | .int y :: .int x :: r => match Nat.ble (xcat r) 8 with
              | true => nx ls (.int (if y < x then y else x) :: r) h cs ss
              | false => False
            | _ => False
          | false => match Nat.beq a 997 with
            | true => False
            | false => match xpop b st [] with
              | some (as, r) => match Nat.ble (xcat r) 8 && (Nat.ble (cs + (al a).1) mc && Nat.ble (ss + (al a).2) ms) with
                | true => K a as h (fun w h' => nx ls (xpush w r) h' (cs + (al a).1) (ss + (al a).2))
                | false => False
              | none => False
    | .ireturn => match st with
      | .int x :: [] => match rt with
        | 1 => Q (some (.int x)) h
        | 2 => if x = 0 ∨ x = 1 then Q (some (.int x)) h else False
        | 3 => (narrow .char (.int x) = .int x) ∧ Q (some (.int x)) h
        | 4 => (narrow .byte (.int x) = .int x) ∧ Q (some (.int x)) h
        | _ => False
      | _ => False
    | .lreturn => match st, rt with
      | .long x :: [], 5 => Q (some (.long x)) h
      | _, _ => False
    | .return_ => match st, rt with
      | [], 0 => Q none h
      | _, _ => False
    | _ => False
def wpI (X : Nat → Option (Nat × (Nat → Int32))) (K : Nat → List Value → xH → (Option Value → xH → Prop) → Prop) (al : Nat → Nat × Nat) (mc ms rt : Nat) (Q : Option Value → xH → Prop) (back : Nat → xL → List Value → xH → Nat → Nat → Prop) (code : List xE) :
    Nat → Bool → List xE → xL → List Value → xH → Nat → Nat → Prop
  | 0, _, _, _, _, _, _, _ => False
  | _ + 1, _, [], _, _, _, _, _ => False
  | k + 1, s, e :: is, ls, st, h, cs, ss => match s, e.2.1 with
    | false, b :: m => back e.1 (xmask (b :: m) ls) st h cs ss
    | _, _ => x1 X K al mc ms rt Q (fun ls st h cs ss => wpI X K al mc ms rt Q back code k false is ls st h cs ss) (fun t ls st h cs ss => wpI X K al mc ms rt Q back code k false (xseek t code) ls st h cs ss) e ls st h cs ss
