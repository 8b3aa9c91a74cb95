/-! the small machine: one step, a run, and what a run comes to -/
abbrev zN : Type := Nat × List zV × List zV × zG × zH
abbrev zO : Type := zN ⊕ Option zV ⊕ zM × List zV × List zV
abbrev vi (z : Int) : zV := .inl z
abbrev vl (z : Int) : zV := .inr (.inl z)
abbrev vr (k : Nat) : zV := .inr (.inr (.inl k))
abbrev vu : zV := .inr (.inr (.inr 0))
abbrev vx : zV := .inr (.inr (.inr 1))
def znul : Nat := 1000000
def zw (z : Int) : Int := z.bmod 4294967296
def zwl (z : Int) : Int := z.bmod 18446744073709551616
def zdiv (a b : Int) : Int := (Int32.ofInt a / Int32.ofInt b).toInt
def zrem (a b : Int) : Int := (Int32.ofInt a - Int32.ofInt a / Int32.ofInt b * Int32.ofInt b).toInt
def zand (a b : Int) : Int := (Int32.ofInt a &&& Int32.ofInt b).toInt
def zor (a b : Int) : Int := (Int32.ofInt a ||| Int32.ofInt b).toInt
def zshl (a b : Int) : Int := (Int32.ofInt a <<< (Int32.ofInt b &&& 31)).toInt
def zshr (a b : Int) : Int := (Int32.ofInt a >>> (Int32.ofInt b &&& 31)).toInt
def zlrem (a b : Int) : Int := (Int64.ofInt a - Int64.ofInt a / Int64.ofInt b * Int64.ofInt b).toInt
def zland (a b : Int) : Int := (Int64.ofInt a &&& Int64.ofInt b).toInt
def zlor (a b : Int) : Int := (Int64.ofInt a ||| Int64.ofInt b).toInt
def zlshl (a b : Int) : Int := (Int64.ofInt a <<< ((Int32.ofInt b).toInt64 &&& 63)).toInt
def zlshr (a b : Int) : Int := (Int64.ofInt a >>> ((Int32.ofInt b).toInt64 &&& 63)).toInt
def zlushr (a b : Int) : Int := ((Int64.ofInt a).toUInt64 >>> ((Int32.ofInt b).toInt64.toUInt64 &&& Int64.toUInt64 63)).toInt64.toInt
def zfu (f : Int → Int) (i v : Int) : Int → Int := fun j => if j = i then v else f j
def zset (H : zH) (a : Nat) (f : Int → Int) : zH := fun b => if b = a then f else H b
def zup (H : zH) (a : Nat) (i v : Int) : zH := zset H a (zfu (H a) i v)
def zrset (r : Nat → Int → Nat) (a : Nat) (f : Int → Nat) : Nat → Int → Nat := fun b => if b = a then f else r b
def zru (f : Int → Nat) (i : Int) (v : Nat) : Int → Nat := fun j => if j = i then v else f j
def zsh (s : Nat → Nat × Nat) (a : Nat) (x : Nat × Nat) : Nat → Nat × Nat := fun b => if b = a then x else s b
/-- an object of a class -/
def zC (G : zG) (a c : Nat) : Prop := a < G.1 ∧ (G.2.2.1 a).1 = c
/-- an array: 100 ints, 101 booleans, 102 books, 103 rows of ints -/
def zlen (G : zG) (a : Nat) : Int := ((G.2.2.1 a).2 : Int)
def zR (G : zG) (a : Nat) (k : Int) : Nat := G.2.2.2 a k
def zlt (G : zG) (a : Nat) : Prop := a < G.1
def zIn (G : zG) (a : Nat) (i : Int) : Prop := 0 ≤ i ∧ i < zlen G a
def zCb (G : zG) (a c : Nat) : Bool := decide (a < G.1) && decide ((G.2.2.1 a).1 = c)
def zInb (G : zG) (a : Nat) (i : Int) : Bool := decide (0 ≤ i) && decide (i < ((G.2.2.1 a).2 : Int))
def zgo (pc : Nat) (L S : List zV) (G : zG) (H : zH) : Option zO := some (.inl (pc, L, S, G, H))
def zif (b : Bool) (x : Option zO) : Option zO := match b with | true => x | false => none
def zjmp (pc : Nat) (off : Int) : Nat := ((pc : Int) + off).toNat
def zld (i pc : Nat) (L S : List zV) (G : zG) (H : zH) : Option zO := match L[i]? with
  | some (.inl z) => zgo pc L (vi z :: S) G H
  | _ => none
def zlld (i pc : Nat) (L S : List zV) (G : zG) (H : zH) : Option zO := match L[i]? with
  | some (.inr (.inl z)) => zgo pc L (vl z :: S) G H
  | _ => none
def zald (i pc : Nat) (L S : List zV) (G : zG) (H : zH) : Option zO := match L[i]? with
  | some (.inr (.inr (.inl k))) => zgo pc L (vr k :: S) G H
  | some (.inr (.inr (.inr 1))) => zgo pc L (vx :: S) G H
  | _ => none
/-- no long stands right ahead of the place -/
def znl (L : List zV) : Nat → Bool
  | 0 => true
  | i + 1 => match L[i]? with | some (.inr (.inl _)) => false | _ => true
def zist (i pc : Nat) (L S : List zV) (G : zG) (H : zH) : Option zO := match S with
  | .inl z :: S => zif (decide (i < L.length) && znl L i) (zgo pc (L.set i (vi z)) S G H)
  | _ => none
def zlst (i pc : Nat) (L S : List zV) (G : zG) (H : zH) : Option zO := match S with
  | .inr (.inl z) :: S => zif (decide (i + 1 < L.length) && znl L i) (zgo pc ((L.set i (vl z)).set (i + 1) vu) S G H)
  | _ => none
def zast (i pc : Nat) (L S : List zV) (G : zG) (H : zH) : Option zO := match S with
  | .inr (.inr (.inl k)) :: S => zif (decide (i < L.length) && znl L i) (zgo pc (L.set i (vr k)) S G H)
  | _ => none
def zint2 (f : Int → Int → Int) (pc : Nat) (L S : List zV) (G : zG) (H : zH) : Option zO := match S with
  | .inl b :: .inl a :: S => zgo pc L (vi (f a b) :: S) G H
  | _ => none
def zlong2 (f : Int → Int → Int) (pc : Nat) (L S : List zV) (G : zG) (H : zH) : Option zO := match S with
  | .inr (.inl b) :: .inr (.inl a) :: S => zgo pc L (vl (f a b) :: S) G H
  | _ => none
def zlongi (f : Int → Int → Int) (pc : Nat) (L S : List zV) (G : zG) (H : zH) : Option zO := match S with
  | .inl b :: .inr (.inl a) :: S => zgo pc L (vl (f a b) :: S) G H
  | _ => none
def zdivs (f : Int → Int → Int) (pc : Nat) (L S : List zV) (G : zG) (H : zH) : Option zO := match S with
  | .inl b :: .inl a :: S => zif (decide (b ≠ 0)) (zgo pc L (vi (f a b) :: S) G H)
  | _ => none
def zcm (c : ClassFile.Cond) (a b : Int) : Bool := match c with
  | .eq => decide (a = b) | .ne => decide (a ≠ b) | .lt => decide (a < b) | .ge => decide (b ≤ a) | .gt => decide (b < a) | .le => decide (a ≤ b)
def zgetf (m : zM) (i pc : Nat) (L S : List zV) (G : zG) (H : zH) : Option zO := match S with
  | .inr (.inr (.inl a)) :: S => match zfd m.1 i with
    | some (c, k) => zif (zCb G a c) (match zrf c k with
      | true => zif (decide (G.2.2.2 a k < G.1)) (zgo pc L (vr (G.2.2.2 a k) :: S) G H)
      | false => zgo pc L (vi (H a k) :: S) G H)
    | none => none
  | _ => none
def zputf (m : zM) (i pc : Nat) (L S : List zV) (G : zG) (H : zH) : Option zO := match zfd m.1 i with
  | none => none
  | some (c, k) => match zrf c k, S with
    | false, .inl z :: .inr (.inr (.inl a)) :: S => zif (zCb G a c) (zgo pc L S G (zup H a k z))
    | true, .inr (.inr (.inl x)) :: .inr (.inr (.inl a)) :: S => zif (zCb G a c && (decide (m.1 = c) && decide (m.2.1.name = "<init>"))) (zgo pc L S (G.1, G.2.1, G.2.2.1, zrset G.2.2.2 a (zru (G.2.2.2 a) k x)) H)
    | _, _ => none
def zarld (o : Option (Nat × (Int → Int))) (t pc : Nat) (L S : List zV) (G : zG) (H : zH) : Option zO := match S with
  | .inl i :: .inr (.inr (.inl a)) :: S => zif (zCb G a t && zInb G a i) (zgo pc L (vi (H a i) :: S) G H)
  | .inl i :: .inr (.inr (.inr 1)) :: S => match o with
    | some (n, f) => zif (decide (t = 100) && (decide (0 ≤ i) && decide (i < (n : Int)))) (zgo pc L (vi (f i) :: S) G H)
    | none => none
  | _ => none
def zarst (t pc : Nat) (L S : List zV) (G : zG) (H : zH) : Option zO := match S with
  | .inl v :: .inl i :: .inr (.inr (.inl a)) :: S => zif ((zCb G a t && zInb G a i) && (decide (t = 100) || (decide (v = 0) || decide (v = 1)))) (zgo pc L S G (zup H a i v))
  | _ => none
def zaald (pc : Nat) (L S : List zV) (G : zG) (H : zH) : Option zO := match S with
  | .inl i :: .inr (.inr (.inl a)) :: S => zif (((zCb G a 102 || zCb G a 103) && zInb G a i) && decide (G.2.2.2 a i < G.1)) (zgo pc L (vr (G.2.2.2 a i) :: S) G H)
  | _ => none
def zaast (pc : Nat) (L S : List zV) (G : zG) (H : zH) : Option zO := match S with
  | .inr (.inr (.inl x)) :: .inl i :: .inr (.inr (.inl a)) :: S => zif ((zCb G a 102 && zInb G a i) && zCb G x 0) (zgo pc L S (G.1, G.2.1, G.2.2.1, zrset G.2.2.2 a (zru (G.2.2.2 a) i x)) H)
  | _ => none
def zalen (o : Option (Nat × (Int → Int))) (pc : Nat) (L S : List zV) (G : zG) (H : zH) : Option zO := match S with
  | .inr (.inr (.inl a)) :: S => zif (decide (a < G.1) && ((decide (100 ≤ (G.2.2.1 a).1) && decide ((G.2.2.1 a).1 ≤ 103)) && decide ((G.2.2.1 a).2 < 2147483648))) (zgo pc L (vi ((G.2.2.1 a).2 : Int) :: S) G H)
  | .inr (.inr (.inr 1)) :: S => match o with
    | some (n, _) => zgo pc L (vi (n : Int) :: S) G H
    | none => none
  | _ => none
/-- a new cell -/
def znew (G : zG) (t n : Nat) : zG := (G.1 + 1, G.2.1 + n, zsh G.2.2.1 G.1 (t, n), zrset G.2.2.2 G.1 (fun _ => znul))
def znewo (m : zM) (i pc : Nat) (L S : List zV) (G : zG) (H : zH) : Option zO := match zct m.1 i with
  | some c => zif (decide (c < 10) && decide (G.1 < znul)) (zgo pc L (vr G.1 :: S) (znew G c (zNN c)) (zset H G.1 (fun _ => 0)))
  | none => none
def znewa (t pc : Nat) (L S : List zV) (G : zG) (H : zH) : Option zO := match S with
  | .inl n :: S => zif ((decide (0 ≤ n) && decide (n ≤ 10000)) && decide (G.1 < znul)) (zgo pc L (vr G.1 :: S) (znew G t n.toNat) (zset H G.1 (fun _ => 0)))
  | _ => none
/-- n rows of k ints -/
def znews (G : zG) (H : zH) (k : Nat) : Nat → zG × zH
  | 0 => (G, H)
  | n + 1 => (znew (znews G H k n).1 100 k, zset (znews G H k n).2 (znews G H k n).1.1 (fun _ => 0))
def znewm (pc : Nat) (L S : List zV) (G : zG) (H : zH) : Option zO := match S with
  | .inl k :: .inl n :: S => zif (((decide (0 ≤ n) && decide (n ≤ 100)) && (decide (0 ≤ k) && decide (k ≤ 100))) && decide (G.1 + n.toNat < znul))
      (zgo pc L (vr G.1 :: S)
        ((znews (znew G 103 n.toNat) (zset H G.1 (fun _ => 0)) k.toNat n.toNat).1.1, (znews (znew G 103 n.toNat) (zset H G.1 (fun _ => 0)) k.toNat n.toNat).1.2.1,
         (znews (znew G 103 n.toNat) (zset H G.1 (fun _ => 0)) k.toNat n.toNat).1.2.2.1,
         zrset (znews (znew G 103 n.toNat) (zset H G.1 (fun _ => 0)) k.toNat n.toNat).1.2.2.2 G.1 (fun i => if 0 ≤ i ∧ i < n then G.1 + 1 + i.toNat else znul))
        (znews (znew G 103 n.toNat) (zset H G.1 (fun _ => 0)) k.toNat n.toNat).2)
  | _ => none
def zcpy (H : zH) (a b : Nat) (sp dp n : Int) : Int → Int := fun j => if dp ≤ j ∧ j < dp + n then H a (sp + (j - dp)) else H b j
/-- the machine's own methods: 0 max, 1 min, 2 arraycopy, 3 Object's beginning -/
def zbui (b pc : Nat) (L S : List zV) (G : zG) (H : zH) : Option zO := match b, S with
  | 0, .inl y :: .inl x :: S => zif (decide (S.length ≤ 4)) (zgo pc L (vi (if x < y then y else x) :: S) G H)
  | 1, .inl y :: .inl x :: S => zif (decide (S.length ≤ 4)) (zgo pc L (vi (if y < x then y else x) :: S) G H)
  | 2, .inl n :: .inl dp :: .inr (.inr (.inl b)) :: .inl sp :: .inr (.inr (.inl a)) :: S =>
    zif (decide (S.length ≤ 4) && ((zCb G a 100 && zCb G b 100) && ((decide (0 ≤ sp) && decide (0 ≤ dp)) && (decide (0 ≤ n) && (decide (sp + n ≤ ((G.2.2.1 a).2 : Int)) && decide (dp + n ≤ ((G.2.2.1 b).2 : Int)))))))
      (zgo pc L S G (zset H b (zcpy H a b sp dp n)))
  | 3, .inr (.inr (.inl _)) :: S => zif (decide (S.length ≤ 4)) (zgo pc L S G H)
  | _, _ => none
def zlx : List zV → List zV
  | [] => []
  | .inr (.inl z) :: t => vl z :: vu :: zlx t
  | .inl z :: t => vi z :: zlx t
  | .inr (.inr z) :: t => .inr (.inr z) :: zlx t
/-- a call: 0 of an object, 1 and 2 static, 3 and 4 a beginning -/
def zinv (m : zM) (t i pc : Nat) (L S : List zV) (G : zG) (H : zH) : Option zO := match zbt m.1 i with
  | some b => zif (decide ((t = 1 ∧ b ≠ 3) ∨ (t = 3 ∧ b = 3))) (zbui b pc L S G H)
  | none => match zmt m.1 i with
    | some (k, m', na) => zif (((decide (na ≤ S.length) && decide (S.length ≤ na + 4)) && decide ((zlx (S.take na).reverse).length ≤ m'.2.2.2.1)) && decide (k = t ∨ (t ≠ 0 ∧ k = t + 1)))
        (match t, (S.take na).reverse with
        | 0, .inr (.inr (.inl a)) :: as => zif (zCb G a m'.1) (some (.inr (.inr (m', .inr (.inr (.inl a)) :: as, S.drop na))))
        | 3, .inr (.inr (.inl a)) :: as => some (.inr (.inr (m', .inr (.inr (.inl a)) :: as, S.drop na)))
        | 1, as => some (.inr (.inr (m', as, S.drop na)))
        | _, _ => none)
    | none => none
def zret (m : zM) (S : List zV) : Option zO := match S with
  | [.inl z] => match m.2.2.2.2.1 with
    | some .int => some (.inr (.inl (some (vi z))))
    | some .boolean => zif (decide (z = 0) || decide (z = 1)) (some (.inr (.inl (some (vi z)))))
    | _ => none
  | _ => none
def zdup (pc : Nat) (L S : List zV) (G : zG) (H : zH) : Option zO := match S with
  | .inl a :: S => zgo pc L (vi a :: vi a :: S) G H
  | .inr (.inr (.inl a)) :: S => zgo pc L (vr a :: vr a :: S) G H
  | _ => none
def zdup2 (pc : Nat) (L S : List zV) (G : zG) (H : zH) : Option zO := match S with
  | .inl a :: .inr (.inr (.inl b)) :: S => zgo pc L (vi a :: vr b :: vi a :: vr b :: S) G H
  | _ => none
def zpop (pc : Nat) (L S : List zV) (G : zG) (H : zH) : Option zO := match S with
  | .inl _ :: S => zgo pc L S G H
  | _ => none
def ziinc (i : Nat) (n : Int) (pc : Nat) (L S : List zV) (G : zG) (H : zH) : Option zO := match L[i]? with
  | some (.inl z) => zif (znl L i) (zgo pc (L.set i (vi (zw (z + n)))) S G H)
  | _ => none
def zift (c : ClassFile.Cond) (pc tgt : Nat) (L S : List zV) (G : zG) (H : zH) : Option zO := match S with
  | .inl a :: S => zgo (if zcm c a 0 = true then tgt else pc) L S G H
  | _ => none
def zicm (c : ClassFile.Cond) (pc tgt : Nat) (L S : List zV) (G : zG) (H : zH) : Option zO := match S with
  | .inl b :: .inl a :: S => zgo (if zcm c a b = true then tgt else pc) L S G H
  | _ => none
def ztab (pc : Nat) (d lo hi : Int) (offs : Array Int) (x : Int) : Option Nat :=
  if x < lo ∨ hi < x then some (zjmp pc d) else match offs[(x - lo).toNat]? with | some off => some (zjmp pc off) | none => none
/-- one instruction of a method -/
def zstp (o : Option (Nat × (Int → Int))) (d : Nat) (m : zM) (pc : Nat) (op : Instr) (len : Nat) (L S : List zV) (G : zG) (H : zH) : Option zO :=
  match op with
  | .iconst n => zif (decide (-1 ≤ n) && decide (n ≤ 5)) (zgo (pc + 1) L (vi n :: S) G H)
  | .bipush n => zif (decide (-128 ≤ n) && decide (n ≤ 127)) (zgo (pc + 2) L (vi n :: S) G H)
  | .sipush n => zif (decide (-32768 ≤ n) && decide (n ≤ 32767)) (zgo (pc + 3) L (vi n :: S) G H)
  | .lconst n => zgo (pc + 1) L (vl (n.val : Int) :: S) G H
  | .ldc i => match zki m.1 i with | some z => zgo (pc + 2) L (vi z :: S) G H | none => none
  | .ldc2_w i => match zkl m.1 i with | some z => zgo (pc + 3) L (vl z :: S) G H | none => none
  | .iload_n k => zld k.val (pc + 1) L S G H
  | .iload i => zld i (pc + 2) L S G H
  | .lload_n k => zlld k.val (pc + 1) L S G H
  | .aload_n k => zald k.val (pc + 1) L S G H
  | .aload i => zald i (pc + 2) L S G H
  | .istore_n k => zist k.val (pc + 1) L S G H
  | .istore i => zist i (pc + 2) L S G H
  | .lstore_n k => zlst k.val (pc + 1) L S G H
  | .astore_n k => zast k.val (pc + 1) L S G H
  | .astore i => zast i (pc + 2) L S G H
  | .iinc i n => ziinc i n (pc + 3) L S G H
  | .iadd => zint2 (fun a b => zw (a + b)) (pc + 1) L S G H
  | .isub => zint2 (fun a b => zw (a - b)) (pc + 1) L S G H
  | .imul => zint2 (fun a b => zw (a * b)) (pc + 1) L S G H
  | .idiv => zdivs zdiv (pc + 1) L S G H
  | .irem => zdivs zrem (pc + 1) L S G H
  | .iand => zint2 zand (pc + 1) L S G H
  | .ior => zint2 zor (pc + 1) L S G H
  | .ishl => zint2 zshl (pc + 1) L S G H
  | .ishr => zint2 zshr (pc + 1) L S G H
  | .ladd => zlong2 (fun a b => zwl (a + b)) (pc + 1) L S G H
  | .lmul => zlong2 (fun a b => zwl (a * b)) (pc + 1) L S G H
  | .lrem => match S with
    | .inr (.inl b) :: .inr (.inl a) :: S => zif (decide (b ≠ 0)) (zgo (pc + 1) L (vl (zlrem a b) :: S) G H)
    | _ => none
  | .land => zlong2 zland (pc + 1) L S G H
  | .lor => zlong2 zlor (pc + 1) L S G H
  | .lshl => zlongi zlshl (pc + 1) L S G H
  | .lshr => zlongi zlshr (pc + 1) L S G H
  | .lushr => zlongi zlushr (pc + 1) L S G H
  | .i2l => match S with
    | .inl a :: S => zgo (pc + 1) L (vl a :: S) G H
    | _ => none
  | .l2i => match S with
    | .inr (.inl a) :: S => zgo (pc + 1) L (vi (zw a) :: S) G H
    | _ => none
  | .dup => zdup (pc + 1) L S G H
  | .dup2 => zdup2 (pc + 1) L S G H
  | .pop => zpop (pc + 1) L S G H
  | .ifCond c off => zif (decide (0 ≤ (pc : Int) + off)) (zift c (pc + 3) (zjmp pc off) L S G H)
  | .if_icmp c off => zif (decide (0 ≤ (pc : Int) + off)) (zicm c (pc + 3) (zjmp pc off) L S G H)
  | .goto off => zif (decide (0 ≤ (pc : Int) + off)) (zgo (zjmp pc off) L S G H)
  | .tableswitch dd lo hi offs => match S with
    | .inl x :: S => zif (decide (0 ≤ (pc : Int) + dd) && offs.toList.all (fun q => decide (0 ≤ (pc : Int) + q))) (match ztab pc dd lo hi offs x with | some t => zgo t L S G H | none => none)
    | _ => none
  | .lookupswitch dd ps => match S with
    | .inl x :: S => zif ((ps.toList.zip (ps.toList.drop 1)).all (fun (a, next) => a.1 < next.1) && decide (0 ≤ (pc : Int) + Op.lookupswitch.offset ps.toList dd x)) (zgo (zjmp pc (Op.lookupswitch.offset ps.toList dd x)) L S G H)
    | _ => none
  | .getfield i => zgetf m i (pc + 3) L S G H
  | .putfield i => zputf m i (pc + 3) L S G H
  | .iaload => zarld o 100 (pc + 1) L S G H
  | .iastore => zarst 100 (pc + 1) L S G H
  | .baload => zarld o 101 (pc + 1) L S G H
  | .bastore => zarst 101 (pc + 1) L S G H
  | .aaload => zaald (pc + 1) L S G H
  | .aastore => zaast (pc + 1) L S G H
  | .arraylength => zalen o (pc + 1) L S G H
  | .new i => znewo m i (pc + 3) L S G H
  | .newarray .int => znewa 100 (pc + 2) L S G H
  | .newarray .boolean => znewa 101 (pc + 2) L S G H
  | .anewarray i => match zct m.1 i with | some 0 => znewa 102 (pc + 3) L S G H | _ => none
  | .multianewarray i 2 => match zct m.1 i with | some 200 => znewm (pc + 4) L S G H | _ => none
  | .invokevirtual i => zif (decide (1 ≤ d)) (zinv m 0 i (pc + 3) L S G H)
  | .invokestatic i => zif (decide (1 ≤ d)) (zinv m 1 i (pc + 3) L S G H)
  | .invokespecial i => zif (decide (1 ≤ d)) (zinv m 3 i (pc + 3) L S G H)
  | .ireturn => zret m S
  | .return_ => match S, m.2.2.2.2.1 with
    | [], none => some (.inr (.inl none))
    | _, _ => none
  | _ => none
/-- the instruction is of its length -/
def zlo (op : Instr) (len : Nat) : Bool := match op with
  | .bipush _ | .ldc _ | .iload _ | .aload _ | .istore _ | .astore _ | .newarray _ => len == 2
  | .sipush _ | .ldc2_w _ | .iinc _ _ | .ifCond _ _ | .if_icmp _ _ | .goto _ | .getfield _ | .putfield _ | .new _ | .anewarray _ | .invokevirtual _ | .invokestatic _ | .invokespecial _ => len == 3
  | .multianewarray _ _ => len == 4
  | .tableswitch _ _ _ _ => true
  | .lookupswitch _ _ => true
  | _ => len == 1
def zst (o : Option (Nat × (Int → Int))) (d : Nat) (m : zM) (pc : Nat) (L S : List zV) (G : zG) (H : zH) : Option zO :=
  match decode m.2.2.1 pc with
  | .ok (op, len) => zif (zlo op len) (zstp o d m pc op len L S G H)
  | .error _ => none
def zlev (m : zM) : Nat := m.2.2.2.2.2
def zdn (d : Nat) (m : zM) : Nat := if zlev m < d then zlev m else d - 1
def zloc (m : zM) (as : List zV) : List zV := zlx as ++ List.replicate (m.2.2.2.1 - (zlx as).length) vu
def zexec : Nat → Option (Nat × (Int → Int)) → Nat → zM → Nat → List zV → List zV → zG → zH → Option (Option zV × zG × zH)
  | 0, _, _, _, _, _, _, _, _ => none
  | n + 1, o, d, m, pc, L, S, G, H =>
    match zst o d m pc L S G H with
    | none => none
    | some (.inl (pc', L', S', G', H')) => zexec n o d m pc' L' S' G' H'
    | some (.inr (.inl r)) => some (r, G, H)
    | some (.inr (.inr (m', as, S'))) =>
      match zexec n none (zdn d m') m' 0 (zloc m' as) [] G H with
      | none => none
      | some (r, G', H') => zexec n o d m (pc + 3) L (r.toList ++ S') G' H'
