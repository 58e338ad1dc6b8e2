def ZS0 : List Int := [114, 111, 111, 109, 32, 32, 98, 121, 32, 32, 32, 32, 108, 105, 110, 101, 32, 32, 98, 101, 110, 100, 115, 32, 116, 104, 105, 110, 103, 32, 97, 116, 32, 32, 32, 32, 119, 111, 114, 116, 104, 32, 108, 101, 103, 32, 32, 32, 98, 105, 103, 32, 32, 32, 121, 105, 101, 108, 100, 32, 110, 105, 103, 104, 116, 32, 115, 119, 101, 101, 112, 32, 109, 111, 118, 101, 32, 32, 116, 111, 32, 32, 32, 32, 97, 110, 121, 32, 32, 32, 119, 104, 101, 110, 32, 32, 98, 111, 97, 114, 100, 115, 118, 97, 108, 117, 101, 32, 104, 111, 108, 100, 115, 32, 108, 111, 111, 112, 32, 32, 101, 110, 100, 32, 32, 32, 115, 116, 111, 112, 32, 32]
def ZS1 : List Int := [32, 114, 111, 111, 109, 32, 108, 105, 110, 101, 32, 98, 101, 110, 100, 115, 32, 116, 104, 105, 110, 103, 32, 98, 121, 32, 97, 116, 32, 119, 111, 114, 116, 104, 32, 108, 101, 103, 32, 98, 105, 103, 32, 121, 105, 101, 108, 100, 32, 110, 105, 103, 104, 116, 32, 115, 119, 101, 101, 112, 32, 109, 111, 118, 101, 32, 97, 110, 121, 32, 116, 111, 32, 119, 104, 101, 110, 32, 108, 111, 111, 112, 32, 101, 110, 100, 32, 115, 116, 111, 112, 32, 98, 111, 97, 114, 100, 115, 32, 118, 97, 108, 117, 101, 32, 104, 111, 108, 100, 115, 32]
/-! ===== the machine over numbers: what one instruction does to locals, stack and the cells' numbers ===== -/
abbrev AV : Type := Int ⊕ (Int ⊕ Nat)
abbrev HP : Type := Nat → Nat → Int
abbrev SR : Type := (Nat × List AV × List AV × HP) ⊕ (Option AV ⊕ (Nat × List AV × List AV))
abbrev vi (z : Int) : AV := .inl z
abbrev vj (z : Int) : AV := .inr (.inl z)
abbrev vr (k : Nat) : AV := .inr (.inr k)
def w8 (z : Int) : Int := (z + 128) % 256 - 128
def w16 (z : Int) : Int := (z + 32768) % 65536 - 32768
def w32 (z : Int) : Int := (z + 2147483648) % 4294967296 - 2147483648
def w64 (z : Int) : Int := (z + 9223372036854775808) % 18446744073709551616 - 9223372036854775808
def hs (h : HP) (k i : Nat) (v : Int) : HP := fun k' i' => if k' = k ∧ i' = i then v else h k' i'
def cpy (h : HP) (a sp b dp n : Nat) : HP := fun k i => if k = b ∧ dp ≤ i ∧ i < dp + n then h a (sp + (i - dp)) else h k i
def acat (v : AV) : Nat := match v with
  | .inr (.inl _) => 2
  | _ => 1
def lclr (ls : List AV) (i : Nat) : List AV := match i with
  | 0 => ls
  | j + 1 => match ls[j]? with
    | some (.inr (.inl _)) => ls.set j (vr 9999)
    | _ => ls
def lst1 (ls : List AV) (i : Nat) (v : AV) : List AV := (lclr ls i).set i v
def lst2 (ls : List AV) (i : Nat) (v : AV) : List AV := ((lclr ls i).set i v).set (i + 1) (vr 9999)
def lay : List AV → List AV
  | [] => []
  | v :: vs => match v with
    | .inr (.inl _) => v :: vr 9999 :: lay vs
    | _ => v :: lay vs
def zent (mj : Nat) (as : List AV) : List AV := lay as ++ List.replicate (zmL mj - (lay as).length) (vr 9999)
def cmpb (c : ClassFile.Cond) (x y : Int) : Bool := match c with
  | .eq => decide (x = y)
  | .ne => decide (¬ x = y)
  | .lt => decide (x < y)
  | .ge => decide (y ≤ x)
  | .gt => decide (y < x)
  | .le => decide (x ≤ y)
def jmp (pc : Nat) (off : Int) : Nat := ((pc : Int) + off).toNat
def nxt (pc : Nat) (ls st : List AV) (h : HP) : Option SR := some (.inl (pc, ls, st, h))
def in32 (z : Int) : Prop := -2147483648 ≤ z ∧ z ≤ 2147483647
def in64 (z : Int) : Prop := -9223372036854775808 ≤ z ∧ z ≤ 9223372036854775807
def zstr (q : Nat) : List Int := if q = 2000 then ZS0 else if q = 2001 then ZS1 else []
def zal (h : HP) : Nat := (h 1002 0).toNat
def icall (st : List AV) (x y pc : Nat) : Option SR :=
  if zmA x ≤ st.length ∧ ((st.drop (zmA x)).map acat).sum ≤ 8 ∧ (lay (st.take (zmA x)).reverse).length ≤ zmL x then
    (if y = 1 ∨ y = 4 then some (.inr (.inr (x, (st.take (zmA x)).reverse, st.drop (zmA x))))
     else match (st.take (zmA x)).reverse with
       | .inr (.inr k) :: _ => if zck k = zmK x then some (.inr (.inr (x, (st.take (zmA x)).reverse, st.drop (zmA x)))) else none
       | _ => none)
  else none
def iinv (b : Bool) (mi pc : Nat) (ls st : List AV) (h : HP) (x y : Nat) : Option SR :=
  if x < 1000 then icall st x y pc
  else if x = 1000 then match st with
    | .inl n :: .inl dp :: .inr (.inr kb) :: .inl sp :: .inr (.inr ka) :: r =>
      if zck ka = zck kb ∧ (zck ka = 20 ∨ zck ka = 21) ∧ 0 ≤ n ∧ 0 ≤ sp ∧ 0 ≤ dp ∧ sp + n ≤ zcn ka ∧ dp + n ≤ zcn kb ∧ (r.map acat).sum ≤ 8 then nxt (pc + 3) ls r (cpy h ka sp.toNat kb dp.toNat n.toNat) else none
    | _ => none
  else if x = 1001 then match st with
    | .inr (.inr _) :: r => if (r.map acat).sum ≤ 8 then nxt (pc + 3) ls r h else none
    | _ => none
  else if x = 1002 then match st with
    | .inl i :: .inr (.inr q) :: r => if 0 ≤ i ∧ i < (zstr q).length ∧ (r.map acat).sum ≤ 8 then nxt (pc + 3) ls (vi ((zstr q).getD i.toNat 0) :: r) h else none
    | _ => none
  else if x = 1003 then match st with
    | .inr (.inr q) :: r => if (q = 2000 ∨ q = 2001) ∧ (r.map acat).sum ≤ 8 then nxt (pc + 3) ls (vi ((zstr q).length : Nat) :: r) h else none
    | _ => none
  else none
def iget (b : Bool) (pc : Nat) (ls st : List AV) (h : HP) (x y : Nat) : Option SR := match st with
  | .inr (.inr k) :: r =>
    if zck k = x then
      (if zfk (64 * x + y) = 0 ∨ zfk (64 * x + y) = 3 then nxt (pc + 3) ls (vi (h k y) :: r) h
       else if zfk (64 * x + y) = 1 then nxt (pc + 3) ls (vj (h k y) :: r) h
       else if zfk (64 * x + y) = 4 ∧ (b = true ∨ h k y = 1) then nxt (pc + 3) ls (vr (k + zfo (64 * x + y)) :: r) h
       else none)
    else none
  | _ => none
def iput (b : Bool) (mi pc : Nat) (ls st : List AV) (h : HP) (x y : Nat) : Option SR := match st with
  | .inl w :: .inr (.inr k) :: r =>
    if zck k = x ∧ (zfk (64 * x + y) = 0 ∨ (zfk (64 * x + y) = 3 ∧ (w = 0 ∨ w = 1))) then nxt (pc + 3) ls r (hs h k y w) else none
  | .inr (.inl w) :: .inr (.inr k) :: r =>
    if zck k = x ∧ zfk (64 * x + y) = 1 then nxt (pc + 3) ls r (hs h k y w) else none
  | .inr (.inr q) :: .inr (.inr k) :: r =>
    if zck k = x ∧ zfk (64 * x + y) = 4 ∧ b = false ∧ zmI mi = true ∧ zmK mi = x ∧ q = k + zfo (64 * x + y) then nxt (pc + 3) ls r (hs h k y 1) else none
  | _ => none
def ibin (pc len : Nat) (ls st : List AV) (h : HP) (f : Int → Int → Int) : Option SR := match st with
  | .inl y :: .inl x :: r => nxt (pc + len) ls (vi (f x y) :: r) h
  | _ => none
def idiv0 (pc len : Nat) (ls st : List AV) (h : HP) (f : Int → Int → Int) : Option SR := match st with
  | .inl y :: .inl x :: r => if y = 0 then none else nxt (pc + len) ls (vi (f x y) :: r) h
  | _ => none
def jbin (pc len : Nat) (ls st : List AV) (h : HP) (f : Int → Int → Int) : Option SR := match st with
  | .inr (.inl y) :: .inr (.inl x) :: r => nxt (pc + len) ls (vj (f x y) :: r) h
  | _ => none
def jdiv0 (pc len : Nat) (ls st : List AV) (h : HP) (f : Int → Int → Int) : Option SR := match st with
  | .inr (.inl y) :: .inr (.inl x) :: r => if y = 0 then none else nxt (pc + len) ls (vj (f x y) :: r) h
  | _ => none
def jsh (pc len : Nat) (ls st : List AV) (h : HP) (f : Int → Int → Int) : Option SR := match st with
  | .inl y :: .inr (.inl x) :: r => nxt (pc + len) ls (vj (f x y) :: r) h
  | _ => none
def o_and (x y : Int) : Int := (Int32.ofInt x &&& Int32.ofInt y).toInt
def o_or (x y : Int) : Int := (Int32.ofInt x ||| Int32.ofInt y).toInt
def o_shl (x y : Int) : Int := (Int32.ofInt x <<< (Int32.ofInt y &&& 31)).toInt
def o_shr (x y : Int) : Int := (Int32.ofInt x >>> (Int32.ofInt y &&& 31)).toInt
def o_land (x y : Int) : Int := (Int64.ofInt x &&& Int64.ofInt y).toInt
def o_lor (x y : Int) : Int := (Int64.ofInt x ||| Int64.ofInt y).toInt
def o_lshl (x y : Int) : Int := (Int64.ofInt x <<< ((Int32.ofInt y).toInt64 &&& 63)).toInt
def o_lshr (x y : Int) : Int := (Int64.ofInt x >>> ((Int32.ofInt y).toInt64 &&& 63)).toInt
def o_lushr (x y : Int) : Int := ((Int64.ofInt x).toUInt64 >>> ((Int32.ofInt y).toInt64.toUInt64 &&& Int64.toUInt64 63)).toInt64.toInt
def o_lcmp (x y : Int) : Int := if x < y then -1 else if x = y then 0 else 1
def ipush (pc : Nat) (ls st : List AV) (h : HP) (z : Int) : Option SR := if -2147483648 ≤ z ∧ z ≤ 2147483647 then nxt pc ls (vi z :: st) h else none
def ildi (pc : Nat) (ls st : List AV) (h : HP) (k : Nat) : Option SR := match ls[k]? with
  | some (.inl v) => nxt pc ls (vi v :: st) h
  | _ => none
def ildj (pc : Nat) (ls st : List AV) (h : HP) (k : Nat) : Option SR := match ls[k]? with
  | some (.inr (.inl v)) => nxt pc ls (vj v :: st) h
  | _ => none
def ilda (pc : Nat) (ls st : List AV) (h : HP) (k : Nat) : Option SR := match ls[k]? with
  | some (.inr (.inr v)) => if v = 9999 then none else nxt pc ls (vr v :: st) h
  | _ => none
def isti (pc : Nat) (ls st : List AV) (h : HP) (k : Nat) : Option SR := match st with
  | .inl v :: r => if k < ls.length then nxt pc (lst1 ls k (vi v)) r h else none
  | _ => none
def istj (pc : Nat) (ls st : List AV) (h : HP) (k : Nat) : Option SR := match st with
  | .inr (.inl v) :: r => if k + 1 < ls.length then nxt pc (lst2 ls k (vj v)) r h else none
  | _ => none
def ista (pc : Nat) (ls st : List AV) (h : HP) (k : Nat) : Option SR := match st with
  | .inr (.inr v) :: r => if k < ls.length then nxt pc (lst1 ls k (vr v)) r h else none
  | _ => none
def iald (pc : Nat) (ls st : List AV) (h : HP) : Option SR := match st with
  | .inl i :: .inr (.inr k) :: r =>
    if zck k = 20 ∧ 0 ≤ i ∧ i < zcn k then nxt (pc + 1) ls (vi (h k i.toNat) :: r) h
    else if k = 1000 ∧ 0 ≤ i ∧ i < h 1001 0 then nxt (pc + 1) ls (vi (h 1000 i.toNat) :: r) h else none
  | _ => none
def bald (pc : Nat) (ls st : List AV) (h : HP) : Option SR := match st with
  | .inl i :: .inr (.inr k) :: r => if zck k = 22 ∧ 0 ≤ i ∧ i < zcn k then nxt (pc + 1) ls (vi (h k i.toNat) :: r) h else none
  | _ => none
def jald (pc : Nat) (ls st : List AV) (h : HP) : Option SR := match st with
  | .inl i :: .inr (.inr k) :: r => if zck k = 21 ∧ 0 ≤ i ∧ i < zcn k then nxt (pc + 1) ls (vj (h k i.toNat) :: r) h else none
  | _ => none
def aald (b : Bool) (pc : Nat) (ls st : List AV) (h : HP) : Option SR := match st with
  | .inl i :: .inr (.inr k) :: r => if (zck k = 23 ∨ zck k = 24) ∧ 0 ≤ i ∧ i < zcn k ∧ (b = true ∨ h k i.toNat = 1) then nxt (pc + 1) ls (vr (zrb k + 14 * i.toNat) :: r) h else none
  | _ => none
def iast (pc : Nat) (ls st : List AV) (h : HP) : Option SR := match st with
  | .inl v :: .inl i :: .inr (.inr k) :: r => if zck k = 20 ∧ 0 ≤ i ∧ i < zcn k then nxt (pc + 1) ls r (hs h k i.toNat v) else none
  | _ => none
def bast (pc : Nat) (ls st : List AV) (h : HP) : Option SR := match st with
  | .inl v :: .inl i :: .inr (.inr k) :: r => if zck k = 22 ∧ 0 ≤ i ∧ i < zcn k ∧ -128 ≤ v ∧ v ≤ 127 then nxt (pc + 1) ls r (hs h k i.toNat v) else none
  | _ => none
def jast (pc : Nat) (ls st : List AV) (h : HP) : Option SR := match st with
  | .inr (.inl v) :: .inl i :: .inr (.inr k) :: r => if zck k = 21 ∧ 0 ≤ i ∧ i < zcn k then nxt (pc + 1) ls r (hs h k i.toNat v) else none
  | _ => none
def aast (b : Bool) (pc : Nat) (ls st : List AV) (h : HP) : Option SR := match st with
  | .inr (.inr q) :: .inl i :: .inr (.inr k) :: r => if b = false ∧ ((zck k = 23 ∧ zck q = 3) ∨ (zck k = 24 ∧ zck q = 7)) ∧ 0 ≤ i ∧ i < zcn k ∧ q = zrb k + 14 * i.toNat then nxt (pc + 1) ls r (hs h k i.toNat 1) else none
  | _ => none
def alen (pc : Nat) (ls st : List AV) (h : HP) : Option SR := match st with
  | .inr (.inr k) :: r =>
    if zck k = 20 ∨ zck k = 21 ∨ zck k = 22 then nxt (pc + 1) ls (vi (zcn k : Nat) :: r) h
    else if k = 1000 then nxt (pc + 1) ls (vi (h 1001 0) :: r) h else none
  | _ => none
def inew (b : Bool) (pc : Nat) (ls st : List AV) (h : HP) (x : Nat) : Option SR :=
  if b = false ∧ x < 20 ∧ zck (zal h) = x ∧ zal h < zK then nxt (pc + 3) ls (vr (zal h) :: st) (hs h 1002 0 ((zal h + 1 : Nat) : Int)) else none
def inewa (b : Bool) (pc len : Nat) (ls st : List AV) (h : HP) (kd : Nat) : Option SR := match st with
  | .inl n :: r => if b = false ∧ zck (zal h) = kd ∧ zal h < zK ∧ n = (zcn (zal h) : Nat) then nxt (pc + len) ls (vr (zal h) :: r) (hs h 1002 0 ((zal h + 1 : Nat) : Int)) else none
  | _ => none
def iret (mi : Nat) (st : List AV) : Option SR := match st with
  | [.inl v] => if zmT mi = 1 ∨ (zmT mi = 3 ∧ (v = 0 ∨ v = 1)) then some (.inr (.inl (some (vi v)))) else none
  | _ => none
def jret (mi : Nat) (st : List AV) : Option SR := match st with
  | [.inr (.inl v)] => if zmT mi = 2 then some (.inr (.inl (some (vj v)))) else none
  | _ => none
def vret (mi : Nat) (st : List AV) : Option SR := match st with
  | [] => if zmT mi = 0 then some (.inr (.inl none)) else none
  | _ => none
def ibr (pc : Nat) (ls st : List AV) (h : HP) (c : ClassFile.Cond) (off : Int) : Option SR := match st with
  | .inl x :: r => nxt (if cmpb c x 0 = true then jmp pc off else pc + 3) ls r h
  | _ => none
def ibr2 (pc : Nat) (ls st : List AV) (h : HP) (c : ClassFile.Cond) (off : Int) : Option SR := match st with
  | .inl y :: .inl x :: r => nxt (if cmpb c x y = true then jmp pc off else pc + 3) ls r h
  | _ => none
def isw (pc : Nat) (ls st : List AV) (h : HP) (d lo hi : Int) (offs : Array Int) : Option SR := match st with
  | .inl v :: r => if v < lo ∨ hi < v then nxt (jmp pc d) ls r h else match offs[(v - lo).toNat]? with
    | some off => nxt (jmp pc off) ls r h
    | none => none
  | _ => none
def ilk (pc : Nat) (ls st : List AV) (h : HP) (d : Int) (ps : Array (Int × Int)) : Option SR := match st with
  | .inl v :: r => nxt (jmp pc (Op.lookupswitch.offset ps.toList d v)) ls r h
  | _ => none
def idup (pc : Nat) (ls st : List AV) (h : HP) : Option SR := match st with
  | .inl v :: r => nxt (pc + 1) ls (vi v :: vi v :: r) h
  | .inr (.inr v) :: r => nxt (pc + 1) ls (vr v :: vr v :: r) h
  | _ => none
def idup2 (pc : Nat) (ls st : List AV) (h : HP) : Option SR := match st with
  | .inr (.inl v) :: r => nxt (pc + 1) ls (vj v :: vj v :: r) h
  | .inl v :: .inl w :: r => nxt (pc + 1) ls (vi v :: vi w :: vi v :: vi w :: r) h
  | .inl v :: .inr (.inr w) :: r => nxt (pc + 1) ls (vi v :: vr w :: vi v :: vr w :: r) h
  | _ => none
def ipop (pc : Nat) (ls st : List AV) (h : HP) : Option SR := match st with
  | .inl _ :: r => nxt (pc + 1) ls r h
  | .inr (.inr _) :: r => nxt (pc + 1) ls r h
  | _ => none
def icv (pc : Nat) (ls st : List AV) (h : HP) (f : Int → Int) : Option SR := match st with
  | .inl v :: r => nxt (pc + 1) ls (vi (f v) :: r) h
  | _ => none
def ii2l (pc : Nat) (ls st : List AV) (h : HP) : Option SR := match st with
  | .inl v :: r => nxt (pc + 1) ls (vj v :: r) h
  | _ => none
def il2i (pc : Nat) (ls st : List AV) (h : HP) : Option SR := match st with
  | .inr (.inl v) :: r => nxt (pc + 1) ls (vi (w32 v) :: r) h
  | _ => none
def ilcmp (pc : Nat) (ls st : List AV) (h : HP) : Option SR := match st with
  | .inr (.inl y) :: .inr (.inl x) :: r => nxt (pc + 1) ls (vi (o_lcmp x y) :: r) h
  | _ => none
def iinc0 (pc : Nat) (ls st : List AV) (h : HP) (k : Nat) (n : Int) : Option SR := match ls[k]? with
  | some (.inl v) => nxt (pc + 3) (lst1 ls k (vi (w32 (v + n)))) st h
  | _ => none
def ildc (pc : Nat) (ls st : List AV) (h : HP) (x : Nat) (c : Int) : Option SR :=
  if x = 0 then ipush pc ls st h c else if x = 2000 ∨ x = 2001 then nxt pc ls (vr x :: st) h else none
def sxi (b : Bool) (mi pc : Nat) (ls st : List AV) (h : HP) (I : Instr) (len x y : Nat) (c : Int) : Option SR := match I with
  | .iconst n => ipush (pc + 1) ls st h n
  | .bipush n => ipush (pc + 2) ls st h n
  | .sipush n => ipush (pc + 3) ls st h n
  | .lconst n => nxt (pc + 1) ls (vj ((n : Nat) : Int) :: st) h
  | .ldc _ => ildc (pc + 2) ls st h x c
  | .ldc_w _ => ipush (pc + 3) ls st h c
  | .ldc2_w _ => if -9223372036854775808 ≤ c ∧ c ≤ 9223372036854775807 then nxt (pc + 3) ls (vj c :: st) h else none
  | .iload k => ildi (pc + 2) ls st h k
  | .iload_n k => ildi (pc + 1) ls st h k
  | .lload k => ildj (pc + 2) ls st h k
  | .lload_n k => ildj (pc + 1) ls st h k
  | .aload k => ilda (pc + 2) ls st h k
  | .aload_n k => ilda (pc + 1) ls st h k
  | .istore k => isti (pc + 2) ls st h k
  | .istore_n k => isti (pc + 1) ls st h k
  | .lstore k => istj (pc + 2) ls st h k
  | .lstore_n k => istj (pc + 1) ls st h k
  | .astore_n k => ista (pc + 1) ls st h k
  | .iinc k n => iinc0 pc ls st h k n
  | .iadd => ibin pc 1 ls st h (fun x y => w32 (x + y))
  | .isub => ibin pc 1 ls st h (fun x y => w32 (x - y))
  | .imul => ibin pc 1 ls st h (fun x y => w32 (x * y))
  | .idiv => idiv0 pc 1 ls st h (fun x y => w32 (Int.tdiv x y))
  | .irem => idiv0 pc 1 ls st h (fun x y => Int.tmod x y)
  | .iand => ibin pc 1 ls st h o_and
  | .ior => ibin pc 1 ls st h o_or
  | .ishl => ibin pc 1 ls st h o_shl
  | .ishr => ibin pc 1 ls st h o_shr
  | .ineg => icv pc ls st h (fun x => w32 (-x))
  | .i2b => icv pc ls st h w8
  | .i2s => icv pc ls st h w16
  | .i2l => ii2l pc ls st h
  | .l2i => il2i pc ls st h
  | .ladd => jbin pc 1 ls st h (fun x y => w64 (x + y))
  | .lsub => jbin pc 1 ls st h (fun x y => w64 (x - y))
  | .lmul => jbin pc 1 ls st h (fun x y => w64 (x * y))
  | .ldiv => jdiv0 pc 1 ls st h (fun x y => w64 (Int.tdiv x y))
  | .lrem => jdiv0 pc 1 ls st h (fun x y => Int.tmod x y)
  | .land => jbin pc 1 ls st h o_land
  | .lor => jbin pc 1 ls st h o_lor
  | .lshl => jsh pc 1 ls st h o_lshl
  | .lshr => jsh pc 1 ls st h o_lshr
  | .lushr => jsh pc 1 ls st h o_lushr
  | .lcmp => ilcmp pc ls st h
  | .iaload => iald pc ls st h
  | .baload => bald pc ls st h
  | .laload => jald pc ls st h
  | .aaload => aald b pc ls st h
  | .iastore => iast pc ls st h
  | .bastore => bast pc ls st h
  | .lastore => jast pc ls st h
  | .aastore => aast b pc ls st h
  | .arraylength => alen pc ls st h
  | .getfield _ => iget b pc ls st h x y
  | .putfield _ => iput b mi pc ls st h x y
  | .invokevirtual _ => iinv b mi pc ls st h x y
  | .invokestatic _ => iinv b mi pc ls st h x y
  | .invokespecial _ => iinv b mi pc ls st h x y
  | .new _ => inew b pc ls st h x
  | .newarray .int => inewa b pc 2 ls st h 20
  | .newarray .long => inewa b pc 2 ls st h 21
  | .newarray .byte => inewa b pc 2 ls st h 22
  | .anewarray _ => if x = 3 then inewa b pc 3 ls st h 23 else if x = 7 then inewa b pc 3 ls st h 24 else none
  | .goto off => nxt (jmp pc off) ls st h
  | .ifCond c off => ibr pc ls st h c off
  | .if_icmp c off => ibr2 pc ls st h c off
  | .tableswitch d lo hi offs => isw pc ls st h d lo hi offs
  | .lookupswitch d ps => ilk pc ls st h d ps
  | .dup => idup pc ls st h
  | .dup2 => idup2 pc ls st h
  | .pop => ipop pc ls st h
  | .ireturn => iret mi st
  | .lreturn => jret mi st
  | .return_ => vret mi st
  | _ => none
def sx (b : Bool) (mi pc : Nat) (ls st : List AV) (h : HP) : Option SR := match zfetch mi pc with
  | none => none
  | some (I, len, x, y, _, c) => sxi b mi pc ls st h I len x y c
abbrev PQ : Type := Option AV → HP → Prop
def wp (b : Bool) : Nat → Nat → Nat → List AV → List AV → HP → PQ → Prop
  | 0, _, _, _, _, _, _ => False
  | n + 1, mi, pc, ls, st, h, Q => match sx b mi pc ls st h with
    | none => False
    | some (.inl (pc', ls', st', h')) => wp b n mi pc' ls' st' h' Q
    | some (.inr (.inl r)) => Q r h
    | some (.inr (.inr (mj, as, st'))) => wp b n mj 0 (zent mj as) [] h (fun r h' => wp b n mi (pc + 3) ls (r.toList ++ st') h' Q)
theorem wp_mono (b : Bool) : ∀ (n n' mi pc : Nat) (ls st : List AV) (h : HP) (Q Q' : PQ), n ≤ n' → (∀ r h, Q r h → Q' r h) → wp b n mi pc ls st h Q → wp b n' mi pc ls st h Q' := by
  intro n
  induction n with
  | zero => intro n' mi pc ls st h Q Q' _ _ hw; exact hw.elim
  | succ n ih =>
    intro n' mi pc ls st h Q Q' hn hq hw
    obtain ⟨n', rfl⟩ : ∃ k, n' = k + 1 := ⟨n' - 1, by omega⟩
    unfold wp at hw ⊢
    cases hsx : sx b mi pc ls st h with
    | none => rw [hsx] at hw; exact hw
    | some r =>
      rw [hsx] at hw
      rcases r with ⟨pc', ls', st', h'⟩ | r | ⟨mj, as, st'⟩
      · exact ih n' mi pc' ls' st' h' Q Q' (by omega) hq hw
      · exact hq _ _ hw
      · exact ih n' mj 0 _ _ _ _ _ (by omega) (fun r h' hr => ih n' mi _ _ _ _ _ _ (by omega) hq hr) hw
theorem wp_det (b : Bool) : ∀ (n mi pc : Nat) (ls st : List AV) (h : HP) (Q : PQ), wp b n mi pc ls st h Q → ∃ r h', Q r h' ∧ wp b n mi pc ls st h (fun r2 h2 => r2 = r ∧ h2 = h') := by
  intro n
  induction n with
  | zero => intro mi pc ls st h Q hw; exact hw.elim
  | succ n ih =>
    intro mi pc ls st h Q hw
    unfold wp at hw ⊢
    cases hsx : sx b mi pc ls st h with
    | none => rw [hsx] at hw; exact hw.elim
    | some r =>
      rw [hsx] at hw
      rcases r with ⟨pc', ls', st', h'⟩ | r | ⟨mj, as, st'⟩
      · exact ih mi pc' ls' st' h' Q hw
      · exact ⟨r, h, hw, rfl, rfl⟩
      · obtain ⟨r, h', h1, h2⟩ := ih mj 0 _ _ _ _ hw
        obtain ⟨r2, h2', h3, h4⟩ := ih mi _ _ _ _ _ h1
        refine ⟨r2, h2', h3, wp_mono b n n _ _ _ _ _ _ _ (Nat.le_refl _) (fun r3 h3 e => ?_) h2⟩
        obtain ⟨rfl, rfl⟩ := e
        exact h4
/-- from here the method comes to its end, with an answer and cells as Q says -/
def Wp (b : Bool) (mi pc : Nat) (ls st : List AV) (h : HP) (Q : PQ) : Prop := ∃ n, wp b n mi pc ls st h Q
section RULES
variable {b : Bool} {mi pc : Nat} {ls st : List AV} {h : HP} {Q Q' : PQ}
theorem Wp.mono (hw : Wp b mi pc ls st h Q) (hq : ∀ r h, Q r h → Q' r h) : Wp b mi pc ls st h Q' := by
  obtain ⟨n, hn⟩ := hw
  exact ⟨n, wp_mono b n n _ _ _ _ _ _ _ (Nat.le_refl _) hq hn⟩
theorem Wp.step {pc' : Nat} {ls' st' : List AV} {h' : HP} (hs : sx b mi pc ls st h = some (.inl (pc', ls', st', h'))) (k : Wp b mi pc' ls' st' h' Q) : Wp b mi pc ls st h Q := by
  obtain ⟨n, hn⟩ := k
  refine ⟨n + 1, ?_⟩
  unfold wp
  rw [hs]
  exact hn
theorem Wp.ret {r : Option AV} (hs : sx b mi pc ls st h = some (.inr (.inl r))) (k : Q r h) : Wp b mi pc ls st h Q := by
  refine ⟨1, ?_⟩
  unfold wp
  rw [hs]
  exact k
theorem Wp.call {mj : Nat} {as st' : List AV} (hs : sx b mi pc ls st h = some (.inr (.inr (mj, as, st')))) (k : Wp b mj 0 (zent mj as) [] h (fun r h' => Wp b mi (pc + 3) ls (r.toList ++ st') h' Q)) : Wp b mi pc ls st h Q := by
  obtain ⟨n, hn⟩ := k
  obtain ⟨r, h', ⟨m, hm⟩, hd⟩ := wp_det b n _ _ _ _ _ _ hn
  refine ⟨max n m + 1, ?_⟩
  unfold wp
  rw [hs]
  refine wp_mono b n (max n m) _ _ _ _ _ _ _ (Nat.le_max_left _ _) (fun r2 h2 e => ?_) hd
  obtain ⟨rfl, rfl⟩ := e
  exact wp_mono b m (max n m) _ _ _ _ _ _ _ (Nat.le_max_right _ _) (fun _ _ q => q) hm
end RULES
