/-! VALUES AND MEMORY in whole numbers: an int (0, _, z), a long (1, _, z), a reference (its tag, the cell's number, 0), nothing known (9, 0, 0) -/
abbrev Vv : Type := Nat × Nat × Int
abbrev iV (z : Int) : Vv := (0, 0, z)
abbrev lV (z : Int) : Vv := (1, 0, z)
abbrev rV (t a : Nat) : Vv := (t, a, 0)
abbrev uV : Vv := (9, 0, 0)
abbrev Sg : Type := Nat → Nat → Int
def upS (σ : Sg) (a k : Nat) (v : Int) : Sg := fun b j => if b = a ∧ j = k then v else σ b j
def cpS (σ : Sg) (a sp b dp n : Nat) : Sg := fun c j => if c = b ∧ dp ≤ j ∧ j < dp + n then σ a (sp + (j - dp)) else σ c j
def w32 (x : Int) : Int := (x + 2147483648) % 4294967296 - 2147483648
def w64 (x : Int) : Int := (x + 9223372036854775808) % 18446744073709551616 - 9223372036854775808
def w16 (x : Int) : Int := (x + 32768) % 65536 - 32768
def w8 (x : Int) : Int := (x + 128) % 256 - 128
def in32 (x : Int) : Prop := -2147483648 ≤ x ∧ x < 2147483648
def in64 (x : Int) : Prop := -9223372036854775808 ≤ x ∧ x < 9223372036854775808
def iandI (x y : Int) : Int := (Int32.ofInt x &&& Int32.ofInt y).toInt
def iorI (x y : Int) : Int := (Int32.ofInt x ||| Int32.ofInt y).toInt
def ixorI (x y : Int) : Int := (Int32.ofInt x ^^^ Int32.ofInt y).toInt
def ishlI (x y : Int) : Int := (Int32.ofInt x <<< (Int32.ofInt y &&& 31)).toInt
def ishrI (x y : Int) : Int := (Int32.ofInt x >>> (Int32.ofInt y &&& 31)).toInt
def iushrI (x y : Int) : Int := ((Int32.ofInt x).toUInt32 >>> ((Int32.ofInt y).toUInt32 &&& Int32.toUInt32 31)).toInt32.toInt
def landI (x y : Int) : Int := (Int64.ofInt x &&& Int64.ofInt y).toInt
def lorI (x y : Int) : Int := (Int64.ofInt x ||| Int64.ofInt y).toInt
def lshlI (x y : Int) : Int := (Int64.ofInt x <<< ((Int32.ofInt y).toInt64 &&& 63)).toInt
def lshrI (x y : Int) : Int := (Int64.ofInt x >>> ((Int32.ofInt y).toInt64 &&& 63)).toInt
def absI (x : Int) : Int := if 0 < x then x else w64 (-x)
def cmpI (x y : Int) : Int := if y < x then 1 else if x = y then 0 else -1
/-- locals, by places -/
def lg : List Vv → Nat → Vv
  | [], _ => uV
  | v :: _, 0 => v
  | _ :: l, n + 1 => lg l n
def unl (v : Vv) : Vv := bif Nat.beq v.1 1 then uV else v
def ls1 : List Vv → Nat → Vv → List Vv
  | [], _, _ => []
  | _ :: l, 0, v => v :: l
  | w :: l, 1, v => unl w :: ls1 l 0 v
  | w :: l, n + 2, v => w :: ls1 l (n + 1) v
/-- the class words of values -/
def fval (ci k : Nat) (σ : Sg) (a : Nat) : Vv := match fty ci k with
  | 0 => iV (σ a k)
  | 1 => lV (σ a k)
  | t => rV t (a + fof ci k)
def strd (kd : Nat) : Nat := if kd = 4 then 7 else 2
def schr (k i : Nat) : Int := (SChr.getD k []).getD i 0
abbrev Rs : Type := List Vv ⊕ Nat
def catV (v : Vv) : Nat := if v.1 = 1 then 2 else 1
def csum (S : List Vv) : Nat := (S.map catV).sum
def tgJ (pc : Nat) (off : Int) : Nat := ((pc : Int) + off).toNat
def brJ (c : ClassFile.Cond) (x y : Int) (P Q : Prop) : Prop := match c with
  | .eq => if x = y then P else Q
  | .ne => if x = y then Q else P
  | .lt => if x < y then P else Q
  | .ge => if x < y then Q else P
  | .gt => if y < x then P else Q
  | .le => if y < x then Q else P
def okR (t a : Nat) : Prop := (a < 88 ∧ TY a = t) ∨ (t = 30 ∧ 1000 ≤ a ∧ a < 1000 + STl.length) ∨ (t = 31 ∧ 2000 ≤ a ∧ a < 2000 + SLen.length) ∨ (t = 6000025 ∧ a = 3000) ∨ t = 33 ∨ t = 34 ∨ t = 35
def okV (v : Vv) : Prop := match v.1 with
  | 0 => in32 v.2.2
  | 1 => in64 v.2.2
  | 9 => True
  | t => okR t v.2.1
def okL (L : List Vv) : Prop := ∀ v ∈ L, okV v
def skd (a j : Nat) : Nat := if TY a < 1000 then fty (TY a - 10) j else if TY a / 1000000 = 2 then 1 else 0
def okS (σ : Sg) : Prop := ∀ a j, a < 89 → if skd a j = 1 then in64 (σ a j) else in32 (σ a j)
/-- may this whole number be what a method with this answer gives back -/
def narR (r : Option FieldType) (z : Int) : Prop := match r with
  | some .int => True
  | some .boolean => z = 0 ∨ z = 1
  | some .byte => -128 ≤ z ∧ z < 128
  | some .char => 0 ≤ z ∧ z < 65536
  | _ => False
def excN (E : Nat) : String := match E with
  | 1 => "java/util/NoSuchElementException"
  | 2 => "java/lang/IllegalArgumentException"
  | 3 => "java/lang/IllegalStateException"
  | _ => "java/lang/IndexOutOfBoundsException"
def excK (E : Nat) : Nat := match E with
  | 1 => 120
  | 2 => 90
  | 3 => 187
  | _ => 404
def excC (E : Nat) : Nat := match E with
  | 1 => 124
  | 2 => 94
  | 3 => 191
  | _ => 408
/-- how many bytes an instruction takes -/
def lnP (i : Instr) (n : Nat) : Prop := match i with
  | .tableswitch .. => True
  | .bipush _ | .ldc _ | .iload _ | .lload _ | .aload _ | .istore _ | .lstore _ | .astore _ => n = 2
  | .sipush _ | .ldc_w _ | .ldc2_w _ | .iinc .. | .goto _ | .ifCond .. | .if_icmp .. | .getfield _ | .putfield _ | .getstatic _ | .invokevirtual _ | .invokestatic _ => n = 3
  | _ => n = 1
/-- one instruction i of n bytes at pc: what must hold for X to hold here. C: what calls do; r: the method's answer's type -/
def stp (C : Nat → List Vv → Sg → Rs → Sg → Prop) (own : Nat) (r : Option FieldType) (X : Nat → List Vv → List Vv → Sg → Prop) (Xr : List Vv → Sg → Prop) (Xt : Nat → Sg → Prop) (i : Instr) (n pc : Nat) (L S : List Vv) (σ : Sg) : Prop :=
  match i with
  | .iconst z => X (pc + n) L (iV (w32 z) :: S) σ
  | .bipush z => X (pc + n) L (iV (w8 z) :: S) σ
  | .sipush z => X (pc + n) L (iV (w16 z) :: S) σ
  | .lconst f => X (pc + n) L (lV ((f : Nat) : Int) :: S) σ
  | .ldc k => (∃ z, look (KIt own) k = some z ∧ X (pc + n) L (iV z :: S) σ) ∨ (∃ j, look (STt own) k = some j ∧ X (pc + n) L (rV 30 (1000 + j) :: S) σ)
  | .ldc_w k => ∃ z, look (KIt own) k = some z ∧ X (pc + n) L (iV z :: S) σ
  | .ldc2_w k => ∃ z, look (KJt own) k = some z ∧ X (pc + n) L (lV z :: S) σ
  | .iload k => ∃ z, lg L k = iV z ∧ X (pc + n) L (iV z :: S) σ
  | .iload_n k => ∃ z, lg L k = iV z ∧ X (pc + n) L (iV z :: S) σ
  | .lload k => ∃ z, lg L k = lV z ∧ X (pc + n) L (lV z :: S) σ
  | .lload_n k => ∃ z, lg L k = lV z ∧ X (pc + n) L (lV z :: S) σ
  | .aload k => ∃ t a, lg L k = rV t a ∧ 10 ≤ t ∧ t ≠ 33 ∧ X (pc + n) L (rV t a :: S) σ
  | .aload_n k => ∃ t a, lg L k = rV t a ∧ 10 ≤ t ∧ t ≠ 33 ∧ X (pc + n) L (rV t a :: S) σ
  | .istore k => ∃ z R, S = iV z :: R ∧ k < L.length ∧ X (pc + n) (ls1 L k (iV z)) R σ
  | .istore_n k => ∃ z R, S = iV z :: R ∧ (k : Nat) < L.length ∧ X (pc + n) (ls1 L k (iV z)) R σ
  | .lstore k => ∃ z R, S = lV z :: R ∧ k + 1 < L.length ∧ X (pc + n) (ls1 (ls1 L (k + 1) uV) k (lV z)) R σ
  | .lstore_n k => ∃ z R, S = lV z :: R ∧ (k : Nat) + 1 < L.length ∧ X (pc + n) (ls1 (ls1 L (k + 1) uV) k (lV z)) R σ
  | .astore k => ∃ t a R, S = rV t a :: R ∧ 10 ≤ t ∧ t ≠ 33 ∧ k < L.length ∧ X (pc + n) (ls1 L k (rV t a)) R σ
  | .astore_n k => ∃ t a R, S = rV t a :: R ∧ 10 ≤ t ∧ t ≠ 33 ∧ (k : Nat) < L.length ∧ X (pc + n) (ls1 L k (rV t a)) R σ
  | .iinc k c => ∃ z, lg L k = iV z ∧ k < L.length ∧ X (pc + n) (ls1 L k (iV (w32 (z + c)))) S σ
  | .iadd => ∃ x y R, S = iV y :: iV x :: R ∧ X (pc + n) L (iV (w32 (x + y)) :: R) σ
  | .isub => ∃ x y R, S = iV y :: iV x :: R ∧ X (pc + n) L (iV (w32 (x - y)) :: R) σ
  | .imul => ∃ x y R, S = iV y :: iV x :: R ∧ X (pc + n) L (iV (w32 (x * y)) :: R) σ
  | .idiv => ∃ x y R, S = iV y :: iV x :: R ∧ y ≠ 0 ∧ X (pc + n) L (iV (w32 (x.tdiv y)) :: R) σ
  | .irem => ∃ x y R, S = iV y :: iV x :: R ∧ y ≠ 0 ∧ X (pc + n) L (iV (x.tmod y) :: R) σ
  | .ineg => ∃ x R, S = iV x :: R ∧ X (pc + n) L (iV (w32 (-x)) :: R) σ
  | .iand => ∃ x y R, S = iV y :: iV x :: R ∧ X (pc + n) L (iV (iandI x y) :: R) σ
  | .ior => ∃ x y R, S = iV y :: iV x :: R ∧ X (pc + n) L (iV (iorI x y) :: R) σ
  | .ixor => ∃ x y R, S = iV y :: iV x :: R ∧ X (pc + n) L (iV (ixorI x y) :: R) σ
  | .ishl => ∃ x y R, S = iV y :: iV x :: R ∧ X (pc + n) L (iV (ishlI x y) :: R) σ
  | .ishr => ∃ x y R, S = iV y :: iV x :: R ∧ X (pc + n) L (iV (ishrI x y) :: R) σ
  | .iushr => ∃ x y R, S = iV y :: iV x :: R ∧ X (pc + n) L (iV (iushrI x y) :: R) σ
  | .i2l => ∃ x R, S = iV x :: R ∧ X (pc + n) L (lV x :: R) σ
  | .l2i => ∃ x R, S = lV x :: R ∧ X (pc + n) L (iV (w32 x) :: R) σ
  | .i2b => ∃ x R, S = iV x :: R ∧ X (pc + n) L (iV (w8 x) :: R) σ
  | .i2s => ∃ x R, S = iV x :: R ∧ X (pc + n) L (iV (w16 x) :: R) σ
  | .i2c => ∃ x R, S = iV x :: R ∧ 0 ≤ x ∧ x < 65536 ∧ X (pc + n) L (iV x :: R) σ
  | .ladd => ∃ x y R, S = lV y :: lV x :: R ∧ X (pc + n) L (lV (w64 (x + y)) :: R) σ
  | .lsub => ∃ x y R, S = lV y :: lV x :: R ∧ X (pc + n) L (lV (w64 (x - y)) :: R) σ
  | .lmul => ∃ x y R, S = lV y :: lV x :: R ∧ X (pc + n) L (lV (w64 (x * y)) :: R) σ
  | .ldiv => ∃ x y R, S = lV y :: lV x :: R ∧ y ≠ 0 ∧ X (pc + n) L (lV (w64 (x.tdiv y)) :: R) σ
  | .lrem => ∃ x y R, S = lV y :: lV x :: R ∧ y ≠ 0 ∧ X (pc + n) L (lV (x.tmod y) :: R) σ
  | .lneg => ∃ x R, S = lV x :: R ∧ X (pc + n) L (lV (w64 (-x)) :: R) σ
  | .land => ∃ x y R, S = lV y :: lV x :: R ∧ X (pc + n) L (lV (landI x y) :: R) σ
  | .lor => ∃ x y R, S = lV y :: lV x :: R ∧ X (pc + n) L (lV (lorI x y) :: R) σ
  | .lshl => ∃ x y R, S = iV y :: lV x :: R ∧ X (pc + n) L (lV (lshlI x y) :: R) σ
  | .lshr => ∃ x y R, S = iV y :: lV x :: R ∧ X (pc + n) L (lV (lshrI x y) :: R) σ
  | .lcmp => ∃ x y R, S = lV y :: lV x :: R ∧ X (pc + n) L (iV (cmpI x y) :: R) σ
  | .dup => ∃ v R, S = v :: R ∧ v.1 ≠ 1 ∧ v.1 ≠ 33 ∧ X (pc + n) L (v :: v :: R) σ
  | .dup2 => (∃ v w R, S = v :: w :: R ∧ v.1 ≠ 1 ∧ w.1 ≠ 1 ∧ v.1 ≠ 33 ∧ w.1 ≠ 33 ∧ X (pc + n) L (v :: w :: v :: w :: R) σ) ∨ (∃ z R, S = lV z :: R ∧ X (pc + n) L (lV z :: lV z :: R) σ)
  | .pop => ∃ z R, S = iV z :: R ∧ X (pc + n) L R σ
  | .pop2 => (∃ v w R, S = v :: w :: R ∧ v.1 ≠ 1 ∧ w.1 ≠ 1 ∧ v.1 ≠ 33 ∧ w.1 ≠ 33 ∧ X (pc + n) L R σ) ∨ (∃ z R, S = lV z :: R ∧ X (pc + n) L R σ)
  | .goto off => 0 ≤ (pc : Int) + off ∧ X (tgJ pc off) L S σ
  | .ifCond c off => 0 ≤ (pc : Int) + off ∧ ∃ x R, S = iV x :: R ∧ brJ c x 0 (X (tgJ pc off) L R σ) (X (pc + n) L R σ)
  | .if_icmp c off => 0 ≤ (pc : Int) + off ∧ ∃ x y R, S = iV y :: iV x :: R ∧ brJ c x y (X (tgJ pc off) L R σ) (X (pc + n) L R σ)
  | .tableswitch dflt lo hi offs => ∃ z R, S = iV z :: R ∧ (z < lo ∨ hi < z → 0 ≤ (pc : Int) + dflt ∧ X (tgJ pc dflt) L R σ) ∧ (¬ z < lo → ¬ hi < z → ∃ off, offs[(z - lo).toNat]? = some off ∧ 0 ≤ (pc : Int) + off ∧ X (tgJ pc off) L R σ)
  | .getfield k => (∃ ci f a R, S = rV (10 + ci) a :: R ∧ look (FLt own) k = some (ci, f) ∧ X (pc + n) L (fval ci f σ a :: R) σ) ∨
      (∃ a R, S = rV 30 a :: R ∧ own = 13 ∧ a < 1000 + SLen.length ∧ ((k = 9 ∧ X (pc + n) L (rV 31 (a + 1000) :: R) σ) ∨ (k = 15 ∧ X (pc + n) L (iV 0 :: R) σ)))
  | .putfield k => ∃ ci f a v R, S = v :: rV (10 + ci) a :: R ∧ look (FLt own) k = some (ci, f) ∧ ((fty ci f = 0 ∧ v.1 = 0) ∨ (fty ci f = 1 ∧ v.1 = 1)) ∧ X (pc + n) L R (upS σ a f v.2.2)
  | .getstatic k => (own = 3 ∧ k = 9 ∧ X (pc + n) L (rV 6000025 3000 :: S) σ) ∨ (own = 13 ∧ k = 38 ∧ X (pc + n) L (iV 1 :: S) σ) ∨ (own = 13 ∧ k = 1053 ∧ X (pc + n) L (rV 33 0 :: S) σ)
  | .arraylength => ∃ t a R, S = rV t a :: R ∧ ((1000000 ≤ t ∧ X (pc + n) L (iV ((t % 1000000 : Nat) : Int) :: R) σ) ∨ (t = 31 ∧ a < 2000 + SLen.length ∧ X (pc + n) L (iV ((SLen.getD (a - 2000) 0 : Nat) : Int) :: R) σ))
  | .iaload => ∃ j t a R, S = iV j :: rV t a :: R ∧ ((t / 1000000 = 1 ∧ (0 ≤ j ∧ j < ((t % 1000000 : Nat) : Int)) ∧ X (pc + n) L (iV (σ a j.toNat) :: R) σ) ∨ (t = 6000025 ∧ (0 ≤ j ∧ j < 25) ∧ X (pc + n) L (iV (prm j.toNat) :: R) σ))
  | .laload => ∃ j t a R, S = iV j :: rV t a :: R ∧ t / 1000000 = 2 ∧ (0 ≤ j ∧ j < ((t % 1000000 : Nat) : Int)) ∧ X (pc + n) L (lV (σ a j.toNat) :: R) σ
  | .baload => ∃ j t a R, S = iV j :: rV t a :: R ∧ ((t / 1000000 = 3 ∧ (0 ≤ j ∧ j < ((t % 1000000 : Nat) : Int)) ∧ X (pc + n) L (iV (σ a j.toNat) :: R) σ) ∨ (t = 31 ∧ a < 2000 + SLen.length ∧ (0 ≤ j ∧ j < ((SLen.getD (a - 2000) 0 : Nat) : Int)) ∧ X (pc + n) L (iV (schr (a - 2000) j.toNat) :: R) σ))
  | .aaload => ∃ j t a R, S = iV j :: rV t a :: R ∧ ((t = 4000003 ∧ (0 ≤ j ∧ j < 3) ∧ X (pc + n) L (rV 17 (a + 1 + 7 * j.toNat) :: R) σ) ∨ (t = 5000004 ∧ (0 ≤ j ∧ j < 4) ∧ X (pc + n) L (rV 18 (a + 1 + 2 * j.toNat) :: R) σ))
  | .iastore => ∃ z j t a R, S = iV z :: iV j :: rV t a :: R ∧ t / 1000000 = 1 ∧ (0 ≤ j ∧ j < ((t % 1000000 : Nat) : Int)) ∧ X (pc + n) L R (upS σ a j.toNat z)
  | .lastore => ∃ z j t a R, S = lV z :: iV j :: rV t a :: R ∧ t / 1000000 = 2 ∧ (0 ≤ j ∧ j < ((t % 1000000 : Nat) : Int)) ∧ X (pc + n) L R (upS σ a j.toNat z)
  | .bastore => ∃ z j t a R, S = iV z :: iV j :: rV t a :: R ∧ t / 1000000 = 3 ∧ (0 ≤ j ∧ j < ((t % 1000000 : Nat) : Int)) ∧ (z = 0 ∨ z = 1) ∧ X (pc + n) L R (upS σ a j.toNat z)
  | .ireturn => ∃ z, S = [iV z] ∧ narR r z ∧ Xr [iV z] σ
  | .lreturn => ∃ z, S = [lV z] ∧ r = some .long ∧ Xr [lV z] σ
  | .areturn => ∃ t a, S = [rV t a] ∧ 10 ≤ t ∧ t ≠ 33 ∧ (∃ c, r = some (.object c)) ∧ Xr [rV t a] σ
  | .return_ => S = [] ∧ r = none ∧ Xr [] σ
  | .invokevirtual k => ∃ y na As t a R, look (CLt own) k = some (y, false, na) ∧ S = As.reverse ++ rV t a :: R ∧ As.length = na ∧ csum R ≤ 8 ∧ ((∃ ci, ci < 11 ∧ t = 10 + ci ∧ (mY y).cls = (cTb ci).1) ∨ (t = 30 ∧ a < 1000 + SLen.length ∧ (mY y).cls = "java/lang/String")) ∧
      ((∃ v σ', C y (rV t a :: As) σ (.inl v) σ' ∧ X (pc + n) L (v ++ R) σ') ∨ (∃ E σ', C y (rV t a :: As) σ (.inr E) σ' ∧ Xt E σ'))
  | .invokestatic k => (∃ y na As R, look (CLt own) k = some (y, true, na) ∧ S = As.reverse ++ R ∧ As.length = na ∧ csum R ≤ 8 ∧
      ((∃ v σ', C y As σ (.inl v) σ' ∧ X (pc + n) L (v ++ R) σ') ∨ (∃ E σ', C y As σ (.inr E) σ' ∧ Xt E σ'))) ∨
      (∃ nn dp t2 b sp t1 a R, look (CPt own) k = some () ∧ S = iV nn :: iV dp :: rV t2 b :: iV sp :: rV t1 a :: R ∧ csum R ≤ 8 ∧ ((t1 / 1000000 = 1 ∧ t2 / 1000000 = 1) ∨ (t1 / 1000000 = 2 ∧ t2 / 1000000 = 2)) ∧ 0 ≤ sp ∧ 0 ≤ dp ∧ 0 ≤ nn ∧ sp + nn ≤ ((t1 % 1000000 : Nat) : Int) ∧ dp + nn ≤ ((t2 % 1000000 : Nat) : Int) ∧ X (pc + n) L R (cpS σ a sp.toNat b dp.toNat nn.toNat)) ∨
      (∃ op R, look (MXt own) k = some op ∧ csum R ≤ 8 ∧ ((∃ x y, op = 0 ∧ S = iV y :: iV x :: R ∧ X (pc + n) L (iV (max x y) :: R) σ) ∨ (∃ x y, op = 1 ∧ S = iV y :: iV x :: R ∧ X (pc + n) L (iV (min x y) :: R) σ) ∨ (∃ x y, op = 2 ∧ S = lV y :: lV x :: R ∧ X (pc + n) L (lV (max x y) :: R) σ) ∨ (∃ x, op = 3 ∧ S = lV x :: R ∧ X (pc + n) L (lV (absI x) :: R) σ)))
  | _ => False
/-- the same places, less known of them -/
def wkr : List Vv → List Vv → Prop
  | [], [] => True
  | v :: l, w :: k => (w = v ∨ w = uV) ∧ wkr l k
  | _, _ => False
/-- a predicate X of places of a method that its instructions lead along; the last row: throw new E("text") -/
def Clo (C : Nat → List Vv → Sg → Rs → Sg → Prop) (own : Nat) (cc : ByteArray) (r : Option FieldType) (X : Nat → List Vv → List Vv → Sg → Prop) (Xr : List Vv → Sg → Prop) (Xt : Nat → Sg → Prop) : Prop :=
  (∀ (pc n : Nat) (i : Instr) (L S : List Vv) (σ : Sg), decode cc pc = .ok (i, n) → lnP i n → stp C own r X Xr Xt i n pc L S σ → X pc L S σ) ∧
  (∀ (pc j E : Nat) (L : List Vv) (σ : Sg), own = 10 → 1 ≤ E → E ≤ 4 → decode cc pc = .ok (.new (excK E), 3) → decode cc (pc + 3) = .ok (.dup, 1) →
    ((∃ k, look (STt 10) k = some j ∧ decode cc (pc + 4) = .ok (.ldc k, 2) ∧ decode cc (pc + 6) = .ok (.invokespecial (excC E), 3) ∧ decode cc (pc + 9) = .ok (.athrow, 1)) ∨
     (∃ k, look (STt 10) k = some j ∧ decode cc (pc + 4) = .ok (.ldc_w k, 3) ∧ decode cc (pc + 7) = .ok (.invokespecial (excC E), 3) ∧ decode cc (pc + 10) = .ok (.athrow, 1))) → Xt E σ → X pc L [] σ) ∧
  (∀ (pc : Nat) (L S : List Vv) (σ : Sg), (okL L → okL S → okS σ → X pc L S σ) → X pc L S σ) ∧
  (∀ (pc : Nat) (L L2 S : List Vv) (σ : Sg), wkr L L2 → X pc L2 S σ → X pc L S σ)
