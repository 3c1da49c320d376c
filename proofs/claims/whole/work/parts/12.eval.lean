/-! evaluation -/
def qcI (v : Value) (k : Int32 → Prop) : Prop := match v with
  | .int x => k x
  | _ => False
def qcL (v : Value) (k : Int64 → Prop) : Prop := match v with
  | .long x => k x
  | _ => False
def qcR (v : Value) (k : Nat → Prop) : Prop := match v with
  | .ref x => k x
  | _ => False
section QEV
variable {G : Nat → List Value → List Value → HP → Prop} {Q : Option Value → HP → Prop} {C : Nat → List Value → HP → (Option Value → HP → Prop) → Prop} {f pc len a t u : Nat} {b : Int} {xs : List (Int × Nat)} {r : List XI} {L st : List Value} {h : HP} {ops : Nat × Nat × Nat}
theorem e_nil : qwp G Q C f [] L st h = G f L st h := rfl
theorem e_iconst {n : Int} : qwp G Q C f ((pc, .iconst n, len, ops, b, xs) :: r) L st h = qwp G Q C f r L (.int (Int32.ofInt n) :: st) h := rfl
theorem e_bipush {n : Int} : qwp G Q C f ((pc, .bipush n, len, ops, b, xs) :: r) L st h = qwp G Q C f r L (.int (Int8.ofInt n).toInt32 :: st) h := rfl
theorem e_sipush {n : Int} : qwp G Q C f ((pc, .sipush n, len, ops, b, xs) :: r) L st h = qwp G Q C f r L (.int (Int16.ofInt n).toInt32 :: st) h := rfl
theorem e_lconst {n : Fin 2} : qwp G Q C f ((pc, .lconst n, len, ops, b, xs) :: r) L st h = qwp G Q C f r L (.long (Int64.ofNat (n : Nat)) :: st) h := rfl
theorem e_ldcS {n : Nat} : qwp G Q C f ((pc, .ldc n, len, (a, 1, u), b, xs) :: r) L st h = qwp G Q C f r L (.ref a :: st) h := rfl
theorem e_ldcI {n : Nat} : qwp G Q C f ((pc, .ldc n, len, (a, 0, u), b, xs) :: r) L st h = qwp G Q C f r L (.int (Int32.ofInt b) :: st) h := rfl
theorem e_ldc2 {n : Nat} : qwp G Q C f ((pc, .ldc2_w n, len, ops, b, xs) :: r) L st h = qwp G Q C f r L (.long (Int64.ofInt b) :: st) h := rfl
theorem e_iload_n {n : Fin 4} : qwp G Q C f ((pc, .iload_n n, len, (a, t, u), b, xs) :: r) L st h = qcI (qlg L a) (fun x => qwp G Q C f r L (.int x :: st) h) := rfl
theorem e_iload {n : Nat} : qwp G Q C f ((pc, .iload n, len, (a, t, u), b, xs) :: r) L st h = qcI (qlg L a) (fun x => qwp G Q C f r L (.int x :: st) h) := rfl
theorem e_istore_n {n : Fin 4} {x : Int32} : qwp G Q C f ((pc, .istore_n n, len, (a, t, u), b, xs) :: r) L (.int x :: st) h = (qnp L a ∧ qwp G Q C f r (qls L a (.int x)) st h) := rfl
theorem e_istore {n : Nat} {x : Int32} : qwp G Q C f ((pc, .istore n, len, (a, t, u), b, xs) :: r) L (.int x :: st) h = (qnp L a ∧ qwp G Q C f r (qls L a (.int x)) st h) := rfl
theorem e_lload_n {n : Fin 4} : qwp G Q C f ((pc, .lload_n n, len, (a, t, u), b, xs) :: r) L st h = qcL (qlg L a) (fun x => qwp G Q C f r L (.long x :: st) h) := rfl
theorem e_lload {n : Nat} : qwp G Q C f ((pc, .lload n, len, (a, t, u), b, xs) :: r) L st h = qcL (qlg L a) (fun x => qwp G Q C f r L (.long x :: st) h) := rfl
theorem e_lstore_n {n : Fin 4} {x : Int64} : qwp G Q C f ((pc, .lstore_n n, len, (a, t, u), b, xs) :: r) L (.long x :: st) h = (qnp L a ∧ qwp G Q C f r (qls (qls L a (.long x)) (a + 1) qX) st h) := rfl
theorem e_lstore {n : Nat} {x : Int64} : qwp G Q C f ((pc, .lstore n, len, (a, t, u), b, xs) :: r) L (.long x :: st) h = (qnp L a ∧ qwp G Q C f r (qls (qls L a (.long x)) (a + 1) qX) st h) := rfl
theorem e_aload_n {n : Fin 4} : qwp G Q C f ((pc, .aload_n n, len, (a, t, u), b, xs) :: r) L st h = qcR (qlg L a) (fun x => qwp G Q C f r L (.ref x :: st) h) := rfl
theorem e_aload {n : Nat} : qwp G Q C f ((pc, .aload n, len, (a, t, u), b, xs) :: r) L st h = qcR (qlg L a) (fun x => qwp G Q C f r L (.ref x :: st) h) := rfl
theorem e_astore_n {n : Fin 4} {x : Nat} : qwp G Q C f ((pc, .astore_n n, len, (a, t, u), b, xs) :: r) L (.ref x :: st) h = (qnp L a ∧ qwp G Q C f r (qls L a (.ref x)) st h) := rfl
theorem e_astore {n : Nat} {x : Nat} : qwp G Q C f ((pc, .astore n, len, (a, t, u), b, xs) :: r) L (.ref x :: st) h = (qnp L a ∧ qwp G Q C f r (qls L a (.ref x)) st h) := rfl
theorem e_iinc {j : Nat} {n : Int} : qwp G Q C f ((pc, .iinc j n, len, (a, t, u), b, xs) :: r) L st h = qcI (qlg L a) (fun x => qnp L a ∧ qwp G Q C f r (qls L a (.int (x + Int32.ofInt n))) st h) := rfl
theorem e_iadd {x y : Int32} : qwp G Q C f ((pc, .iadd, len, ops, b, xs) :: r) L (.int y :: .int x :: st) h = qwp G Q C f r L (.int (x + y) :: st) h := rfl
theorem e_isub {x y : Int32} : qwp G Q C f ((pc, .isub, len, ops, b, xs) :: r) L (.int y :: .int x :: st) h = qwp G Q C f r L (.int (x - y) :: st) h := rfl
theorem e_imul {x y : Int32} : qwp G Q C f ((pc, .imul, len, ops, b, xs) :: r) L (.int y :: .int x :: st) h = qwp G Q C f r L (.int (x * y) :: st) h := rfl
theorem e_iand {x y : Int32} : qwp G Q C f ((pc, .iand, len, ops, b, xs) :: r) L (.int y :: .int x :: st) h = qwp G Q C f r L (.int (x &&& y) :: st) h := rfl
theorem e_ior {x y : Int32} : qwp G Q C f ((pc, .ior, len, ops, b, xs) :: r) L (.int y :: .int x :: st) h = qwp G Q C f r L (.int (x ||| y) :: st) h := rfl
theorem e_ixor {x y : Int32} : qwp G Q C f ((pc, .ixor, len, ops, b, xs) :: r) L (.int y :: .int x :: st) h = qwp G Q C f r L (.int (x ^^^ y) :: st) h := rfl
theorem e_ishl {x y : Int32} : qwp G Q C f ((pc, .ishl, len, ops, b, xs) :: r) L (.int y :: .int x :: st) h = qwp G Q C f r L (.int (x <<< (y &&& 31)) :: st) h := rfl
theorem e_ishr {x y : Int32} : qwp G Q C f ((pc, .ishr, len, ops, b, xs) :: r) L (.int y :: .int x :: st) h = qwp G Q C f r L (.int (x >>> (y &&& 31)) :: st) h := rfl
theorem e_iushr {x y : Int32} : qwp G Q C f ((pc, .iushr, len, ops, b, xs) :: r) L (.int y :: .int x :: st) h = qwp G Q C f r L (.int ((x.toUInt32 >>> (y.toUInt32 &&& Int32.toUInt32 31)).toInt32) :: st) h := rfl
theorem e_ladd {x y : Int64} : qwp G Q C f ((pc, .ladd, len, ops, b, xs) :: r) L (.long y :: .long x :: st) h = qwp G Q C f r L (.long (x + y) :: st) h := rfl
theorem e_lsub {x y : Int64} : qwp G Q C f ((pc, .lsub, len, ops, b, xs) :: r) L (.long y :: .long x :: st) h = qwp G Q C f r L (.long (x - y) :: st) h := rfl
theorem e_lmul {x y : Int64} : qwp G Q C f ((pc, .lmul, len, ops, b, xs) :: r) L (.long y :: .long x :: st) h = qwp G Q C f r L (.long (x * y) :: st) h := rfl
theorem e_land {x y : Int64} : qwp G Q C f ((pc, .land, len, ops, b, xs) :: r) L (.long y :: .long x :: st) h = qwp G Q C f r L (.long (x &&& y) :: st) h := rfl
theorem e_lor {x y : Int64} : qwp G Q C f ((pc, .lor, len, ops, b, xs) :: r) L (.long y :: .long x :: st) h = qwp G Q C f r L (.long (x ||| y) :: st) h := rfl
theorem e_idiv {x y : Int32} : qwp G Q C f ((pc, .idiv, len, ops, b, xs) :: r) L (.int y :: .int x :: st) h = (¬ y = 0 ∧ qwp G Q C f r L (.int (x / y) :: st) h) := rfl
theorem e_irem {x y : Int32} : qwp G Q C f ((pc, .irem, len, ops, b, xs) :: r) L (.int y :: .int x :: st) h = (¬ y = 0 ∧ qwp G Q C f r L (.int (x - x / y * y) :: st) h) := rfl
theorem e_ineg {x : Int32} : qwp G Q C f ((pc, .ineg, len, ops, b, xs) :: r) L (.int x :: st) h = qwp G Q C f r L (.int (-x) :: st) h := rfl
theorem e_ldiv {x y : Int64} : qwp G Q C f ((pc, .ldiv, len, ops, b, xs) :: r) L (.long y :: .long x :: st) h = (¬ y = 0 ∧ qwp G Q C f r L (.long (x / y) :: st) h) := rfl
theorem e_lshl {x : Int64} {y : Int32} : qwp G Q C f ((pc, .lshl, len, ops, b, xs) :: r) L (.int y :: .long x :: st) h = qwp G Q C f r L (.long (x <<< (y.toInt64 &&& 63)) :: st) h := rfl
theorem e_lcmp {x y : Int64} : qwp G Q C f ((pc, .lcmp, len, ops, b, xs) :: r) L (.long y :: .long x :: st) h = qwp G Q C f r L (.int (lg_cmp x y) :: st) h := rfl
theorem e_i2l {x : Int32} : qwp G Q C f ((pc, .i2l, len, ops, b, xs) :: r) L (.int x :: st) h = qwp G Q C f r L (.long x.toInt64 :: st) h := rfl
theorem e_l2i {x : Int64} : qwp G Q C f ((pc, .l2i, len, ops, b, xs) :: r) L (.long x :: st) h = qwp G Q C f r L (.int x.toInt32 :: st) h := rfl
theorem e_i2c {x : Int32} : qwp G Q C f ((pc, .i2c, len, ops, b, xs) :: r) L (.int x :: st) h = qwp G Q C f r L (.int (x.toUInt32 % 65536).toInt32 :: st) h := rfl
theorem e_dup {v : Value} : qwp G Q C f ((pc, .dup, len, ops, b, xs) :: r) L (v :: st) h = (v.category = 1 ∧ qwp G Q C f r L (v :: v :: st) h) := rfl
theorem e_dup2 {v w : Value} : qwp G Q C f ((pc, .dup2, len, ops, b, xs) :: r) L (v :: w :: st) h = (v.category = 1 ∧ w.category = 1 ∧ qwp G Q C f r L (v :: w :: v :: w :: st) h) := rfl
theorem e_pop {v : Value} : qwp G Q C f ((pc, .pop, len, ops, b, xs) :: r) L (v :: st) h = (v.category = 1 ∧ qwp G Q C f r L st h) := rfl
theorem e_pop2 {v : Value} : qwp G Q C f ((pc, .pop2, len, ops, b, xs) :: r) L (v :: st) h = (v.category = 2 ∧ qwp G Q C f r L st h) := rfl
theorem e_arraylength {o : Nat} : qwp G Q C f ((pc, .arraylength, len, ops, b, xs) :: r) L (.ref o :: st) h = ((10 ≤ (qkd o).1 ∧ (qkd o).1 ≤ 12) ∧ qwp G Q C f r L (.int (Int32.ofNat (qkd o).2) :: st) h) := rfl
theorem e_iaload {i : Int32} {o : Nat} : qwp G Q C f ((pc, .iaload, len, ops, b, xs) :: r) L (.int i :: .ref o :: st) h = ((qkd o).1 = 10 ∧ qin i (qkd o).2 ∧ qwp G Q C f r L (.int (h.1 o i.toNatClampNeg) :: st) h) := rfl
theorem e_laload {i : Int32} {o : Nat} : qwp G Q C f ((pc, .laload, len, ops, b, xs) :: r) L (.int i :: .ref o :: st) h = ((qkd o).1 = 11 ∧ qin i (qkd o).2 ∧ qwp G Q C f r L (.long (h.2.1 o i.toNatClampNeg) :: st) h) := rfl
theorem e_baload {i : Int32} {o : Nat} : qwp G Q C f ((pc, .baload, len, ops, b, xs) :: r) L (.int i :: .ref o :: st) h = ((qkd o).1 = 12 ∧ qin i (qkd o).2 ∧ qwp G Q C f r L (.int (h.1 o i.toNatClampNeg) :: st) h) := rfl
theorem e_iastore {x i : Int32} {o : Nat} : qwp G Q C f ((pc, .iastore, len, ops, b, xs) :: r) L (.int x :: .int i :: .ref o :: st) h = ((qkd o).1 = 10 ∧ qin i (qkd o).2 ∧ qwp G Q C f r L st (up2 h.1 o i.toNatClampNeg x, h.2.1, h.2.2)) := rfl
theorem e_lastore {x : Int64} {i : Int32} {o : Nat} : qwp G Q C f ((pc, .lastore, len, ops, b, xs) :: r) L (.long x :: .int i :: .ref o :: st) h = ((qkd o).1 = 11 ∧ qin i (qkd o).2 ∧ qwp G Q C f r L st (h.1, up2 h.2.1 o i.toNatClampNeg x, h.2.2)) := rfl
theorem e_bastore {x i : Int32} {o : Nat} : qwp G Q C f ((pc, .bastore, len, ops, b, xs) :: r) L (.int x :: .int i :: .ref o :: st) h = ((qkd o).1 = 12 ∧ qin i (qkd o).2 ∧ qwp G Q C f r L st (up2 h.1 o i.toNatClampNeg (vp_nar .boolean x), h.2.1, h.2.2)) := rfl
theorem e_getI {n o : Nat} : qwp G Q C f ((pc, .getfield n, len, (a, 0, u), b, xs) :: r) L (.ref o :: st) h = ((qkd o).1 = u ∧ qwp G Q C f r L (.int (h.1 o a) :: st) h) := rfl
theorem e_getL {n o : Nat} : qwp G Q C f ((pc, .getfield n, len, (a, 1, u), b, xs) :: r) L (.ref o :: st) h = ((qkd o).1 = u ∧ qwp G Q C f r L (.long (h.2.1 o a) :: st) h) := rfl
theorem e_getR {n o : Nat} : qwp G Q C f ((pc, .getfield n, len, (a, 2, u), b, xs) :: r) L (.ref o :: st) h = ((qkd o).1 = u ∧ qwp G Q C f r L (qrv (h.2.2 o a) :: st) h) := rfl
theorem e_getZ {n o : Nat} : qwp G Q C f ((pc, .getfield n, len, (a, 3, u), b, xs) :: r) L (.ref o :: st) h = ((qkd o).1 = u ∧ qwp G Q C f r L (.int (h.1 o a) :: st) h) := rfl
theorem e_putI {n o : Nat} {x : Int32} : qwp G Q C f ((pc, .putfield n, len, (a, 0, u), b, xs) :: r) L (.int x :: .ref o :: st) h = ((qkd o).1 = u ∧ True ∧ qwp G Q C f r L st (up2 h.1 o a x, h.2.1, h.2.2)) := rfl
theorem e_putL {n o : Nat} {x : Int64} : qwp G Q C f ((pc, .putfield n, len, (a, 1, u), b, xs) :: r) L (.long x :: .ref o :: st) h = ((qkd o).1 = u ∧ True ∧ qwp G Q C f r L st (h.1, up2 h.2.1 o a x, h.2.2)) := rfl
theorem e_putR {n o x : Nat} : qwp G Q C f ((pc, .putfield n, len, (a, 2, u), b, xs) :: r) L (.ref x :: .ref o :: st) h = ((qkd o).1 = u ∧ True ∧ qwp G Q C f r L st (h.1, h.2.1, up2 h.2.2 o a (some x))) := rfl
theorem e_putZ {n o : Nat} {x : Int32} : qwp G Q C f ((pc, .putfield n, len, (a, 3, u), b, xs) :: r) L (.int x :: .ref o :: st) h = ((qkd o).1 = u ∧ (x = 0 ∨ x = 1) ∧ qwp G Q C f r L st (up2 h.1 o a x, h.2.1, h.2.2)) := rfl
theorem e_icmp_eq {n : Int} {x y : Int32} : qwp G Q C f ((pc, .if_icmp .eq n, len, (a, t, u), b, xs) :: r) L (.int y :: .int x :: st) h = ((x = y → G a L st h) ∧ (¬ x = y → qwp G Q C f r L st h)) := rfl
theorem e_if_eq {n : Int} {x : Int32} : qwp G Q C f ((pc, .ifCond .eq n, len, (a, t, u), b, xs) :: r) L (.int x :: st) h = ((x = 0 → G a L st h) ∧ (¬ x = 0 → qwp G Q C f r L st h)) := rfl
theorem e_icmp_ne {n : Int} {x y : Int32} : qwp G Q C f ((pc, .if_icmp .ne n, len, (a, t, u), b, xs) :: r) L (.int y :: .int x :: st) h = ((¬ x = y → G a L st h) ∧ (x = y → qwp G Q C f r L st h)) := rfl
theorem e_if_ne {n : Int} {x : Int32} : qwp G Q C f ((pc, .ifCond .ne n, len, (a, t, u), b, xs) :: r) L (.int x :: st) h = ((¬ x = 0 → G a L st h) ∧ (x = 0 → qwp G Q C f r L st h)) := rfl
theorem e_icmp_lt {n : Int} {x y : Int32} : qwp G Q C f ((pc, .if_icmp .lt n, len, (a, t, u), b, xs) :: r) L (.int y :: .int x :: st) h = ((x < y → G a L st h) ∧ (¬ x < y → qwp G Q C f r L st h)) := rfl
theorem e_if_lt {n : Int} {x : Int32} : qwp G Q C f ((pc, .ifCond .lt n, len, (a, t, u), b, xs) :: r) L (.int x :: st) h = ((x < 0 → G a L st h) ∧ (¬ x < 0 → qwp G Q C f r L st h)) := rfl
theorem e_icmp_ge {n : Int} {x y : Int32} : qwp G Q C f ((pc, .if_icmp .ge n, len, (a, t, u), b, xs) :: r) L (.int y :: .int x :: st) h = ((y ≤ x → G a L st h) ∧ (¬ y ≤ x → qwp G Q C f r L st h)) := rfl
theorem e_if_ge {n : Int} {x : Int32} : qwp G Q C f ((pc, .ifCond .ge n, len, (a, t, u), b, xs) :: r) L (.int x :: st) h = ((0 ≤ x → G a L st h) ∧ (¬ 0 ≤ x → qwp G Q C f r L st h)) := rfl
theorem e_icmp_gt {n : Int} {x y : Int32} : qwp G Q C f ((pc, .if_icmp .gt n, len, (a, t, u), b, xs) :: r) L (.int y :: .int x :: st) h = ((y < x → G a L st h) ∧ (¬ y < x → qwp G Q C f r L st h)) := rfl
theorem e_if_gt {n : Int} {x : Int32} : qwp G Q C f ((pc, .ifCond .gt n, len, (a, t, u), b, xs) :: r) L (.int x :: st) h = ((0 < x → G a L st h) ∧ (¬ 0 < x → qwp G Q C f r L st h)) := rfl
theorem e_icmp_le {n : Int} {x y : Int32} : qwp G Q C f ((pc, .if_icmp .le n, len, (a, t, u), b, xs) :: r) L (.int y :: .int x :: st) h = ((x ≤ y → G a L st h) ∧ (¬ x ≤ y → qwp G Q C f r L st h)) := rfl
theorem e_if_le {n : Int} {x : Int32} : qwp G Q C f ((pc, .ifCond .le n, len, (a, t, u), b, xs) :: r) L (.int x :: st) h = ((x ≤ 0 → G a L st h) ∧ (¬ x ≤ 0 → qwp G Q C f r L st h)) := rfl
theorem e_goto {n : Int} : qwp G Q C f ((pc, .goto n, len, (a, t, u), b, xs) :: r) L st h = G a L st h := rfl
theorem e_tsw {d lo hi : Int} {os : Array Int} {x : Int32} : qwp G Q C f ((pc, .tableswitch d lo hi os, len, (a, t, u), b, xs) :: r) L (.int x :: st) h = ((∀ q ∈ xs, x.toInt = q.1 → G q.2 L st h) ∧ ((∀ q ∈ xs, ¬ x.toInt = q.1) → G a L st h)) := rfl
theorem e_lsw {d : Int} {ps : Array (Int × Int)} {x : Int32} : qwp G Q C f ((pc, .lookupswitch d ps, len, (a, t, u), b, xs) :: r) L (.int x :: st) h = ((∀ q ∈ xs, x.toInt = q.1 → G q.2 L st h) ∧ ((∀ q ∈ xs, ¬ x.toInt = q.1) → G a L st h)) := rfl
theorem e_ret : qwp G Q C f ((pc, .return_, len, ops, b, xs) :: r) L [] h = Q none h := rfl
theorem e_iret {x : Int32} : qwp G Q C f ((pc, .ireturn, len, (a, 0, u), b, xs) :: r) L [.int x] h = (True ∧ Q (some (.int x)) h) := rfl
theorem e_zret {x : Int32} : qwp G Q C f ((pc, .ireturn, len, (a, 1, u), b, xs) :: r) L [.int x] h = (narrow .boolean (.int x) = .int x ∧ Q (some (.int x)) h) := rfl
theorem e_lret {x : Int64} : qwp G Q C f ((pc, .lreturn, len, ops, b, xs) :: r) L [.long x] h = Q (some (.long x)) h := rfl
theorem e_mmin {n : Nat} {x y : Int32} : qwp G Q C f ((pc, .invokestatic n, len, (a, t, 50), b, xs) :: r) L (.int y :: .int x :: st) h = (qle st ∧ qwp G Q C f r L (.int (if y < x then y else x) :: st) h) := rfl
theorem e_mmax {n : Nat} {x y : Int32} : qwp G Q C f ((pc, .invokestatic n, len, (a, t, 51), b, xs) :: r) L (.int y :: .int x :: st) h = (qle st ∧ qwp G Q C f r L (.int (if x < y then y else x) :: st) h) := rfl
theorem e_mminl {n : Nat} {x y : Int64} : qwp G Q C f ((pc, .invokestatic n, len, (a, t, 52), b, xs) :: r) L (.long y :: .long x :: st) h = (qle st ∧ qwp G Q C f r L (.long (if y < x then y else x) :: st) h) := rfl
theorem e_mmaxl {n : Nat} {x y : Int64} : qwp G Q C f ((pc, .invokestatic n, len, (a, t, 53), b, xs) :: r) L (.long y :: .long x :: st) h = (qle st ∧ qwp G Q C f r L (.long (if y < x then x else y) :: st) h) := rfl
theorem e_cs0 {n : Nat} : qwp G Q C f ((pc, .invokestatic n, len, (a, 0, 0), b, xs) :: r) L st h = (qle st ∧ C a [] h (fun v h' => qwp G Q C f r L (qpu v st) h')) := by
  show (0 ≤ _ ∧ qle st ∧ _) = _
  rw [eq_true (by simp : 0 ≤ st.length), true_and]
  rfl
theorem e_cs1 {n : Nat} {v0 : Value} : qwp G Q C f ((pc, .invokestatic n, len, (a, 1, 0), b, xs) :: r) L (v0 :: st) h = (qle st ∧ C a [v0] h (fun v h' => qwp G Q C f r L (qpu v st) h')) := by
  show (1 ≤ _ ∧ qle st ∧ _) = _
  rw [eq_true (by simp : 1 ≤ (v0 :: st).length), true_and]
  rfl
theorem e_cs2 {n : Nat} {v0 v1 : Value} : qwp G Q C f ((pc, .invokestatic n, len, (a, 2, 0), b, xs) :: r) L (v0 :: v1 :: st) h = (qle st ∧ C a [v1, v0] h (fun v h' => qwp G Q C f r L (qpu v st) h')) := by
  show (2 ≤ _ ∧ qle st ∧ _) = _
  rw [eq_true (by simp : 2 ≤ (v0 :: v1 :: st).length), true_and]
  rfl
theorem e_cs3 {n : Nat} {v0 v1 v2 : Value} : qwp G Q C f ((pc, .invokestatic n, len, (a, 3, 0), b, xs) :: r) L (v0 :: v1 :: v2 :: st) h = (qle st ∧ C a [v2, v1, v0] h (fun v h' => qwp G Q C f r L (qpu v st) h')) := by
  show (3 ≤ _ ∧ qle st ∧ _) = _
  rw [eq_true (by simp : 3 ≤ (v0 :: v1 :: v2 :: st).length), true_and]
  rfl
theorem e_cs4 {n : Nat} {v0 v1 v2 v3 : Value} : qwp G Q C f ((pc, .invokestatic n, len, (a, 4, 0), b, xs) :: r) L (v0 :: v1 :: v2 :: v3 :: st) h = (qle st ∧ C a [v3, v2, v1, v0] h (fun v h' => qwp G Q C f r L (qpu v st) h')) := by
  show (4 ≤ _ ∧ qle st ∧ _) = _
  rw [eq_true (by simp : 4 ≤ (v0 :: v1 :: v2 :: v3 :: st).length), true_and]
  rfl
theorem e_cs5 {n : Nat} {v0 v1 v2 v3 v4 : Value} : qwp G Q C f ((pc, .invokestatic n, len, (a, 5, 0), b, xs) :: r) L (v0 :: v1 :: v2 :: v3 :: v4 :: st) h = (qle st ∧ C a [v4, v3, v2, v1, v0] h (fun v h' => qwp G Q C f r L (qpu v st) h')) := by
  show (5 ≤ _ ∧ qle st ∧ _) = _
  rw [eq_true (by simp : 5 ≤ (v0 :: v1 :: v2 :: v3 :: v4 :: st).length), true_and]
  rfl
theorem e_cs6 {n : Nat} {v0 v1 v2 v3 v4 v5 : Value} : qwp G Q C f ((pc, .invokestatic n, len, (a, 6, 0), b, xs) :: r) L (v0 :: v1 :: v2 :: v3 :: v4 :: v5 :: st) h = (qle st ∧ C a [v5, v4, v3, v2, v1, v0] h (fun v h' => qwp G Q C f r L (qpu v st) h')) := by
  show (6 ≤ _ ∧ qle st ∧ _) = _
  rw [eq_true (by simp : 6 ≤ (v0 :: v1 :: v2 :: v3 :: v4 :: v5 :: st).length), true_and]
  rfl
theorem e_cv0 {n o : Nat} : qwp G Q C f ((pc, .invokevirtual n, len, (a, 0, u), b, xs) :: r) L (.ref o :: st) h = (qrc u o ∧ 0 = 0 ∧ qle st ∧ C a [.ref o] h (fun v h' => qwp G Q C f r L (qpu v st) h')) := rfl
theorem e_cv1 {n o : Nat} {v0 : Value} : qwp G Q C f ((pc, .invokevirtual n, len, (a, 1, u), b, xs) :: r) L (v0 :: .ref o :: st) h = (qrc u o ∧ 1 = 1 ∧ qle st ∧ C a [.ref o, v0] h (fun v h' => qwp G Q C f r L (qpu v st) h')) := rfl
theorem e_cv2 {n o : Nat} {v0 v1 : Value} : qwp G Q C f ((pc, .invokevirtual n, len, (a, 2, u), b, xs) :: r) L (v0 :: v1 :: .ref o :: st) h = (qrc u o ∧ 2 = 2 ∧ qle st ∧ C a [.ref o, v1, v0] h (fun v h' => qwp G Q C f r L (qpu v st) h')) := rfl
theorem e_cv3 {n o : Nat} {v0 v1 v2 : Value} : qwp G Q C f ((pc, .invokevirtual n, len, (a, 3, u), b, xs) :: r) L (v0 :: v1 :: v2 :: .ref o :: st) h = (qrc u o ∧ 3 = 3 ∧ qle st ∧ C a [.ref o, v2, v1, v0] h (fun v h' => qwp G Q C f r L (qpu v st) h')) := rfl
theorem e_cv4 {n o : Nat} {v0 v1 v2 v3 : Value} : qwp G Q C f ((pc, .invokevirtual n, len, (a, 4, u), b, xs) :: r) L (v0 :: v1 :: v2 :: v3 :: .ref o :: st) h = (qrc u o ∧ 4 = 4 ∧ qle st ∧ C a [.ref o, v3, v2, v1, v0] h (fun v h' => qwp G Q C f r L (qpu v st) h')) := rfl
theorem e_cv5 {n o : Nat} {v0 v1 v2 v3 v4 : Value} : qwp G Q C f ((pc, .invokevirtual n, len, (a, 5, u), b, xs) :: r) L (v0 :: v1 :: v2 :: v3 :: v4 :: .ref o :: st) h = (qrc u o ∧ 5 = 5 ∧ qle st ∧ C a [.ref o, v4, v3, v2, v1, v0] h (fun v h' => qwp G Q C f r L (qpu v st) h')) := rfl
theorem e_cv6 {n o : Nat} {v0 v1 v2 v3 v4 v5 : Value} : qwp G Q C f ((pc, .invokevirtual n, len, (a, 6, u), b, xs) :: r) L (v0 :: v1 :: v2 :: v3 :: v4 :: v5 :: .ref o :: st) h = (qrc u o ∧ 6 = 6 ∧ qle st ∧ C a [.ref o, v5, v4, v3, v2, v1, v0] h (fun v h' => qwp G Q C f r L (qpu v st) h')) := rfl
end QEV
theorem e_cI {x : Int32} {k : Int32 → Prop} : qcI (.int x) k = k x := rfl
theorem e_cL {x : Int64} {k : Int64 → Prop} : qcL (.long x) k = k x := rfl
theorem e_cR {x : Nat} {k : Nat → Prop} : qcR (.ref x) k = k x := rfl
theorem e_g0 {v0 : Value} {l : List Value} : qlg (v0 :: l) 0 = v0 := rfl
theorem e_s0 {v0 w : Value} {l : List Value} : qls (v0 :: l) 0 w = w :: l := rfl
theorem e_p0 {L : List Value} : qnp L 0 = True := rfl
theorem e_g1 {v0 v1 : Value} {l : List Value} : qlg (v0 :: v1 :: l) 1 = v1 := rfl
theorem e_s1 {v0 v1 w : Value} {l : List Value} : qls (v0 :: v1 :: l) 1 w = v0 :: w :: l := rfl
theorem e_p1 {L : List Value} : qnp L 1 = qnl (qlg L 0) := rfl
theorem e_g2 {v0 v1 v2 : Value} {l : List Value} : qlg (v0 :: v1 :: v2 :: l) 2 = v2 := rfl
theorem e_s2 {v0 v1 v2 w : Value} {l : List Value} : qls (v0 :: v1 :: v2 :: l) 2 w = v0 :: v1 :: w :: l := rfl
theorem e_p2 {L : List Value} : qnp L 2 = qnl (qlg L 1) := rfl
theorem e_g3 {v0 v1 v2 v3 : Value} {l : List Value} : qlg (v0 :: v1 :: v2 :: v3 :: l) 3 = v3 := rfl
theorem e_s3 {v0 v1 v2 v3 w : Value} {l : List Value} : qls (v0 :: v1 :: v2 :: v3 :: l) 3 w = v0 :: v1 :: v2 :: w :: l := rfl
theorem e_p3 {L : List Value} : qnp L 3 = qnl (qlg L 2) := rfl
theorem e_g4 {v0 v1 v2 v3 v4 : Value} {l : List Value} : qlg (v0 :: v1 :: v2 :: v3 :: v4 :: l) 4 = v4 := rfl
theorem e_s4 {v0 v1 v2 v3 v4 w : Value} {l : List Value} : qls (v0 :: v1 :: v2 :: v3 :: v4 :: l) 4 w = v0 :: v1 :: v2 :: v3 :: w :: l := rfl
theorem e_p4 {L : List Value} : qnp L 4 = qnl (qlg L 3) := rfl
theorem e_g5 {v0 v1 v2 v3 v4 v5 : Value} {l : List Value} : qlg (v0 :: v1 :: v2 :: v3 :: v4 :: v5 :: l) 5 = v5 := rfl
theorem e_s5 {v0 v1 v2 v3 v4 v5 w : Value} {l : List Value} : qls (v0 :: v1 :: v2 :: v3 :: v4 :: v5 :: l) 5 w = v0 :: v1 :: v2 :: v3 :: v4 :: w :: l := rfl
theorem e_p5 {L : List Value} : qnp L 5 = qnl (qlg L 4) := rfl
theorem e_g6 {v0 v1 v2 v3 v4 v5 v6 : Value} {l : List Value} : qlg (v0 :: v1 :: v2 :: v3 :: v4 :: v5 :: v6 :: l) 6 = v6 := rfl
theorem e_s6 {v0 v1 v2 v3 v4 v5 v6 w : Value} {l : List Value} : qls (v0 :: v1 :: v2 :: v3 :: v4 :: v5 :: v6 :: l) 6 w = v0 :: v1 :: v2 :: v3 :: v4 :: v5 :: w :: l := rfl
theorem e_p6 {L : List Value} : qnp L 6 = qnl (qlg L 5) := rfl
theorem e_g7 {v0 v1 v2 v3 v4 v5 v6 v7 : Value} {l : List Value} : qlg (v0 :: v1 :: v2 :: v3 :: v4 :: v5 :: v6 :: v7 :: l) 7 = v7 := rfl
theorem e_s7 {v0 v1 v2 v3 v4 v5 v6 v7 w : Value} {l : List Value} : qls (v0 :: v1 :: v2 :: v3 :: v4 :: v5 :: v6 :: v7 :: l) 7 w = v0 :: v1 :: v2 :: v3 :: v4 :: v5 :: v6 :: w :: l := rfl
theorem e_p7 {L : List Value} : qnp L 7 = qnl (qlg L 6) := rfl
theorem e_g8 {v0 v1 v2 v3 v4 v5 v6 v7 v8 : Value} {l : List Value} : qlg (v0 :: v1 :: v2 :: v3 :: v4 :: v5 :: v6 :: v7 :: v8 :: l) 8 = v8 := rfl
theorem e_s8 {v0 v1 v2 v3 v4 v5 v6 v7 v8 w : Value} {l : List Value} : qls (v0 :: v1 :: v2 :: v3 :: v4 :: v5 :: v6 :: v7 :: v8 :: l) 8 w = v0 :: v1 :: v2 :: v3 :: v4 :: v5 :: v6 :: v7 :: w :: l := rfl
theorem e_p8 {L : List Value} : qnp L 8 = qnl (qlg L 7) := rfl
theorem e_g9 {v0 v1 v2 v3 v4 v5 v6 v7 v8 v9 : Value} {l : List Value} : qlg (v0 :: v1 :: v2 :: v3 :: v4 :: v5 :: v6 :: v7 :: v8 :: v9 :: l) 9 = v9 := rfl
theorem e_s9 {v0 v1 v2 v3 v4 v5 v6 v7 v8 v9 w : Value} {l : List Value} : qls (v0 :: v1 :: v2 :: v3 :: v4 :: v5 :: v6 :: v7 :: v8 :: v9 :: l) 9 w = v0 :: v1 :: v2 :: v3 :: v4 :: v5 :: v6 :: v7 :: v8 :: w :: l := rfl
theorem e_p9 {L : List Value} : qnp L 9 = qnl (qlg L 8) := rfl
theorem e_g10 {v0 v1 v2 v3 v4 v5 v6 v7 v8 v9 v10 : Value} {l : List Value} : qlg (v0 :: v1 :: v2 :: v3 :: v4 :: v5 :: v6 :: v7 :: v8 :: v9 :: v10 :: l) 10 = v10 := rfl
theorem e_s10 {v0 v1 v2 v3 v4 v5 v6 v7 v8 v9 v10 w : Value} {l : List Value} : qls (v0 :: v1 :: v2 :: v3 :: v4 :: v5 :: v6 :: v7 :: v8 :: v9 :: v10 :: l) 10 w = v0 :: v1 :: v2 :: v3 :: v4 :: v5 :: v6 :: v7 :: v8 :: v9 :: w :: l := rfl
theorem e_p10 {L : List Value} : qnp L 10 = qnl (qlg L 9) := rfl
theorem e_g11 {v0 v1 v2 v3 v4 v5 v6 v7 v8 v9 v10 v11 : Value} {l : List Value} : qlg (v0 :: v1 :: v2 :: v3 :: v4 :: v5 :: v6 :: v7 :: v8 :: v9 :: v10 :: v11 :: l) 11 = v11 := rfl
theorem e_s11 {v0 v1 v2 v3 v4 v5 v6 v7 v8 v9 v10 v11 w : Value} {l : List Value} : qls (v0 :: v1 :: v2 :: v3 :: v4 :: v5 :: v6 :: v7 :: v8 :: v9 :: v10 :: v11 :: l) 11 w = v0 :: v1 :: v2 :: v3 :: v4 :: v5 :: v6 :: v7 :: v8 :: v9 :: v10 :: w :: l := rfl
theorem e_p11 {L : List Value} : qnp L 11 = qnl (qlg L 10) := rfl
theorem e_g12 {v0 v1 v2 v3 v4 v5 v6 v7 v8 v9 v10 v11 v12 : Value} {l : List Value} : qlg (v0 :: v1 :: v2 :: v3 :: v4 :: v5 :: v6 :: v7 :: v8 :: v9 :: v10 :: v11 :: v12 :: l) 12 = v12 := rfl
theorem e_s12 {v0 v1 v2 v3 v4 v5 v6 v7 v8 v9 v10 v11 v12 w : Value} {l : List Value} : qls (v0 :: v1 :: v2 :: v3 :: v4 :: v5 :: v6 :: v7 :: v8 :: v9 :: v10 :: v11 :: v12 :: l) 12 w = v0 :: v1 :: v2 :: v3 :: v4 :: v5 :: v6 :: v7 :: v8 :: v9 :: v10 :: v11 :: w :: l := rfl
theorem e_p12 {L : List Value} : qnp L 12 = qnl (qlg L 11) := rfl
theorem e_nI {x : Int32} : qnl (.int x) = True := rfl
theorem e_nR {x : Nat} : qnl (.ref x) = True := rfl
theorem e_nX {x : Nat} : qnl (.retAddr x) = True := rfl
theorem e_rS {x : Nat} : qrv (some x) = .ref x := rfl
theorem e_pS {v : Value} {st : List Value} : qpu (some v) st = v :: st := rfl
theorem e_pN {st : List Value} : qpu none st = st := rfl
theorem e_l0 : qle [] = True := rfl
theorem e_l1 {v0 : Value} : qle [v0] = True := rfl
theorem e_l2 {v0 v1 : Value} : qle [v0, v1] = True := rfl
theorem e_l3 {v0 v1 v2 : Value} : qle [v0, v1, v2] = True := rfl
theorem e_l4 {v0 v1 v2 v3 : Value} : qle [v0, v1, v2, v3] = True := rfl
theorem e_ctI {x : Int32} : (Value.int x).category = 1 := rfl
theorem e_ctL {x : Int64} : (Value.long x).category = 2 := rfl
theorem e_ctR {x : Nat} : (Value.ref x).category = 1 := rfl
theorem e_rc0 {o : Nat} : qrc 0 o = ((qkd o).1 = 0) := rfl
theorem e_rc1 {o : Nat} : qrc 1 o = ((qkd o).1 = 1) := rfl
theorem e_rc2 {o : Nat} : qrc 2 o = ((qkd o).1 = 2) := rfl
theorem e_rc3 {o : Nat} : qrc 3 o = ((qkd o).1 = 3) := rfl
theorem e_rc4 {o : Nat} : qrc 4 o = ((qkd o).1 = 4) := rfl
theorem e_rc5 {o : Nat} : qrc 5 o = ((qkd o).1 = 5) := rfl
theorem e_rc6 {o : Nat} : qrc 6 o = ((qkd o).1 = 6) := rfl
theorem e_rc7 {o : Nat} : qrc 7 o = ((qkd o).1 = 7) := rfl
theorem e_rc8 {o : Nat} : qrc 8 o = ((qkd o).1 = 8) := rfl
theorem e_rc9 {o : Nat} : qrc 9 o = ((qkd o).1 = 9) := rfl
theorem e_rc60 {o : Nat} : qrc 60 o = (300 ≤ o ∧ o < 315) := rfl
theorem c_im8 : Int32.ofInt (-8) = (-8) := by decide +kernel
theorem c_im1 : Int32.ofInt (-1) = (-1) := by decide +kernel
theorem c_i0 : Int32.ofInt 0 = 0 := by decide +kernel
theorem c_i1 : Int32.ofInt 1 = 1 := by decide +kernel
theorem c_i2 : Int32.ofInt 2 = 2 := by decide +kernel
theorem c_i3 : Int32.ofInt 3 = 3 := by decide +kernel
theorem c_i4 : Int32.ofInt 4 = 4 := by decide +kernel
theorem c_i5 : Int32.ofInt 5 = 5 := by decide +kernel
theorem c_i1000000 : Int32.ofInt 1000000 = 1000000 := by decide +kernel
theorem c_bm6 : (Int8.ofInt (-6)).toInt32 = (-6) := by decide +kernel
theorem c_bm5 : (Int8.ofInt (-5)).toInt32 = (-5) := by decide +kernel
theorem c_bm2 : (Int8.ofInt (-2)).toInt32 = (-2) := by decide +kernel
theorem c_b6 : (Int8.ofInt 6).toInt32 = 6 := by decide +kernel
theorem c_b7 : (Int8.ofInt 7).toInt32 = 7 := by decide +kernel
theorem c_b8 : (Int8.ofInt 8).toInt32 = 8 := by decide +kernel
theorem c_b9 : (Int8.ofInt 9).toInt32 = 9 := by decide +kernel
theorem c_b10 : (Int8.ofInt 10).toInt32 = 10 := by decide +kernel
theorem c_b12 : (Int8.ofInt 12).toInt32 = 12 := by decide +kernel
theorem c_b16 : (Int8.ofInt 16).toInt32 = 16 := by decide +kernel
theorem c_b20 : (Int8.ofInt 20).toInt32 = 20 := by decide +kernel
theorem c_b24 : (Int8.ofInt 24).toInt32 = 24 := by decide +kernel
theorem c_b26 : (Int8.ofInt 26).toInt32 = 26 := by decide +kernel
theorem c_b32 : (Int8.ofInt 32).toInt32 = 32 := by decide +kernel
theorem c_b40 : (Int8.ofInt 40).toInt32 = 40 := by decide +kernel
theorem c_b42 : (Int8.ofInt 42).toInt32 = 42 := by decide +kernel
theorem c_b43 : (Int8.ofInt 43).toInt32 = 43 := by decide +kernel
theorem c_b48 : (Int8.ofInt 48).toInt32 = 48 := by decide +kernel
theorem c_b50 : (Int8.ofInt 50).toInt32 = 50 := by decide +kernel
theorem c_b57 : (Int8.ofInt 57).toInt32 = 57 := by decide +kernel
theorem c_b59 : (Int8.ofInt 59).toInt32 = 59 := by decide +kernel
theorem c_b60 : (Int8.ofInt 60).toInt32 = 60 := by decide +kernel
theorem c_b61 : (Int8.ofInt 61).toInt32 = 61 := by decide +kernel
theorem c_b63 : (Int8.ofInt 63).toInt32 = 63 := by decide +kernel
theorem c_b97 : (Int8.ofInt 97).toInt32 = 97 := by decide +kernel
theorem c_b98 : (Int8.ofInt 98).toInt32 = 98 := by decide +kernel
theorem c_b99 : (Int8.ofInt 99).toInt32 = 99 := by decide +kernel
theorem c_b100 : (Int8.ofInt 100).toInt32 = 100 := by decide +kernel
theorem c_b101 : (Int8.ofInt 101).toInt32 = 101 := by decide +kernel
theorem c_b102 : (Int8.ofInt 102).toInt32 = 102 := by decide +kernel
theorem c_b104 : (Int8.ofInt 104).toInt32 = 104 := by decide +kernel
theorem c_b105 : (Int8.ofInt 105).toInt32 = 105 := by decide +kernel
theorem c_b107 : (Int8.ofInt 107).toInt32 = 107 := by decide +kernel
theorem c_b108 : (Int8.ofInt 108).toInt32 = 108 := by decide +kernel
theorem c_b109 : (Int8.ofInt 109).toInt32 = 109 := by decide +kernel
theorem c_b110 : (Int8.ofInt 110).toInt32 = 110 := by decide +kernel
theorem c_b111 : (Int8.ofInt 111).toInt32 = 111 := by decide +kernel
theorem c_b112 : (Int8.ofInt 112).toInt32 = 112 := by decide +kernel
theorem c_b115 : (Int8.ofInt 115).toInt32 = 115 := by decide +kernel
theorem c_b116 : (Int8.ofInt 116).toInt32 = 116 := by decide +kernel
theorem c_b117 : (Int8.ofInt 117).toInt32 = 117 := by decide +kernel
theorem c_b122 : (Int8.ofInt 122).toInt32 = 122 := by decide +kernel
theorem c_b123 : (Int8.ofInt 123).toInt32 = 123 := by decide +kernel
theorem c_b125 : (Int8.ofInt 125).toInt32 = 125 := by decide +kernel
theorem c_s200 : (Int16.ofInt 200).toInt32 = 200 := by decide +kernel
theorem c_s255 : (Int16.ofInt 255).toInt32 = 255 := by decide +kernel
theorem c_s400 : (Int16.ofInt 400).toInt32 = 400 := by decide +kernel
theorem c_s1000 : (Int16.ofInt 1000).toInt32 = 1000 := by decide +kernel
theorem c_s1001 : (Int16.ofInt 1001).toInt32 = 1001 := by decide +kernel
theorem c_s1296 : (Int16.ofInt 1296).toInt32 = 1296 := by decide +kernel
theorem c_l0 : Int64.ofNat ((0 : Fin 2) : Nat) = 0 := by decide +kernel
theorem c_l1 : Int64.ofNat ((1 : Fin 2) : Nat) = 1 := by decide +kernel
theorem c_Lm1 : Int64.ofInt (-1) = (-1) := by decide +kernel
theorem c_L2 : Int64.ofInt 2 = 2 := by decide +kernel
theorem c_L3 : Int64.ofInt 3 = 3 := by decide +kernel
theorem c_L5 : Int64.ofInt 5 = 5 := by decide +kernel
theorem c_L7 : Int64.ofInt 7 = 7 := by decide +kernel
theorem c_L9 : Int64.ofInt 9 = 9 := by decide +kernel
theorem c_L10 : Int64.ofInt 10 = 10 := by decide +kernel
theorem c_L32 : Int64.ofInt 32 = 32 := by decide +kernel
theorem c_L48 : Int64.ofInt 48 = 48 := by decide +kernel
theorem c_L96 : Int64.ofInt 96 = 96 := by decide +kernel
theorem c_L1000 : Int64.ofInt 1000 = 1000 := by decide +kernel
theorem c_L1000000 : Int64.ofInt 1000000 = 1000000 := by decide +kernel
theorem c_L1000000000000 : Int64.ofInt 1000000000000 = 1000000000000 := by decide +kernel
theorem ka_0 : (qkd 0).1 = 9 := by decide +kernel
theorem ka_3 : (qkd 3).1 = 10 := by decide +kernel
theorem kb_3 : (qkd 3).2 = 4 := by decide +kernel
theorem ka_4 : (qkd 4).1 = 10 := by decide +kernel
theorem kb_4 : (qkd 4).2 = 4 := by decide +kernel
theorem ka_7 : (qkd 7).1 = 10 := by decide +kernel
theorem kb_7 : (qkd 7).2 = 60 := by decide +kernel
theorem ka_8 : (qkd 8).1 = 10 := by decide +kernel
theorem kb_8 : (qkd 8).2 = 60 := by decide +kernel
theorem ka_9 : (qkd 9).1 = 10 := by decide +kernel
theorem kb_9 : (qkd 9).2 = 60 := by decide +kernel
theorem ka_10 : (qkd 10).1 = 10 := by decide +kernel
theorem kb_10 : (qkd 10).2 = 60 := by decide +kernel
theorem ka_11 : (qkd 11).1 = 10 := by decide +kernel
theorem kb_11 : (qkd 11).2 = 60 := by decide +kernel
theorem ka_12 : (qkd 12).1 = 10 := by decide +kernel
theorem kb_12 : (qkd 12).2 = 61 := by decide +kernel
theorem ka_13 : (qkd 13).1 = 10 := by decide +kernel
theorem kb_13 : (qkd 13).2 = 200 := by decide +kernel
theorem ka_14 : (qkd 14).1 = 10 := by decide +kernel
theorem kb_14 : (qkd 14).2 = 200 := by decide +kernel
theorem ka_15 : (qkd 15).1 = 12 := by decide +kernel
theorem kb_15 : (qkd 15).2 = 200 := by decide +kernel
theorem ka_17 : (qkd 17).1 = 10 := by decide +kernel
theorem kb_17 : (qkd 17).2 = 6 := by decide +kernel
theorem ka_18 : (qkd 18).1 = 10 := by decide +kernel
theorem kb_18 : (qkd 18).2 = 6 := by decide +kernel
theorem ka_21 : (qkd 21).1 = 10 := by decide +kernel
theorem kb_21 : (qkd 21).2 = 8 := by decide +kernel
theorem ka_22 : (qkd 22).1 = 10 := by decide +kernel
theorem kb_22 : (qkd 22).2 = 8 := by decide +kernel
theorem ka_23 : (qkd 23).1 = 10 := by decide +kernel
theorem kb_23 : (qkd 23).2 = 4 := by decide +kernel
theorem ka_24 : (qkd 24).1 = 11 := by decide +kernel
theorem kb_24 : (qkd 24).2 = 60 := by decide +kernel
theorem ka_25 : (qkd 25).1 = 11 := by decide +kernel
theorem kb_25 : (qkd 25).2 = 60 := by decide +kernel
theorem ka_26 : (qkd 26).1 = 11 := by decide +kernel
theorem kb_26 : (qkd 26).2 = 60 := by decide +kernel
theorem ka_27 : (qkd 27).1 = 10 := by decide +kernel
theorem kb_27 : (qkd 27).2 = 4 := by decide +kernel
theorem ka_29 : (qkd 29).1 = 11 := by decide +kernel
theorem kb_29 : (qkd 29).2 = 60 := by decide +kernel
theorem ka_30 : (qkd 30).1 = 11 := by decide +kernel
theorem kb_30 : (qkd 30).2 = 6 := by decide +kernel
theorem ka_32 : (qkd 32).1 = 10 := by decide +kernel
theorem kb_32 : (qkd 32).2 = 48 := by decide +kernel
theorem ka_33 : (qkd 33).1 = 11 := by decide +kernel
theorem kb_33 : (qkd 33).2 = 8 := by decide +kernel
theorem ka_34 : (qkd 34).1 = 10 := by decide +kernel
theorem kb_34 : (qkd 34).2 = 8 := by decide +kernel
theorem ka_35 : (qkd 35).1 = 10 := by decide +kernel
theorem kb_35 : (qkd 35).2 = 6 := by decide +kernel
theorem ka_36 : (qkd 36).1 = 10 := by decide +kernel
theorem kb_36 : (qkd 36).2 = 8 := by decide +kernel
theorem ka_38 : (qkd 38).1 = 10 := by decide +kernel
theorem kb_38 : (qkd 38).2 = 60 := by decide +kernel
theorem ka_39 : (qkd 39).1 = 10 := by decide +kernel
theorem kb_39 : (qkd 39).2 = 60 := by decide +kernel
theorem ka_40 : (qkd 40).1 = 10 := by decide +kernel
theorem kb_40 : (qkd 40).2 = 60 := by decide +kernel
theorem ka_41 : (qkd 41).1 = 10 := by decide +kernel
theorem kb_41 : (qkd 41).2 = 60 := by decide +kernel
theorem ka_42 : (qkd 42).1 = 10 := by decide +kernel
theorem kb_42 : (qkd 42).2 = 60 := by decide +kernel
theorem ka_43 : (qkd 43).1 = 10 := by decide +kernel
theorem kb_43 : (qkd 43).2 = 61 := by decide +kernel
theorem ka_45 : (qkd 45).1 = 10 := by decide +kernel
theorem kb_45 : (qkd 45).2 = 200 := by decide +kernel
theorem ka_46 : (qkd 46).1 = 10 := by decide +kernel
theorem kb_46 : (qkd 46).2 = 200 := by decide +kernel
theorem ka_47 : (qkd 47).1 = 12 := by decide +kernel
theorem kb_47 : (qkd 47).2 = 200 := by decide +kernel
theorem ka_49 : (qkd 49).1 = 10 := by decide +kernel
theorem kb_49 : (qkd 49).2 = 6 := by decide +kernel
theorem ka_50 : (qkd 50).1 = 10 := by decide +kernel
theorem kb_50 : (qkd 50).2 = 6 := by decide +kernel
theorem ka_53 : (qkd 53).1 = 10 := by decide +kernel
theorem kb_53 : (qkd 53).2 = 26 := by decide +kernel
theorem ka_54 : (qkd 54).1 = 10 := by decide +kernel
theorem kb_54 : (qkd 54).2 = 8 := by decide +kernel
theorem ka_57 : (qkd 57).1 = 10 := by decide +kernel
theorem kb_57 : (qkd 57).2 = 400 := by decide +kernel
theorem ka_100 : (qkd 100).1 = 8 := by decide +kernel
theorem ka_110 : (qkd 110).1 = 10 := by decide +kernel
theorem kb_110 : (qkd 110).2 = 8 := by decide +kernel
theorem ka_111 : (qkd 111).1 = 10 := by decide +kernel
theorem kb_111 : (qkd 111).2 = 4 := by decide +kernel
theorem ka_113 : (qkd 113).1 = 10 := by decide +kernel
theorem kb_113 : (qkd 113).2 = 4 := by decide +kernel
theorem ka_120 : (qkd 120).1 = 5 := by decide +kernel
theorem ka_125 : (qkd 125).1 = 10 := by decide +kernel
theorem kb_125 : (qkd 125).2 = 8 := by decide +kernel
theorem ka_126 : (qkd 126).1 = 10 := by decide +kernel
theorem kb_126 : (qkd 126).2 = 8 := by decide +kernel
theorem ka_127 : (qkd 127).1 = 10 := by decide +kernel
theorem kb_127 : (qkd 127).2 = 60 := by decide +kernel
theorem ka_128 : (qkd 128).1 = 10 := by decide +kernel
theorem kb_128 : (qkd 128).2 = 60 := by decide +kernel
theorem ka_129 : (qkd 129).1 = 10 := by decide +kernel
theorem kb_129 : (qkd 129).2 = 60 := by decide +kernel
theorem ka_130 : (qkd 130).1 = 10 := by decide +kernel
theorem kb_130 : (qkd 130).2 = 60 := by decide +kernel
theorem ka_131 : (qkd 131).1 = 10 := by decide +kernel
theorem kb_131 : (qkd 131).2 = 60 := by decide +kernel
theorem ka_132 : (qkd 132).1 = 10 := by decide +kernel
theorem kb_132 : (qkd 132).2 = 60 := by decide +kernel
theorem ka_133 : (qkd 133).1 = 10 := by decide +kernel
theorem kb_133 : (qkd 133).2 = 60 := by decide +kernel
theorem ka_134 : (qkd 134).1 = 10 := by decide +kernel
theorem kb_134 : (qkd 134).2 = 200 := by decide +kernel
theorem ka_135 : (qkd 135).1 = 10 := by decide +kernel
theorem kb_135 : (qkd 135).2 = 200 := by decide +kernel
theorem ka_136 : (qkd 136).1 = 10 := by decide +kernel
theorem kb_136 : (qkd 136).2 = 200 := by decide +kernel
theorem ka_140 : (qkd 140).1 = 5 := by decide +kernel
theorem ka_145 : (qkd 145).1 = 10 := by decide +kernel
theorem kb_145 : (qkd 145).2 = 8 := by decide +kernel
theorem ka_146 : (qkd 146).1 = 10 := by decide +kernel
theorem kb_146 : (qkd 146).2 = 8 := by decide +kernel
theorem ka_147 : (qkd 147).1 = 10 := by decide +kernel
theorem kb_147 : (qkd 147).2 = 60 := by decide +kernel
theorem ka_148 : (qkd 148).1 = 10 := by decide +kernel
theorem kb_148 : (qkd 148).2 = 60 := by decide +kernel
theorem ka_149 : (qkd 149).1 = 10 := by decide +kernel
theorem kb_149 : (qkd 149).2 = 60 := by decide +kernel
theorem ka_150 : (qkd 150).1 = 10 := by decide +kernel
theorem kb_150 : (qkd 150).2 = 60 := by decide +kernel
theorem ka_151 : (qkd 151).1 = 10 := by decide +kernel
theorem kb_151 : (qkd 151).2 = 60 := by decide +kernel
theorem ka_152 : (qkd 152).1 = 10 := by decide +kernel
theorem kb_152 : (qkd 152).2 = 60 := by decide +kernel
theorem ka_153 : (qkd 153).1 = 10 := by decide +kernel
theorem kb_153 : (qkd 153).2 = 60 := by decide +kernel
theorem ka_154 : (qkd 154).1 = 10 := by decide +kernel
theorem kb_154 : (qkd 154).2 = 200 := by decide +kernel
theorem ka_155 : (qkd 155).1 = 10 := by decide +kernel
theorem kb_155 : (qkd 155).2 = 200 := by decide +kernel
theorem ka_156 : (qkd 156).1 = 10 := by decide +kernel
theorem kb_156 : (qkd 156).2 = 200 := by decide +kernel
theorem ka_160 : (qkd 160).1 = 6 := by decide +kernel
theorem ka_161 : (qkd 161).1 = 10 := by decide +kernel
theorem kb_161 : (qkd 161).2 = 400 := by decide +kernel
theorem ka_165 : (qkd 165).1 = 7 := by decide +kernel
theorem ka_170 : (qkd 170).1 = 4 := by decide +kernel
theorem ka_173 : (qkd 173).1 = 10 := by decide +kernel
theorem kb_173 : (qkd 173).2 = 8 := by decide +kernel
theorem ka_174 : (qkd 174).1 = 10 := by decide +kernel
theorem kb_174 : (qkd 174).2 = 8 := by decide +kernel
theorem ka_177 : (qkd 177).1 = 10 := by decide +kernel
theorem kb_177 : (qkd 177).2 = 6 := by decide +kernel
theorem ka_180 : (qkd 180).1 = 2 := by decide +kernel
theorem ka_181 : (qkd 181).1 = 11 := by decide +kernel
theorem kb_181 : (qkd 181).2 = 60 := by decide +kernel
theorem ka_182 : (qkd 182).1 = 11 := by decide +kernel
theorem kb_182 : (qkd 182).2 = 60 := by decide +kernel
theorem ka_183 : (qkd 183).1 = 11 := by decide +kernel
theorem kb_183 : (qkd 183).2 = 60 := by decide +kernel
theorem ka_184 : (qkd 184).1 = 11 := by decide +kernel
theorem kb_184 : (qkd 184).2 = 7 := by decide +kernel
theorem ka_185 : (qkd 185).1 = 11 := by decide +kernel
theorem kb_185 : (qkd 185).2 = 60 := by decide +kernel
theorem ka_186 : (qkd 186).1 = 11 := by decide +kernel
theorem kb_186 : (qkd 186).2 = 7 := by decide +kernel
theorem ka_190 : (qkd 190).1 = 1 := by decide +kernel
theorem ka_191 : (qkd 191).1 = 10 := by decide +kernel
theorem kb_191 : (qkd 191).2 = 8 := by decide +kernel
theorem ka_193 : (qkd 193).1 = 10 := by decide +kernel
theorem kb_193 : (qkd 193).2 = 7 := by decide +kernel
theorem ka_194 : (qkd 194).1 = 10 := by decide +kernel
theorem kb_194 : (qkd 194).2 = 8 := by decide +kernel
theorem ka_200 : (qkd 200).1 = 0 := by decide +kernel
theorem ka_201 : (qkd 201).1 = 10 := by decide +kernel
theorem kb_201 : (qkd 201).2 = 4 := by decide +kernel
theorem ka_202 : (qkd 202).1 = 10 := by decide +kernel
theorem kb_202 : (qkd 202).2 = 4 := by decide +kernel
theorem ka_203 : (qkd 203).1 = 10 := by decide +kernel
theorem kb_203 : (qkd 203).2 = 4 := by decide +kernel
theorem ka_204 : (qkd 204).1 = 10 := by decide +kernel
theorem kb_204 : (qkd 204).2 = 4 := by decide +kernel
theorem ka_210 : (qkd 210).1 = 3 := by decide +kernel
theorem ka_213 : (qkd 213).1 = 10 := by decide +kernel
theorem kb_213 : (qkd 213).2 = 48 := by decide +kernel
theorem ka_215 : (qkd 215).1 = 10 := by decide +kernel
theorem kb_215 : (qkd 215).2 = 4 := by decide +kernel
theorem ka_216 : (qkd 216).1 = 11 := by decide +kernel
theorem kb_216 : (qkd 216).2 = 8 := by decide +kernel
theorem ka_217 : (qkd 217).1 = 10 := by decide +kernel
theorem kb_217 : (qkd 217).2 = 8 := by decide +kernel
theorem ka_218 : (qkd 218).1 = 10 := by decide +kernel
theorem kb_218 : (qkd 218).2 = 1296 := by decide +kernel
