/-! evaluation, by proofs that are no bare rfl: the kernel then compares no states -/
section QEV
variable {G : Nat → List Value → List Value → HP → Prop} {Q : Option Value → HP → Prop} {C : Nat → List Value → HP → (Option Value → HP → Prop) → Prop} {f pc len a t u : Nat} {b : Int} {xs : List (Int × Nat)} {r : List XI} {L st : List Value} {h : HP} {ops : Nat × Nat × Nat}
theorem f_nil : qwp G Q C f [] L st h = G f L st h := id rfl
theorem f_iconst {n : Int} : qwp G Q C f ((pc, .iconst n, len, ops, b, xs) :: r) L st h = qwp G Q C f r L (.int (Int32.ofInt n) :: st) h := id rfl
theorem f_bipush {n : Int} : qwp G Q C f ((pc, .bipush n, len, ops, b, xs) :: r) L st h = qwp G Q C f r L (.int (Int8.ofInt n).toInt32 :: st) h := id rfl
theorem f_sipush {n : Int} : qwp G Q C f ((pc, .sipush n, len, ops, b, xs) :: r) L st h = qwp G Q C f r L (.int (Int16.ofInt n).toInt32 :: st) h := id rfl
theorem f_lconst {n : Fin 2} : qwp G Q C f ((pc, .lconst n, len, ops, b, xs) :: r) L st h = qwp G Q C f r L (.long (Int64.ofNat (n : Nat)) :: st) h := id rfl
theorem f_ldcS {n : Nat} : qwp G Q C f ((pc, .ldc n, len, (a, 1, u), b, xs) :: r) L st h = qwp G Q C f r L (.ref a :: st) h := id rfl
theorem f_ldcI {n : Nat} : qwp G Q C f ((pc, .ldc n, len, (a, 0, u), b, xs) :: r) L st h = qwp G Q C f r L (.int (Int32.ofInt b) :: st) h := id rfl
theorem f_ldc2 {n : Nat} : qwp G Q C f ((pc, .ldc2_w n, len, ops, b, xs) :: r) L st h = qwp G Q C f r L (.long (Int64.ofInt b) :: st) h := id rfl
theorem f_iload_n {n : Fin 4} : qwp G Q C f ((pc, .iload_n n, len, (a, t, u), b, xs) :: r) L st h = qcI (qlg L a) (fun x => qwp G Q C f r L (.int x :: st) h) := id rfl
theorem f_iload {n : Nat} : qwp G Q C f ((pc, .iload n, len, (a, t, u), b, xs) :: r) L st h = qcI (qlg L a) (fun x => qwp G Q C f r L (.int x :: st) h) := id rfl
theorem f_istore_n {n : Fin 4} {x : Int32} : qwp G Q C f ((pc, .istore_n n, len, (a, t, u), b, xs) :: r) L (.int x :: st) h = (qnp L a ∧ qwp G Q C f r (qls L a (.int x)) st h) := id rfl
theorem f_istore {n : Nat} {x : Int32} : qwp G Q C f ((pc, .istore n, len, (a, t, u), b, xs) :: r) L (.int x :: st) h = (qnp L a ∧ qwp G Q C f r (qls L a (.int x)) st h) := id rfl
theorem f_lload_n {n : Fin 4} : qwp G Q C f ((pc, .lload_n n, len, (a, t, u), b, xs) :: r) L st h = qcL (qlg L a) (fun x => qwp G Q C f r L (.long x :: st) h) := id rfl
theorem f_lload {n : Nat} : qwp G Q C f ((pc, .lload n, len, (a, t, u), b, xs) :: r) L st h = qcL (qlg L a) (fun x => qwp G Q C f r L (.long x :: st) h) := id rfl
theorem f_lstore_n {n : Fin 4} {x : Int64} : qwp G Q C f ((pc, .lstore_n n, len, (a, t, u), b, xs) :: r) L (.long x :: st) h = (qnp L a ∧ qwp G Q C f r (qls (qls L a (.long x)) (a + 1) qX) st h) := id rfl
theorem f_lstore {n : Nat} {x : Int64} : qwp G Q C f ((pc, .lstore n, len, (a, t, u), b, xs) :: r) L (.long x :: st) h = (qnp L a ∧ qwp G Q C f r (qls (qls L a (.long x)) (a + 1) qX) st h) := id rfl
theorem f_aload_n {n : Fin 4} : qwp G Q C f ((pc, .aload_n n, len, (a, t, u), b, xs) :: r) L st h = qcR (qlg L a) (fun x => qwp G Q C f r L (.ref x :: st) h) := id rfl
theorem f_aload {n : Nat} : qwp G Q C f ((pc, .aload n, len, (a, t, u), b, xs) :: r) L st h = qcR (qlg L a) (fun x => qwp G Q C f r L (.ref x :: st) h) := id rfl
theorem f_astore_n {n : Fin 4} {x : Nat} : qwp G Q C f ((pc, .astore_n n, len, (a, t, u), b, xs) :: r) L (.ref x :: st) h = (qnp L a ∧ qwp G Q C f r (qls L a (.ref x)) st h) := id rfl
theorem f_astore {n : Nat} {x : Nat} : qwp G Q C f ((pc, .astore n, len, (a, t, u), b, xs) :: r) L (.ref x :: st) h = (qnp L a ∧ qwp G Q C f r (qls L a (.ref x)) st h) := id rfl
theorem f_iinc {j : Nat} {n : Int} : qwp G Q C f ((pc, .iinc j n, len, (a, t, u), b, xs) :: r) L st h = qcI (qlg L a) (fun x => qnp L a ∧ qwp G Q C f r (qls L a (.int (x + Int32.ofInt n))) st h) := id rfl
theorem f_iadd {x y : Int32} : qwp G Q C f ((pc, .iadd, len, ops, b, xs) :: r) L (.int y :: .int x :: st) h = qwp G Q C f r L (.int (x + y) :: st) h := id rfl
theorem f_isub {x y : Int32} : qwp G Q C f ((pc, .isub, len, ops, b, xs) :: r) L (.int y :: .int x :: st) h = qwp G Q C f r L (.int (x - y) :: st) h := id rfl
theorem f_imul {x y : Int32} : qwp G Q C f ((pc, .imul, len, ops, b, xs) :: r) L (.int y :: .int x :: st) h = qwp G Q C f r L (.int (x * y) :: st) h := id rfl
theorem f_iand {x y : Int32} : qwp G Q C f ((pc, .iand, len, ops, b, xs) :: r) L (.int y :: .int x :: st) h = qwp G Q C f r L (.int (x &&& y) :: st) h := id rfl
theorem f_ior {x y : Int32} : qwp G Q C f ((pc, .ior, len, ops, b, xs) :: r) L (.int y :: .int x :: st) h = qwp G Q C f r L (.int (x ||| y) :: st) h := id rfl
theorem f_ixor {x y : Int32} : qwp G Q C f ((pc, .ixor, len, ops, b, xs) :: r) L (.int y :: .int x :: st) h = qwp G Q C f r L (.int (x ^^^ y) :: st) h := id rfl
theorem f_ishl {x y : Int32} : qwp G Q C f ((pc, .ishl, len, ops, b, xs) :: r) L (.int y :: .int x :: st) h = qwp G Q C f r L (.int (x <<< (y &&& 31)) :: st) h := id rfl
theorem f_ishr {x y : Int32} : qwp G Q C f ((pc, .ishr, len, ops, b, xs) :: r) L (.int y :: .int x :: st) h = qwp G Q C f r L (.int (x >>> (y &&& 31)) :: st) h := id rfl
theorem f_iushr {x y : Int32} : qwp G Q C f ((pc, .iushr, len, ops, b, xs) :: r) L (.int y :: .int x :: st) h = qwp G Q C f r L (.int ((x.toUInt32 >>> (y.toUInt32 &&& Int32.toUInt32 31)).toInt32) :: st) h := id rfl
theorem f_ladd {x y : Int64} : qwp G Q C f ((pc, .ladd, len, ops, b, xs) :: r) L (.long y :: .long x :: st) h = qwp G Q C f r L (.long (x + y) :: st) h := id rfl
theorem f_lsub {x y : Int64} : qwp G Q C f ((pc, .lsub, len, ops, b, xs) :: r) L (.long y :: .long x :: st) h = qwp G Q C f r L (.long (x - y) :: st) h := id rfl
theorem f_lmul {x y : Int64} : qwp G Q C f ((pc, .lmul, len, ops, b, xs) :: r) L (.long y :: .long x :: st) h = qwp G Q C f r L (.long (x * y) :: st) h := id rfl
theorem f_land {x y : Int64} : qwp G Q C f ((pc, .land, len, ops, b, xs) :: r) L (.long y :: .long x :: st) h = qwp G Q C f r L (.long (x &&& y) :: st) h := id rfl
theorem f_lor {x y : Int64} : qwp G Q C f ((pc, .lor, len, ops, b, xs) :: r) L (.long y :: .long x :: st) h = qwp G Q C f r L (.long (x ||| y) :: st) h := id rfl
theorem f_idiv {x y : Int32} : qwp G Q C f ((pc, .idiv, len, ops, b, xs) :: r) L (.int y :: .int x :: st) h = (¬ y = 0 ∧ qwp G Q C f r L (.int (x / y) :: st) h) := id rfl
theorem f_irem {x y : Int32} : qwp G Q C f ((pc, .irem, len, ops, b, xs) :: r) L (.int y :: .int x :: st) h = (¬ y = 0 ∧ qwp G Q C f r L (.int (x - x / y * y) :: st) h) := id rfl
theorem f_ineg {x : Int32} : qwp G Q C f ((pc, .ineg, len, ops, b, xs) :: r) L (.int x :: st) h = qwp G Q C f r L (.int (-x) :: st) h := id rfl
theorem f_ldiv {x y : Int64} : qwp G Q C f ((pc, .ldiv, len, ops, b, xs) :: r) L (.long y :: .long x :: st) h = (¬ y = 0 ∧ qwp G Q C f r L (.long (x / y) :: st) h) := id rfl
theorem f_lshl {x : Int64} {y : Int32} : qwp G Q C f ((pc, .lshl, len, ops, b, xs) :: r) L (.int y :: .long x :: st) h = qwp G Q C f r L (.long (x <<< (y.toInt64 &&& 63)) :: st) h := id rfl
theorem f_lcmp {x y : Int64} : qwp G Q C f ((pc, .lcmp, len, ops, b, xs) :: r) L (.long y :: .long x :: st) h = qwp G Q C f r L (.int (lg_cmp x y) :: st) h := id rfl
theorem f_i2l {x : Int32} : qwp G Q C f ((pc, .i2l, len, ops, b, xs) :: r) L (.int x :: st) h = qwp G Q C f r L (.long x.toInt64 :: st) h := id rfl
theorem f_l2i {x : Int64} : qwp G Q C f ((pc, .l2i, len, ops, b, xs) :: r) L (.long x :: st) h = qwp G Q C f r L (.int x.toInt32 :: st) h := id rfl
theorem f_i2c {x : Int32} : qwp G Q C f ((pc, .i2c, len, ops, b, xs) :: r) L (.int x :: st) h = qwp G Q C f r L (.int (x.toUInt32 % 65536).toInt32 :: st) h := id rfl
theorem f_dup {v : Value} : qwp G Q C f ((pc, .dup, len, ops, b, xs) :: r) L (v :: st) h = (v.category = 1 ∧ qwp G Q C f r L (v :: v :: st) h) := id rfl
theorem f_dup2 {v w : Value} : qwp G Q C f ((pc, .dup2, len, ops, b, xs) :: r) L (v :: w :: st) h = (v.category = 1 ∧ w.category = 1 ∧ qwp G Q C f r L (v :: w :: v :: w :: st) h) := id rfl
theorem f_pop {v : Value} : qwp G Q C f ((pc, .pop, len, ops, b, xs) :: r) L (v :: st) h = (v.category = 1 ∧ qwp G Q C f r L st h) := id rfl
theorem f_pop2 {v : Value} : qwp G Q C f ((pc, .pop2, len, ops, b, xs) :: r) L (v :: st) h = (v.category = 2 ∧ qwp G Q C f r L st h) := id rfl
theorem f_arraylength {o : Nat} : qwp G Q C f ((pc, .arraylength, len, ops, b, xs) :: r) L (.ref o :: st) h = ((10 ≤ (qkd o).1 ∧ (qkd o).1 ≤ 12) ∧ qwp G Q C f r L (.int (Int32.ofNat (qkd o).2) :: st) h) := id rfl
theorem f_iaload {i : Int32} {o : Nat} : qwp G Q C f ((pc, .iaload, len, ops, b, xs) :: r) L (.int i :: .ref o :: st) h = ((qkd o).1 = 10 ∧ qin i (qkd o).2 ∧ qwp G Q C f r L (.int (h.1 o i.toNatClampNeg) :: st) h) := id rfl
theorem f_laload {i : Int32} {o : Nat} : qwp G Q C f ((pc, .laload, len, ops, b, xs) :: r) L (.int i :: .ref o :: st) h = ((qkd o).1 = 11 ∧ qin i (qkd o).2 ∧ qwp G Q C f r L (.long (h.2.1 o i.toNatClampNeg) :: st) h) := id rfl
theorem f_baload {i : Int32} {o : Nat} : qwp G Q C f ((pc, .baload, len, ops, b, xs) :: r) L (.int i :: .ref o :: st) h = ((qkd o).1 = 12 ∧ qin i (qkd o).2 ∧ qwp G Q C f r L (.int (h.1 o i.toNatClampNeg) :: st) h) := id rfl
theorem f_iastore {x i : Int32} {o : Nat} : qwp G Q C f ((pc, .iastore, len, ops, b, xs) :: r) L (.int x :: .int i :: .ref o :: st) h = ((qkd o).1 = 10 ∧ qin i (qkd o).2 ∧ qwp G Q C f r L st (up2 h.1 o i.toNatClampNeg x, h.2.1, h.2.2)) := id rfl
theorem f_lastore {x : Int64} {i : Int32} {o : Nat} : qwp G Q C f ((pc, .lastore, len, ops, b, xs) :: r) L (.long x :: .int i :: .ref o :: st) h = ((qkd o).1 = 11 ∧ qin i (qkd o).2 ∧ qwp G Q C f r L st (h.1, up2 h.2.1 o i.toNatClampNeg x, h.2.2)) := id rfl
theorem f_bastore {x i : Int32} {o : Nat} : qwp G Q C f ((pc, .bastore, len, ops, b, xs) :: r) L (.int x :: .int i :: .ref o :: st) h = ((qkd o).1 = 12 ∧ qin i (qkd o).2 ∧ qwp G Q C f r L st (up2 h.1 o i.toNatClampNeg (vp_nar .boolean x), h.2.1, h.2.2)) := id rfl
theorem f_getI {n o : Nat} : qwp G Q C f ((pc, .getfield n, len, (a, 0, u), b, xs) :: r) L (.ref o :: st) h = ((qkd o).1 = u ∧ qwp G Q C f r L (.int (h.1 o a) :: st) h) := id rfl
theorem f_getL {n o : Nat} : qwp G Q C f ((pc, .getfield n, len, (a, 1, u), b, xs) :: r) L (.ref o :: st) h = ((qkd o).1 = u ∧ qwp G Q C f r L (.long (h.2.1 o a) :: st) h) := id rfl
theorem f_getR {n o : Nat} : qwp G Q C f ((pc, .getfield n, len, (a, 2, u), b, xs) :: r) L (.ref o :: st) h = ((qkd o).1 = u ∧ qwp G Q C f r L (qrv (h.2.2 o a) :: st) h) := id rfl
theorem f_getZ {n o : Nat} : qwp G Q C f ((pc, .getfield n, len, (a, 3, u), b, xs) :: r) L (.ref o :: st) h = ((qkd o).1 = u ∧ qwp G Q C f r L (.int (h.1 o a) :: st) h) := id rfl
theorem f_putI {n o : Nat} {x : Int32} : qwp G Q C f ((pc, .putfield n, len, (a, 0, u), b, xs) :: r) L (.int x :: .ref o :: st) h = ((qkd o).1 = u ∧ True ∧ qwp G Q C f r L st (up2 h.1 o a x, h.2.1, h.2.2)) := id rfl
theorem f_putL {n o : Nat} {x : Int64} : qwp G Q C f ((pc, .putfield n, len, (a, 1, u), b, xs) :: r) L (.long x :: .ref o :: st) h = ((qkd o).1 = u ∧ True ∧ qwp G Q C f r L st (h.1, up2 h.2.1 o a x, h.2.2)) := id rfl
theorem f_putR {n o x : Nat} : qwp G Q C f ((pc, .putfield n, len, (a, 2, u), b, xs) :: r) L (.ref x :: .ref o :: st) h = ((qkd o).1 = u ∧ True ∧ qwp G Q C f r L st (h.1, h.2.1, up2 h.2.2 o a (some x))) := id rfl
theorem f_putZ {n o : Nat} {x : Int32} : qwp G Q C f ((pc, .putfield n, len, (a, 3, u), b, xs) :: r) L (.int x :: .ref o :: st) h = ((qkd o).1 = u ∧ (x = 0 ∨ x = 1) ∧ qwp G Q C f r L st (up2 h.1 o a x, h.2.1, h.2.2)) := id rfl
theorem f_icmp_eq {n : Int} {x y : Int32} : qwp G Q C f ((pc, .if_icmp .eq n, len, (a, t, u), b, xs) :: r) L (.int y :: .int x :: st) h = ((x = y → G a L st h) ∧ (¬ x = y → qwp G Q C f r L st h)) := id rfl
theorem f_if_eq {n : Int} {x : Int32} : qwp G Q C f ((pc, .ifCond .eq n, len, (a, t, u), b, xs) :: r) L (.int x :: st) h = ((x = 0 → G a L st h) ∧ (¬ x = 0 → qwp G Q C f r L st h)) := id rfl
theorem f_icmp_ne {n : Int} {x y : Int32} : qwp G Q C f ((pc, .if_icmp .ne n, len, (a, t, u), b, xs) :: r) L (.int y :: .int x :: st) h = ((¬ x = y → G a L st h) ∧ (x = y → qwp G Q C f r L st h)) := id rfl
theorem f_if_ne {n : Int} {x : Int32} : qwp G Q C f ((pc, .ifCond .ne n, len, (a, t, u), b, xs) :: r) L (.int x :: st) h = ((¬ x = 0 → G a L st h) ∧ (x = 0 → qwp G Q C f r L st h)) := id rfl
theorem f_icmp_lt {n : Int} {x y : Int32} : qwp G Q C f ((pc, .if_icmp .lt n, len, (a, t, u), b, xs) :: r) L (.int y :: .int x :: st) h = ((x < y → G a L st h) ∧ (¬ x < y → qwp G Q C f r L st h)) := id rfl
theorem f_if_lt {n : Int} {x : Int32} : qwp G Q C f ((pc, .ifCond .lt n, len, (a, t, u), b, xs) :: r) L (.int x :: st) h = ((x < 0 → G a L st h) ∧ (¬ x < 0 → qwp G Q C f r L st h)) := id rfl
theorem f_icmp_ge {n : Int} {x y : Int32} : qwp G Q C f ((pc, .if_icmp .ge n, len, (a, t, u), b, xs) :: r) L (.int y :: .int x :: st) h = ((y ≤ x → G a L st h) ∧ (¬ y ≤ x → qwp G Q C f r L st h)) := id rfl
theorem f_if_ge {n : Int} {x : Int32} : qwp G Q C f ((pc, .ifCond .ge n, len, (a, t, u), b, xs) :: r) L (.int x :: st) h = ((0 ≤ x → G a L st h) ∧ (¬ 0 ≤ x → qwp G Q C f r L st h)) := id rfl
theorem f_icmp_gt {n : Int} {x y : Int32} : qwp G Q C f ((pc, .if_icmp .gt n, len, (a, t, u), b, xs) :: r) L (.int y :: .int x :: st) h = ((y < x → G a L st h) ∧ (¬ y < x → qwp G Q C f r L st h)) := id rfl
theorem f_if_gt {n : Int} {x : Int32} : qwp G Q C f ((pc, .ifCond .gt n, len, (a, t, u), b, xs) :: r) L (.int x :: st) h = ((0 < x → G a L st h) ∧ (¬ 0 < x → qwp G Q C f r L st h)) := id rfl
theorem f_icmp_le {n : Int} {x y : Int32} : qwp G Q C f ((pc, .if_icmp .le n, len, (a, t, u), b, xs) :: r) L (.int y :: .int x :: st) h = ((x ≤ y → G a L st h) ∧ (¬ x ≤ y → qwp G Q C f r L st h)) := id rfl
theorem f_if_le {n : Int} {x : Int32} : qwp G Q C f ((pc, .ifCond .le n, len, (a, t, u), b, xs) :: r) L (.int x :: st) h = ((x ≤ 0 → G a L st h) ∧ (¬ x ≤ 0 → qwp G Q C f r L st h)) := id rfl
theorem f_goto {n : Int} : qwp G Q C f ((pc, .goto n, len, (a, t, u), b, xs) :: r) L st h = G a L st h := id rfl
theorem f_tsw {d lo hi : Int} {os : Array Int} {x : Int32} : qwp G Q C f ((pc, .tableswitch d lo hi os, len, (a, t, u), b, xs) :: r) L (.int x :: st) h = ((∀ q ∈ xs, x.toInt = q.1 → G q.2 L st h) ∧ ((∀ q ∈ xs, ¬ x.toInt = q.1) → G a L st h)) := id rfl
theorem f_lsw {d : Int} {ps : Array (Int × Int)} {x : Int32} : qwp G Q C f ((pc, .lookupswitch d ps, len, (a, t, u), b, xs) :: r) L (.int x :: st) h = ((∀ q ∈ xs, x.toInt = q.1 → G q.2 L st h) ∧ ((∀ q ∈ xs, ¬ x.toInt = q.1) → G a L st h)) := id rfl
theorem f_ret : qwp G Q C f ((pc, .return_, len, ops, b, xs) :: r) L [] h = Q none h := id rfl
theorem f_iret {x : Int32} : qwp G Q C f ((pc, .ireturn, len, (a, 0, u), b, xs) :: r) L [.int x] h = (True ∧ Q (some (.int x)) h) := id rfl
theorem f_zret {x : Int32} : qwp G Q C f ((pc, .ireturn, len, (a, 1, u), b, xs) :: r) L [.int x] h = (narrow .boolean (.int x) = .int x ∧ Q (some (.int x)) h) := id rfl
theorem f_lret {x : Int64} : qwp G Q C f ((pc, .lreturn, len, ops, b, xs) :: r) L [.long x] h = Q (some (.long x)) h := id rfl
theorem f_mmin {n : Nat} {x y : Int32} : qwp G Q C f ((pc, .invokestatic n, len, (a, t, 50), b, xs) :: r) L (.int y :: .int x :: st) h = (qle st ∧ qwp G Q C f r L (.int (if y < x then y else x) :: st) h) := id rfl
theorem f_mmax {n : Nat} {x y : Int32} : qwp G Q C f ((pc, .invokestatic n, len, (a, t, 51), b, xs) :: r) L (.int y :: .int x :: st) h = (qle st ∧ qwp G Q C f r L (.int (if x < y then y else x) :: st) h) := id rfl
theorem f_mminl {n : Nat} {x y : Int64} : qwp G Q C f ((pc, .invokestatic n, len, (a, t, 52), b, xs) :: r) L (.long y :: .long x :: st) h = (qle st ∧ qwp G Q C f r L (.long (if y < x then y else x) :: st) h) := id rfl
theorem f_mmaxl {n : Nat} {x y : Int64} : qwp G Q C f ((pc, .invokestatic n, len, (a, t, 53), b, xs) :: r) L (.long y :: .long x :: st) h = (qle st ∧ qwp G Q C f r L (.long (if y < x then x else y) :: st) h) := id rfl
theorem f_cs0 {n : Nat} : qwp G Q C f ((pc, .invokestatic n, len, (a, 0, 0), b, xs) :: r) L st h = (qle st ∧ C a [] h (fun v h' => qwp G Q C f r L (qpu v st) h')) := by
  show (0 ≤ _ ∧ qle st ∧ _) = _
  rw [eq_true (by simp : 0 ≤ st.length), true_and]
  rfl
theorem f_cs1 {n : Nat} {v0 : Value} : qwp G Q C f ((pc, .invokestatic n, len, (a, 1, 0), b, xs) :: r) L (v0 :: st) h = (qle st ∧ C a [v0] h (fun v h' => qwp G Q C f r L (qpu v st) h')) := by
  show (1 ≤ _ ∧ qle st ∧ _) = _
  rw [eq_true (by simp : 1 ≤ (v0 :: st).length), true_and]
  rfl
theorem f_cs2 {n : Nat} {v0 v1 : Value} : qwp G Q C f ((pc, .invokestatic n, len, (a, 2, 0), b, xs) :: r) L (v0 :: v1 :: st) h = (qle st ∧ C a [v1, v0] h (fun v h' => qwp G Q C f r L (qpu v st) h')) := by
  show (2 ≤ _ ∧ qle st ∧ _) = _
  rw [eq_true (by simp : 2 ≤ (v0 :: v1 :: st).length), true_and]
  rfl
theorem f_cs3 {n : Nat} {v0 v1 v2 : Value} : qwp G Q C f ((pc, .invokestatic n, len, (a, 3, 0), b, xs) :: r) L (v0 :: v1 :: v2 :: st) h = (qle st ∧ C a [v2, v1, v0] h (fun v h' => qwp G Q C f r L (qpu v st) h')) := by
  show (3 ≤ _ ∧ qle st ∧ _) = _
  rw [eq_true (by simp : 3 ≤ (v0 :: v1 :: v2 :: st).length), true_and]
  rfl
theorem f_cs4 {n : Nat} {v0 v1 v2 v3 : Value} : qwp G Q C f ((pc, .invokestatic n, len, (a, 4, 0), b, xs) :: r) L (v0 :: v1 :: v2 :: v3 :: st) h = (qle st ∧ C a [v3, v2, v1, v0] h (fun v h' => qwp G Q C f r L (qpu v st) h')) := by
  show (4 ≤ _ ∧ qle st ∧ _) = _
  rw [eq_true (by simp : 4 ≤ (v0 :: v1 :: v2 :: v3 :: st).length), true_and]
  rfl
theorem f_cs5 {n : Nat} {v0 v1 v2 v3 v4 : Value} : qwp G Q C f ((pc, .invokestatic n, len, (a, 5, 0), b, xs) :: r) L (v0 :: v1 :: v2 :: v3 :: v4 :: st) h = (qle st ∧ C a [v4, v3, v2, v1, v0] h (fun v h' => qwp G Q C f r L (qpu v st) h')) := by
  show (5 ≤ _ ∧ qle st ∧ _) = _
  rw [eq_true (by simp : 5 ≤ (v0 :: v1 :: v2 :: v3 :: v4 :: st).length), true_and]
  rfl
theorem f_cs6 {n : Nat} {v0 v1 v2 v3 v4 v5 : Value} : qwp G Q C f ((pc, .invokestatic n, len, (a, 6, 0), b, xs) :: r) L (v0 :: v1 :: v2 :: v3 :: v4 :: v5 :: st) h = (qle st ∧ C a [v5, v4, v3, v2, v1, v0] h (fun v h' => qwp G Q C f r L (qpu v st) h')) := by
  show (6 ≤ _ ∧ qle st ∧ _) = _
  rw [eq_true (by simp : 6 ≤ (v0 :: v1 :: v2 :: v3 :: v4 :: v5 :: st).length), true_and]
  rfl
theorem f_cv0 {n o : Nat} : qwp G Q C f ((pc, .invokevirtual n, len, (a, 0, u), b, xs) :: r) L (.ref o :: st) h = (qrc u o ∧ 0 = 0 ∧ qle st ∧ C a [.ref o] h (fun v h' => qwp G Q C f r L (qpu v st) h')) := id rfl
theorem f_cv1 {n o : Nat} {v0 : Value} : qwp G Q C f ((pc, .invokevirtual n, len, (a, 1, u), b, xs) :: r) L (v0 :: .ref o :: st) h = (qrc u o ∧ 1 = 1 ∧ qle st ∧ C a [.ref o, v0] h (fun v h' => qwp G Q C f r L (qpu v st) h')) := id rfl
theorem f_cv2 {n o : Nat} {v0 v1 : Value} : qwp G Q C f ((pc, .invokevirtual n, len, (a, 2, u), b, xs) :: r) L (v0 :: v1 :: .ref o :: st) h = (qrc u o ∧ 2 = 2 ∧ qle st ∧ C a [.ref o, v1, v0] h (fun v h' => qwp G Q C f r L (qpu v st) h')) := id rfl
theorem f_cv3 {n o : Nat} {v0 v1 v2 : Value} : qwp G Q C f ((pc, .invokevirtual n, len, (a, 3, u), b, xs) :: r) L (v0 :: v1 :: v2 :: .ref o :: st) h = (qrc u o ∧ 3 = 3 ∧ qle st ∧ C a [.ref o, v2, v1, v0] h (fun v h' => qwp G Q C f r L (qpu v st) h')) := id rfl
theorem f_cv4 {n o : Nat} {v0 v1 v2 v3 : Value} : qwp G Q C f ((pc, .invokevirtual n, len, (a, 4, u), b, xs) :: r) L (v0 :: v1 :: v2 :: v3 :: .ref o :: st) h = (qrc u o ∧ 4 = 4 ∧ qle st ∧ C a [.ref o, v3, v2, v1, v0] h (fun v h' => qwp G Q C f r L (qpu v st) h')) := id rfl
theorem f_cv5 {n o : Nat} {v0 v1 v2 v3 v4 : Value} : qwp G Q C f ((pc, .invokevirtual n, len, (a, 5, u), b, xs) :: r) L (v0 :: v1 :: v2 :: v3 :: v4 :: .ref o :: st) h = (qrc u o ∧ 5 = 5 ∧ qle st ∧ C a [.ref o, v4, v3, v2, v1, v0] h (fun v h' => qwp G Q C f r L (qpu v st) h')) := id rfl
theorem f_cv6 {n o : Nat} {v0 v1 v2 v3 v4 v5 : Value} : qwp G Q C f ((pc, .invokevirtual n, len, (a, 6, u), b, xs) :: r) L (v0 :: v1 :: v2 :: v3 :: v4 :: v5 :: .ref o :: st) h = (qrc u o ∧ 6 = 6 ∧ qle st ∧ C a [.ref o, v5, v4, v3, v2, v1, v0] h (fun v h' => qwp G Q C f r L (qpu v st) h')) := id rfl
end QEV
theorem f_cI {x : Int32} {k : Int32 → Prop} : qcI (.int x) k = k x := id rfl
theorem f_cL {x : Int64} {k : Int64 → Prop} : qcL (.long x) k = k x := id rfl
theorem f_cR {x : Nat} {k : Nat → Prop} : qcR (.ref x) k = k x := id rfl
theorem f_g0 {v0 : Value} {l : List Value} : qlg (v0 :: l) 0 = v0 := id rfl
theorem f_s0 {v0 w : Value} {l : List Value} : qls (v0 :: l) 0 w = w :: l := id rfl
theorem f_p0 {L : List Value} : qnp L 0 = True := id rfl
theorem f_g1 {v0 v1 : Value} {l : List Value} : qlg (v0 :: v1 :: l) 1 = v1 := id rfl
theorem f_s1 {v0 v1 w : Value} {l : List Value} : qls (v0 :: v1 :: l) 1 w = v0 :: w :: l := id rfl
theorem f_p1 {L : List Value} : qnp L 1 = qnl (qlg L 0) := id rfl
theorem f_g2 {v0 v1 v2 : Value} {l : List Value} : qlg (v0 :: v1 :: v2 :: l) 2 = v2 := id rfl
theorem f_s2 {v0 v1 v2 w : Value} {l : List Value} : qls (v0 :: v1 :: v2 :: l) 2 w = v0 :: v1 :: w :: l := id rfl
theorem f_p2 {L : List Value} : qnp L 2 = qnl (qlg L 1) := id rfl
theorem f_g3 {v0 v1 v2 v3 : Value} {l : List Value} : qlg (v0 :: v1 :: v2 :: v3 :: l) 3 = v3 := id rfl
theorem f_s3 {v0 v1 v2 v3 w : Value} {l : List Value} : qls (v0 :: v1 :: v2 :: v3 :: l) 3 w = v0 :: v1 :: v2 :: w :: l := id rfl
theorem f_p3 {L : List Value} : qnp L 3 = qnl (qlg L 2) := id rfl
theorem f_g4 {v0 v1 v2 v3 v4 : Value} {l : List Value} : qlg (v0 :: v1 :: v2 :: v3 :: v4 :: l) 4 = v4 := id rfl
theorem f_s4 {v0 v1 v2 v3 v4 w : Value} {l : List Value} : qls (v0 :: v1 :: v2 :: v3 :: v4 :: l) 4 w = v0 :: v1 :: v2 :: v3 :: w :: l := id rfl
theorem f_p4 {L : List Value} : qnp L 4 = qnl (qlg L 3) := id rfl
theorem f_g5 {v0 v1 v2 v3 v4 v5 : Value} {l : List Value} : qlg (v0 :: v1 :: v2 :: v3 :: v4 :: v5 :: l) 5 = v5 := id rfl
theorem f_s5 {v0 v1 v2 v3 v4 v5 w : Value} {l : List Value} : qls (v0 :: v1 :: v2 :: v3 :: v4 :: v5 :: l) 5 w = v0 :: v1 :: v2 :: v3 :: v4 :: w :: l := id rfl
theorem f_p5 {L : List Value} : qnp L 5 = qnl (qlg L 4) := id rfl
theorem f_g6 {v0 v1 v2 v3 v4 v5 v6 : Value} {l : List Value} : qlg (v0 :: v1 :: v2 :: v3 :: v4 :: v5 :: v6 :: l) 6 = v6 := id rfl
theorem f_s6 {v0 v1 v2 v3 v4 v5 v6 w : Value} {l : List Value} : qls (v0 :: v1 :: v2 :: v3 :: v4 :: v5 :: v6 :: l) 6 w = v0 :: v1 :: v2 :: v3 :: v4 :: v5 :: w :: l := id rfl
theorem f_p6 {L : List Value} : qnp L 6 = qnl (qlg L 5) := id rfl
theorem f_g7 {v0 v1 v2 v3 v4 v5 v6 v7 : Value} {l : List Value} : qlg (v0 :: v1 :: v2 :: v3 :: v4 :: v5 :: v6 :: v7 :: l) 7 = v7 := id rfl
theorem f_s7 {v0 v1 v2 v3 v4 v5 v6 v7 w : Value} {l : List Value} : qls (v0 :: v1 :: v2 :: v3 :: v4 :: v5 :: v6 :: v7 :: l) 7 w = v0 :: v1 :: v2 :: v3 :: v4 :: v5 :: v6 :: w :: l := id rfl
theorem f_p7 {L : List Value} : qnp L 7 = qnl (qlg L 6) := id rfl
theorem f_g8 {v0 v1 v2 v3 v4 v5 v6 v7 v8 : Value} {l : List Value} : qlg (v0 :: v1 :: v2 :: v3 :: v4 :: v5 :: v6 :: v7 :: v8 :: l) 8 = v8 := id rfl
theorem f_s8 {v0 v1 v2 v3 v4 v5 v6 v7 v8 w : Value} {l : List Value} : qls (v0 :: v1 :: v2 :: v3 :: v4 :: v5 :: v6 :: v7 :: v8 :: l) 8 w = v0 :: v1 :: v2 :: v3 :: v4 :: v5 :: v6 :: v7 :: w :: l := id rfl
theorem f_p8 {L : List Value} : qnp L 8 = qnl (qlg L 7) := id rfl
theorem f_g9 {v0 v1 v2 v3 v4 v5 v6 v7 v8 v9 : Value} {l : List Value} : qlg (v0 :: v1 :: v2 :: v3 :: v4 :: v5 :: v6 :: v7 :: v8 :: v9 :: l) 9 = v9 := id rfl
theorem f_s9 {v0 v1 v2 v3 v4 v5 v6 v7 v8 v9 w : Value} {l : List Value} : qls (v0 :: v1 :: v2 :: v3 :: v4 :: v5 :: v6 :: v7 :: v8 :: v9 :: l) 9 w = v0 :: v1 :: v2 :: v3 :: v4 :: v5 :: v6 :: v7 :: v8 :: w :: l := id rfl
theorem f_p9 {L : List Value} : qnp L 9 = qnl (qlg L 8) := id rfl
theorem f_g10 {v0 v1 v2 v3 v4 v5 v6 v7 v8 v9 v10 : Value} {l : List Value} : qlg (v0 :: v1 :: v2 :: v3 :: v4 :: v5 :: v6 :: v7 :: v8 :: v9 :: v10 :: l) 10 = v10 := id rfl
theorem f_s10 {v0 v1 v2 v3 v4 v5 v6 v7 v8 v9 v10 w : Value} {l : List Value} : qls (v0 :: v1 :: v2 :: v3 :: v4 :: v5 :: v6 :: v7 :: v8 :: v9 :: v10 :: l) 10 w = v0 :: v1 :: v2 :: v3 :: v4 :: v5 :: v6 :: v7 :: v8 :: v9 :: w :: l := id rfl
theorem f_p10 {L : List Value} : qnp L 10 = qnl (qlg L 9) := id rfl
theorem f_g11 {v0 v1 v2 v3 v4 v5 v6 v7 v8 v9 v10 v11 : Value} {l : List Value} : qlg (v0 :: v1 :: v2 :: v3 :: v4 :: v5 :: v6 :: v7 :: v8 :: v9 :: v10 :: v11 :: l) 11 = v11 := id rfl
theorem f_s11 {v0 v1 v2 v3 v4 v5 v6 v7 v8 v9 v10 v11 w : Value} {l : List Value} : qls (v0 :: v1 :: v2 :: v3 :: v4 :: v5 :: v6 :: v7 :: v8 :: v9 :: v10 :: v11 :: l) 11 w = v0 :: v1 :: v2 :: v3 :: v4 :: v5 :: v6 :: v7 :: v8 :: v9 :: v10 :: w :: l := id rfl
theorem f_p11 {L : List Value} : qnp L 11 = qnl (qlg L 10) := id rfl
theorem f_g12 {v0 v1 v2 v3 v4 v5 v6 v7 v8 v9 v10 v11 v12 : Value} {l : List Value} : qlg (v0 :: v1 :: v2 :: v3 :: v4 :: v5 :: v6 :: v7 :: v8 :: v9 :: v10 :: v11 :: v12 :: l) 12 = v12 := id rfl
theorem f_s12 {v0 v1 v2 v3 v4 v5 v6 v7 v8 v9 v10 v11 v12 w : Value} {l : List Value} : qls (v0 :: v1 :: v2 :: v3 :: v4 :: v5 :: v6 :: v7 :: v8 :: v9 :: v10 :: v11 :: v12 :: l) 12 w = v0 :: v1 :: v2 :: v3 :: v4 :: v5 :: v6 :: v7 :: v8 :: v9 :: v10 :: v11 :: w :: l := id rfl
theorem f_p12 {L : List Value} : qnp L 12 = qnl (qlg L 11) := id rfl
theorem f_nI {x : Int32} : qnl (.int x) = True := id rfl
theorem f_nR {x : Nat} : qnl (.ref x) = True := id rfl
theorem f_nX {x : Nat} : qnl (.retAddr x) = True := id rfl
theorem f_rS {x : Nat} : qrv (some x) = .ref x := id rfl
theorem f_pS {v : Value} {st : List Value} : qpu (some v) st = v :: st := id rfl
theorem f_pN {st : List Value} : qpu none st = st := id rfl
theorem f_l0 : qle [] = True := id rfl
theorem f_l1 {v0 : Value} : qle [v0] = True := id rfl
theorem f_l2 {v0 v1 : Value} : qle [v0, v1] = True := id rfl
theorem f_l3 {v0 v1 v2 : Value} : qle [v0, v1, v2] = True := id rfl
theorem f_l4 {v0 v1 v2 v3 : Value} : qle [v0, v1, v2, v3] = True := id rfl
theorem f_ctI {x : Int32} : (Value.int x).category = 1 := id rfl
theorem f_ctL {x : Int64} : (Value.long x).category = 2 := id rfl
theorem f_ctR {x : Nat} : (Value.ref x).category = 1 := id rfl
theorem f_rc0 {o : Nat} : qrc 0 o = ((qkd o).1 = 0) := id rfl
theorem f_rc1 {o : Nat} : qrc 1 o = ((qkd o).1 = 1) := id rfl
theorem f_rc2 {o : Nat} : qrc 2 o = ((qkd o).1 = 2) := id rfl
theorem f_rc3 {o : Nat} : qrc 3 o = ((qkd o).1 = 3) := id rfl
theorem f_rc4 {o : Nat} : qrc 4 o = ((qkd o).1 = 4) := id rfl
theorem f_rc5 {o : Nat} : qrc 5 o = ((qkd o).1 = 5) := id rfl
theorem f_rc6 {o : Nat} : qrc 6 o = ((qkd o).1 = 6) := id rfl
theorem f_rc7 {o : Nat} : qrc 7 o = ((qkd o).1 = 7) := id rfl
theorem f_rc8 {o : Nat} : qrc 8 o = ((qkd o).1 = 8) := id rfl
theorem f_rc9 {o : Nat} : qrc 9 o = ((qkd o).1 = 9) := id rfl
theorem f_rc60 {o : Nat} : qrc 60 o = (300 ≤ o ∧ o < 315) := id rfl
