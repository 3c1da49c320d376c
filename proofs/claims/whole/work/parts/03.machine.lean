/-! the abstract machine: values with numbers of cells for addresses, a heap of three functions, code as lists, weakest preconditions -/
abbrev HP : Type := (Nat → Nat → Int32) × (Nat → Nat → Int64) × (Nat → Nat → Option Nat)
/-- pc, instruction, length, (a, t, u): resolved operands, a constant, a switch's rows -/
abbrev XI : Type := Nat × Instr × Nat × (Nat × Nat × Nat) × Int × List (Int × Nat)
def qkdl : List (Nat × Nat × Nat) := [(0, 9, 0), (3, 10, 4), (4, 10, 4), (7, 10, 60), (8, 10, 60), (9, 10, 60), (10, 10, 60), (11, 10, 60), (12, 10, 61), (13, 10, 200), (14, 10, 200), (15, 12, 200), (17, 10, 6), (18, 10, 6), (21, 10, 8), (22, 10, 8), (23, 10, 4), (24, 11, 60), (25, 11, 60), (26, 11, 60), (27, 10, 4), (29, 11, 60), (30, 11, 6), (32, 10, 48), (33, 11, 8), (34, 10, 8), (35, 10, 6), (36, 10, 8), (38, 10, 60), (39, 10, 60), (40, 10, 60), (41, 10, 60), (42, 10, 60), (43, 10, 61), (45, 10, 200), (46, 10, 200), (47, 12, 200), (49, 10, 6), (50, 10, 6), (53, 10, 26), (54, 10, 8), (57, 10, 400), (100, 8, 0), (110, 10, 8), (111, 10, 4), (113, 10, 4), (120, 5, 0), (125, 10, 8), (126, 10, 8), (127, 10, 60), (128, 10, 60), (129, 10, 60), (130, 10, 60), (131, 10, 60), (132, 10, 60), (133, 10, 60), (134, 10, 200), (135, 10, 200), (136, 10, 200), (140, 5, 0), (145, 10, 8), (146, 10, 8), (147, 10, 60), (148, 10, 60), (149, 10, 60), (150, 10, 60), (151, 10, 60), (152, 10, 60), (153, 10, 60), (154, 10, 200), (155, 10, 200), (156, 10, 200), (160, 6, 0), (161, 10, 400), (165, 7, 0), (170, 4, 0), (173, 10, 8), (174, 10, 8), (177, 10, 6), (180, 2, 0), (181, 11, 60), (182, 11, 60), (183, 11, 60), (184, 11, 7), (185, 11, 60), (186, 11, 7), (190, 1, 0), (191, 10, 8), (193, 10, 7), (194, 10, 8), (200, 0, 0), (201, 10, 4), (202, 10, 4), (203, 10, 4), (204, 10, 4), (210, 3, 0), (213, 10, 48), (215, 10, 4), (216, 11, 8), (217, 10, 8), (218, 10, 1296)]
def qids : List Nat := qkdl.map (fun q => q.1)
def qkd (i : Nat) : Nat × Nat := match qkdl.find? (fun q => q.1 == i) with
  | some q => q.2
  | none => (99, 0)
theorem qids_nodup : qids.Nodup := by decide +kernel
theorem qkd_in {i : Nat} (h : (qkd i).1 ≠ 99) : i ∈ qids := by
  unfold qkd at h
  cases hf : qkdl.find? (fun q => q.1 == i) with
  | none => rw [hf] at h; exact absurd rfl h
  | some q =>
    have h1 := List.mem_of_find?_eq_some hf
    have h2 := List.find?_some hf
    have h3 : q.1 = i := by simpa using h2
    exact List.mem_map.mpr ⟨q, h1, h3⟩
/-- the kinds of a class's fields: 0 int, 1 long, 2 reference, 3 boolean -/
def qft : Nat → List Nat
  | 0 => [2, 2, 2, 2]
  | 1 => [2, 0, 2, 2]
  | 2 => [2, 2, 2, 2, 2, 2]
  | 3 => [2, 2, 2, 0, 2, 2, 2, 2, 0]
  | 4 => [2, 2, 2, 2, 0, 3, 2, 0]
  | 5 => [0, 0, 0, 0, 2, 2, 2, 2, 2, 2, 2, 2, 2, 2, 2, 2, 0]
  | 6 => [2, 0]
  | 7 => [2, 0, 0]
  | 8 => [2, 2, 2, 2, 2, 2, 2, 2, 3, 2, 2, 3, 2, 0, 0]
  | 9 => [0, 0, 2, 2, 3, 0, 2, 2, 2, 2, 2, 2, 2, 2, 2, 0, 2, 2, 0, 0, 2, 2, 2, 2, 2, 2, 2, 3, 2, 2, 0, 2, 2, 2, 2, 2, 0, 2, 2, 2, 2, 2, 2, 0, 2, 2, 2, 0, 2, 2, 0, 0, 2, 2, 0, 0, 2, 0, 0, 0, 0, 1, 0, 3]
  | _ => []
def qmv (ad : Nat → Nat) : Value → Value
  | .ref i => .ref (ad i)
  | v => v
def qrv : Option Nat → Value
  | some i => .ref i
  | none => .null
def qgv (h : HP) (o k : Nat) : Nat → Value
  | 1 => .long (h.2.1 o k)
  | 2 => qrv (h.2.2 o k)
  | _ => .int (h.1 o k)
def qcel (cy ad : Nat → Nat) (h : HP) (i : Nat) : va_E :=
  if (qkd i).1 = 10 then .inl (cy 0, (qkd i).2, .inl (h.1 i))
  else if (qkd i).1 = 11 then .inl (cy 1, (qkd i).2, .inr (.inl (h.2.1 i)))
  else if (qkd i).1 = 12 then .inl (cy 2, (qkd i).2, .inl (h.1 i))
  else .inr ((qkd i).1, (qft (qkd i).1).mapIdx (fun k t => qmv ad (qgv h i k t)))
def qwld (cy ad : Nat → Nat) (h : HP) : va_W := qids.map (fun i => (ad i, qcel cy ad h i))
theorem qwld_get {cy ad : Nat → Nat} {h : HP} {i : Nat} (hi : i ∈ qids) : ∃ q0 : Nat, (qwld cy ad h)[q0]? = some (ad i, qcel cy ad h i) ∧ qids[q0]? = some i := by
  obtain ⟨q0, hq⟩ := List.getElem?_of_mem hi
  exact ⟨q0, by unfold qwld; rw [List.getElem?_map, hq]; rfl, hq⟩
theorem qwld_set {cy ad : Nat → Nat} {h h' : HP} {i q0 : Nat} {e : va_E} (hq : qids[q0]? = some i) (hc : qcel cy ad h' i = e) (ho : ∀ j, j ≠ i → qcel cy ad h' j = qcel cy ad h j) : (qwld cy ad h).set q0 (ad i, e) = qwld cy ad h' := by
  apply List.ext_getElem?
  intro n
  unfold qwld
  rw [List.getElem?_set, List.getElem?_map, List.getElem?_map]
  by_cases hn : q0 = n
  · subst hn
    have hlt : q0 < qids.length := (List.getElem?_eq_some_iff.mp hq).1
    rw [if_pos rfl, List.length_map, if_pos hlt, hq, ← hc]
    rfl
  · rw [if_neg hn]
    cases hj : qids[n]? with
    | none => rfl
    | some j =>
      have : j ≠ i := by
        intro hji
        subst hji
        obtain ⟨a1, a2⟩ := List.getElem?_eq_some_iff.mp hq
        obtain ⟨b1, b2⟩ := List.getElem?_eq_some_iff.mp hj
        exact hn ((List.getElem_inj (h₀ := a1) (h₁ := b1) qids_nodup).mp (a2.trans b2.symm))
      show some (ad j, qcel cy ad h j) = some (ad j, qcel cy ad h' j)
      rw [ho j this]
def up2 {α : Type} (f : Nat → Nat → α) (i j : Nat) (v : α) : Nat → Nat → α := fun a b => if a = i then (if b = j then v else f a b) else f a b
theorem up2_ne {α : Type} {f : Nat → Nat → α} {i j a : Nat} {v : α} (h : a ≠ i) : up2 f i j v a = f a := by
  funext b; simp [up2, h]
theorem up2_eq {α : Type} {f : Nat → Nat → α} {i j b : Nat} {v : α} : up2 f i j v i b = if b = j then v else f i b := by simp [up2]
/-- locals by their places; .retAddr 0 where nothing is known -/
abbrev qX : Value := .retAddr 0
def qlg : List Value → Nat → Value
  | [], _ => qX
  | v :: _, 0 => v
  | _ :: l, n + 1 => qlg l n
def qls : List Value → Nat → Value → List Value
  | [], _, _ => []
  | _ :: l, 0, v => v :: l
  | a :: l, n + 1, v => a :: qls l n v
def qnl : Value → Prop
  | .long _ => False
  | .double _ => False
  | _ => True
def qnp (L : List Value) : Nat → Prop
  | 0 => True
  | n + 1 => qnl (qlg L n)
def qasc (ad : Nat → Nat) (L : List Value) : List (Nat × Value) := (L.mapIdx (fun i v => (i, v))).filterMap (fun q => if q.2 = qX then none else some (q.1, qmv ad q.2))
theorem qasc_mem {ad : Nat → Nat} {L : List Value} {i : Nat} {w : Value} : (i, w) ∈ qasc ad L ↔ ∃ v, L[i]? = some v ∧ v ≠ qX ∧ w = qmv ad v := by
  unfold qasc
  rw [List.mem_filterMap]
  constructor
  · rintro ⟨q, hq, he⟩
    obtain ⟨k, hk, hk2⟩ := List.mem_mapIdx.mp hq
    subst hk2
    simp only at he
    split at he
    · cases he
    · rename_i hne
      cases he
      exact ⟨L[i], by simp [hk], hne, rfl⟩
  · rintro ⟨v, hv, hne, rfl⟩
    refine ⟨(i, v), List.mem_mapIdx.mpr ?_, by simp [hne]⟩
    obtain ⟨h1, h2⟩ := List.getElem?_eq_some_iff.mp hv
    exact ⟨i, h1, by rw [h2]⟩
theorem qlg_get {L : List Value} {i : Nat} {v : Value} (h : qlg L i = v) (hv : v ≠ qX) : L[i]? = some v := by
  induction L generalizing i with
  | nil => exact absurd h.symm (by simpa [qlg] using hv)
  | cons a l ih =>
    cases i with
    | zero => simpa [qlg] using h
    | succ n => simpa using ih (by simpa [qlg] using h)
theorem qlg_of {L : List Value} {j : Nat} {w : Value} (h : L[j]? = some w) : qlg L j = w := by
  induction L generalizing j with
  | nil => simp at h
  | cons a l ih => cases j with
    | zero => simpa [qlg] using h
    | succ n => exact ih (j := n) (by simpa using h)
theorem qls_get {L : List Value} {i j : Nat} {v w : Value} (h : (qls L i v)[j]? = some w) : (j = i ∧ w = v ∧ i < L.length) ∨ (j ≠ i ∧ L[j]? = some w) := by
  induction L generalizing i j with
  | nil => simp [qls] at h
  | cons a l ih =>
    cases i with
    | zero =>
      cases j with
      | zero => left; simp [qls] at h; exact ⟨rfl, h.symm, by simp⟩
      | succ n => right; exact ⟨by omega, by simpa [qls] using h⟩
    | succ n =>
      cases j with
      | zero => right; exact ⟨by omega, by simpa [qls] using h⟩
      | succ k =>
        rcases ih (i := n) (j := k) (by simpa [qls] using h) with ⟨h1, h2, h3⟩ | ⟨h1, h2⟩
        · left; exact ⟨by omega, h2, by simp; omega⟩
        · right; exact ⟨by omega, by simpa using h2⟩
theorem qmv_cat (ad : Nat → Nat) (v : Value) : (qmv ad v).category = v.category := by cases v <;> rfl
theorem qmv_nX {ad : Nat → Nat} {v : Value} (h : v ≠ qX) : qmv ad v ≠ qX := by cases v <;> simp_all [qmv]
/-- loads -/
theorem qld {ad : Nat → Nat} {ls : Array Slot} {nL i : Nat} {L : List Value} {v : Value} (hl : lv_has ls nL (qasc ad L)) (h : qlg L i = v) (hv : v ≠ qX) : ls[i]? = some (.val (qmv ad v)) :=
  hl.2.2 (i, qmv ad v) (qasc_mem.mpr ⟨v, qlg_get h hv, hv, rfl⟩)
/-- stores of one word -/
theorem qst1 {ad : Nat → Nat} {ls : Array Slot} {nL i : Nat} {L : List Value} {v : Value} (hc : v.category = 1) (hp : qnp L i) {lv' : List (Nat × Value)} (he : (i, qmv ad v) :: (qasc ad L).filter (fun q => !(q.1 == i) && !(q.1 + 1 == i && q.2.category == 2)) = lv') (hl : lv_has ls nL lv') : lv_has ls nL (qasc ad (qls L i v)) := by
  refine ⟨hl.1, hl.2.1, fun q hq => hl.2.2 q ?_⟩
  obtain ⟨j, w⟩ := q
  obtain ⟨w', h1, h2, rfl⟩ := qasc_mem.mp hq
  rw [← he]
  rcases qls_get h1 with ⟨rfl, rfl, -⟩ | ⟨hne, hL⟩
  · exact List.mem_cons_self
  · refine List.mem_cons_of_mem _ (List.mem_filter.mpr ⟨qasc_mem.mpr ⟨w', hL, h2, rfl⟩, ?_⟩)
    simp only [Bool.and_eq_true, Bool.not_eq_true', beq_eq_false_iff_ne, ne_eq, Bool.and_eq_false_iff]
    refine ⟨hne, ?_⟩
    by_cases hj : j + 1 = i
    · right
      subst hj
      have : qlg L j = w' := qlg_of hL
      have hnl : qnl w' := by rw [← this]; exact hp
      rw [qmv_cat]
      cases w' <;> first | exact hnl.elim | simp [Value.category]
    · left; exact hj
/-- stores of two words -/
theorem qst2 {ad : Nat → Nat} {ls : Array Slot} {nL i : Nat} {L : List Value} {v : Value} (hp : qnp L i) {lv' : List (Nat × Value)} (he : (i, qmv ad v) :: (qasc ad L).filter (fun q => !(q.1 == i) && (!(q.1 == i + 1) && !(q.1 + 1 == i && q.2.category == 2))) = lv') (hl : lv_has ls nL lv') : lv_has ls nL (qasc ad (qls (qls L i v) (i + 1) qX)) := by
  refine ⟨hl.1, hl.2.1, fun q hq => hl.2.2 q ?_⟩
  obtain ⟨j, w⟩ := q
  obtain ⟨w', h1, h2, rfl⟩ := qasc_mem.mp hq
  rw [← he]
  rcases qls_get h1 with ⟨rfl, rfl, -⟩ | ⟨hne1, hL1⟩
  · exact absurd rfl h2
  rcases qls_get hL1 with ⟨rfl, rfl, -⟩ | ⟨hne, hL⟩
  · exact List.mem_cons_self
  · refine List.mem_cons_of_mem _ (List.mem_filter.mpr ⟨qasc_mem.mpr ⟨w', hL, h2, rfl⟩, ?_⟩)
    simp only [Bool.and_eq_true, Bool.not_eq_true', beq_eq_false_iff_ne, ne_eq, Bool.and_eq_false_iff]
    refine ⟨hne, hne1, ?_⟩
    by_cases hj : j + 1 = i
    · right
      subst hj
      have : qlg L j = w' := qlg_of hL
      have hnl : qnl w' := by rw [← this]; exact hp
      rw [qmv_cat]
      cases w' <;> first | exact hnl.elim | simp [Value.category]
    · left; exact hj
/-! the weakest precondition of an instruction -/
def qib (f : Int32 → Int32 → Int32) (st : List Value) (k : List Value → Prop) : Prop := match st with
  | .int y :: .int x :: r => k (.int (f x y) :: r)
  | _ => False
def qlb (f : Int64 → Int64 → Int64) (st : List Value) (k : List Value → Prop) : Prop := match st with
  | .long y :: .long x :: r => k (.long (f x y) :: r)
  | _ => False
def qbr (c : ClassFile.Cond) (x y : Int32) (P N : Prop) : Prop := match c with
  | .eq => (x = y → P) ∧ (¬ x = y → N)
  | .ne => (¬ x = y → P) ∧ (x = y → N)
  | .lt => (x < y → P) ∧ (¬ x < y → N)
  | .ge => (y ≤ x → P) ∧ (¬ y ≤ x → N)
  | .gt => (y < x → P) ∧ (¬ y < x → N)
  | .le => (x ≤ y → P) ∧ (¬ x ≤ y → N)
def qin (i : Int32) (n : Nat) : Prop := vp_in i n
def qpu : Option Value → List Value → List Value
  | some v, st => v :: st
  | none, st => st
def qps (t : Nat) (v : Value) : Prop := match t, v with
  | 0, .int _ => True
  | 1, .long _ => True
  | 2, .ref _ => True
  | 3, .int x => x = 0 ∨ x = 1
  | _, _ => False
def qpv (h : HP) (o k : Nat) (v : Value) : HP := match v with
  | .int x => (up2 h.1 o k x, h.2.1, h.2.2)
  | .long x => (h.1, up2 h.2.1 o k x, h.2.2)
  | .ref r => (h.1, h.2.1, up2 h.2.2 o k (some r))
  | _ => h
def qrc (u o : Nat) : Prop := match u with
  | 60 => 300 ≤ o ∧ o < 315
  | _ => (qkd o).1 = u
def qle : List Value → Prop
  | [] => True
  | [_] => True
  | [_, _] => True
  | [_, _, _] => True
  | [_, _, _, _] => True
  | _ => False
def qret (t : Nat) (x : Int32) : Prop := match t with
  | 1 => narrow .boolean (.int x) = .int x
  | _ => True
def qst (G : Nat → List Value → List Value → HP → Prop) (Q : Option Value → HP → Prop) (C : Nat → List Value → HP → (Option Value → HP → Prop) → Prop) (i : XI) (k : List Value → List Value → HP → Prop) (L st : List Value) (h : HP) : Prop :=
  match i with
  | (_, ins, _, (a, t, u), b, xs) => match ins with
    | .iconst n => k L (.int (Int32.ofInt n) :: st) h
    | .bipush n => k L (.int (Int8.ofInt n).toInt32 :: st) h
    | .sipush n => k L (.int (Int16.ofInt n).toInt32 :: st) h
    | .lconst n => k L (.long (Int64.ofNat (n : Nat)) :: st) h
    | .ldc _ => match t with
      | 1 => k L (.ref a :: st) h
      | _ => k L (.int (Int32.ofInt b) :: st) h
    | .ldc2_w _ => k L (.long (Int64.ofInt b) :: st) h
    | .iload_n _ | .iload _ => match qlg L a with
      | .int x => k L (.int x :: st) h
      | _ => False
    | .lload_n _ | .lload _ => match qlg L a with
      | .long x => k L (.long x :: st) h
      | _ => False
    | .aload_n _ | .aload _ => match qlg L a with
      | .ref x => k L (.ref x :: st) h
      | _ => False
    | .istore_n _ | .istore _ => match st with
      | .int x :: r => qnp L a ∧ k (qls L a (.int x)) r h
      | _ => False
    | .lstore_n _ | .lstore _ => match st with
      | .long x :: r => qnp L a ∧ k (qls (qls L a (.long x)) (a + 1) qX) r h
      | _ => False
    | .astore_n _ | .astore _ => match st with
      | .ref x :: r => qnp L a ∧ k (qls L a (.ref x)) r h
      | _ => False
    | .iinc _ n => match qlg L a with
      | .int x => qnp L a ∧ k (qls L a (.int (x + Int32.ofInt n))) st h
      | _ => False
    | .iadd => qib (fun x y => x + y) st (fun s => k L s h)
    | .isub => qib (fun x y => x - y) st (fun s => k L s h)
    | .imul => qib (fun x y => x * y) st (fun s => k L s h)
    | .iand => qib (fun x y => x &&& y) st (fun s => k L s h)
    | .ior => qib (fun x y => x ||| y) st (fun s => k L s h)
    | .ixor => qib (fun x y => x ^^^ y) st (fun s => k L s h)
    | .ishl => qib (fun x y => x <<< (y &&& 31)) st (fun s => k L s h)
    | .ishr => qib (fun x y => x >>> (y &&& 31)) st (fun s => k L s h)
    | .iushr => qib (fun x y => (x.toUInt32 >>> (y.toUInt32 &&& Int32.toUInt32 31)).toInt32) st (fun s => k L s h)
    | .idiv => match st with
      | .int y :: .int x :: r => ¬ y = 0 ∧ k L (.int (x / y) :: r) h
      | _ => False
    | .irem => match st with
      | .int y :: .int x :: r => ¬ y = 0 ∧ k L (.int (x - x / y * y) :: r) h
      | _ => False
    | .ineg => match st with
      | .int x :: r => k L (.int (-x) :: r) h
      | _ => False
    | .ladd => qlb (fun x y => x + y) st (fun s => k L s h)
    | .lsub => qlb (fun x y => x - y) st (fun s => k L s h)
    | .lmul => qlb (fun x y => x * y) st (fun s => k L s h)
    | .land => qlb (fun x y => x &&& y) st (fun s => k L s h)
    | .lor => qlb (fun x y => x ||| y) st (fun s => k L s h)
    | .ldiv => match st with
      | .long y :: .long x :: r => ¬ y = 0 ∧ k L (.long (x / y) :: r) h
      | _ => False
    | .lshl => match st with
      | .int y :: .long x :: r => k L (.long (x <<< (y.toInt64 &&& 63)) :: r) h
      | _ => False
    | .lcmp => match st with
      | .long y :: .long x :: r => k L (.int (lg_cmp x y) :: r) h
      | _ => False
    | .i2l => match st with
      | .int x :: r => k L (.long x.toInt64 :: r) h
      | _ => False
    | .l2i => match st with
      | .long x :: r => k L (.int x.toInt32 :: r) h
      | _ => False
    | .i2c => match st with
      | .int x :: r => k L (.int (x.toUInt32 % 65536).toInt32 :: r) h
      | _ => False
    | .dup => match st with
      | v :: r => v.category = 1 ∧ k L (v :: v :: r) h
      | _ => False
    | .dup2 => match st with
      | v :: w :: r => v.category = 1 ∧ w.category = 1 ∧ k L (v :: w :: v :: w :: r) h
      | _ => False
    | .pop => match st with
      | v :: r => v.category = 1 ∧ k L r h
      | _ => False
    | .pop2 => match st with
      | v :: r => v.category = 2 ∧ k L r h
      | _ => False
    | .arraylength => match st with
      | .ref o :: r => (10 ≤ (qkd o).1 ∧ (qkd o).1 ≤ 12) ∧ k L (.int (Int32.ofNat (qkd o).2) :: r) h
      | _ => False
    | .iaload => match st with
      | .int i :: .ref o :: r => (qkd o).1 = 10 ∧ qin i (qkd o).2 ∧ k L (.int (h.1 o i.toNatClampNeg) :: r) h
      | _ => False
    | .laload => match st with
      | .int i :: .ref o :: r => (qkd o).1 = 11 ∧ qin i (qkd o).2 ∧ k L (.long (h.2.1 o i.toNatClampNeg) :: r) h
      | _ => False
    | .baload => match st with
      | .int i :: .ref o :: r => (qkd o).1 = 12 ∧ qin i (qkd o).2 ∧ k L (.int (h.1 o i.toNatClampNeg) :: r) h
      | _ => False
    | .iastore => match st with
      | .int x :: .int i :: .ref o :: r => (qkd o).1 = 10 ∧ qin i (qkd o).2 ∧ k L r (up2 h.1 o i.toNatClampNeg x, h.2.1, h.2.2)
      | _ => False
    | .lastore => match st with
      | .long x :: .int i :: .ref o :: r => (qkd o).1 = 11 ∧ qin i (qkd o).2 ∧ k L r (h.1, up2 h.2.1 o i.toNatClampNeg x, h.2.2)
      | _ => False
    | .bastore => match st with
      | .int x :: .int i :: .ref o :: r => (qkd o).1 = 12 ∧ qin i (qkd o).2 ∧ k L r (up2 h.1 o i.toNatClampNeg (vp_nar .boolean x), h.2.1, h.2.2)
      | _ => False
    | .getfield _ => match st with
      | .ref o :: r => (qkd o).1 = u ∧ k L (qgv h o a t :: r) h
      | _ => False
    | .putfield _ => match st with
      | v :: .ref o :: r => (qkd o).1 = u ∧ qps t v ∧ k L r (qpv h o a v)
      | _ => False
    | .ifCond c _ => match st with
      | .int x :: r => qbr c x 0 (G a L r h) (k L r h)
      | _ => False
    | .if_icmp c _ => match st with
      | .int y :: .int x :: r => qbr c x y (G a L r h) (k L r h)
      | _ => False
    | .goto _ => G a L st h
    | .tableswitch _ _ _ _ => match st with
      | .int x :: r => (∀ q ∈ xs, x.toInt = q.1 → G q.2 L r h) ∧ ((∀ q ∈ xs, ¬ x.toInt = q.1) → G a L r h)
      | _ => False
    | .lookupswitch _ _ => match st with
      | .int x :: r => (∀ q ∈ xs, x.toInt = q.1 → G q.2 L r h) ∧ ((∀ q ∈ xs, ¬ x.toInt = q.1) → G a L r h)
      | _ => False
    | .return_ => match st with
      | [] => Q none h
      | _ => False
    | .ireturn => match st with
      | [.int x] => qret t x ∧ Q (some (.int x)) h
      | _ => False
    | .lreturn => match st with
      | [.long x] => Q (some (.long x)) h
      | _ => False
    | .invokestatic _ => match u with
      | 50 => match st with
        | .int y :: .int x :: r => qle r ∧ k L (.int (if y < x then y else x) :: r) h
        | _ => False
      | 51 => match st with
        | .int y :: .int x :: r => qle r ∧ k L (.int (if x < y then y else x) :: r) h
        | _ => False
      | 52 => match st with
        | .long y :: .long x :: r => qle r ∧ k L (.long (if y < x then y else x) :: r) h
        | _ => False
      | 53 => match st with
        | .long y :: .long x :: r => qle r ∧ k L (.long (if y < x then x else y) :: r) h
        | _ => False
      | _ => t ≤ st.length ∧ qle (st.drop t) ∧ C a (st.take t).reverse h (fun v h' => k L (qpu v (st.drop t)) h')
    | .invokevirtual _ => match (st.take (t + 1)).reverse with
      | .ref o :: as => qrc u o ∧ as.length = t ∧ qle (st.drop (t + 1)) ∧ C a (.ref o :: as) h (fun v h' => k L (qpu v (st.drop (t + 1))) h')
      | _ => False
    | _ => False
def qwp (G : Nat → List Value → List Value → HP → Prop) (Q : Option Value → HP → Prop) (C : Nat → List Value → HP → (Option Value → HP → Prop) → Prop) (fall : Nat) : List XI → List Value → List Value → HP → Prop
  | [], L, st, h => G fall L st h
  | i :: r, L, st, h => qst G Q C i (qwp G Q C fall r) L st h
