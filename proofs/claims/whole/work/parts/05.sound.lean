/-! words, rooms, what a method's run stands on -/
def qtys (cy : Nat → ClassId) : List (ClassId × FieldType) := [(cy 0, .int), (cy 1, .long), (cy 2, .boolean)]
def qstr : List (Nat × String) := [(64, "def"), (73, "}"), (102, "{"), (120, "else"), (140, ";"), (151, "spend"), (153, "times"), (155, "hold"), (157, "lock"), (159, "call"), (161, "if"), (174, "<"), (179, "+"), (181, "*"), (191, "double")]
def qsby : List (List Int32) := [[100, 101, 102], [125], [123], [101, 108, 115, 101], [59], [115, 112, 101, 110, 100], [116, 105, 109, 101, 115], [104, 111, 108, 100], [108, 111, 99, 107], [99, 97, 108, 108], [105, 102], [60], [43], [42], [100, 111, 117, 98, 108, 101]]
def qsln : List Nat := qsby.map List.length
def qExt (ad sv : Nat → Nat) (A : Nat → Prop) (U : State) (H : Heap) : Prop :=
  (∀ w ∈ qnest, va_Nw w U) ∧ vk_S 15 qsln qsby (fun k => ad (300 + k)) sv A U H ∧ (∀ (k : Nat) (q : Nat × String), qstr[k]? = some q → vk_R "UsedUp$Reader" q.1 q.2 (ad (300 + k)) U) ∧ va_Z "java/lang/String" "COMPACT_STRINGS" "Z" (.int 1) A U H ∧ ∃ f : Value, (f = .null ∨ ∃ q : Nat, f = .ref q) ∧ va_Z "jdk/internal/util/Preconditions" "SIOOBE_FORMATTER" "Ljava/util/function/BiFunction;" f A U H
theorem qnest_on {w : Jvm.Cond} (h : w ∈ qnest) : ∃ a i y b, w = .methodLinkNest a i y b := by
  have h2 := (List.mem_filter.mp h).2
  cases w <;> simp only [qisn] at h2 <;> first | exact ⟨_, _, _, _, rfl⟩ | cases h2
theorem qExt.same {ad sv : Nat → Nat} {A : Nat → Prop} {u U : State} {H : Heap} (hv : u.vm = U.vm) (h : qExt ad sv A u H) : qExt ad sv A U H := by
  obtain ⟨h1, h2, h3, h4, f, hv5, h5⟩ := h
  have ha : u.vm.Alike U.vm := by rw [hv]; exact Vm.Alike.refl _
  refine ⟨fun w hw => ?_, h2.moved ha, fun k q hk => (h3 k q hk).same hv.symm, h4.moved ha, f, hv5, h5.moved ha⟩
  obtain ⟨a, i, y, b, rfl⟩ := qnest_on hw
  exact va_Nw.same rfl hv (h1 _ hw)
theorem qExt.call {ad sv : Nat → Nat} {A A1 : Nat → Prop} {s U : State} {H : Heap} {locs : List Loc} (h : qExt ad sv A s s.heap) (hS : va_S A s.heap H locs) (hAB : ∀ q, A1 q → A q) (hW : s.WarmedH U.vm) : qExt ad sv A1 U H := by
  obtain ⟨h1, h2, h3, h4, f, hv5, h5⟩ := h
  have ha : s.vm.Alike U.vm := hW.alike
  refine ⟨fun w hw => ?_, ((h2.kept hS.2.1).moved ha).narrow hAB, fun k q hk => (h3 k q hk).warm hW, ((h4.kept hS.2.1).moved ha).narrow hAB, f, hv5, ((h5.kept hS.2.1).moved ha).narrow hAB⟩
  obtain ⟨a, i, y, b, rfl⟩ := qnest_on hw
  exact va_Nw.warmM hW (h1 _ hw)
/-- a method's contract -/
def qws (i : Nat) : List Jvm.Cond := .code (qmt i).1 (qmt i).2.1 (qmt i).2.2.1 (qmt i).2.2.2.1 :: qTB
def qrm (i : Nat) : Room := { frames := (qmt i).2.2.2.2.1, cells := 0, slots := 0, locals := (qmt i).2.2.2.2.2 }
def qPc (D : va_G) (cy ad sv : Nat → Nat) (h : HP) (sz : Nat) (as : List Value) : Array Value → State → Prop :=
  va_Pc (as.map (qmv ad)) (fun U => U.heap.size = sz ∧ va_P D vwCl (qwld cy ad h) U.heap ∧ va_K D vwCl (qtys cy) U ∧ va_D (fun _ => True) (qwld cy ad h) ∧ qExt ad sv (va_A (qwld cy ad h) sz) U U.heap)
def qQc (D : va_G) (cy ad : Nat → Nat) (h : HP) (sz : Nat) (Q : Option Value → HP → Prop) : Array Value → State → Outcome → State → Prop := fun _ st oc t =>
  (∃ (v : Option Value) (u : HP), oc = .returned (v.map (qmv ad)) ∧ Q v u ∧ va_P D vwCl (qwld cy ad u) t.heap ∧ va_D (va_A (qwld cy ad h) sz) (qwld cy ad u)) ∧ va_F (va_A (qwld cy ad h) sz) st t
def qC (l : Launch) (D : va_G) (cy ad sv : Nat → Nat) (i : Nat) (as : List Value) (h : HP) (Q : Option Value → HP → Prop) : Prop :=
  ∀ sz : Nat, Met l (qmt i).1 (qws i) (qrm i) (qPc D cy ad sv h sz as) (qQc D cy ad h sz Q) 0 0 (va_A (qwld cy ad h) sz)
theorem qPc_blind {D : va_G} {cy ad sv : Nat → Nat} {h : HP} {sz : Nat} {as : List Value} : FrameBlind (qPc D cy ad sv h sz as) := by
  intro a U g mk q
  obtain ⟨q0, q1, qP, qK, qD, qE⟩ := q
  exact ⟨q0, q1, qP, va_K.moved (u := U) (U := U.calling g mk a) (Vm.Alike.refl U.vm) qK, qD, qExt.same (u := U) (U := U.calling g mk a) rfl qE⟩
/-- links that an instruction needs -/
def qfo (own : String) (idx a t u : Nat) : Prop := ∃ (C : String) (T : u_T) (N : Nat), vwCl[u]? = some (C, T, N) ∧ a < N ∧ Jvm.Cond.fieldLink own idx (T a).1 (T a).2.1 (T a).2.2.1 ∈ qTB ∧ (qft u)[a]? = some t
def qfp (a t u : Nat) : Prop := ∃ (C : String) (T : u_T) (N : Nat), vwCl[u]? = some (C, T, N) ∧ (T a).2.2.2 = false ∧ ((t = 0 ∧ parseFieldDescriptor (T a).2.2.1 = some .int) ∨ (t = 1 ∧ parseFieldDescriptor (T a).2.2.1 = some .long) ∨ (t = 2 ∧ ∃ K, parseFieldDescriptor (T a).2.2.1 = some (.object K)) ∨ (t = 3 ∧ parseFieldDescriptor (T a).2.2.1 = some .boolean))
def qcb (own : String) (idx a t : Nat) (R : Room) : Prop := ((qmt a).2.2.2.2.1 + 1 ≤ R.frames ∧ 8 + ((qmt a).2.2.1 + 11) + (qmt a).2.2.2.2.2 ≤ R.locals) ∧ ((qmt a).1.cls ≠ "java/lang/invoke/MethodHandle" ∧ (qmt a).1.cls ≠ "java/lang/invoke/VarHandle" ∧ (parseMethodDescriptor (qmt a).1.desc).map (fun d => d.parameters.length) = some t) ∧
  Jvm.Cond.code (qmt a).1 (qmt a).2.1 (qmt a).2.2.1 (qmt a).2.2.2.1 ∈ qTB ∧ Jvm.Cond.initialized (qmt a).1.cls ∈ qTB ∧ (Jvm.Cond.methodLink own idx (qmt a).1 ∈ qTB ∨ ∃ host, Jvm.Cond.methodLinkNest own idx (qmt a).1 host ∈ qnest)
def qcs (own : String) (idx a t : Nat) (R : Room) : Prop := qcb own idx a t R ∧ Jvm.Cond.static (qmt a).1 ∈ qTB
def qcv (own : String) (idx a t u : Nat) (R : Room) : Prop := qcb own idx a t R ∧ Jvm.Cond.instanceMethod (qmt a).1 ∈ qTB ∧ Jvm.Cond.selects (qmt a).1.cls (qmt a).1 (qmt a).1 ∈ qTB ∧ ((u = 60 ∧ (qmt a).1.cls = "java/lang/String") ∨ (¬ u = 60 ∧ ∃ (T : u_T) (N : Nat), vwCl[u]? = some ((qmt a).1.cls, T, N)))
def qmm (own : String) (idx : Nat) (y : MethodName) (cc : ByteArray) (n : Nat) (ty : FieldType) (R : Room) : Prop := Jvm.Cond.methodLink own idx y ∈ qTB ∧ Jvm.Cond.static y ∈ qTB ∧ Jvm.Cond.initialized "java/lang/Math" ∈ qTB ∧ Jvm.Cond.code y cc n (some ty) ∈ qTB ∧ 1 ≤ R.frames ∧ 8 + (n + 11) ≤ R.locals
def qokl (own : String) (R : Room) (rt : Option FieldType) (nL : Nat) (i : XI) : Prop :=
  match i with
  | (pc, ins, len, (a, t, u), b, xs) => match ins with
    | .bipush _ => len = 2
    | .sipush _ => len = 3
    | .ldc idx => len = 2 ∧ ((t = 0 ∧ Jvm.Cond.constant own idx (Int32.ofInt b) ∈ qTB) ∨ (t = 1 ∧ own = "UsedUp$Reader" ∧ ∃ k tx, a = 300 + k ∧ qstr[k]? = some (idx, tx)))
    | .ldc2_w idx => len = 3 ∧ Jvm.Cond.constantLong own idx (Int64.ofInt b) ∈ qTB
    | .iload_n k | .lload_n k | .aload_n k => len = 1 ∧ (k : Nat) = a
    | .iload k | .lload k | .aload k => len = 2 ∧ k = a
    | .istore_n k | .astore_n k => len = 1 ∧ (k : Nat) = a ∧ a < nL
    | .istore k | .astore k => len = 2 ∧ k = a ∧ a < nL
    | .lstore_n k => len = 1 ∧ (k : Nat) = a ∧ a + 1 < nL
    | .lstore k => len = 2 ∧ k = a ∧ a + 1 < nL
    | .iinc k _ => len = 3 ∧ k = a ∧ a < nL
    | .getfield idx => len = 3 ∧ qfo own idx a t u
    | .putfield idx => len = 3 ∧ qfo own idx a t u ∧ qfp a t u
    | .ifCond _ off | .if_icmp _ off | .goto off => len = 3 ∧ (pc : Int) + off = (a : Int)
    | .tableswitch d lo hi offs => (pc : Int) + d = (a : Int) ∧ xs = offs.toList.mapIdx (fun (j : Nat) off => (lo + (j : Int), ((pc : Int) + off).toNat)) ∧ (∀ off ∈ offs.toList, 0 ≤ (pc : Int) + off) ∧ hi + 1 = lo + (offs.size : Int)
    | .lookupswitch d ps => (pc : Int) + d = (a : Int) ∧ xs = ps.toList.map (fun q => (q.1, ((pc : Int) + q.2).toNat)) ∧ (∀ q ∈ ps.toList, 0 ≤ (pc : Int) + q.2) ∧ (ps.toList.zip (ps.toList.drop 1)).all (fun (a, next) => a.1 < next.1) = true ∧ (∀ x : Int, (∀ q ∈ ps.toList, ¬ x = q.1) → Op.lookupswitch.offset ps.toList d x = d) ∧ (∀ q ∈ ps.toList, Op.lookupswitch.offset ps.toList d q.1 = q.2)
    | .ireturn => len = 1 ∧ ((t = 0 ∧ rt = some .int) ∨ (t = 1 ∧ rt = some .boolean))
    | .lreturn => len = 1 ∧ rt = some .long
    | .return_ => len = 1 ∧ rt = none
    | .invokestatic idx => len = 3 ∧ ((u = 50 ∧ qmm own idx Lib.Math.min.name Lib.Math.min.code 2 .int R) ∨ (u = 51 ∧ qmm own idx Lib.Math.max.name Lib.Math.max.code 2 .int R) ∨ (u = 52 ∧ qmm own idx Lib.MathLoose.min_long.x Lib.MathLoose.min_long.code 4 .long R) ∨ (u = 53 ∧ qmm own idx Lib.MathLoose.max_long.x Lib.MathLoose.max_long.code 4 .long R) ∨ (u = 0 ∧ qcs own idx a t R))
    | .invokevirtual idx => len = 3 ∧ qcv own idx a t u R
    | _ => len = 1
def qok (own : String) (cc : ByteArray) (R : Room) (rt : Option FieldType) (nL : Nat) (i : XI) : Prop := decode cc i.1 = .ok (i.2.1, i.2.2.1) ∧ qokl own R rt nL i
/-! the weakest precondition is sound -/
theorem qTB_lw {w : Jvm.Cond} (h : w ∈ qTB) : w ∈ lw_tbl := (List.mem_filter.mp h).1
theorem qTB_good (i : Nat) : GoodIn (qws i) qTB := fun _ h => ⟨List.mem_cons_of_mem _ h, good_of_word (List.mem_filter.mp h).2⟩
theorem qws_good {i j : Nat} (h : Jvm.Cond.code (qmt j).1 (qmt j).2.1 (qmt j).2.2.1 (qmt j).2.2.2.1 ∈ qTB) : GoodIn (qws i) (qws j) := by
  intro w hw
  rcases List.mem_cons.mp hw with rfl | hw
  · exact qTB_good i _ h
  · exact qTB_good i _ hw
/-- what holds while a method runs -/
def qRun (p : Program) (s : State) (m : MethodId) (args : Array Value) (meth : Method) (c : Code) (cc : ByteArray) (nL i : Nat) (own : String) (A : Nat → Prop) (D : va_G) (cy ad sv : Nat → Nat) : Prop :=
  p.tables.exec = Jvm.exec ∧ c.code = cc ∧ c.maxLocals = nL ∧ s.vm.findClass own = some m.cls ∧ (∀ w ∈ qws i, w.before args s = true) ∧ va_K D vwCl (qtys cy) s ∧ qExt ad sv A s s.heap ∧ (∀ q, s.heap.size ≤ q → A q) ∧ meth.locks = false
/-- from here the machine comes to Qs -/
def qS (p : Program) (l : Launch) (e : Env) (R : Room) (s : State) (m : MethodId) (args : Array Value) (below : List Frame) (meth : Method) (c : Code) (nL : Nat) (A : Nat → Prop) (D : va_G) (cy ad : Nat → Nat) (Qs : State → Prop) (pc : Nat) (L st : List Value) (h : HP) : Prop :=
  ∀ (ls : Array Slot) (H : Heap) (locs : List Loc), lv_has ls nL (qasc ad L) → va_P D vwCl (qwld cy ad h) H → va_D A (qwld cy ad h) → va_S A s.heap H locs → W p l e R s m args below meth c H locs 0 0 Qs (F0 m pc ls (st.map (qmv ad)))
theorem qib_el {f : Int32 → Int32 → Int32} {st : List Value} {k : List Value → Prop} (h : qib f st k) : ∃ x y r, st = .int y :: .int x :: r ∧ k (.int (f x y) :: r) := by
  unfold qib at h
  split at h
  · exact ⟨_, _, _, rfl, h⟩
  · exact h.elim
theorem qlb_el {f : Int64 → Int64 → Int64} {st : List Value} {k : List Value → Prop} (h : qlb f st k) : ∃ x y r, st = .long y :: .long x :: r ∧ k (.long (f x y) :: r) := by
  unfold qlb at h
  split at h
  · exact ⟨_, _, _, rfl, h⟩
  · exact h.elim
theorem qle_sum {ad : Nat → Nat} {l : List Value} (h : qle l) : ((l.map (qmv ad)).map fun v => v.category).sum ≤ 8 := by
  have hc : ∀ v : Value, v.category ≤ 2 := fun v => by cases v <;> simp [Value.category]
  unfold qle at h
  split at h
  · simp
  · rename_i a; have := hc a; simp [qmv_cat]; omega
  · rename_i a b; have := hc a; have := hc b; simp [qmv_cat]; omega
  · rename_i a b d; have := hc a; have := hc b; have := hc d; simp [qmv_cat]; omega
  · rename_i a b d e; have := hc a; have := hc b; have := hc d; have := hc e; simp [qmv_cat]; omega
  · exact h.elim
/-- the cells of arrays -/
theorem qcel_I {cy ad : Nat → Nat} {h : HP} {o : Nat} (hk : (qkd o).1 = 10) : qcel cy ad h o = .inl (cy 0, (qkd o).2, .inl (h.1 o)) := by unfold qcel; rw [if_pos hk]
theorem qcel_J {cy ad : Nat → Nat} {h : HP} {o : Nat} (hk : (qkd o).1 = 11) : qcel cy ad h o = .inl (cy 1, (qkd o).2, .inr (.inl (h.2.1 o))) := by unfold qcel; rw [if_neg (by omega), if_pos hk]
theorem qcel_Z {cy ad : Nat → Nat} {h : HP} {o : Nat} (hk : (qkd o).1 = 12) : qcel cy ad h o = .inl (cy 2, (qkd o).2, .inl (h.1 o)) := by unfold qcel; rw [if_neg (by omega), if_neg (by omega), if_pos hk]
theorem qcel_O {cy ad : Nat → Nat} {h : HP} {o : Nat} (hk : (qkd o).1 < 10) : qcel cy ad h o = .inr ((qkd o).1, (qft (qkd o).1).mapIdx (fun k t => qmv ad (qgv h o k t))) := by unfold qcel; rw [if_neg (by omega), if_neg (by omega), if_neg (by omega)]
theorem qup_fI {f : Nat → Nat → Int32} {o k : Nat} {x : Int32} : up2 f o k x o = upd (f o) k x := by funext b; simp [up2, upd]
theorem qup_fJ {f : Nat → Nat → Int64} {o k : Nat} {x : Int64} : up2 f o k x o = vp_updL (f o) k x := by funext b; simp [up2, vp_updL]
/-- other cells stay -/
theorem qcel_ne {cy ad : Nat → Nat} {h h' : HP} {j : Nat} (h1 : h'.1 j = h.1 j) (h2 : h'.2.1 j = h.2.1 j) (h3 : h'.2.2 j = h.2.2 j) : qcel cy ad h' j = qcel cy ad h j := by
  have hg : ∀ k t, qgv h' j k t = qgv h j k t := by
    intro k t
    unfold qgv
    split <;> simp [h1, h2, h3]
  unfold qcel
  simp only [h1, h2, hg]
theorem qcls (u : Nat) (C : String) (T : u_T) (N : Nat) (h : vwCl[u]? = some (C, T, N)) : (∀ w ∈ u_ws C T N, w ∈ qTB) ∧ (∃ ty0 : Nat → FieldType, ∀ k, k < N → parseFieldDescriptor (T k).2.2.1 = some (ty0 k)) ∧ (∀ a, a < N → ∀ b, b < N → a ≠ b → (T a).2.1 ≠ (T b).2.1) ∧ u < 10 ∧ (qft u).length = N := by
  match u, h with
  | 0, h => cases h; exact ⟨qlayX0, ⟨tyX0, tyX0_ok⟩, nmX0, by omega, rfl⟩
  | 1, h => cases h; exact ⟨qlayX1, ⟨tyX1, tyX1_ok⟩, nmX1, by omega, rfl⟩
  | 2, h => cases h; exact ⟨qlayX2, ⟨tyX2, tyX2_ok⟩, nmX2, by omega, rfl⟩
  | 3, h => cases h; exact ⟨qlayX3, ⟨tyX3, tyX3_ok⟩, nmX3, by omega, rfl⟩
  | 4, h => cases h; exact ⟨qlayX4, ⟨tyX4, tyX4_ok⟩, nmX4, by omega, rfl⟩
  | 5, h => cases h; exact ⟨qlayX5, ⟨tyX5, tyX5_ok⟩, nmX5, by omega, rfl⟩
  | 6, h => cases h; exact ⟨qlayX6, ⟨tyX6, tyX6_ok⟩, nmX6, by omega, rfl⟩
  | 7, h => cases h; exact ⟨qlayX7, ⟨tyX7, tyX7_ok⟩, nmX7, by omega, rfl⟩
  | 8, h => cases h; exact ⟨qlayX8, ⟨tyX8, tyX8_ok⟩, nmX8, by omega, rfl⟩
  | 9, h => cases h; exact ⟨qlayX9, ⟨tyX9, tyX9_ok⟩, nmX9, by omega, rfl⟩
  | u + 10, h => simp [vwCl] at h
section QSOUND
variable {p : Program} {l : Launch} {e : Env} {R : Room} {s : State} {m : MethodId} {args : Array Value} {below : List Frame} {meth : Method} {c : Code} {cc : ByteArray} {nL mi : Nat} {own : String} {A : Nat → Prop} {D : va_G} {cy ad sv : Nat → Nat} {Qs : State → Prop}
/-- behind a call -/
theorem qgoon {H : Heap} {locs : List Loc} {cells slots pc : Nat} {ls : Array Slot} {st0 rest : List Value} {a : Array Value} {h : HP} {Q : Option Value → HP → Prop} (hr : va_Run p l e R s m args below meth c H locs cells slots 0 0 (F0 m pc ls st0) rest (qQc D cy ad h H.size Q a) (va_A (qwld cy ad h) H.size)) (hS : va_S A s.heap H locs) (hf : ∀ q, va_A (qwld cy ad h) H.size q → A q)
    (kk : ∀ (v : Option Value) (u : HP) (H1 : Heap) (locs1 : List Loc), Q v u → va_P D vwCl (qwld cy ad u) H1 → va_D A (qwld cy ad u) → va_S A s.heap H1 locs1 → W p l e R s m args below meth c H1 locs1 cells slots Qs (F0 m (pc + 3) ls ((v.map (qmv ad)).toList ++ rest))) : W p l e R s m args below meth c H locs cells slots Qs (F0 m pc ls st0) := by
  intro T hT X
  obtain ⟨v, st₀, t, T', L, h0, X', hL, e1, e2, ⟨⟨v', u, hv, hp, hP, hD⟩, hz, hk⟩, st⟩ := hr T hT X
  cases hv
  rw [h0] at hz hk
  obtain ⟨t2, a1, b1⟩ := kk v' u T'.heap (locs ++ L) hp (by rw [e1]; exact hP) (hD.weaken (fun k q hq hA => hf _ hA))
    ⟨Nat.le_trans hS.1 (by rw [e1]; exact hz), fun q h1 h2 => by rw [e1, hk q (Nat.lt_of_lt_of_le h1 hS.1) (fun z => h2 (hf q z))]; exact hS.2.1 q h1 h2, fun q hq => by
      rcases List.mem_append.mp hq with h | h
      · exact hS.2.2 q h
      · exact hf _ (hL q h)⟩ T' rfl X'
  exact ⟨t2, st t2 a1, b1⟩
theorem qfree {h : HP} {H : Heap} {locs : List Loc} (hD : va_D A (qwld cy ad h)) (hS : va_S A s.heap H locs) (hA : ∀ q, s.heap.size ≤ q → A q) : ∀ q, va_A (qwld cy ad h) H.size q → A q := by
  intro q hq
  rcases hq with ⟨k, e, hk⟩ | hq
  · exact hD.2 k _ hk
  · exact hA q (Nat.le_trans hS.1 hq)
end QSOUND
