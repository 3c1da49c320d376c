/-- an instruction is sound -/
def qSnd (p : Program) (l : Launch) (e : Env) (R : Room) (s : State) (m : MethodId) (args : Array Value) (below : List Frame) (meth : Method) (c : Code) (nL : Nat) (A : Nat → Prop) (D : va_G) (cy ad sv : Nat → Nat) (i : XI) : Prop :=
  ∀ (Qc : Array Value → State → Outcome → State → Prop) (G : Nat → List Value → List Value → HP → Prop) (Q : Option Value → HP → Prop) (k : List Value → List Value → HP → Prop),
    (∀ pc L st h, G pc L st h → qS p l e R s m args below meth c nL A D cy ad (MQ below Qc args s 0 0 A) pc L st h) →
    (∀ (v : Option Value) (h : HP) (H : Heap) (t : State), Q v h → va_P D vwCl (qwld cy ad h) H → va_D A (qwld cy ad h) → va_F A s t → t.heap = H → s.WarmedH t.vm → Qc args s (.returned (v.map (qmv ad))) t) →
    (∀ L st h, k L st h → qS p l e R s m args below meth c nL A D cy ad (MQ below Qc args s 0 0 A) (i.1 + i.2.2.1) L st h) →
    ∀ L st h, qst G Q (qC l D cy ad sv) i k L st h → qS p l e R s m args below meth c nL A D cy ad (MQ below Qc args s 0 0 A) i.1 L st h
section QSOUND5
variable {p : Program} {l : Launch} {e : Env} {R : Room} {s : State} {m : MethodId} {args : Array Value} {below : List Frame} {meth : Method} {c : Code} {cc : ByteArray} {nL mi : Nat} {own : String} {A : Nat → Prop} {D : va_G} {cy ad sv : Nat → Nat} {rt : Option FieldType} {pc len a t u : Nat} {b : Int} {xs : List (Int × Nat)}
set_option maxHeartbeats 2000000 in
theorem qs_iconst {n : Int} (F : qRun p s m args meth c cc nL mi own A D cy ad sv) (hrt : meth.sig.returnType = rt) (hok : qok own cc R rt nL (pc, .iconst n, len, (a, t, u), b, xs)) : qSnd p l e R s m args below meth c nL A D cy ad sv (pc, .iconst n, len, (a, t, u), b, xs) := by
  intro Qc G Q k hG hQ hk L st h hq ls H locs hl hP hD hS
  obtain ⟨hx, hb, hml, hown, hts, hK, hE, hA, hlocks⟩ := id F
  have hT : ∀ w ∈ qTB, w.before args s = true := fun w hw => hts w (List.mem_cons_of_mem _ hw)
  obtain ⟨hdg, hok⟩ := hok
  dsimp only at hk
  have hok : len = 1 := hok
  subst hok
  exact lv_iconst hx hb hdg rfl (hk _ _ _ hq _ _ _ hl hP hD hS)
set_option maxHeartbeats 2000000 in
theorem qs_bipush {n : Int} (F : qRun p s m args meth c cc nL mi own A D cy ad sv) (hrt : meth.sig.returnType = rt) (hok : qok own cc R rt nL (pc, .bipush n, len, (a, t, u), b, xs)) : qSnd p l e R s m args below meth c nL A D cy ad sv (pc, .bipush n, len, (a, t, u), b, xs) := by
  intro Qc G Q k hG hQ hk L st h hq ls H locs hl hP hD hS
  obtain ⟨hx, hb, hml, hown, hts, hK, hE, hA, hlocks⟩ := id F
  have hT : ∀ w ∈ qTB, w.before args s = true := fun w hw => hts w (List.mem_cons_of_mem _ hw)
  obtain ⟨hdg, hok⟩ := hok
  dsimp only at hk
  have hok : len = 2 := hok
  subst hok
  exact lv_bipush hx hb hdg rfl (hk _ _ _ hq _ _ _ hl hP hD hS)
set_option maxHeartbeats 2000000 in
theorem qs_sipush {n : Int} (F : qRun p s m args meth c cc nL mi own A D cy ad sv) (hrt : meth.sig.returnType = rt) (hok : qok own cc R rt nL (pc, .sipush n, len, (a, t, u), b, xs)) : qSnd p l e R s m args below meth c nL A D cy ad sv (pc, .sipush n, len, (a, t, u), b, xs) := by
  intro Qc G Q k hG hQ hk L st h hq ls H locs hl hP hD hS
  obtain ⟨hx, hb, hml, hown, hts, hK, hE, hA, hlocks⟩ := id F
  have hT : ∀ w ∈ qTB, w.before args s = true := fun w hw => hts w (List.mem_cons_of_mem _ hw)
  obtain ⟨hdg, hok⟩ := hok
  dsimp only at hk
  have hok : len = 3 := hok
  subst hok
  exact lv_sipush hx hb hdg rfl (hk _ _ _ hq _ _ _ hl hP hD hS)
set_option maxHeartbeats 2000000 in
theorem qs_lconst {n : Fin 2} (F : qRun p s m args meth c cc nL mi own A D cy ad sv) (hrt : meth.sig.returnType = rt) (hok : qok own cc R rt nL (pc, .lconst n, len, (a, t, u), b, xs)) : qSnd p l e R s m args below meth c nL A D cy ad sv (pc, .lconst n, len, (a, t, u), b, xs) := by
  intro Qc G Q k hG hQ hk L st h hq ls H locs hl hP hD hS
  obtain ⟨hx, hb, hml, hown, hts, hK, hE, hA, hlocks⟩ := id F
  have hT : ∀ w ∈ qTB, w.before args s = true := fun w hw => hts w (List.mem_cons_of_mem _ hw)
  obtain ⟨hdg, hok⟩ := hok
  dsimp only at hk
  have hok : len = 1 := hok
  subst hok
  exact lv_lconst hx hb hdg rfl (hk _ _ _ hq _ _ _ hl hP hD hS)
set_option maxHeartbeats 2000000 in
theorem qs_ldc {n : Nat} (F : qRun p s m args meth c cc nL mi own A D cy ad sv) (hrt : meth.sig.returnType = rt) (hok : qok own cc R rt nL (pc, .ldc n, len, (a, t, u), b, xs)) : qSnd p l e R s m args below meth c nL A D cy ad sv (pc, .ldc n, len, (a, t, u), b, xs) := by
  intro Qc G Q k hG hQ hk L st h hq ls H locs hl hP hD hS
  obtain ⟨hx, hb, hml, hown, hts, hK, hE, hA, hlocks⟩ := id F
  have hT : ∀ w ∈ qTB, w.before args s = true := fun w hw => hts w (List.mem_cons_of_mem _ hw)
  obtain ⟨hdg, hok⟩ := hok
  dsimp only at hk
  obtain ⟨rfl, ⟨rfl, hw⟩ | ⟨rfl, rfl, kk, tx, rfl, hw⟩⟩ := hok
  · exact lv_ldc hx hb hown (hT _ hw) hdg (hk _ _ _ hq _ _ _ hl hP hD hS)
  · exact va_ldcS hx hb hown (hE.2.2.1 kk _ hw) hdg (hk _ _ _ hq _ _ _ hl hP hD hS)
set_option maxHeartbeats 2000000 in
theorem qs_ldc2_w {n : Nat} (F : qRun p s m args meth c cc nL mi own A D cy ad sv) (hrt : meth.sig.returnType = rt) (hok : qok own cc R rt nL (pc, .ldc2_w n, len, (a, t, u), b, xs)) : qSnd p l e R s m args below meth c nL A D cy ad sv (pc, .ldc2_w n, len, (a, t, u), b, xs) := by
  intro Qc G Q k hG hQ hk L st h hq ls H locs hl hP hD hS
  obtain ⟨hx, hb, hml, hown, hts, hK, hE, hA, hlocks⟩ := id F
  have hT : ∀ w ∈ qTB, w.before args s = true := fun w hw => hts w (List.mem_cons_of_mem _ hw)
  obtain ⟨hdg, hok⟩ := hok
  dsimp only at hk
  obtain ⟨rfl, hw⟩ := hok
  exact lv_ldc2 hx hb hown (hT _ hw) hdg (hk _ _ _ hq _ _ _ hl hP hD hS)
set_option maxHeartbeats 2000000 in
theorem qs_iload_n {n : Fin 4} (F : qRun p s m args meth c cc nL mi own A D cy ad sv) (hrt : meth.sig.returnType = rt) (hok : qok own cc R rt nL (pc, .iload_n n, len, (a, t, u), b, xs)) : qSnd p l e R s m args below meth c nL A D cy ad sv (pc, .iload_n n, len, (a, t, u), b, xs) := by
  intro Qc G Q k hG hQ hk L st h hq ls H locs hl hP hD hS
  obtain ⟨hx, hb, hml, hown, hts, hK, hE, hA, hlocks⟩ := id F
  have hT : ∀ w ∈ qTB, w.before args s = true := fun w hw => hts w (List.mem_cons_of_mem _ hw)
  obtain ⟨hdg, hok⟩ := hok
  dsimp only at hk
  obtain ⟨rfl, rfl⟩ := hok
  have hq : (match qlg L (n : Nat) with | .int x => k L (.int x :: st) h | _ => False) := hq
  revert hq
  cases hx9 : qlg L (n : Nat) <;> intro hq <;> first | exact False.elim hq | skip
  exact lv_iload_n hx hb hdg rfl (qld hl hx9 (by simp)) (hk _ _ _ hq _ _ _ hl hP hD hS)
set_option maxHeartbeats 2000000 in
theorem qs_iload {n : Nat} (F : qRun p s m args meth c cc nL mi own A D cy ad sv) (hrt : meth.sig.returnType = rt) (hok : qok own cc R rt nL (pc, .iload n, len, (a, t, u), b, xs)) : qSnd p l e R s m args below meth c nL A D cy ad sv (pc, .iload n, len, (a, t, u), b, xs) := by
  intro Qc G Q k hG hQ hk L st h hq ls H locs hl hP hD hS
  obtain ⟨hx, hb, hml, hown, hts, hK, hE, hA, hlocks⟩ := id F
  have hT : ∀ w ∈ qTB, w.before args s = true := fun w hw => hts w (List.mem_cons_of_mem _ hw)
  obtain ⟨hdg, hok⟩ := hok
  dsimp only at hk
  obtain ⟨rfl, rfl⟩ := hok
  have hq : (match qlg L n with | .int x => k L (.int x :: st) h | _ => False) := hq
  revert hq
  cases hx9 : qlg L n <;> intro hq <;> first | exact False.elim hq | skip
  exact lv_iload hx hb hdg (qld hl hx9 (by simp)) (hk _ _ _ hq _ _ _ hl hP hD hS)
set_option maxHeartbeats 2000000 in
theorem qs_lload_n {n : Fin 4} (F : qRun p s m args meth c cc nL mi own A D cy ad sv) (hrt : meth.sig.returnType = rt) (hok : qok own cc R rt nL (pc, .lload_n n, len, (a, t, u), b, xs)) : qSnd p l e R s m args below meth c nL A D cy ad sv (pc, .lload_n n, len, (a, t, u), b, xs) := by
  intro Qc G Q k hG hQ hk L st h hq ls H locs hl hP hD hS
  obtain ⟨hx, hb, hml, hown, hts, hK, hE, hA, hlocks⟩ := id F
  have hT : ∀ w ∈ qTB, w.before args s = true := fun w hw => hts w (List.mem_cons_of_mem _ hw)
  obtain ⟨hdg, hok⟩ := hok
  dsimp only at hk
  obtain ⟨rfl, rfl⟩ := hok
  have hq : (match qlg L (n : Nat) with | .long x => k L (.long x :: st) h | _ => False) := hq
  revert hq
  cases hx9 : qlg L (n : Nat) <;> intro hq <;> first | exact False.elim hq | skip
  exact lv_lload_n hx hb hdg rfl (qld hl hx9 (by simp)) (hk _ _ _ hq _ _ _ hl hP hD hS)
set_option maxHeartbeats 2000000 in
theorem qs_lload {n : Nat} (F : qRun p s m args meth c cc nL mi own A D cy ad sv) (hrt : meth.sig.returnType = rt) (hok : qok own cc R rt nL (pc, .lload n, len, (a, t, u), b, xs)) : qSnd p l e R s m args below meth c nL A D cy ad sv (pc, .lload n, len, (a, t, u), b, xs) := by
  intro Qc G Q k hG hQ hk L st h hq ls H locs hl hP hD hS
  obtain ⟨hx, hb, hml, hown, hts, hK, hE, hA, hlocks⟩ := id F
  have hT : ∀ w ∈ qTB, w.before args s = true := fun w hw => hts w (List.mem_cons_of_mem _ hw)
  obtain ⟨hdg, hok⟩ := hok
  dsimp only at hk
  obtain ⟨rfl, rfl⟩ := hok
  have hq : (match qlg L n with | .long x => k L (.long x :: st) h | _ => False) := hq
  revert hq
  cases hx9 : qlg L n <;> intro hq <;> first | exact False.elim hq | skip
  exact lv_lload hx hb hdg (qld hl hx9 (by simp)) (hk _ _ _ hq _ _ _ hl hP hD hS)
set_option maxHeartbeats 2000000 in
theorem qs_aload_n {n : Fin 4} (F : qRun p s m args meth c cc nL mi own A D cy ad sv) (hrt : meth.sig.returnType = rt) (hok : qok own cc R rt nL (pc, .aload_n n, len, (a, t, u), b, xs)) : qSnd p l e R s m args below meth c nL A D cy ad sv (pc, .aload_n n, len, (a, t, u), b, xs) := by
  intro Qc G Q k hG hQ hk L st h hq ls H locs hl hP hD hS
  obtain ⟨hx, hb, hml, hown, hts, hK, hE, hA, hlocks⟩ := id F
  have hT : ∀ w ∈ qTB, w.before args s = true := fun w hw => hts w (List.mem_cons_of_mem _ hw)
  obtain ⟨hdg, hok⟩ := hok
  dsimp only at hk
  obtain ⟨rfl, rfl⟩ := hok
  have hq : (match qlg L (n : Nat) with | .ref x => k L (.ref x :: st) h | _ => False) := hq
  revert hq
  cases hx9 : qlg L (n : Nat) <;> intro hq <;> first | exact False.elim hq | skip
  exact lv_aload_n hx hb hdg rfl (qld hl hx9 (by simp)) (hk _ _ _ hq _ _ _ hl hP hD hS)
set_option maxHeartbeats 2000000 in
theorem qs_aload {n : Nat} (F : qRun p s m args meth c cc nL mi own A D cy ad sv) (hrt : meth.sig.returnType = rt) (hok : qok own cc R rt nL (pc, .aload n, len, (a, t, u), b, xs)) : qSnd p l e R s m args below meth c nL A D cy ad sv (pc, .aload n, len, (a, t, u), b, xs) := by
  intro Qc G Q k hG hQ hk L st h hq ls H locs hl hP hD hS
  obtain ⟨hx, hb, hml, hown, hts, hK, hE, hA, hlocks⟩ := id F
  have hT : ∀ w ∈ qTB, w.before args s = true := fun w hw => hts w (List.mem_cons_of_mem _ hw)
  obtain ⟨hdg, hok⟩ := hok
  dsimp only at hk
  obtain ⟨rfl, rfl⟩ := hok
  have hq : (match qlg L n with | .ref x => k L (.ref x :: st) h | _ => False) := hq
  revert hq
  cases hx9 : qlg L n <;> intro hq <;> first | exact False.elim hq | skip
  exact lv_aload hx hb hdg (qld hl hx9 (by simp)) (hk _ _ _ hq _ _ _ hl hP hD hS)
set_option maxHeartbeats 2000000 in
theorem qs_istore_n {n : Fin 4} (F : qRun p s m args meth c cc nL mi own A D cy ad sv) (hrt : meth.sig.returnType = rt) (hok : qok own cc R rt nL (pc, .istore_n n, len, (a, t, u), b, xs)) : qSnd p l e R s m args below meth c nL A D cy ad sv (pc, .istore_n n, len, (a, t, u), b, xs) := by
  intro Qc G Q k hG hQ hk L st h hq ls H locs hl hP hD hS
  obtain ⟨hx, hb, hml, hown, hts, hK, hE, hA, hlocks⟩ := id F
  have hT : ∀ w ∈ qTB, w.before args s = true := fun w hw => hts w (List.mem_cons_of_mem _ hw)
  obtain ⟨hdg, hok⟩ := hok
  dsimp only at hk
  obtain ⟨rfl, rfl, hn⟩ := hok
  rcases st with _ | ⟨v9, st⟩
  · exact False.elim hq
  cases v9 <;> first | exact False.elim hq | skip
  rename_i x
  exact lv_istore_n hx hb hdg rfl hl hn rfl (fun ls' hl' => hk _ _ _ hq.2 _ _ _ (qst1 (v := .int x) rfl hq.1 rfl hl') hP hD hS)
set_option maxHeartbeats 2000000 in
theorem qs_istore {n : Nat} (F : qRun p s m args meth c cc nL mi own A D cy ad sv) (hrt : meth.sig.returnType = rt) (hok : qok own cc R rt nL (pc, .istore n, len, (a, t, u), b, xs)) : qSnd p l e R s m args below meth c nL A D cy ad sv (pc, .istore n, len, (a, t, u), b, xs) := by
  intro Qc G Q k hG hQ hk L st h hq ls H locs hl hP hD hS
  obtain ⟨hx, hb, hml, hown, hts, hK, hE, hA, hlocks⟩ := id F
  have hT : ∀ w ∈ qTB, w.before args s = true := fun w hw => hts w (List.mem_cons_of_mem _ hw)
  obtain ⟨hdg, hok⟩ := hok
  dsimp only at hk
  obtain ⟨rfl, rfl, hn⟩ := hok
  rcases st with _ | ⟨v9, st⟩
  · exact False.elim hq
  cases v9 <;> first | exact False.elim hq | skip
  rename_i x
  exact lv_istore hx hb hdg hl hn rfl (fun ls' hl' => hk _ _ _ hq.2 _ _ _ (qst1 (v := .int x) rfl hq.1 rfl hl') hP hD hS)
set_option maxHeartbeats 2000000 in
theorem qs_astore_n {n : Fin 4} (F : qRun p s m args meth c cc nL mi own A D cy ad sv) (hrt : meth.sig.returnType = rt) (hok : qok own cc R rt nL (pc, .astore_n n, len, (a, t, u), b, xs)) : qSnd p l e R s m args below meth c nL A D cy ad sv (pc, .astore_n n, len, (a, t, u), b, xs) := by
  intro Qc G Q k hG hQ hk L st h hq ls H locs hl hP hD hS
  obtain ⟨hx, hb, hml, hown, hts, hK, hE, hA, hlocks⟩ := id F
  have hT : ∀ w ∈ qTB, w.before args s = true := fun w hw => hts w (List.mem_cons_of_mem _ hw)
  obtain ⟨hdg, hok⟩ := hok
  dsimp only at hk
  obtain ⟨rfl, rfl, hn⟩ := hok
  rcases st with _ | ⟨v9, st⟩
  · exact False.elim hq
  cases v9 <;> first | exact False.elim hq | skip
  rename_i x
  exact lv_astore_n hx hb hdg rfl hl hn rfl (fun ls' hl' => hk _ _ _ hq.2 _ _ _ (qst1 (v := .ref x) rfl hq.1 rfl hl') hP hD hS)
set_option maxHeartbeats 2000000 in
theorem qs_astore {n : Nat} (F : qRun p s m args meth c cc nL mi own A D cy ad sv) (hrt : meth.sig.returnType = rt) (hok : qok own cc R rt nL (pc, .astore n, len, (a, t, u), b, xs)) : qSnd p l e R s m args below meth c nL A D cy ad sv (pc, .astore n, len, (a, t, u), b, xs) := by
  intro Qc G Q k hG hQ hk L st h hq ls H locs hl hP hD hS
  obtain ⟨hx, hb, hml, hown, hts, hK, hE, hA, hlocks⟩ := id F
  have hT : ∀ w ∈ qTB, w.before args s = true := fun w hw => hts w (List.mem_cons_of_mem _ hw)
  obtain ⟨hdg, hok⟩ := hok
  dsimp only at hk
  obtain ⟨rfl, rfl, hn⟩ := hok
  rcases st with _ | ⟨v9, st⟩
  · exact False.elim hq
  cases v9 <;> first | exact False.elim hq | skip
  rename_i x
  exact lv_astore hx hb hdg hl hn rfl (fun ls' hl' => hk _ _ _ hq.2 _ _ _ (qst1 (v := .ref x) rfl hq.1 rfl hl') hP hD hS)
set_option maxHeartbeats 2000000 in
theorem qs_lstore_n {n : Fin 4} (F : qRun p s m args meth c cc nL mi own A D cy ad sv) (hrt : meth.sig.returnType = rt) (hok : qok own cc R rt nL (pc, .lstore_n n, len, (a, t, u), b, xs)) : qSnd p l e R s m args below meth c nL A D cy ad sv (pc, .lstore_n n, len, (a, t, u), b, xs) := by
  intro Qc G Q k hG hQ hk L st h hq ls H locs hl hP hD hS
  obtain ⟨hx, hb, hml, hown, hts, hK, hE, hA, hlocks⟩ := id F
  have hT : ∀ w ∈ qTB, w.before args s = true := fun w hw => hts w (List.mem_cons_of_mem _ hw)
  obtain ⟨hdg, hok⟩ := hok
  dsimp only at hk
  obtain ⟨rfl, rfl, hn⟩ := hok
  rcases st with _ | ⟨v9, st⟩
  · exact False.elim hq
  cases v9 <;> first | exact False.elim hq | skip
  rename_i x
  exact lv_lstore_n hx hb hdg rfl hl hn rfl (fun ls' hl' => hk _ _ _ hq.2 _ _ _ (qst2 (v := .long x) hq.1 rfl hl') hP hD hS)
set_option maxHeartbeats 2000000 in
theorem qs_lstore {n : Nat} (F : qRun p s m args meth c cc nL mi own A D cy ad sv) (hrt : meth.sig.returnType = rt) (hok : qok own cc R rt nL (pc, .lstore n, len, (a, t, u), b, xs)) : qSnd p l e R s m args below meth c nL A D cy ad sv (pc, .lstore n, len, (a, t, u), b, xs) := by
  intro Qc G Q k hG hQ hk L st h hq ls H locs hl hP hD hS
  obtain ⟨hx, hb, hml, hown, hts, hK, hE, hA, hlocks⟩ := id F
  have hT : ∀ w ∈ qTB, w.before args s = true := fun w hw => hts w (List.mem_cons_of_mem _ hw)
  obtain ⟨hdg, hok⟩ := hok
  dsimp only at hk
  obtain ⟨rfl, rfl, hn⟩ := hok
  rcases st with _ | ⟨v9, st⟩
  · exact False.elim hq
  cases v9 <;> first | exact False.elim hq | skip
  rename_i x
  exact lv_lstore hx hb hdg hl hn rfl (fun ls' hl' => hk _ _ _ hq.2 _ _ _ (qst2 (v := .long x) hq.1 rfl hl') hP hD hS)
set_option maxHeartbeats 2000000 in
theorem qs_iinc {j : Nat} {n : Int} (F : qRun p s m args meth c cc nL mi own A D cy ad sv) (hrt : meth.sig.returnType = rt) (hok : qok own cc R rt nL (pc, .iinc j n, len, (a, t, u), b, xs)) : qSnd p l e R s m args below meth c nL A D cy ad sv (pc, .iinc j n, len, (a, t, u), b, xs) := by
  intro Qc G Q k hG hQ hk L st h hq ls H locs hl hP hD hS
  obtain ⟨hx, hb, hml, hown, hts, hK, hE, hA, hlocks⟩ := id F
  have hT : ∀ w ∈ qTB, w.before args s = true := fun w hw => hts w (List.mem_cons_of_mem _ hw)
  obtain ⟨hdg, hok⟩ := hok
  dsimp only at hk
  obtain ⟨rfl, rfl, hn⟩ := hok
  have hq : (match qlg L j with | .int x => qnp L j ∧ k (qls L j (.int (x + Int32.ofInt n))) st h | _ => False) := hq
  revert hq
  cases hx9 : qlg L j <;> intro hq <;> first | exact False.elim hq | skip
  rename_i x
  obtain ⟨k9, hk9⟩ := List.getElem?_of_mem (qasc_mem (ad := ad).mpr ⟨.int x, qlg_get hx9 (by simp), by simp, rfl⟩)
  exact lv_iinc hx hb hdg hl hk9 rfl hn rfl (fun ls' hl' => hk _ _ _ hq.2 _ _ _ (qst1 (v := .int (x + Int32.ofInt n)) rfl hq.1 rfl hl') hP hD hS)
set_option maxHeartbeats 2000000 in
theorem qs_iadd (F : qRun p s m args meth c cc nL mi own A D cy ad sv) (hrt : meth.sig.returnType = rt) (hok : qok own cc R rt nL (pc, .iadd, len, (a, t, u), b, xs)) : qSnd p l e R s m args below meth c nL A D cy ad sv (pc, .iadd, len, (a, t, u), b, xs) := by
  intro Qc G Q k hG hQ hk L st h hq ls H locs hl hP hD hS
  obtain ⟨hx, hb, hml, hown, hts, hK, hE, hA, hlocks⟩ := id F
  have hT : ∀ w ∈ qTB, w.before args s = true := fun w hw => hts w (List.mem_cons_of_mem _ hw)
  obtain ⟨hdg, hok⟩ := hok
  dsimp only at hk
  have hok : len = 1 := hok
  subst hok
  have hq : qib (fun x y => x + y) st (fun s => k L s h) := hq
  obtain ⟨x, y, r, rfl, hq⟩ := qib_el hq
  exact lv_iadd hx hb hdg (hk _ _ _ hq _ _ _ hl hP hD hS)
set_option maxHeartbeats 2000000 in
theorem qs_isub (F : qRun p s m args meth c cc nL mi own A D cy ad sv) (hrt : meth.sig.returnType = rt) (hok : qok own cc R rt nL (pc, .isub, len, (a, t, u), b, xs)) : qSnd p l e R s m args below meth c nL A D cy ad sv (pc, .isub, len, (a, t, u), b, xs) := by
  intro Qc G Q k hG hQ hk L st h hq ls H locs hl hP hD hS
  obtain ⟨hx, hb, hml, hown, hts, hK, hE, hA, hlocks⟩ := id F
  have hT : ∀ w ∈ qTB, w.before args s = true := fun w hw => hts w (List.mem_cons_of_mem _ hw)
  obtain ⟨hdg, hok⟩ := hok
  dsimp only at hk
  have hok : len = 1 := hok
  subst hok
  have hq : qib (fun x y => x - y) st (fun s => k L s h) := hq
  obtain ⟨x, y, r, rfl, hq⟩ := qib_el hq
  exact lv_isub hx hb hdg (hk _ _ _ hq _ _ _ hl hP hD hS)
set_option maxHeartbeats 2000000 in
theorem qs_imul (F : qRun p s m args meth c cc nL mi own A D cy ad sv) (hrt : meth.sig.returnType = rt) (hok : qok own cc R rt nL (pc, .imul, len, (a, t, u), b, xs)) : qSnd p l e R s m args below meth c nL A D cy ad sv (pc, .imul, len, (a, t, u), b, xs) := by
  intro Qc G Q k hG hQ hk L st h hq ls H locs hl hP hD hS
  obtain ⟨hx, hb, hml, hown, hts, hK, hE, hA, hlocks⟩ := id F
  have hT : ∀ w ∈ qTB, w.before args s = true := fun w hw => hts w (List.mem_cons_of_mem _ hw)
  obtain ⟨hdg, hok⟩ := hok
  dsimp only at hk
  have hok : len = 1 := hok
  subst hok
  have hq : qib (fun x y => x * y) st (fun s => k L s h) := hq
  obtain ⟨x, y, r, rfl, hq⟩ := qib_el hq
  exact lv_imul hx hb hdg (hk _ _ _ hq _ _ _ hl hP hD hS)
set_option maxHeartbeats 2000000 in
theorem qs_iand (F : qRun p s m args meth c cc nL mi own A D cy ad sv) (hrt : meth.sig.returnType = rt) (hok : qok own cc R rt nL (pc, .iand, len, (a, t, u), b, xs)) : qSnd p l e R s m args below meth c nL A D cy ad sv (pc, .iand, len, (a, t, u), b, xs) := by
  intro Qc G Q k hG hQ hk L st h hq ls H locs hl hP hD hS
  obtain ⟨hx, hb, hml, hown, hts, hK, hE, hA, hlocks⟩ := id F
  have hT : ∀ w ∈ qTB, w.before args s = true := fun w hw => hts w (List.mem_cons_of_mem _ hw)
  obtain ⟨hdg, hok⟩ := hok
  dsimp only at hk
  have hok : len = 1 := hok
  subst hok
  have hq : qib (fun x y => x &&& y) st (fun s => k L s h) := hq
  obtain ⟨x, y, r, rfl, hq⟩ := qib_el hq
  exact lv_iand hx hb hdg (hk _ _ _ hq _ _ _ hl hP hD hS)
set_option maxHeartbeats 2000000 in
theorem qs_ior (F : qRun p s m args meth c cc nL mi own A D cy ad sv) (hrt : meth.sig.returnType = rt) (hok : qok own cc R rt nL (pc, .ior, len, (a, t, u), b, xs)) : qSnd p l e R s m args below meth c nL A D cy ad sv (pc, .ior, len, (a, t, u), b, xs) := by
  intro Qc G Q k hG hQ hk L st h hq ls H locs hl hP hD hS
  obtain ⟨hx, hb, hml, hown, hts, hK, hE, hA, hlocks⟩ := id F
  have hT : ∀ w ∈ qTB, w.before args s = true := fun w hw => hts w (List.mem_cons_of_mem _ hw)
  obtain ⟨hdg, hok⟩ := hok
  dsimp only at hk
  have hok : len = 1 := hok
  subst hok
  have hq : qib (fun x y => x ||| y) st (fun s => k L s h) := hq
  obtain ⟨x, y, r, rfl, hq⟩ := qib_el hq
  exact lv_ior hx hb hdg (hk _ _ _ hq _ _ _ hl hP hD hS)
set_option maxHeartbeats 2000000 in
theorem qs_ixor (F : qRun p s m args meth c cc nL mi own A D cy ad sv) (hrt : meth.sig.returnType = rt) (hok : qok own cc R rt nL (pc, .ixor, len, (a, t, u), b, xs)) : qSnd p l e R s m args below meth c nL A D cy ad sv (pc, .ixor, len, (a, t, u), b, xs) := by
  intro Qc G Q k hG hQ hk L st h hq ls H locs hl hP hD hS
  obtain ⟨hx, hb, hml, hown, hts, hK, hE, hA, hlocks⟩ := id F
  have hT : ∀ w ∈ qTB, w.before args s = true := fun w hw => hts w (List.mem_cons_of_mem _ hw)
  obtain ⟨hdg, hok⟩ := hok
  dsimp only at hk
  have hok : len = 1 := hok
  subst hok
  have hq : qib (fun x y => x ^^^ y) st (fun s => k L s h) := hq
  obtain ⟨x, y, r, rfl, hq⟩ := qib_el hq
  exact lv_ixor hx hb hdg (hk _ _ _ hq _ _ _ hl hP hD hS)
set_option maxHeartbeats 2000000 in
theorem qs_ishl (F : qRun p s m args meth c cc nL mi own A D cy ad sv) (hrt : meth.sig.returnType = rt) (hok : qok own cc R rt nL (pc, .ishl, len, (a, t, u), b, xs)) : qSnd p l e R s m args below meth c nL A D cy ad sv (pc, .ishl, len, (a, t, u), b, xs) := by
  intro Qc G Q k hG hQ hk L st h hq ls H locs hl hP hD hS
  obtain ⟨hx, hb, hml, hown, hts, hK, hE, hA, hlocks⟩ := id F
  have hT : ∀ w ∈ qTB, w.before args s = true := fun w hw => hts w (List.mem_cons_of_mem _ hw)
  obtain ⟨hdg, hok⟩ := hok
  dsimp only at hk
  have hok : len = 1 := hok
  subst hok
  have hq : qib (fun x y => x <<< (y &&& 31)) st (fun s => k L s h) := hq
  obtain ⟨x, y, r, rfl, hq⟩ := qib_el hq
  exact lv_ishl hx hb hdg (hk _ _ _ hq _ _ _ hl hP hD hS)
set_option maxHeartbeats 2000000 in
theorem qs_ishr (F : qRun p s m args meth c cc nL mi own A D cy ad sv) (hrt : meth.sig.returnType = rt) (hok : qok own cc R rt nL (pc, .ishr, len, (a, t, u), b, xs)) : qSnd p l e R s m args below meth c nL A D cy ad sv (pc, .ishr, len, (a, t, u), b, xs) := by
  intro Qc G Q k hG hQ hk L st h hq ls H locs hl hP hD hS
  obtain ⟨hx, hb, hml, hown, hts, hK, hE, hA, hlocks⟩ := id F
  have hT : ∀ w ∈ qTB, w.before args s = true := fun w hw => hts w (List.mem_cons_of_mem _ hw)
  obtain ⟨hdg, hok⟩ := hok
  dsimp only at hk
  have hok : len = 1 := hok
  subst hok
  have hq : qib (fun x y => x >>> (y &&& 31)) st (fun s => k L s h) := hq
  obtain ⟨x, y, r, rfl, hq⟩ := qib_el hq
  exact lv_ishr hx hb hdg (hk _ _ _ hq _ _ _ hl hP hD hS)
set_option maxHeartbeats 2000000 in
theorem qs_iushr (F : qRun p s m args meth c cc nL mi own A D cy ad sv) (hrt : meth.sig.returnType = rt) (hok : qok own cc R rt nL (pc, .iushr, len, (a, t, u), b, xs)) : qSnd p l e R s m args below meth c nL A D cy ad sv (pc, .iushr, len, (a, t, u), b, xs) := by
  intro Qc G Q k hG hQ hk L st h hq ls H locs hl hP hD hS
  obtain ⟨hx, hb, hml, hown, hts, hK, hE, hA, hlocks⟩ := id F
  have hT : ∀ w ∈ qTB, w.before args s = true := fun w hw => hts w (List.mem_cons_of_mem _ hw)
  obtain ⟨hdg, hok⟩ := hok
  dsimp only at hk
  have hok : len = 1 := hok
  subst hok
  have hq : qib (fun x y => (x.toUInt32 >>> (y.toUInt32 &&& Int32.toUInt32 31)).toInt32) st (fun s => k L s h) := hq
  obtain ⟨x, y, r, rfl, hq⟩ := qib_el hq
  exact lv_iushr hx hb hdg rfl (hk _ _ _ hq _ _ _ hl hP hD hS)
set_option maxHeartbeats 2000000 in
theorem qs_ladd (F : qRun p s m args meth c cc nL mi own A D cy ad sv) (hrt : meth.sig.returnType = rt) (hok : qok own cc R rt nL (pc, .ladd, len, (a, t, u), b, xs)) : qSnd p l e R s m args below meth c nL A D cy ad sv (pc, .ladd, len, (a, t, u), b, xs) := by
  intro Qc G Q k hG hQ hk L st h hq ls H locs hl hP hD hS
  obtain ⟨hx, hb, hml, hown, hts, hK, hE, hA, hlocks⟩ := id F
  have hT : ∀ w ∈ qTB, w.before args s = true := fun w hw => hts w (List.mem_cons_of_mem _ hw)
  obtain ⟨hdg, hok⟩ := hok
  dsimp only at hk
  have hok : len = 1 := hok
  subst hok
  have hq : qlb (fun x y => x + y) st (fun s => k L s h) := hq
  obtain ⟨x, y, r, rfl, hq⟩ := qlb_el hq
  exact lv_ladd hx hb hdg (hk _ _ _ hq _ _ _ hl hP hD hS)
set_option maxHeartbeats 2000000 in
theorem qs_lsub (F : qRun p s m args meth c cc nL mi own A D cy ad sv) (hrt : meth.sig.returnType = rt) (hok : qok own cc R rt nL (pc, .lsub, len, (a, t, u), b, xs)) : qSnd p l e R s m args below meth c nL A D cy ad sv (pc, .lsub, len, (a, t, u), b, xs) := by
  intro Qc G Q k hG hQ hk L st h hq ls H locs hl hP hD hS
  obtain ⟨hx, hb, hml, hown, hts, hK, hE, hA, hlocks⟩ := id F
  have hT : ∀ w ∈ qTB, w.before args s = true := fun w hw => hts w (List.mem_cons_of_mem _ hw)
  obtain ⟨hdg, hok⟩ := hok
  dsimp only at hk
  have hok : len = 1 := hok
  subst hok
  have hq : qlb (fun x y => x - y) st (fun s => k L s h) := hq
  obtain ⟨x, y, r, rfl, hq⟩ := qlb_el hq
  exact lv_lsub hx hb hdg (hk _ _ _ hq _ _ _ hl hP hD hS)
set_option maxHeartbeats 2000000 in
theorem qs_lmul (F : qRun p s m args meth c cc nL mi own A D cy ad sv) (hrt : meth.sig.returnType = rt) (hok : qok own cc R rt nL (pc, .lmul, len, (a, t, u), b, xs)) : qSnd p l e R s m args below meth c nL A D cy ad sv (pc, .lmul, len, (a, t, u), b, xs) := by
  intro Qc G Q k hG hQ hk L st h hq ls H locs hl hP hD hS
  obtain ⟨hx, hb, hml, hown, hts, hK, hE, hA, hlocks⟩ := id F
  have hT : ∀ w ∈ qTB, w.before args s = true := fun w hw => hts w (List.mem_cons_of_mem _ hw)
  obtain ⟨hdg, hok⟩ := hok
  dsimp only at hk
  have hok : len = 1 := hok
  subst hok
  have hq : qlb (fun x y => x * y) st (fun s => k L s h) := hq
  obtain ⟨x, y, r, rfl, hq⟩ := qlb_el hq
  exact lv_lmul hx hb hdg (hk _ _ _ hq _ _ _ hl hP hD hS)
set_option maxHeartbeats 2000000 in
theorem qs_land (F : qRun p s m args meth c cc nL mi own A D cy ad sv) (hrt : meth.sig.returnType = rt) (hok : qok own cc R rt nL (pc, .land, len, (a, t, u), b, xs)) : qSnd p l e R s m args below meth c nL A D cy ad sv (pc, .land, len, (a, t, u), b, xs) := by
  intro Qc G Q k hG hQ hk L st h hq ls H locs hl hP hD hS
  obtain ⟨hx, hb, hml, hown, hts, hK, hE, hA, hlocks⟩ := id F
  have hT : ∀ w ∈ qTB, w.before args s = true := fun w hw => hts w (List.mem_cons_of_mem _ hw)
  obtain ⟨hdg, hok⟩ := hok
  dsimp only at hk
  have hok : len = 1 := hok
  subst hok
  have hq : qlb (fun x y => x &&& y) st (fun s => k L s h) := hq
  obtain ⟨x, y, r, rfl, hq⟩ := qlb_el hq
  exact lv_land hx hb hdg (hk _ _ _ hq _ _ _ hl hP hD hS)
set_option maxHeartbeats 2000000 in
theorem qs_lor (F : qRun p s m args meth c cc nL mi own A D cy ad sv) (hrt : meth.sig.returnType = rt) (hok : qok own cc R rt nL (pc, .lor, len, (a, t, u), b, xs)) : qSnd p l e R s m args below meth c nL A D cy ad sv (pc, .lor, len, (a, t, u), b, xs) := by
  intro Qc G Q k hG hQ hk L st h hq ls H locs hl hP hD hS
  obtain ⟨hx, hb, hml, hown, hts, hK, hE, hA, hlocks⟩ := id F
  have hT : ∀ w ∈ qTB, w.before args s = true := fun w hw => hts w (List.mem_cons_of_mem _ hw)
  obtain ⟨hdg, hok⟩ := hok
  dsimp only at hk
  have hok : len = 1 := hok
  subst hok
  have hq : qlb (fun x y => x ||| y) st (fun s => k L s h) := hq
  obtain ⟨x, y, r, rfl, hq⟩ := qlb_el hq
  exact lv_lor hx hb hdg (hk _ _ _ hq _ _ _ hl hP hD hS)
set_option maxHeartbeats 2000000 in
theorem qs_idiv (F : qRun p s m args meth c cc nL mi own A D cy ad sv) (hrt : meth.sig.returnType = rt) (hok : qok own cc R rt nL (pc, .idiv, len, (a, t, u), b, xs)) : qSnd p l e R s m args below meth c nL A D cy ad sv (pc, .idiv, len, (a, t, u), b, xs) := by
  intro Qc G Q k hG hQ hk L st h hq ls H locs hl hP hD hS
  obtain ⟨hx, hb, hml, hown, hts, hK, hE, hA, hlocks⟩ := id F
  have hT : ∀ w ∈ qTB, w.before args s = true := fun w hw => hts w (List.mem_cons_of_mem _ hw)
  obtain ⟨hdg, hok⟩ := hok
  dsimp only at hk
  have hok : len = 1 := hok
  subst hok
  rcases st with _ | ⟨v9, st⟩
  · exact False.elim hq
  cases v9 <;> first | exact False.elim hq | skip
  rename_i y
  rcases st with _ | ⟨v9, st⟩
  · exact False.elim hq
  cases v9 <;> first | exact False.elim hq | skip
  rename_i x
  exact lv_idiv hx hb hdg hq.1 (hk _ _ _ hq.2 _ _ _ hl hP hD hS)
set_option maxHeartbeats 2000000 in
theorem qs_irem (F : qRun p s m args meth c cc nL mi own A D cy ad sv) (hrt : meth.sig.returnType = rt) (hok : qok own cc R rt nL (pc, .irem, len, (a, t, u), b, xs)) : qSnd p l e R s m args below meth c nL A D cy ad sv (pc, .irem, len, (a, t, u), b, xs) := by
  intro Qc G Q k hG hQ hk L st h hq ls H locs hl hP hD hS
  obtain ⟨hx, hb, hml, hown, hts, hK, hE, hA, hlocks⟩ := id F
  have hT : ∀ w ∈ qTB, w.before args s = true := fun w hw => hts w (List.mem_cons_of_mem _ hw)
  obtain ⟨hdg, hok⟩ := hok
  dsimp only at hk
  have hok : len = 1 := hok
  subst hok
  rcases st with _ | ⟨v9, st⟩
  · exact False.elim hq
  cases v9 <;> first | exact False.elim hq | skip
  rename_i y
  rcases st with _ | ⟨v9, st⟩
  · exact False.elim hq
  cases v9 <;> first | exact False.elim hq | skip
  rename_i x
  exact lv_irem hx hb hdg hq.1 (hk _ _ _ hq.2 _ _ _ hl hP hD hS)
set_option maxHeartbeats 2000000 in
theorem qs_ineg (F : qRun p s m args meth c cc nL mi own A D cy ad sv) (hrt : meth.sig.returnType = rt) (hok : qok own cc R rt nL (pc, .ineg, len, (a, t, u), b, xs)) : qSnd p l e R s m args below meth c nL A D cy ad sv (pc, .ineg, len, (a, t, u), b, xs) := by
  intro Qc G Q k hG hQ hk L st h hq ls H locs hl hP hD hS
  obtain ⟨hx, hb, hml, hown, hts, hK, hE, hA, hlocks⟩ := id F
  have hT : ∀ w ∈ qTB, w.before args s = true := fun w hw => hts w (List.mem_cons_of_mem _ hw)
  obtain ⟨hdg, hok⟩ := hok
  dsimp only at hk
  have hok : len = 1 := hok
  subst hok
  rcases st with _ | ⟨v9, st⟩
  · exact False.elim hq
  cases v9 <;> first | exact False.elim hq | skip
  rename_i x
  exact lv_ineg hx hb hdg (hk _ _ _ hq _ _ _ hl hP hD hS)
set_option maxHeartbeats 2000000 in
theorem qs_ldiv (F : qRun p s m args meth c cc nL mi own A D cy ad sv) (hrt : meth.sig.returnType = rt) (hok : qok own cc R rt nL (pc, .ldiv, len, (a, t, u), b, xs)) : qSnd p l e R s m args below meth c nL A D cy ad sv (pc, .ldiv, len, (a, t, u), b, xs) := by
  intro Qc G Q k hG hQ hk L st h hq ls H locs hl hP hD hS
  obtain ⟨hx, hb, hml, hown, hts, hK, hE, hA, hlocks⟩ := id F
  have hT : ∀ w ∈ qTB, w.before args s = true := fun w hw => hts w (List.mem_cons_of_mem _ hw)
  obtain ⟨hdg, hok⟩ := hok
  dsimp only at hk
  have hok : len = 1 := hok
  subst hok
  rcases st with _ | ⟨v9, st⟩
  · exact False.elim hq
  cases v9 <;> first | exact False.elim hq | skip
  rename_i y
  rcases st with _ | ⟨v9, st⟩
  · exact False.elim hq
  cases v9 <;> first | exact False.elim hq | skip
  rename_i x
  exact lv_ldiv hx hb hdg hq.1 (hk _ _ _ hq.2 _ _ _ hl hP hD hS)
set_option maxHeartbeats 2000000 in
theorem qs_lshl (F : qRun p s m args meth c cc nL mi own A D cy ad sv) (hrt : meth.sig.returnType = rt) (hok : qok own cc R rt nL (pc, .lshl, len, (a, t, u), b, xs)) : qSnd p l e R s m args below meth c nL A D cy ad sv (pc, .lshl, len, (a, t, u), b, xs) := by
  intro Qc G Q k hG hQ hk L st h hq ls H locs hl hP hD hS
  obtain ⟨hx, hb, hml, hown, hts, hK, hE, hA, hlocks⟩ := id F
  have hT : ∀ w ∈ qTB, w.before args s = true := fun w hw => hts w (List.mem_cons_of_mem _ hw)
  obtain ⟨hdg, hok⟩ := hok
  dsimp only at hk
  have hok : len = 1 := hok
  subst hok
  rcases st with _ | ⟨v9, st⟩
  · exact False.elim hq
  cases v9 <;> first | exact False.elim hq | skip
  rename_i y
  rcases st with _ | ⟨v9, st⟩
  · exact False.elim hq
  cases v9 <;> first | exact False.elim hq | skip
  rename_i x
  exact lv_lshl hx hb hdg rfl (hk _ _ _ hq _ _ _ hl hP hD hS)
set_option maxHeartbeats 2000000 in
theorem qs_lcmp (F : qRun p s m args meth c cc nL mi own A D cy ad sv) (hrt : meth.sig.returnType = rt) (hok : qok own cc R rt nL (pc, .lcmp, len, (a, t, u), b, xs)) : qSnd p l e R s m args below meth c nL A D cy ad sv (pc, .lcmp, len, (a, t, u), b, xs) := by
  intro Qc G Q k hG hQ hk L st h hq ls H locs hl hP hD hS
  obtain ⟨hx, hb, hml, hown, hts, hK, hE, hA, hlocks⟩ := id F
  have hT : ∀ w ∈ qTB, w.before args s = true := fun w hw => hts w (List.mem_cons_of_mem _ hw)
  obtain ⟨hdg, hok⟩ := hok
  dsimp only at hk
  have hok : len = 1 := hok
  subst hok
  rcases st with _ | ⟨v9, st⟩
  · exact False.elim hq
  cases v9 <;> first | exact False.elim hq | skip
  rename_i y
  rcases st with _ | ⟨v9, st⟩
  · exact False.elim hq
  cases v9 <;> first | exact False.elim hq | skip
  rename_i x
  exact W.lcmp hx hb hdg (hk _ _ _ hq _ _ _ hl hP hD hS)
set_option maxHeartbeats 2000000 in
theorem qs_i2l (F : qRun p s m args meth c cc nL mi own A D cy ad sv) (hrt : meth.sig.returnType = rt) (hok : qok own cc R rt nL (pc, .i2l, len, (a, t, u), b, xs)) : qSnd p l e R s m args below meth c nL A D cy ad sv (pc, .i2l, len, (a, t, u), b, xs) := by
  intro Qc G Q k hG hQ hk L st h hq ls H locs hl hP hD hS
  obtain ⟨hx, hb, hml, hown, hts, hK, hE, hA, hlocks⟩ := id F
  have hT : ∀ w ∈ qTB, w.before args s = true := fun w hw => hts w (List.mem_cons_of_mem _ hw)
  obtain ⟨hdg, hok⟩ := hok
  dsimp only at hk
  have hok : len = 1 := hok
  subst hok
  rcases st with _ | ⟨v9, st⟩
  · exact False.elim hq
  cases v9 <;> first | exact False.elim hq | skip
  rename_i x
  exact lv_i2l hx hb hdg rfl (hk _ _ _ hq _ _ _ hl hP hD hS)
set_option maxHeartbeats 2000000 in
theorem qs_l2i (F : qRun p s m args meth c cc nL mi own A D cy ad sv) (hrt : meth.sig.returnType = rt) (hok : qok own cc R rt nL (pc, .l2i, len, (a, t, u), b, xs)) : qSnd p l e R s m args below meth c nL A D cy ad sv (pc, .l2i, len, (a, t, u), b, xs) := by
  intro Qc G Q k hG hQ hk L st h hq ls H locs hl hP hD hS
  obtain ⟨hx, hb, hml, hown, hts, hK, hE, hA, hlocks⟩ := id F
  have hT : ∀ w ∈ qTB, w.before args s = true := fun w hw => hts w (List.mem_cons_of_mem _ hw)
  obtain ⟨hdg, hok⟩ := hok
  dsimp only at hk
  have hok : len = 1 := hok
  subst hok
  rcases st with _ | ⟨v9, st⟩
  · exact False.elim hq
  cases v9 <;> first | exact False.elim hq | skip
  rename_i x
  exact lv_l2i hx hb hdg rfl (hk _ _ _ hq _ _ _ hl hP hD hS)
set_option maxHeartbeats 2000000 in
theorem qs_i2c (F : qRun p s m args meth c cc nL mi own A D cy ad sv) (hrt : meth.sig.returnType = rt) (hok : qok own cc R rt nL (pc, .i2c, len, (a, t, u), b, xs)) : qSnd p l e R s m args below meth c nL A D cy ad sv (pc, .i2c, len, (a, t, u), b, xs) := by
  intro Qc G Q k hG hQ hk L st h hq ls H locs hl hP hD hS
  obtain ⟨hx, hb, hml, hown, hts, hK, hE, hA, hlocks⟩ := id F
  have hT : ∀ w ∈ qTB, w.before args s = true := fun w hw => hts w (List.mem_cons_of_mem _ hw)
  obtain ⟨hdg, hok⟩ := hok
  dsimp only at hk
  have hok : len = 1 := hok
  subst hok
  rcases st with _ | ⟨v9, st⟩
  · exact False.elim hq
  cases v9 <;> first | exact False.elim hq | skip
  rename_i x
  exact lv_i2c hx hb hdg rfl (hk _ _ _ hq _ _ _ hl hP hD hS)
set_option maxHeartbeats 2000000 in
theorem qs_dup (F : qRun p s m args meth c cc nL mi own A D cy ad sv) (hrt : meth.sig.returnType = rt) (hok : qok own cc R rt nL (pc, .dup, len, (a, t, u), b, xs)) : qSnd p l e R s m args below meth c nL A D cy ad sv (pc, .dup, len, (a, t, u), b, xs) := by
  intro Qc G Q k hG hQ hk L st h hq ls H locs hl hP hD hS
  obtain ⟨hx, hb, hml, hown, hts, hK, hE, hA, hlocks⟩ := id F
  have hT : ∀ w ∈ qTB, w.before args s = true := fun w hw => hts w (List.mem_cons_of_mem _ hw)
  obtain ⟨hdg, hok⟩ := hok
  dsimp only at hk
  have hok : len = 1 := hok
  subst hok
  rcases st with _ | ⟨v9, st⟩
  · exact False.elim hq
  obtain ⟨v, rfl⟩ : ∃ z, z = v9 := ⟨_, rfl⟩
  exact lv_dup hx hb hdg (by rw [qmv_cat]; exact hq.1) (hk _ _ _ hq.2 _ _ _ hl hP hD hS)
set_option maxHeartbeats 2000000 in
theorem qs_dup2 (F : qRun p s m args meth c cc nL mi own A D cy ad sv) (hrt : meth.sig.returnType = rt) (hok : qok own cc R rt nL (pc, .dup2, len, (a, t, u), b, xs)) : qSnd p l e R s m args below meth c nL A D cy ad sv (pc, .dup2, len, (a, t, u), b, xs) := by
  intro Qc G Q k hG hQ hk L st h hq ls H locs hl hP hD hS
  obtain ⟨hx, hb, hml, hown, hts, hK, hE, hA, hlocks⟩ := id F
  have hT : ∀ w ∈ qTB, w.before args s = true := fun w hw => hts w (List.mem_cons_of_mem _ hw)
  obtain ⟨hdg, hok⟩ := hok
  dsimp only at hk
  have hok : len = 1 := hok
  subst hok
  rcases st with _ | ⟨v9, st⟩
  · exact False.elim hq
  obtain ⟨v, rfl⟩ : ∃ z, z = v9 := ⟨_, rfl⟩
  rcases st with _ | ⟨v9, st⟩
  · exact False.elim hq
  obtain ⟨w, rfl⟩ : ∃ z, z = v9 := ⟨_, rfl⟩
  exact lv_dup2_11 hx hb hdg (by rw [qmv_cat]; exact hq.1) (by rw [qmv_cat]; exact hq.2.1) (hk _ _ _ hq.2.2 _ _ _ hl hP hD hS)
set_option maxHeartbeats 2000000 in
theorem qs_pop (F : qRun p s m args meth c cc nL mi own A D cy ad sv) (hrt : meth.sig.returnType = rt) (hok : qok own cc R rt nL (pc, .pop, len, (a, t, u), b, xs)) : qSnd p l e R s m args below meth c nL A D cy ad sv (pc, .pop, len, (a, t, u), b, xs) := by
  intro Qc G Q k hG hQ hk L st h hq ls H locs hl hP hD hS
  obtain ⟨hx, hb, hml, hown, hts, hK, hE, hA, hlocks⟩ := id F
  have hT : ∀ w ∈ qTB, w.before args s = true := fun w hw => hts w (List.mem_cons_of_mem _ hw)
  obtain ⟨hdg, hok⟩ := hok
  dsimp only at hk
  have hok : len = 1 := hok
  subst hok
  rcases st with _ | ⟨v9, st⟩
  · exact False.elim hq
  obtain ⟨v, rfl⟩ : ∃ z, z = v9 := ⟨_, rfl⟩
  exact lv_pop hx hb hdg (by rw [qmv_cat]; exact hq.1) (hk _ _ _ hq.2 _ _ _ hl hP hD hS)
set_option maxHeartbeats 2000000 in
theorem qs_pop2 (F : qRun p s m args meth c cc nL mi own A D cy ad sv) (hrt : meth.sig.returnType = rt) (hok : qok own cc R rt nL (pc, .pop2, len, (a, t, u), b, xs)) : qSnd p l e R s m args below meth c nL A D cy ad sv (pc, .pop2, len, (a, t, u), b, xs) := by
  intro Qc G Q k hG hQ hk L st h hq ls H locs hl hP hD hS
  obtain ⟨hx, hb, hml, hown, hts, hK, hE, hA, hlocks⟩ := id F
  have hT : ∀ w ∈ qTB, w.before args s = true := fun w hw => hts w (List.mem_cons_of_mem _ hw)
  obtain ⟨hdg, hok⟩ := hok
  dsimp only at hk
  have hok : len = 1 := hok
  subst hok
  rcases st with _ | ⟨v9, st⟩
  · exact False.elim hq
  obtain ⟨v, rfl⟩ : ∃ z, z = v9 := ⟨_, rfl⟩
  exact lv_pop2_2 hx hb hdg (by rw [qmv_cat]; exact hq.1) (hk _ _ _ hq.2 _ _ _ hl hP hD hS)
set_option maxHeartbeats 2000000 in
theorem qs_arraylength (F : qRun p s m args meth c cc nL mi own A D cy ad sv) (hrt : meth.sig.returnType = rt) (hok : qok own cc R rt nL (pc, .arraylength, len, (a, t, u), b, xs)) : qSnd p l e R s m args below meth c nL A D cy ad sv (pc, .arraylength, len, (a, t, u), b, xs) := by
  intro Qc G Q k hG hQ hk L st h hq ls H locs hl hP hD hS
  obtain ⟨hx, hb, hml, hown, hts, hK, hE, hA, hlocks⟩ := id F
  have hT : ∀ w ∈ qTB, w.before args s = true := fun w hw => hts w (List.mem_cons_of_mem _ hw)
  obtain ⟨hdg, hok⟩ := hok
  dsimp only at hk
  have hok : len = 1 := hok
  subst hok
  rcases st with _ | ⟨v9, st⟩
  · exact False.elim hq
  cases v9 <;> first | exact False.elim hq | skip
  rename_i o
  obtain ⟨⟨h1, h2⟩, hq⟩ := hq
  obtain ⟨q0, hq0, hi⟩ := qwld_get (cy := cy) (ad := ad) (h := h) (qkd_in (i := o) (by omega))
  rcases (show (qkd o).1 = 10 ∨ (qkd o).1 = 11 ∨ (qkd o).1 = 12 by omega) with hk9 | hk9 | hk9
  · rw [qcel_I hk9] at hq0
    exact va_alen hx hb hK hP q0 0 hq0 (ty := .int) rfl rfl hdg (hk _ _ _ hq _ _ _ hl hP hD hS)
  · rw [qcel_J hk9] at hq0
    exact va_alen hx hb hK hP q0 1 hq0 (ty := .long) rfl rfl hdg (hk _ _ _ hq _ _ _ hl hP hD hS)
  · rw [qcel_Z hk9] at hq0
    exact va_alen hx hb hK hP q0 2 hq0 (ty := .boolean) rfl rfl hdg (hk _ _ _ hq _ _ _ hl hP hD hS)
set_option maxHeartbeats 2000000 in
theorem qs_iaload (F : qRun p s m args meth c cc nL mi own A D cy ad sv) (hrt : meth.sig.returnType = rt) (hok : qok own cc R rt nL (pc, .iaload, len, (a, t, u), b, xs)) : qSnd p l e R s m args below meth c nL A D cy ad sv (pc, .iaload, len, (a, t, u), b, xs) := by
  intro Qc G Q k hG hQ hk L st h hq ls H locs hl hP hD hS
  obtain ⟨hx, hb, hml, hown, hts, hK, hE, hA, hlocks⟩ := id F
  have hT : ∀ w ∈ qTB, w.before args s = true := fun w hw => hts w (List.mem_cons_of_mem _ hw)
  obtain ⟨hdg, hok⟩ := hok
  dsimp only at hk
  have hok : len = 1 := hok
  subst hok
  rcases st with _ | ⟨v9, st⟩
  · exact False.elim hq
  cases v9 <;> first | exact False.elim hq | skip
  rename_i i
  rcases st with _ | ⟨v9, st⟩
  · exact False.elim hq
  cases v9 <;> first | exact False.elim hq | skip
  rename_i o
  obtain ⟨hk9, hin, hq⟩ := hq
  obtain ⟨q0, hq0, hi⟩ := qwld_get (cy := cy) (ad := ad) (h := h) (qkd_in (i := o) (by omega))
  rw [qcel_I hk9] at hq0
  exact va_iald hx hb hK hP q0 0 hq0 rfl hin hdg (hk _ _ _ hq _ _ _ hl hP hD hS)
set_option maxHeartbeats 2000000 in
theorem qs_laload (F : qRun p s m args meth c cc nL mi own A D cy ad sv) (hrt : meth.sig.returnType = rt) (hok : qok own cc R rt nL (pc, .laload, len, (a, t, u), b, xs)) : qSnd p l e R s m args below meth c nL A D cy ad sv (pc, .laload, len, (a, t, u), b, xs) := by
  intro Qc G Q k hG hQ hk L st h hq ls H locs hl hP hD hS
  obtain ⟨hx, hb, hml, hown, hts, hK, hE, hA, hlocks⟩ := id F
  have hT : ∀ w ∈ qTB, w.before args s = true := fun w hw => hts w (List.mem_cons_of_mem _ hw)
  obtain ⟨hdg, hok⟩ := hok
  dsimp only at hk
  have hok : len = 1 := hok
  subst hok
  rcases st with _ | ⟨v9, st⟩
  · exact False.elim hq
  cases v9 <;> first | exact False.elim hq | skip
  rename_i i
  rcases st with _ | ⟨v9, st⟩
  · exact False.elim hq
  cases v9 <;> first | exact False.elim hq | skip
  rename_i o
  obtain ⟨hk9, hin, hq⟩ := hq
  obtain ⟨q0, hq0, hi⟩ := qwld_get (cy := cy) (ad := ad) (h := h) (qkd_in (i := o) (by omega))
  rw [qcel_J hk9] at hq0
  exact va_lald hx hb hK hP q0 1 hq0 rfl hin hdg (hk _ _ _ hq _ _ _ hl hP hD hS)
set_option maxHeartbeats 2000000 in
theorem qs_baload (F : qRun p s m args meth c cc nL mi own A D cy ad sv) (hrt : meth.sig.returnType = rt) (hok : qok own cc R rt nL (pc, .baload, len, (a, t, u), b, xs)) : qSnd p l e R s m args below meth c nL A D cy ad sv (pc, .baload, len, (a, t, u), b, xs) := by
  intro Qc G Q k hG hQ hk L st h hq ls H locs hl hP hD hS
  obtain ⟨hx, hb, hml, hown, hts, hK, hE, hA, hlocks⟩ := id F
  have hT : ∀ w ∈ qTB, w.before args s = true := fun w hw => hts w (List.mem_cons_of_mem _ hw)
  obtain ⟨hdg, hok⟩ := hok
  dsimp only at hk
  have hok : len = 1 := hok
  subst hok
  rcases st with _ | ⟨v9, st⟩
  · exact False.elim hq
  cases v9 <;> first | exact False.elim hq | skip
  rename_i i
  rcases st with _ | ⟨v9, st⟩
  · exact False.elim hq
  cases v9 <;> first | exact False.elim hq | skip
  rename_i o
  obtain ⟨hk9, hin, hq⟩ := hq
  obtain ⟨q0, hq0, hi⟩ := qwld_get (cy := cy) (ad := ad) (h := h) (qkd_in (i := o) (by omega))
  rw [qcel_Z hk9] at hq0
  exact va_zald hx hb hK hP q0 2 hq0 rfl hin hdg (hk _ _ _ hq _ _ _ hl hP hD hS)
set_option maxHeartbeats 2000000 in
theorem qs_iastore (F : qRun p s m args meth c cc nL mi own A D cy ad sv) (hrt : meth.sig.returnType = rt) (hok : qok own cc R rt nL (pc, .iastore, len, (a, t, u), b, xs)) : qSnd p l e R s m args below meth c nL A D cy ad sv (pc, .iastore, len, (a, t, u), b, xs) := by
  intro Qc G Q k hG hQ hk L st h hq ls H locs hl hP hD hS
  obtain ⟨hx, hb, hml, hown, hts, hK, hE, hA, hlocks⟩ := id F
  have hT : ∀ w ∈ qTB, w.before args s = true := fun w hw => hts w (List.mem_cons_of_mem _ hw)
  obtain ⟨hdg, hok⟩ := hok
  dsimp only at hk
  have hok : len = 1 := hok
  subst hok
  rcases st with _ | ⟨v9, st⟩
  · exact False.elim hq
  cases v9 <;> first | exact False.elim hq | skip
  rename_i x
  rcases st with _ | ⟨v9, st⟩
  · exact False.elim hq
  cases v9 <;> first | exact False.elim hq | skip
  rename_i i
  rcases st with _ | ⟨v9, st⟩
  · exact False.elim hq
  cases v9 <;> first | exact False.elim hq | skip
  rename_i o
  obtain ⟨hk9, hin, hq⟩ := hq
  obtain ⟨q0, hq0, hi⟩ := qwld_get (cy := cy) (ad := ad) (h := h) (qkd_in (i := o) (by omega))
  rw [qcel_I hk9] at hq0
  refine va_iast hx hb hK hP hD hS q0 0 hq0 rfl hin hdg (fun H1 locs1 hP1 hD1 hS1 => ?_)
  rw [qwld_set (cy := cy) (ad := ad) (h := h) (h' := (up2 h.1 o i.toNatClampNeg x, h.2.1, h.2.2)) (e := .inl (cy 0, (qkd o).2, .inl (upd (h.1 o) i.toNatClampNeg x))) hi (by rw [qcel_I hk9]; dsimp only; rw [qup_fI]) (fun j hj => qcel_ne (by simp [up2_ne hj]) rfl rfl)] at hP1 hD1
  exact hk _ _ _ hq _ _ _ hl hP1 hD1 hS1
set_option maxHeartbeats 2000000 in
theorem qs_lastore (F : qRun p s m args meth c cc nL mi own A D cy ad sv) (hrt : meth.sig.returnType = rt) (hok : qok own cc R rt nL (pc, .lastore, len, (a, t, u), b, xs)) : qSnd p l e R s m args below meth c nL A D cy ad sv (pc, .lastore, len, (a, t, u), b, xs) := by
  intro Qc G Q k hG hQ hk L st h hq ls H locs hl hP hD hS
  obtain ⟨hx, hb, hml, hown, hts, hK, hE, hA, hlocks⟩ := id F
  have hT : ∀ w ∈ qTB, w.before args s = true := fun w hw => hts w (List.mem_cons_of_mem _ hw)
  obtain ⟨hdg, hok⟩ := hok
  dsimp only at hk
  have hok : len = 1 := hok
  subst hok
  rcases st with _ | ⟨v9, st⟩
  · exact False.elim hq
  cases v9 <;> first | exact False.elim hq | skip
  rename_i x
  rcases st with _ | ⟨v9, st⟩
  · exact False.elim hq
  cases v9 <;> first | exact False.elim hq | skip
  rename_i i
  rcases st with _ | ⟨v9, st⟩
  · exact False.elim hq
  cases v9 <;> first | exact False.elim hq | skip
  rename_i o
  obtain ⟨hk9, hin, hq⟩ := hq
  obtain ⟨q0, hq0, hi⟩ := qwld_get (cy := cy) (ad := ad) (h := h) (qkd_in (i := o) (by omega))
  rw [qcel_J hk9] at hq0
  refine va_last hx hb hK hP hD hS q0 1 hq0 rfl hin hdg (fun H1 locs1 hP1 hD1 hS1 => ?_)
  rw [qwld_set (cy := cy) (ad := ad) (h := h) (h' := (h.1, up2 h.2.1 o i.toNatClampNeg x, h.2.2)) (e := .inl (cy 1, (qkd o).2, .inr (.inl (vp_updL (h.2.1 o) i.toNatClampNeg x)))) hi (by rw [qcel_J hk9]; dsimp only; rw [qup_fJ]) (fun j hj => qcel_ne rfl (by simp [up2_ne hj]) rfl)] at hP1 hD1
  exact hk _ _ _ hq _ _ _ hl hP1 hD1 hS1
set_option maxHeartbeats 2000000 in
theorem qs_bastore (F : qRun p s m args meth c cc nL mi own A D cy ad sv) (hrt : meth.sig.returnType = rt) (hok : qok own cc R rt nL (pc, .bastore, len, (a, t, u), b, xs)) : qSnd p l e R s m args below meth c nL A D cy ad sv (pc, .bastore, len, (a, t, u), b, xs) := by
  intro Qc G Q k hG hQ hk L st h hq ls H locs hl hP hD hS
  obtain ⟨hx, hb, hml, hown, hts, hK, hE, hA, hlocks⟩ := id F
  have hT : ∀ w ∈ qTB, w.before args s = true := fun w hw => hts w (List.mem_cons_of_mem _ hw)
  obtain ⟨hdg, hok⟩ := hok
  dsimp only at hk
  have hok : len = 1 := hok
  subst hok
  rcases st with _ | ⟨v9, st⟩
  · exact False.elim hq
  cases v9 <;> first | exact False.elim hq | skip
  rename_i x
  rcases st with _ | ⟨v9, st⟩
  · exact False.elim hq
  cases v9 <;> first | exact False.elim hq | skip
  rename_i i
  rcases st with _ | ⟨v9, st⟩
  · exact False.elim hq
  cases v9 <;> first | exact False.elim hq | skip
  rename_i o
  obtain ⟨hk9, hin, hq⟩ := hq
  obtain ⟨q0, hq0, hi⟩ := qwld_get (cy := cy) (ad := ad) (h := h) (qkd_in (i := o) (by omega))
  rw [qcel_Z hk9] at hq0
  refine va_zast hx hb hK hP hD hS q0 2 hq0 rfl hin hdg (fun H1 locs1 hP1 hD1 hS1 => ?_)
  rw [qwld_set (cy := cy) (ad := ad) (h := h) (h' := (up2 h.1 o i.toNatClampNeg (vp_nar .boolean x), h.2.1, h.2.2)) (e := .inl (cy 2, (qkd o).2, .inl (upd (h.1 o) i.toNatClampNeg (vp_nar .boolean x)))) hi (by rw [qcel_Z hk9]; dsimp only; rw [qup_fI]) (fun j hj => qcel_ne (by simp [up2_ne hj]) rfl rfl)] at hP1 hD1
  exact hk _ _ _ hq _ _ _ hl hP1 hD1 hS1
set_option maxHeartbeats 2000000 in
theorem qs_getfield {idx : Nat} (F : qRun p s m args meth c cc nL mi own A D cy ad sv) (hrt : meth.sig.returnType = rt) (hok : qok own cc R rt nL (pc, .getfield idx, len, (a, t, u), b, xs)) : qSnd p l e R s m args below meth c nL A D cy ad sv (pc, .getfield idx, len, (a, t, u), b, xs) := by
  intro Qc G Q k hG hQ hk L st h hq ls H locs hl hP hD hS
  obtain ⟨hx, hb, hml, hown, hts, hK, hE, hA, hlocks⟩ := id F
  have hT : ∀ w ∈ qTB, w.before args s = true := fun w hw => hts w (List.mem_cons_of_mem _ hw)
  obtain ⟨hdg, hok⟩ := hok
  dsimp only at hk
  obtain ⟨rfl, hok⟩ := hok
  rcases st with _ | ⟨v9, st⟩
  · exact False.elim hq
  cases v9 <;> first | exact False.elim hq | skip
  rename_i o
  exact qgetS F hok hdg hq.1 hP (hk _ _ _ hq.2 _ _ _ hl hP hD hS)
set_option maxHeartbeats 2000000 in
theorem qs_putfield {idx : Nat} (F : qRun p s m args meth c cc nL mi own A D cy ad sv) (hrt : meth.sig.returnType = rt) (hok : qok own cc R rt nL (pc, .putfield idx, len, (a, t, u), b, xs)) : qSnd p l e R s m args below meth c nL A D cy ad sv (pc, .putfield idx, len, (a, t, u), b, xs) := by
  intro Qc G Q k hG hQ hk L st h hq ls H locs hl hP hD hS
  obtain ⟨hx, hb, hml, hown, hts, hK, hE, hA, hlocks⟩ := id F
  have hT : ∀ w ∈ qTB, w.before args s = true := fun w hw => hts w (List.mem_cons_of_mem _ hw)
  obtain ⟨hdg, hok⟩ := hok
  dsimp only at hk
  obtain ⟨rfl, hok, hokp⟩ := hok
  rcases st with _ | ⟨v9, st⟩
  · exact False.elim hq
  obtain ⟨v, rfl⟩ : ∃ z, z = v9 := ⟨_, rfl⟩
  rcases st with _ | ⟨v9, st⟩
  · exact False.elim hq
  cases v9 <;> first | exact False.elim hq | skip
  rename_i o
  exact qputS F hok hokp hdg hq.1 hq.2.1 hP hD hS (fun H1 locs1 hP1 hD1 hS1 => hk _ _ _ hq.2.2 _ _ _ hl hP1 hD1 hS1)
set_option maxHeartbeats 2000000 in
theorem qs_ifCond {cnd : ClassFile.Cond} {off : Int} (F : qRun p s m args meth c cc nL mi own A D cy ad sv) (hrt : meth.sig.returnType = rt) (hok : qok own cc R rt nL (pc, .ifCond cnd off, len, (a, t, u), b, xs)) : qSnd p l e R s m args below meth c nL A D cy ad sv (pc, .ifCond cnd off, len, (a, t, u), b, xs) := by
  intro Qc G Q k hG hQ hk L st h hq ls H locs hl hP hD hS
  obtain ⟨hx, hb, hml, hown, hts, hK, hE, hA, hlocks⟩ := id F
  have hT : ∀ w ∈ qTB, w.before args s = true := fun w hw => hts w (List.mem_cons_of_mem _ hw)
  obtain ⟨hdg, hok⟩ := hok
  dsimp only at hk
  obtain ⟨rfl, hok⟩ := hok
  rcases st with _ | ⟨v9, st⟩
  · exact False.elim hq
  cases v9 <;> first | exact False.elim hq | skip
  rename_i x
  exact qifS hx hb hdg hok (qbr_imp (fun q => hG _ _ _ _ q _ _ _ hl hP hD hS) (fun q => hk _ _ _ q _ _ _ hl hP hD hS) hq)
set_option maxHeartbeats 2000000 in
theorem qs_if_icmp {cnd : ClassFile.Cond} {off : Int} (F : qRun p s m args meth c cc nL mi own A D cy ad sv) (hrt : meth.sig.returnType = rt) (hok : qok own cc R rt nL (pc, .if_icmp cnd off, len, (a, t, u), b, xs)) : qSnd p l e R s m args below meth c nL A D cy ad sv (pc, .if_icmp cnd off, len, (a, t, u), b, xs) := by
  intro Qc G Q k hG hQ hk L st h hq ls H locs hl hP hD hS
  obtain ⟨hx, hb, hml, hown, hts, hK, hE, hA, hlocks⟩ := id F
  have hT : ∀ w ∈ qTB, w.before args s = true := fun w hw => hts w (List.mem_cons_of_mem _ hw)
  obtain ⟨hdg, hok⟩ := hok
  dsimp only at hk
  obtain ⟨rfl, hok⟩ := hok
  rcases st with _ | ⟨v9, st⟩
  · exact False.elim hq
  cases v9 <;> first | exact False.elim hq | skip
  rename_i y
  rcases st with _ | ⟨v9, st⟩
  · exact False.elim hq
  cases v9 <;> first | exact False.elim hq | skip
  rename_i x
  exact qicS hx hb hdg hok (qbr_imp (fun q => hG _ _ _ _ q _ _ _ hl hP hD hS) (fun q => hk _ _ _ q _ _ _ hl hP hD hS) hq)
set_option maxHeartbeats 2000000 in
theorem qs_goto {off : Int} (F : qRun p s m args meth c cc nL mi own A D cy ad sv) (hrt : meth.sig.returnType = rt) (hok : qok own cc R rt nL (pc, .goto off, len, (a, t, u), b, xs)) : qSnd p l e R s m args below meth c nL A D cy ad sv (pc, .goto off, len, (a, t, u), b, xs) := by
  intro Qc G Q k hG hQ hk L st h hq ls H locs hl hP hD hS
  obtain ⟨hx, hb, hml, hown, hts, hK, hE, hA, hlocks⟩ := id F
  have hT : ∀ w ∈ qTB, w.before args s = true := fun w hw => hts w (List.mem_cons_of_mem _ hw)
  obtain ⟨hdg, hok⟩ := hok
  dsimp only at hk
  obtain ⟨rfl, hok⟩ := hok
  exact lv_goto hx hb hdg hok (hG _ _ _ _ hq _ _ _ hl hP hD hS)
set_option maxHeartbeats 2000000 in
theorem qs_tableswitch {d lo hi : Int} {offs : Array Int} (F : qRun p s m args meth c cc nL mi own A D cy ad sv) (hrt : meth.sig.returnType = rt) (hok : qok own cc R rt nL (pc, .tableswitch d lo hi offs, len, (a, t, u), b, xs)) : qSnd p l e R s m args below meth c nL A D cy ad sv (pc, .tableswitch d lo hi offs, len, (a, t, u), b, xs) := by
  intro Qc G Q k hG hQ hk L st h hq ls H locs hl hP hD hS
  obtain ⟨hx, hb, hml, hown, hts, hK, hE, hA, hlocks⟩ := id F
  have hT : ∀ w ∈ qTB, w.before args s = true := fun w hw => hts w (List.mem_cons_of_mem _ hw)
  obtain ⟨hdg, hok⟩ := hok
  dsimp only at hk
  obtain ⟨ht, hxs, hnn, hhi⟩ := hok
  rcases st with _ | ⟨v9, st⟩
  · exact False.elim hq
  cases v9 <;> first | exact False.elim hq | skip
  rename_i x
  exact qtsS hx hb hdg ht hxs hnn hhi (fun q h1 h2 => hG _ _ _ _ (hq.1 q h1 h2) _ _ _ hl hP hD hS) (fun h2 => hG _ _ _ _ (hq.2 h2) _ _ _ hl hP hD hS)
set_option maxHeartbeats 2000000 in
theorem qs_lookupswitch {d : Int} {ps : Array (Int × Int)} (F : qRun p s m args meth c cc nL mi own A D cy ad sv) (hrt : meth.sig.returnType = rt) (hok : qok own cc R rt nL (pc, .lookupswitch d ps, len, (a, t, u), b, xs)) : qSnd p l e R s m args below meth c nL A D cy ad sv (pc, .lookupswitch d ps, len, (a, t, u), b, xs) := by
  intro Qc G Q k hG hQ hk L st h hq ls H locs hl hP hD hS
  obtain ⟨hx, hb, hml, hown, hts, hK, hE, hA, hlocks⟩ := id F
  have hT : ∀ w ∈ qTB, w.before args s = true := fun w hw => hts w (List.mem_cons_of_mem _ hw)
  obtain ⟨hdg, hok⟩ := hok
  dsimp only at hk
  obtain ⟨ht, hxs, hnn, hso, hof, hon⟩ := hok
  rcases st with _ | ⟨v9, st⟩
  · exact False.elim hq
  cases v9 <;> first | exact False.elim hq | skip
  rename_i x
  exact qlsS hx hb hdg ht hxs hnn hso hof hon (fun q h1 h2 => hG _ _ _ _ (hq.1 q h1 h2) _ _ _ hl hP hD hS) (fun h2 => hG _ _ _ _ (hq.2 h2) _ _ _ hl hP hD hS)
set_option maxHeartbeats 2000000 in
theorem qs_return_ (F : qRun p s m args meth c cc nL mi own A D cy ad sv) (hrt : meth.sig.returnType = rt) (hok : qok own cc R rt nL (pc, .return_, len, (a, t, u), b, xs)) : qSnd p l e R s m args below meth c nL A D cy ad sv (pc, .return_, len, (a, t, u), b, xs) := by
  intro Qc G Q k hG hQ hk L st h hq ls H locs hl hP hD hS
  obtain ⟨hx, hb, hml, hown, hts, hK, hE, hA, hlocks⟩ := id F
  have hT : ∀ w ∈ qTB, w.before args s = true := fun w hw => hts w (List.mem_cons_of_mem _ hw)
  obtain ⟨hdg, hok⟩ := hok
  dsimp only at hk
  obtain ⟨rfl, rfl⟩ := hok
  rcases st with _ | ⟨v9, st⟩
  · exact W.vret hx hb hrt (fun t ht hW => hQ none h H t hq hP hD (hS.F ht) ht hW) hS.2.2 hdg hlocks
  · exact False.elim hq
set_option maxHeartbeats 2000000 in
theorem qs_ireturn (F : qRun p s m args meth c cc nL mi own A D cy ad sv) (hrt : meth.sig.returnType = rt) (hok : qok own cc R rt nL (pc, .ireturn, len, (a, t, u), b, xs)) : qSnd p l e R s m args below meth c nL A D cy ad sv (pc, .ireturn, len, (a, t, u), b, xs) := by
  intro Qc G Q k hG hQ hk L st h hq ls H locs hl hP hD hS
  obtain ⟨hx, hb, hml, hown, hts, hK, hE, hA, hlocks⟩ := id F
  have hT : ∀ w ∈ qTB, w.before args s = true := fun w hw => hts w (List.mem_cons_of_mem _ hw)
  obtain ⟨hdg, hok⟩ := hok
  dsimp only at hk
  obtain ⟨rfl, hok⟩ := hok
  rcases st with _ | ⟨v9, st⟩
  · exact False.elim hq
  cases v9 <;> first | exact False.elim hq | skip
  rename_i x
  rcases st with _ | ⟨v9, st⟩
  · rcases hok with ⟨rfl, rfl⟩ | ⟨rfl, rfl⟩
    · exact W.iret hx hb hrt (fun t ht hW => hQ (some (.int x)) h H t hq.2 hP hD (hS.F ht) ht hW) hS.2.2 hdg hlocks
    · exact W.zret hx hb hrt hq.1 (fun t ht hW => hQ (some (.int x)) h H t hq.2 hP hD (hS.F ht) ht hW) hS.2.2 hdg hlocks
  · exact False.elim hq
set_option maxHeartbeats 2000000 in
theorem qs_lreturn (F : qRun p s m args meth c cc nL mi own A D cy ad sv) (hrt : meth.sig.returnType = rt) (hok : qok own cc R rt nL (pc, .lreturn, len, (a, t, u), b, xs)) : qSnd p l e R s m args below meth c nL A D cy ad sv (pc, .lreturn, len, (a, t, u), b, xs) := by
  intro Qc G Q k hG hQ hk L st h hq ls H locs hl hP hD hS
  obtain ⟨hx, hb, hml, hown, hts, hK, hE, hA, hlocks⟩ := id F
  have hT : ∀ w ∈ qTB, w.before args s = true := fun w hw => hts w (List.mem_cons_of_mem _ hw)
  obtain ⟨hdg, hok⟩ := hok
  dsimp only at hk
  obtain ⟨rfl, rfl⟩ := hok
  rcases st with _ | ⟨v9, st⟩
  · exact False.elim hq
  cases v9 <;> first | exact False.elim hq | skip
  rename_i x
  rcases st with _ | ⟨v9, st⟩
  · exact W.lret hx hb hrt (fun t ht hW => hQ (some (.long x)) h H t hq hP hD (hS.F ht) ht hW) hS.2.2 hdg hlocks
  · exact False.elim hq
set_option maxHeartbeats 2000000 in
theorem qs_invokestatic {idx : Nat} (F : qRun p s m args meth c cc nL mi own A D cy ad sv) (hrt : meth.sig.returnType = rt) (hok : qok own cc R rt nL (pc, .invokestatic idx, len, (a, t, u), b, xs)) : qSnd p l e R s m args below meth c nL A D cy ad sv (pc, .invokestatic idx, len, (a, t, u), b, xs) := by
  intro Qc G Q k hG hQ hk L st h hq ls H locs hl hP hD hS
  obtain ⟨hx, hb, hml, hown, hts, hK, hE, hA, hlocks⟩ := id F
  have hT : ∀ w ∈ qTB, w.before args s = true := fun w hw => hts w (List.mem_cons_of_mem _ hw)
  obtain ⟨hdg, hok⟩ := hok
  dsimp only at hk
  obtain ⟨rfl, ⟨rfl, w1, w2, w3, w4, w5, w6⟩ | ⟨rfl, w1, w2, w3, w4, w5, w6⟩ | ⟨rfl, w1, w2, w3, w4, w5, w6⟩ | ⟨rfl, w1, w2, w3, w4, w5, w6⟩ | ⟨rfl, hok⟩⟩ := hok
  · rcases st with _ | ⟨v9, st⟩
    · exact False.elim hq
    cases v9 <;> first | exact False.elim hq | skip
    rename_i y
    rcases st with _ | ⟨v9, st⟩
    · exact False.elim hq
    cases v9 <;> first | exact False.elim hq | skip
    rename_i x
    have h8 := qle_sum (ad := ad) hq.1
    exact va_mmin hx hb (by rw [hml]; exact hl.1.symm) hown (hT _ w1) (hT _ w2) (hT _ w3) (hT _ w4) w5 (by simp only [List.map_map] at h8 ⊢; omega) (Nat.zero_le _) (Nat.zero_le _) hdg (hk _ _ _ hq.2 _ _ _ hl hP hD hS)
  · rcases st with _ | ⟨v9, st⟩
    · exact False.elim hq
    cases v9 <;> first | exact False.elim hq | skip
    rename_i y
    rcases st with _ | ⟨v9, st⟩
    · exact False.elim hq
    cases v9 <;> first | exact False.elim hq | skip
    rename_i x
    have h8 := qle_sum (ad := ad) hq.1
    exact va_mmax hx hb (by rw [hml]; exact hl.1.symm) hown (hT _ w1) (hT _ w2) (hT _ w3) (hT _ w4) w5 (by simp only [List.map_map] at h8 ⊢; omega) (Nat.zero_le _) (Nat.zero_le _) hdg (hk _ _ _ hq.2 _ _ _ hl hP hD hS)
  · rcases st with _ | ⟨v9, st⟩
    · exact False.elim hq
    cases v9 <;> first | exact False.elim hq | skip
    rename_i y
    rcases st with _ | ⟨v9, st⟩
    · exact False.elim hq
    cases v9 <;> first | exact False.elim hq | skip
    rename_i x
    have h8 := qle_sum (ad := ad) hq.1
    exact va_mmin_long hx hb (by rw [hml]; exact hl.1.symm) hown (hT _ w1) (hT _ w2) (hT _ w3) (hT _ w4) w5 (by simp only [List.map_map] at h8 ⊢; omega) (Nat.zero_le _) (Nat.zero_le _) hdg (hk _ _ _ hq.2 _ _ _ hl hP hD hS)
  · rcases st with _ | ⟨v9, st⟩
    · exact False.elim hq
    cases v9 <;> first | exact False.elim hq | skip
    rename_i y
    rcases st with _ | ⟨v9, st⟩
    · exact False.elim hq
    cases v9 <;> first | exact False.elim hq | skip
    rename_i x
    have h8 := qle_sum (ad := ad) hq.1
    exact va_mmax_long hx hb (by rw [hml]; exact hl.1.symm) hown (hT _ w1) (hT _ w2) (hT _ w3) (hT _ w4) w5 (by simp only [List.map_map] at h8 ⊢; omega) (Nat.zero_le _) (Nat.zero_le _) hdg (hk _ _ _ hq.2 _ _ _ hl hP hD hS)
  · obtain ⟨h1, h2, h3⟩ : t ≤ st.length ∧ qle (st.drop t) ∧ qC l D cy ad sv a (st.take t).reverse h (fun v h' => k L (qpu v (st.drop t)) h') := hq
    refine qcallS F hok hdg h1 h2 h3 hl.1 hP hD hS (fun v u H1 locs1 hq1 hP1 hD1 hS1 => ?_)
    have := hk _ _ _ hq1 _ _ _ hl hP1 hD1 hS1
    cases v <;> exact this
set_option maxHeartbeats 2000000 in
theorem qs_invokevirtual {idx : Nat} (F : qRun p s m args meth c cc nL mi own A D cy ad sv) (hrt : meth.sig.returnType = rt) (hok : qok own cc R rt nL (pc, .invokevirtual idx, len, (a, t, u), b, xs)) : qSnd p l e R s m args below meth c nL A D cy ad sv (pc, .invokevirtual idx, len, (a, t, u), b, xs) := by
  intro Qc G Q k hG hQ hk L st h hq ls H locs hl hP hD hS
  obtain ⟨hx, hb, hml, hown, hts, hK, hE, hA, hlocks⟩ := id F
  have hT : ∀ w ∈ qTB, w.before args s = true := fun w hw => hts w (List.mem_cons_of_mem _ hw)
  obtain ⟨hdg, hok⟩ := hok
  dsimp only at hk
  obtain ⟨rfl, hok⟩ := hok
  have hq : (match (st.take (t + 1)).reverse with | .ref o :: as => qrc u o ∧ as.length = t ∧ qle (st.drop (t + 1)) ∧ qC l D cy ad sv a (.ref o :: as) h (fun v h' => k L (qpu v (st.drop (t + 1))) h') | _ => False) := hq
  revert hq
  cases has : (st.take (t + 1)).reverse with
  | nil => intro hq; exact False.elim hq
  | cons v9 as =>
    cases v9 <;> intro hq <;> first | exact False.elim hq | skip
    rename_i o
    obtain ⟨h1, h2, h3, h4⟩ := hq
    refine qcallV F hok hdg has h2 h1 h3 h4 hl.1 hP hD hS (fun v u H1 locs1 hq1 hP1 hD1 hS1 => ?_)
    have := hk _ _ _ hq1 _ _ _ hl hP1 hD1 hS1
    cases v <;> exact this
end QSOUND5
