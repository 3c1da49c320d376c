/-! making: what the constructors' walks share -/
def qwc (y : MethodName) (cc : ByteArray) (n : Nat) : List Jvm.Cond := .code y cc n none :: qTB
def cPc (D : va_G) (cy : Nat → Nat) (as : List Value) (ws : va_W) (sz : Nat) : Array Value → State → Prop := va_Pc as (fun U => U.heap.size = sz ∧ va_P D vwCl ws U.heap ∧ va_K D vwCl (qtys cy) U ∧ va_D (fun _ => True) ws ∧ ∀ w ∈ qnest, va_Nw w U)
def cQc (D : va_G) (ws : va_W) (sz : Nat) (B : va_W → Prop) : Array Value → State → Outcome → State → Prop := va_Qv (S := va_W) B (fun u t => va_P D vwCl u t.heap ∧ va_D (va_A ws sz) u) (va_A ws sz)
abbrev aI (cy : Nat → Nat) (q n : Nat) : Nat × va_E := (q, .inl (cy 0, n, .inl (fun _ => 0)))
abbrev aJ (cy : Nat → Nat) (q n : Nat) : Nat × va_E := (q, .inl (cy 1, n, .inr (.inl (fun _ => 0))))
abbrev aZ (cy : Nat → Nat) (q n : Nat) : Nat × va_E := (q, .inl (cy 2, n, .inl (fun _ => 0)))
abbrev aV (cy : Nat → Nat) (q n : Nat) (v : Int32) : Nat × va_E := (q, .inl (cy 0, n, .inl (fun _ => v)))
theorem qTB_goodc {y : MethodName} {cc : ByteArray} {n : Nat} {Ts : List Jvm.Cond} (hT : ∀ w ∈ qTB, w ∈ Ts) (h : Jvm.Cond.code y cc n none ∈ qTB) : GoodIn Ts (qwc y cc n) := by
  intro w hw
  have : w ∈ qTB := by
    rcases List.mem_cons.mp hw with rfl | hw
    · exact h
    · exact hw
  exact ⟨hT _ this, good_of_word (List.mem_filter.mp this).2⟩
theorem va_Nw_moved {u U : State} (hv : u.vm = U.vm) (h : ∀ w ∈ qnest, va_Nw w u) : ∀ w ∈ qnest, va_Nw w U := fun w hw => by
  obtain ⟨a, i, y, b, rfl⟩ := qnest_on hw
  exact va_Nw.same rfl hv (h _ hw)
theorem va_Nw_warm {s U : State} (hW : s.WarmedH U.vm) (h : ∀ w ∈ qnest, va_Nw w s) : ∀ w ∈ qnest, va_Nw w U := fun w hw => by
  obtain ⟨a, i, y, b, rfl⟩ := qnest_on hw
  exact va_Nw.warmM hW (h _ hw)
theorem cPc_blind {D : va_G} {cy : Nat → Nat} {as : List Value} {ws : va_W} {sz : Nat} : FrameBlind (cPc D cy as ws sz) := by
  intro a U g mk q
  obtain ⟨q0, q1, qP, qK, qD, qN⟩ := q
  exact ⟨q0, q1, qP, va_K.moved (u := U) (U := U.calling g mk a) (Vm.Alike.refl U.vm) qK, qD, va_Nw_moved (u := U) (U := U.calling g mk a) rfl qN⟩
theorem ct_intro {l : Launch} {D : va_G} {cy : Nat → Nat} {y : MethodName} {cc : ByteArray} {n : Nat} {rm : Room} {as : List Value} {ws : va_W} {sz mc ms : Nat} {B : va_W → Prop} (hy : plainName y.cls = true) (hlen : (lg_sl as).length ≤ n)
    (body : ∀ (p : Program) (e : Env) (s : State) (m : MethodId) (below : List Frame) (meth : Method) (c : Code) (A : Nat → Prop), s.heap.size = sz → p.tables.exec = Jvm.exec → c.code = cc → c.maxLocals = n → s.vm.findClass y.cls = some m.cls → meth.name = y.name → meth.sig.returnType = none → meth.locks = false → (∀ w ∈ qTB, w.before as.toArray s = true) → va_K D vwCl (qtys cy) s → (∀ w ∈ qnest, va_Nw w s) → va_P D vwCl ws s.heap → va_D A ws → va_S A s.heap s.heap [] → (∀ q, s.heap.size ≤ q → A q) → A = va_A ws sz → ∀ ls : Array Slot, lv_has ls n (lv_args 0 as) → W p l e rm s m as.toArray below meth c s.heap [] 0 0 (MQ below (cQc D ws sz B) as.toArray s mc ms (va_A ws sz)) (F0 m 0 ls [])) : Met l y (qwc y cc n) rm (cPc D cy as ws sz) (cQc D ws sz B) mc ms (va_A ws sz) := by
  refine Met.ofW (cc := cc) (maxL := n) (ret := none) hy rfl ?_
  intro p e s m args below meth c s₁ B0 hml hv
  obtain ⟨rfl, hsz, hP, hK, hD0, hN⟩ := hv
  subst hsz
  have hts := atoms_spec (ws := qwc y cc n) B0.pre
  have hl := lv_entry as (n := n) hlen
  rw [lg_entry_eq]
  exact body p e s m below meth c (va_A ws s.heap.size) rfl B0.exec B0.bytes hml (findClass_of_methodNamed B0.named) (name_of_methodNamed B0.named B0.method).1 B0.returns B0.notSynchronized (fun w h => hts w (List.mem_cons_of_mem _ h)) hK hN hP (hD0.self (sz := s.heap.size)) va_S.rf (fun q h => Or.inr h) rfl _ hl
section CTOR
variable {p : Program} {l : Launch} {e : Env} {R : Room} {s : State} {m : MethodId} {args : Array Value} {below : List Frame} {meth : Method} {c : Code} {H : Heap} {locs : List Loc} {cells slots : Nat} {Q : State → Prop}
variable {cc : ByteArray} {pc : Nat} {ls : Array Slot} {rest : List Value} {D : va_G} {A : Nat → Prop} {ws : va_W} {H0 : Heap} {cy : Nat → Nat}
theorem cn_newI (hx : p.tables.exec = Jvm.exec) (hb : c.code = cc) (hq : ∀ w ∈ qTB, w.before args s = true) (hK : va_K D vwCl (qtys cy) s) (hP : va_P D vwCl ws H) (hD : va_D A ws) (hS : va_S A H0 H locs) (hA : ∀ q, H0.size ≤ q → A q) {N : Nat} (hN : N ≤ 2000) (hcells : cells + 1 ≤ R.cells) (hslots : slots + N ≤ R.slots) (hdg : decode cc pc = .ok (.newarray .int, 2))
    (kk : ∀ (q : Nat) (H1 : Heap), va_P D vwCl (ws ++ [aI cy q N]) H1 → va_D A (ws ++ [aI cy q N]) → va_S A H0 H1 locs → W p l e R s m args below meth c H1 locs (cells + 1) (slots + N) Q (F0 m (pc + 2) ls (.ref q :: rest))) : W p l e R s m args below meth c H locs cells slots Q (F0 m pc ls (.int (nI N) :: rest)) := by
  refine va_newa (ty := .int) (a0 := (N, .inl (fun _ => 0))) (N' := N) hx hb (hq _ (qw1 106 rfl rfl)) rfl hK hP hD hS hA (fun _ => rfl) (nI_pos (by omega)) (nI_clamp (by omega)) (show N * 4 ≤ 536870912 by omega) hcells hslots hdg (fun q cA H1 hK1 hP1 hD1 hS1 => ?_)
  have e : cA = cy 0 := Option.some.inj ((show s.vm.findClass ("[" ++ FieldType.int.toString) = some cA from (hK1.2 3 _ rfl).2).symm.trans (show s.vm.findClass ("[" ++ FieldType.int.toString) = some (cy 0) from (hK.2 0 _ rfl).2))
  subst e
  exact kk q H1 hP1 hD1 hS1
theorem cn_newJ (hx : p.tables.exec = Jvm.exec) (hb : c.code = cc) (hq : ∀ w ∈ qTB, w.before args s = true) (hK : va_K D vwCl (qtys cy) s) (hP : va_P D vwCl ws H) (hD : va_D A ws) (hS : va_S A H0 H locs) (hA : ∀ q, H0.size ≤ q → A q) {N : Nat} (hN : N ≤ 2000) (hcells : cells + 1 ≤ R.cells) (hslots : slots + N ≤ R.slots) (hdg : decode cc pc = .ok (.newarray .long, 2))
    (kk : ∀ (q : Nat) (H1 : Heap), va_P D vwCl (ws ++ [aJ cy q N]) H1 → va_D A (ws ++ [aJ cy q N]) → va_S A H0 H1 locs → W p l e R s m args below meth c H1 locs (cells + 1) (slots + N) Q (F0 m (pc + 2) ls (.ref q :: rest))) : W p l e R s m args below meth c H locs cells slots Q (F0 m pc ls (.int (nI N) :: rest)) := by
  refine va_newa (ty := .long) (a0 := (N, .inr (.inl (fun _ => 0)))) (N' := N) hx hb (hq _ (qw1 196 rfl rfl)) rfl hK hP hD hS hA (fun _ => rfl) (nI_pos (by omega)) (nI_clamp (by omega)) (show N * 8 ≤ 536870912 by omega) hcells hslots hdg (fun q cA H1 hK1 hP1 hD1 hS1 => ?_)
  have e : cA = cy 1 := Option.some.inj ((show s.vm.findClass ("[" ++ FieldType.long.toString) = some cA from (hK1.2 3 _ rfl).2).symm.trans (show s.vm.findClass ("[" ++ FieldType.long.toString) = some (cy 1) from (hK.2 1 _ rfl).2))
  subst e
  exact kk q H1 hP1 hD1 hS1
theorem cn_newZ (hx : p.tables.exec = Jvm.exec) (hb : c.code = cc) (hq : ∀ w ∈ qTB, w.before args s = true) (hK : va_K D vwCl (qtys cy) s) (hP : va_P D vwCl ws H) (hD : va_D A ws) (hS : va_S A H0 H locs) (hA : ∀ q, H0.size ≤ q → A q) {N : Nat} (hN : N ≤ 2000) (hcells : cells + 1 ≤ R.cells) (hslots : slots + N ≤ R.slots) (hdg : decode cc pc = .ok (.newarray .boolean, 2))
    (kk : ∀ (q : Nat) (H1 : Heap), va_P D vwCl (ws ++ [aZ cy q N]) H1 → va_D A (ws ++ [aZ cy q N]) → va_S A H0 H1 locs → W p l e R s m args below meth c H1 locs (cells + 1) (slots + N) Q (F0 m (pc + 2) ls (.ref q :: rest))) : W p l e R s m args below meth c H locs cells slots Q (F0 m pc ls (.int (nI N) :: rest)) := by
  refine va_newa (ty := .boolean) (a0 := (N, .inl (fun _ => 0))) (N' := N) hx hb (hq _ (qw5 55 rfl rfl)) rfl hK hP hD hS hA (fun _ => rfl) (nI_pos (by omega)) (nI_clamp (by omega)) (show N * 1 ≤ 536870912 by omega) hcells hslots hdg (fun q cA H1 hK1 hP1 hD1 hS1 => ?_)
  have e : cA = cy 2 := Option.some.inj ((show s.vm.findClass ("[" ++ FieldType.boolean.toString) = some cA from (hK1.2 3 _ rfl).2).symm.trans (show s.vm.findClass ("[" ++ FieldType.boolean.toString) = some (cy 2) from (hK.2 2 _ rfl).2))
  subst e
  exact kk q H1 hP1 hD1 hS1
/-- a row of ints by its first n places -/
theorem cn_ext {q n : Nat} {cA : ClassId} {f g : Nat → Int32} (h : va_at D vwCl (q, .inl (cA, n, .inl f)) H) (he : ∀ k, k < n → f k = g k) : va_at D vwCl (q, .inl (cA, n, .inl g)) H := by
  have h : H[q]? = some (arrV cA n (fun j => .int (f j))) := h
  show H[q]? = some (arrV cA n (fun j => .int (g j)))
  rw [h]
  unfold arrV
  congr 2
  apply Array.ext
  · simp
  · intro i h1 h2
    simp only [Array.size_ofFn] at h1
    simp [he i h1]
theorem cn_ext0 {q n : Nat} {cA : ClassId} {f g : Nat → Int32} {wr : va_W} (h : va_P D vwCl ((q, .inl (cA, n, .inl f)) :: wr) H) (he : ∀ k, k < n → f k = g k) : va_P D vwCl ((q, .inl (cA, n, .inl g)) :: wr) H := fun k x hx => by
  cases k with
  | zero =>
    cases hx
    exact cn_ext (h 0 _ rfl) he
  | succ k => exact h (k + 1) x hx
theorem cn_extD {q n : Nat} {cA : ClassId} {f g : Nat → Int32} {wr : va_W} (h : va_D A ((q, .inl (cA, n, .inl f)) :: wr)) : va_D A ((q, .inl (cA, n, .inl g)) :: wr) := by
  have key : ∀ (k : Nat) (x : Nat × va_E), ((q, Sum.inl (cA, n, Sum.inl g)) :: wr : va_W)[k]? = some x → ∃ y : Nat × va_E, ((q, Sum.inl (cA, n, Sum.inl f)) :: wr : va_W)[k]? = some y ∧ y.1 = x.1 := fun k x hx => by
    cases k with
    | zero =>
      cases hx
      exact ⟨_, rfl, rfl⟩
    | succ k => exact ⟨x, hx, rfl⟩
  refine ⟨fun i j a b ha hb hab => ?_, fun k x hx => ?_⟩
  · obtain ⟨a', h1, h2⟩ := key i a ha
    obtain ⟨b', h3, h4⟩ := key j b hb
    exact h.1 i j a' b' h1 h3 (by rw [h2, h4]; exact hab)
  · obtain ⟨y, h1, h2⟩ := key k x hx
    rw [← h2]
    exact h.2 k y h1
end CTOR
