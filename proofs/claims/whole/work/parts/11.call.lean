def qch (pc : Nat) : List XI → Nat → Prop
  | [], fall => pc = fall
  | i :: r, fall => i.1 = pc ∧ qch (pc + i.2.2.1) r fall
/-- arguments as locals -/
def qlay : List Value → List Value
  | [] => []
  | v :: vs => if v.category = 2 then v :: qX :: qlay vs else v :: qlay vs
def qent (as : List Value) (nL : Nat) : List Value := qlay as ++ List.replicate (nL - (qlay as).length) qX
theorem qlay_args {ad : Nat → Nat} : ∀ (as : List Value) (off j : Nat) (v : Value), (qlay as)[j]? = some v → v ≠ qX → (off + j, qmv ad v) ∈ lv_args off (as.map (qmv ad))
  | [], off, j, v, h, hv => by simp [qlay] at h
  | a :: as, off, j, v, h, hv => by
    simp only [List.map_cons, lv_args, qmv_cat]
    unfold qlay at h
    split at h
    · rename_i hc
      rw [if_pos hc]
      match j, h with
      | 0, h => simp at h; subst h; exact List.mem_cons_self
      | 1, h => simp at h; exact absurd h.symm hv
      | j + 2, h =>
        have := qlay_args (ad := ad) as (off + 2) j v (by simpa using h) hv
        refine List.mem_cons_of_mem _ ?_
        have e : off + (j + 2) = off + 2 + j := by omega
        rw [e]; exact this
    · rename_i hc
      rw [if_neg hc]
      match j, h with
      | 0, h => simp at h; subst h; exact List.mem_cons_self
      | j + 1, h =>
        have := qlay_args (ad := ad) as (off + 1) j v (by simpa using h) hv
        refine List.mem_cons_of_mem _ ?_
        have e : off + (j + 1) = off + 1 + j := by omega
        rw [e]; exact this
theorem qlay_len {ad : Nat → Nat} : ∀ (as : List Value), (lg_sl (as.map (qmv ad))).length = (qlay as).length
  | [] => rfl
  | a :: as => by
    have ih := qlay_len (ad := ad) as
    simp only [lg_sl, List.map_cons, List.flatMap_cons, qmv_cat] at ih ⊢
    unfold qlay
    split
    · simp only [List.length_append, List.length_cons, List.length_nil, ih]; omega
    · simp only [List.length_append, List.length_cons, List.length_nil, ih]; omega
theorem qent_has {ad : Nat → Nat} {as : List Value} {nL : Nat} {ls : Array Slot} (h : lv_has ls nL (lv_args 0 (as.map (qmv ad)))) : lv_has ls nL (qasc ad (qent as nL)) := by
  refine ⟨h.1, h.2.1, fun q hq => h.2.2 q ?_⟩
  obtain ⟨j, w⟩ := q
  obtain ⟨v, hv, hne, rfl⟩ := qasc_mem.mp hq
  unfold qent at hv
  rw [List.getElem?_append] at hv
  split at hv
  · simpa using qlay_args (ad := ad) as 0 j v hv hne
  · have h9 := List.mem_of_getElem? hv
    exact absurd (List.eq_of_mem_replicate h9) hne
theorem qwpS {p : Program} {l : Launch} {e : Env} {R : Room} {s : State} {m : MethodId} {args : Array Value} {below : List Frame} {meth : Method} {c : Code} {cc : ByteArray} {nL mi : Nat} {own : String} {A : Nat → Prop} {D : va_G} {cy ad sv : Nat → Nat} {rt : Option FieldType} {Qc : Array Value → State → Outcome → State → Prop} {G : Nat → List Value → List Value → HP → Prop} {Q : Option Value → HP → Prop}
    (F : qRun p s m args meth c cc nL mi own A D cy ad sv) (hrt : meth.sig.returnType = rt)
    (hG : ∀ pc L st h, G pc L st h → qS p l e R s m args below meth c nL A D cy ad (MQ below Qc args s 0 0 A) pc L st h)
    (hQ : ∀ (v : Option Value) (h : HP) (H : Heap) (t : State), Q v h → va_P D vwCl (qwld cy ad h) H → va_D A (qwld cy ad h) → va_F A s t → t.heap = H → s.WarmedH t.vm → Qc args s (.returned (v.map (qmv ad))) t) :
    ∀ (cd : List XI) (pc fall : Nat), (∀ i ∈ cd, qok own cc R rt nL i) → qch pc cd fall → ∀ L st h, qwp G Q (qC l D cy ad sv) fall cd L st h → qS p l e R s m args below meth c nL A D cy ad (MQ below Qc args s 0 0 A) pc L st h
  | [], pc, fall, hok, hc, L, st, h, hw => by
    have hc : pc = fall := hc
    subst hc
    exact hG _ _ _ _ hw
  | i :: r, pc, fall, hok, hc, L, st, h, hw => by
    obtain ⟨rfl, hc⟩ := hc
    exact qstS F hrt (hok i List.mem_cons_self) Qc G Q _ hG hQ (fun L st h hw => qwpS F hrt hG hQ r _ fall (fun j hj => hok j (List.mem_cons_of_mem _ hj)) hc L st h hw) L st h hw
/-- a method's blocks are its code -/
def qblk (i : Nat) (bs : List (Nat × List XI × Nat)) : Prop := ∀ b ∈ bs, qch b.1 b.2.1 b.2.2 ∧ ∀ x ∈ b.2.1, qok (qmt i).1.cls (qmt i).2.1 (qrm i) (qmt i).2.2.2.1 (qmt i).2.2.1 x
/-- what is closed under a method's blocks -/
def qcl (l : Launch) (D : va_G) (cy ad sv : Nat → Nat) (bs : List (Nat × List XI × Nat)) (Q : Option Value → HP → Prop) (G : Nat → List Value → List Value → HP → Prop) : Prop := ∀ b ∈ bs, ∀ L st h, qwp G Q (qC l D cy ad sv) b.2.2 b.2.1 L st h → G b.1 L st h
theorem qC.intro {l : Launch} {D : va_G} {cy ad sv : Nat → Nat} {i : Nat} {as : List Value} {h : HP} {Q : Option Value → HP → Prop} {bs : List (Nat × List XI × Nat)} (hbs : qblk i bs) (hpl : plainName (qmt i).1.cls = true) (hlen : (qlay as).length ≤ (qmt i).2.2.1)
    (body : ∀ G, qcl l D cy ad sv bs Q G → G 0 (qent as (qmt i).2.2.1) [] h) : qC l D cy ad sv i as h Q := by
  intro sz
  refine Met.ofW (cc := (qmt i).2.1) (maxL := (qmt i).2.2.1) (ret := (qmt i).2.2.2.1) hpl rfl ?_
  intro p e s m args below meth c s₁ B hml hv
  obtain ⟨rfl, hsz, hP, hK, hD0, hE⟩ := hv
  subst hsz
  have hD := hD0.self (sz := s.heap.size)
  have hS : va_S (va_A (qwld cy ad h) s.heap.size) s.heap s.heap [] := va_S.rf
  have hA : ∀ q : Nat, s.heap.size ≤ q → va_A (qwld cy ad h) s.heap.size q := fun q h => Or.inr h
  have F : qRun p s m (as.map (qmv ad)).toArray meth c (qmt i).2.1 (qmt i).2.2.1 i (qmt i).1.cls (va_A (qwld cy ad h) s.heap.size) D cy ad sv := ⟨B.exec, B.bytes, hml, findClass_of_methodNamed B.named, atoms_spec (ws := qws i) B.pre, hK, hE, hA, B.notSynchronized⟩
  have hl := lv_entry (as.map (qmv ad)) (n := (qmt i).2.2.1) (by rw [qlay_len]; exact hlen)
  rw [lg_entry_eq]
  refine body (qS p l e (headSpec (qws i) (qrm i)).room s m (as.map (qmv ad)).toArray below meth c (qmt i).2.2.1 (va_A (qwld cy ad h) s.heap.size) D cy ad (MQ below (qQc D cy ad h s.heap.size Q) (as.map (qmv ad)).toArray s 0 0 (va_A (qwld cy ad h) s.heap.size))) ?_ _ _ _ (qent_has hl) hP hD hS
  intro b hb L st h' hw
  obtain ⟨hc, hok⟩ := hbs b hb
  refine qwpS F B.returns (fun _ _ _ _ h => h) ?_ b.2.1 b.1 b.2.2 hok hc L st h' hw
  intro v h2 H t hq hP2 hD2 hF ht hW
  exact ⟨⟨v, h2, rfl, hq, by rw [ht]; exact hP2, hD2⟩, hF⟩
/-- more may be said behind -/
theorem qC.imp {l : Launch} {D : va_G} {cy ad sv : Nat → Nat} {i : Nat} {as : List Value} {h : HP} {Q Q' : Option Value → HP → Prop} (hQ : ∀ v u, Q v u → Q' v u) (hC : qC l D cy ad sv i as h Q) : qC l D cy ad sv i as h Q' := by
  intro sz p e ha hc hk s m args below hf happ hP hT
  obtain ⟨k, o, h1, h2, h3, ⟨⟨v, u, a1, a2, a3⟩, a4⟩, hF⟩ := hC sz p e ha hc hk s m args below hf happ hP hT
  exact ⟨k, o, h1, h2, h3, ⟨⟨v, u, a1, hQ v u a2, a3⟩, a4⟩, hF⟩
def qchb : Nat → List XI → Nat → Bool
  | pc, [], fall => pc == fall
  | pc, i :: r, fall => i.1 == pc && qchb (pc + i.2.2.1) r fall
theorem qchb_ok : ∀ (cd : List XI) (pc fall : Nat), qchb pc cd fall = true → qch pc cd fall
  | [], pc, fall, h => by simpa [qchb, qch] using h
  | i :: r, pc, fall, h => by
    simp only [qchb, Bool.and_eq_true, beq_iff_eq] at h
    exact ⟨h.1, qchb_ok r _ fall h.2⟩
theorem qdec_ok {cc : ByteArray} {cd : List XI} (h : cd.all (fun i => decide (decode cc i.1 = .ok (i.2.1, i.2.2.1))) = true) : ∀ i ∈ cd, decode cc i.1 = .ok (i.2.1, i.2.2.1) := fun i hi => by
  simpa using List.all_eq_true.mp h i hi
theorem qbl {own : String} {cc : ByteArray} {R : Room} {rt : Option FieldType} {nL pc fall : Nat} {cd : List XI} (h1 : qchb pc cd fall = true) (h2 : cd.all (fun i => decide (decode cc i.1 = .ok (i.2.1, i.2.2.1))) = true) (h3 : ∀ i ∈ cd, qokl own R rt nL i) : qch pc cd fall ∧ ∀ x ∈ cd, qok own cc R rt nL x := ⟨qchb_ok _ _ _ h1, fun x hx => ⟨qdec_ok h2 x hx, h3 x hx⟩⟩
theorem qmks {own : String} {idx a t : Nat} {R : Room} (h1 : (qmt a).2.2.2.2.1 + 1 ≤ R.frames) (h2 : 8 + ((qmt a).2.2.1 + 11) + (qmt a).2.2.2.2.2 ≤ R.locals) (hd : (qmt a).1.cls ≠ "java/lang/invoke/MethodHandle" ∧ (qmt a).1.cls ≠ "java/lang/invoke/VarHandle" ∧ (parseMethodDescriptor (qmt a).1.desc).map (fun d => d.parameters.length) = some t) (h3 : Jvm.Cond.code (qmt a).1 (qmt a).2.1 (qmt a).2.2.1 (qmt a).2.2.2.1 ∈ qTB) (h4 : Jvm.Cond.initialized (qmt a).1.cls ∈ qTB) (h5 : Jvm.Cond.methodLink own idx (qmt a).1 ∈ qTB ∨ ∃ host, Jvm.Cond.methodLinkNest own idx (qmt a).1 host ∈ qnest) (h6 : Jvm.Cond.static (qmt a).1 ∈ qTB) : qcs own idx a t R := ⟨⟨⟨h1, h2⟩, hd, h3, h4, h5⟩, h6⟩
theorem qmkv {own : String} {idx a t u : Nat} {R : Room} (h1 : (qmt a).2.2.2.2.1 + 1 ≤ R.frames) (h2 : 8 + ((qmt a).2.2.1 + 11) + (qmt a).2.2.2.2.2 ≤ R.locals) (hd : (qmt a).1.cls ≠ "java/lang/invoke/MethodHandle" ∧ (qmt a).1.cls ≠ "java/lang/invoke/VarHandle" ∧ (parseMethodDescriptor (qmt a).1.desc).map (fun d => d.parameters.length) = some t) (h3 : Jvm.Cond.code (qmt a).1 (qmt a).2.1 (qmt a).2.2.1 (qmt a).2.2.2.1 ∈ qTB) (h4 : Jvm.Cond.initialized (qmt a).1.cls ∈ qTB) (h5 : Jvm.Cond.methodLink own idx (qmt a).1 ∈ qTB ∨ ∃ host, Jvm.Cond.methodLinkNest own idx (qmt a).1 host ∈ qnest) (h6 : Jvm.Cond.instanceMethod (qmt a).1 ∈ qTB) (h7 : Jvm.Cond.selects (qmt a).1.cls (qmt a).1 (qmt a).1 ∈ qTB) (h8 : (u = 60 ∧ (qmt a).1.cls = "java/lang/String") ∨ (¬ u = 60 ∧ ∃ (T : u_T) (N : Nat), vwCl[u]? = some ((qmt a).1.cls, T, N))) : qcv own idx a t u R := ⟨⟨⟨h1, h2⟩, hd, h3, h4, h5⟩, h6, h7, h8⟩
