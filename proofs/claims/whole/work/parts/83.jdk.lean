theorem dJ_166_0 : decode (qmt 166).2.1 0 = .ok (.iload_n 0, 1) := by decide +kernel
theorem dJ_166_1 : decode (qmt 166).2.1 1 = .ok (.iload_n 0, 1) := by decide +kernel
theorem dJ_166_2 : decode (qmt 166).2.1 2 = .ok (.iconst 1, 1) := by decide +kernel
theorem dJ_166_3 : decode (qmt 166).2.1 3 = .ok (.iushr, 1) := by decide +kernel
theorem dJ_166_4 : decode (qmt 166).2.1 4 = .ok (.ldc_w 265, 3) := by decide +kernel
theorem dJ_166_7 : decode (qmt 166).2.1 7 = .ok (.iand, 1) := by decide +kernel
theorem dJ_166_8 : decode (qmt 166).2.1 8 = .ok (.isub, 1) := by decide +kernel
theorem dJ_166_9 : decode (qmt 166).2.1 9 = .ok (.istore_n 0, 1) := by decide +kernel
theorem dJ_166_10 : decode (qmt 166).2.1 10 = .ok (.iload_n 0, 1) := by decide +kernel
theorem dJ_166_11 : decode (qmt 166).2.1 11 = .ok (.ldc_w 266, 3) := by decide +kernel
theorem dJ_166_14 : decode (qmt 166).2.1 14 = .ok (.iand, 1) := by decide +kernel
theorem dJ_166_15 : decode (qmt 166).2.1 15 = .ok (.iload_n 0, 1) := by decide +kernel
theorem dJ_166_16 : decode (qmt 166).2.1 16 = .ok (.iconst 2, 1) := by decide +kernel
theorem dJ_166_17 : decode (qmt 166).2.1 17 = .ok (.iushr, 1) := by decide +kernel
theorem dJ_166_18 : decode (qmt 166).2.1 18 = .ok (.ldc_w 266, 3) := by decide +kernel
theorem dJ_166_21 : decode (qmt 166).2.1 21 = .ok (.iand, 1) := by decide +kernel
theorem dJ_166_22 : decode (qmt 166).2.1 22 = .ok (.iadd, 1) := by decide +kernel
theorem dJ_166_23 : decode (qmt 166).2.1 23 = .ok (.istore_n 0, 1) := by decide +kernel
theorem dJ_166_24 : decode (qmt 166).2.1 24 = .ok (.iload_n 0, 1) := by decide +kernel
theorem dJ_166_25 : decode (qmt 166).2.1 25 = .ok (.iload_n 0, 1) := by decide +kernel
theorem dJ_166_26 : decode (qmt 166).2.1 26 = .ok (.iconst 4, 1) := by decide +kernel
theorem dJ_166_27 : decode (qmt 166).2.1 27 = .ok (.iushr, 1) := by decide +kernel
theorem dJ_166_28 : decode (qmt 166).2.1 28 = .ok (.iadd, 1) := by decide +kernel
theorem dJ_166_29 : decode (qmt 166).2.1 29 = .ok (.ldc_w 267, 3) := by decide +kernel
theorem dJ_166_32 : decode (qmt 166).2.1 32 = .ok (.iand, 1) := by decide +kernel
theorem dJ_166_33 : decode (qmt 166).2.1 33 = .ok (.istore_n 0, 1) := by decide +kernel
theorem dJ_166_34 : decode (qmt 166).2.1 34 = .ok (.iload_n 0, 1) := by decide +kernel
theorem dJ_166_35 : decode (qmt 166).2.1 35 = .ok (.iload_n 0, 1) := by decide +kernel
theorem dJ_166_36 : decode (qmt 166).2.1 36 = .ok (.bipush 8, 2) := by decide +kernel
theorem dJ_166_38 : decode (qmt 166).2.1 38 = .ok (.iushr, 1) := by decide +kernel
theorem dJ_166_39 : decode (qmt 166).2.1 39 = .ok (.iadd, 1) := by decide +kernel
theorem dJ_166_40 : decode (qmt 166).2.1 40 = .ok (.istore_n 0, 1) := by decide +kernel
theorem dJ_166_41 : decode (qmt 166).2.1 41 = .ok (.iload_n 0, 1) := by decide +kernel
theorem dJ_166_42 : decode (qmt 166).2.1 42 = .ok (.iload_n 0, 1) := by decide +kernel
theorem dJ_166_43 : decode (qmt 166).2.1 43 = .ok (.bipush 16, 2) := by decide +kernel
theorem dJ_166_45 : decode (qmt 166).2.1 45 = .ok (.iushr, 1) := by decide +kernel
theorem dJ_166_46 : decode (qmt 166).2.1 46 = .ok (.iadd, 1) := by decide +kernel
theorem dJ_166_47 : decode (qmt 166).2.1 47 = .ok (.istore_n 0, 1) := by decide +kernel
theorem dJ_166_48 : decode (qmt 166).2.1 48 = .ok (.iload_n 0, 1) := by decide +kernel
theorem dJ_166_49 : decode (qmt 166).2.1 49 = .ok (.bipush 63, 2) := by decide +kernel
theorem dJ_166_51 : decode (qmt 166).2.1 51 = .ok (.iand, 1) := by decide +kernel
theorem dJ_166_52 : decode (qmt 166).2.1 52 = .ok (.ireturn, 1) := by decide +kernel
theorem dJ_171_0 : decode (qmt 171).2.1 0 = .ok (.aload_n 0, 1) := by decide +kernel
theorem dJ_171_1 : decode (qmt 171).2.1 1 = .ok (.getfield 9, 3) := by decide +kernel
theorem dJ_171_4 : decode (qmt 171).2.1 4 = .ok (.arraylength, 1) := by decide +kernel
theorem dJ_171_5 : decode (qmt 171).2.1 5 = .ok (.aload_n 0, 1) := by decide +kernel
theorem dJ_171_6 : decode (qmt 171).2.1 6 = .ok (.invokevirtual 335, 3) := by decide +kernel
theorem dJ_171_9 : decode (qmt 171).2.1 9 = .ok (.ishr, 1) := by decide +kernel
theorem dJ_171_10 : decode (qmt 171).2.1 10 = .ok (.ireturn, 1) := by decide +kernel
theorem dJ_172_0 : decode (qmt 172).2.1 0 = .ok (.aload_n 0, 1) := by decide +kernel
theorem dJ_172_1 : decode (qmt 172).2.1 1 = .ok (.invokevirtual 492, 3) := by decide +kernel
theorem dJ_172_4 : decode (qmt 172).2.1 4 = .ok (.ifCond .eq 12, 3) := by decide +kernel
theorem dJ_172_7 : decode (qmt 172).2.1 7 = .ok (.aload_n 0, 1) := by decide +kernel
theorem dJ_172_8 : decode (qmt 172).2.1 8 = .ok (.getfield 9, 3) := by decide +kernel
theorem dJ_172_11 : decode (qmt 172).2.1 11 = .ok (.iload_n 1, 1) := by decide +kernel
theorem dJ_172_12 : decode (qmt 172).2.1 12 = .ok (.invokestatic 495, 3) := by decide +kernel
theorem dJ_172_15 : decode (qmt 172).2.1 15 = .ok (.ireturn, 1) := by decide +kernel
theorem dJ_173_0 : decode (qmt 173).2.1 0 = .ok (.getstatic 38, 3) := by decide +kernel
theorem dJ_173_3 : decode (qmt 173).2.1 3 = .ok (.ifCond .eq 10, 3) := by decide +kernel
theorem dJ_173_6 : decode (qmt 173).2.1 6 = .ok (.aload_n 0, 1) := by decide +kernel
theorem dJ_173_7 : decode (qmt 173).2.1 7 = .ok (.getfield 15, 3) := by decide +kernel
theorem dJ_173_10 : decode (qmt 173).2.1 10 = .ok (.goto 4, 3) := by decide +kernel
theorem dJ_173_14 : decode (qmt 173).2.1 14 = .ok (.ireturn, 1) := by decide +kernel
theorem dJ_174_0 : decode (qmt 174).2.1 0 = .ok (.getstatic 38, 3) := by decide +kernel
theorem dJ_174_3 : decode (qmt 174).2.1 3 = .ok (.ifCond .eq 14, 3) := by decide +kernel
theorem dJ_174_6 : decode (qmt 174).2.1 6 = .ok (.aload_n 0, 1) := by decide +kernel
theorem dJ_174_7 : decode (qmt 174).2.1 7 = .ok (.getfield 15, 3) := by decide +kernel
theorem dJ_174_10 : decode (qmt 174).2.1 10 = .ok (.ifCond .ne 7, 3) := by decide +kernel
theorem dJ_174_13 : decode (qmt 174).2.1 13 = .ok (.iconst 1, 1) := by decide +kernel
theorem dJ_174_14 : decode (qmt 174).2.1 14 = .ok (.goto 4, 3) := by decide +kernel
theorem dJ_174_18 : decode (qmt 174).2.1 18 = .ok (.ireturn, 1) := by decide +kernel
theorem dJ_175_0 : decode (qmt 175).2.1 0 = .ok (.iload_n 0, 1) := by decide +kernel
theorem dJ_175_1 : decode (qmt 175).2.1 1 = .ok (.iload_n 1, 1) := by decide +kernel
theorem dJ_175_2 : decode (qmt 175).2.1 2 = .ok (.getstatic 1053, 3) := by decide +kernel
theorem dJ_175_5 : decode (qmt 175).2.1 5 = .ok (.invokestatic 1059, 3) := by decide +kernel
theorem dJ_175_8 : decode (qmt 175).2.1 8 = .ok (.pop, 1) := by decide +kernel
theorem dJ_175_9 : decode (qmt 175).2.1 9 = .ok (.return_, 1) := by decide +kernel
theorem dJ_176_0 : decode (qmt 176).2.1 0 = .ok (.iload_n 1, 1) := by decide +kernel
theorem dJ_176_1 : decode (qmt 176).2.1 1 = .ok (.aload_n 0, 1) := by decide +kernel
theorem dJ_176_2 : decode (qmt 176).2.1 2 = .ok (.arraylength, 1) := by decide +kernel
theorem dJ_176_3 : decode (qmt 176).2.1 3 = .ok (.invokestatic 9, 3) := by decide +kernel
theorem dJ_176_6 : decode (qmt 176).2.1 6 = .ok (.aload_n 0, 1) := by decide +kernel
theorem dJ_176_7 : decode (qmt 176).2.1 7 = .ok (.iload_n 1, 1) := by decide +kernel
theorem dJ_176_8 : decode (qmt 176).2.1 8 = .ok (.baload, 1) := by decide +kernel
theorem dJ_176_9 : decode (qmt 176).2.1 9 = .ok (.sipush 255, 3) := by decide +kernel
theorem dJ_176_12 : decode (qmt 176).2.1 12 = .ok (.iand, 1) := by decide +kernel
theorem dJ_176_13 : decode (qmt 176).2.1 13 = .ok (.i2c, 1) := by decide +kernel
theorem dJ_176_14 : decode (qmt 176).2.1 14 = .ok (.ireturn, 1) := by decide +kernel
theorem dJ_181_0 : decode (qmt 181).2.1 0 = .ok (.iload_n 0, 1) := by decide +kernel
theorem dJ_181_1 : decode (qmt 181).2.1 1 = .ok (.ifCond .lt 8, 3) := by decide +kernel
theorem dJ_181_4 : decode (qmt 181).2.1 4 = .ok (.iload_n 0, 1) := by decide +kernel
theorem dJ_181_5 : decode (qmt 181).2.1 5 = .ok (.iload_n 1, 1) := by decide +kernel
theorem dJ_181_6 : decode (qmt 181).2.1 6 = .ok (.if_icmp .lt 10, 3) := by decide +kernel
theorem dJ_181_16 : decode (qmt 181).2.1 16 = .ok (.iload_n 0, 1) := by decide +kernel
theorem dJ_181_17 : decode (qmt 181).2.1 17 = .ok (.ireturn, 1) := by decide +kernel
theorem jC_173 : Jvm.Cond.code (qmt 173).1 (qmt 173).2.1 (qmt 173).2.2.1 (qmt 173).2.2.2.1 ∈ qTB := qw2 179 rfl rfl
theorem jC_174 : Jvm.Cond.code (qmt 174).1 (qmt 174).2.1 (qmt 174).2.2.1 (qmt 174).2.2.2.1 ∈ qTB := qw2 189 rfl rfl
theorem jC_175 : Jvm.Cond.code (qmt 175).1 (qmt 175).2.1 (qmt 175).2.2.1 (qmt 175).2.2.2.1 ∈ qTB := qw2 195 rfl rfl
theorem jC_176 : Jvm.Cond.code (qmt 176).1 (qmt 176).2.1 (qmt 176).2.2.1 (qmt 176).2.2.2.1 ∈ qTB := qw2 192 rfl rfl
theorem jC_181 : Jvm.Cond.code (qmt 181).1 (qmt 181).2.1 (qmt 181).2.2.1 (qmt 181).2.2.2.1 ∈ qTB := qw2 200 rfl rfl
theorem jM_173 : Jvm.Cond.instanceMethod (qmt 173).1 ∈ qTB := qw2 177 rfl rfl
theorem jM_174 : Jvm.Cond.instanceMethod (qmt 174).1 ∈ qTB := qw2 187 rfl rfl
theorem jE_173 : Jvm.Cond.selects "java/lang/String" (qmt 173).1 (qmt 173).1 ∈ qTB := qw2 178 rfl rfl
theorem jE_174 : Jvm.Cond.selects "java/lang/String" (qmt 174).1 (qmt 174).1 ∈ qTB := qw2 188 rfl rfl
theorem jS_175 : Jvm.Cond.static (qmt 175).1 ∈ qTB := qw2 194 rfl rfl
theorem jS_176 : Jvm.Cond.static (qmt 176).1 ∈ qTB := qw2 191 rfl rfl
theorem jS_181 : Jvm.Cond.static (qmt 181).1 ∈ qTB := qw2 199 rfl rfl
theorem jL_335 : Jvm.Cond.methodLink "java/lang/String" 335 (qmt 173).1 ∈ qTB := qw2 176 rfl rfl
theorem jL_492 : Jvm.Cond.methodLink "java/lang/String" 492 (qmt 174).1 ∈ qTB := qw2 186 rfl rfl
theorem jL_495 : Jvm.Cond.methodLink "java/lang/String" 495 (qmt 176).1 ∈ qTB := qw2 190 rfl rfl
theorem jL_9 : Jvm.Cond.methodLink "java/lang/StringLatin1" 9 (qmt 175).1 ∈ qTB := qw2 193 rfl rfl
theorem jL_1059 : Jvm.Cond.methodLink "java/lang/String" 1059 (qmt 181).1 ∈ qTB := qw2 198 rfl rfl
theorem jF_38 : Jvm.Cond.fieldLink "java/lang/String" 38 "java/lang/String" "COMPACT_STRINGS" "Z" ∈ qTB := qw2 180 rfl rfl
theorem jF_1053 : Jvm.Cond.fieldLink "java/lang/String" 1053 "jdk/internal/util/Preconditions" "SIOOBE_FORMATTER" "Ljava/util/function/BiFunction;" ∈ qTB := qw2 196 rfl rfl
theorem jF_9 : Jvm.Cond.fieldLink "java/lang/String" 9 "java/lang/String" "value" "[B" ∈ qTB := qw6 58 rfl rfl
theorem jF_15 : Jvm.Cond.fieldLink "java/lang/String" 15 "java/lang/String" "coder" "B" ∈ qTB := qw6 59 rfl rfl
/-! contracts over any arguments -/
def qPd (D : va_G) (cy ad sv : Nat → Nat) (h : HP) (sz : Nat) (rs : List Value) : Array Value → State → Prop :=
  va_Pc rs (fun U => U.heap.size = sz ∧ va_P D vwCl (qwld cy ad h) U.heap ∧ va_K D vwCl (qtys cy) U ∧ va_D (fun _ => True) (qwld cy ad h) ∧ qExt ad sv (va_A (qwld cy ad h) sz) U U.heap)
def qD (l : Launch) (D : va_G) (cy ad sv : Nat → Nat) (i : Nat) (rs : List Value) (h : HP) (Q : Option Value → HP → Prop) : Prop :=
  ∀ sz : Nat, Met l (qmt i).1 (qws i) (qrm i) (qPd D cy ad sv h sz rs) (qQc D cy ad h sz Q) 0 0 (va_A (qwld cy ad h) sz)
theorem qPd_blind {D : va_G} {cy ad sv : Nat → Nat} {h : HP} {sz : Nat} {rs : List Value} : FrameBlind (qPd D cy ad sv h sz rs) := by
  intro a U g mk q
  obtain ⟨q0, q1, qP, qK, qD, qE⟩ := q
  exact ⟨q0, q1, qP, va_K.moved (u := U) (U := U.calling g mk a) (Vm.Alike.refl U.vm) qK, qD, qExt.same (u := U) (U := U.calling g mk a) rfl qE⟩
theorem qD.raw {l : Launch} {D : va_G} {cy ad sv : Nat → Nat} {i : Nat} {rs : List Value} {h : HP} {Q : Option Value → HP → Prop} (hpl : plainName (qmt i).1.cls = true) (hlen : (lg_sl rs).length ≤ (qmt i).2.2.1)
    (body : ∀ (p : Program) (e : Env) (s : State) (m : MethodId) (below : List Frame) (meth : Method) (c : Code) (ls : Array Slot) (A : Nat → Prop) (Qc : Array Value → State → Outcome → State → Prop), qRun p s m rs.toArray meth c (qmt i).2.1 (qmt i).2.2.1 i (qmt i).1.cls A D cy ad sv → meth.sig.returnType = (qmt i).2.2.2.1 → lv_has ls (qmt i).2.2.1 (lv_args 0 rs) → va_P D vwCl (qwld cy ad h) s.heap → va_D A (qwld cy ad h) → va_S A s.heap s.heap [] →
      (∀ (v : Option Value) (u : HP) (H : Heap) (t : State), Q v u → va_P D vwCl (qwld cy ad u) H → va_D A (qwld cy ad u) → va_F A s t → t.heap = H → s.WarmedH t.vm → Qc rs.toArray s (.returned (v.map (qmv ad))) t) →
      W p l e (headSpec (qws i) (qrm i)).room s m rs.toArray below meth c s.heap [] 0 0 (MQ below Qc rs.toArray s 0 0 A) (F0 m 0 ls [])) : qD l D cy ad sv i rs h Q := by
  intro sz
  refine Met.ofW (cc := (qmt i).2.1) (maxL := (qmt i).2.2.1) (ret := (qmt i).2.2.2.1) hpl rfl ?_
  intro p e s m args below meth c s₁ B hml hv
  obtain ⟨rfl, hsz, hP, hK, hD0, hE⟩ := hv
  subst hsz
  have hD := hD0.self (sz := s.heap.size)
  have hS : va_S (va_A (qwld cy ad h) s.heap.size) s.heap s.heap [] := va_S.rf
  have hA : ∀ q : Nat, s.heap.size ≤ q → va_A (qwld cy ad h) s.heap.size q := fun q h => Or.inr h
  have F : qRun p s m rs.toArray meth c (qmt i).2.1 (qmt i).2.2.1 i (qmt i).1.cls (va_A (qwld cy ad h) s.heap.size) D cy ad sv := ⟨B.exec, B.bytes, hml, findClass_of_methodNamed B.named, atoms_spec (ws := qws i) B.pre, hK, hE, hA, B.notSynchronized⟩
  have hl := lv_entry rs (n := (qmt i).2.2.1) hlen
  rw [lg_entry_eq]
  refine body p e s m below meth c _ _ _ F B.returns hl hP hD hS ?_
  intro v h2 H t hq hP2 hD2 hF ht hW
  exact ⟨⟨v, h2, rfl, hq, by rw [ht]; exact hP2, hD2⟩, hF⟩
section QDCALL
variable {p : Program} {l : Launch} {e : Env} {R : Room} {s : State} {m : MethodId} {args : Array Value} {below : List Frame} {meth : Method} {c : Code} {cc : ByteArray} {nL mi : Nat} {own : String} {A : Nat → Prop} {D : va_G} {cy ad sv : Nat → Nat} {Qs : State → Prop}
theorem qcallSd {H : Heap} {locs : List Loc} {pc idx a t : Nat} {ls : Array Slot} {rs rest : List Value} {h : HP} {Q : Option Value → HP → Prop} (F : qRun p s m args meth c cc nL mi own A D cy ad sv) (hok : qcs own idx a t R) (hdg : decode cc pc = .ok (.invokestatic idx, 3)) (hn : rs.length = t) (hle : (rest.map fun v => v.category).sum ≤ 8) (hC : qD l D cy ad sv a rs h Q)
    (hls : ls.size = nL) (hP : va_P D vwCl (qwld cy ad h) H) (hD : va_D A (qwld cy ad h)) (hS : va_S A s.heap H locs)
    (kk : ∀ (v : Option Value) (u : HP) (H1 : Heap) (locs1 : List Loc), Q v u → va_P D vwCl (qwld cy ad u) H1 → va_D A (qwld cy ad u) → va_S A s.heap H1 locs1 → W p l e R s m args below meth c H1 locs1 0 0 Qs (F0 m (pc + 3) ls ((v.map (qmv ad)).toList ++ rest))) : W p l e R s m args below meth c H locs 0 0 Qs (F0 m pc ls (rs.reverse ++ rest)) := by
  obtain ⟨hx, hb, hml, hown, hts, hK, hE, hA, hlk⟩ := F
  obtain ⟨⟨hR, hd, hcode, hini, hlink⟩, hstat⟩ := hok
  have hf := qfree (cy := cy) (ad := ad) (h := h) hD hS hA
  have hT : ∀ w ∈ qTB, w.before args s = true := fun w hw => hts w (List.mem_cons_of_mem _ hw)
  have hpre : PreS s H (qPd D cy ad sv h H.size rs) rs := ⟨qPd_blind, fun U hU hW => ⟨rfl, by rw [hU], by rw [hU]; exact hP, va_K.moved hW.alike hK, hD.weaken (fun _ _ _ _ => trivial), by rw [hU]; exact hE.call hS hf hW⟩⟩
  rcases hlink with hl | ⟨host, hl⟩
  · refine qgoon (va_runS (rest := rest) ⟨hx, hb, hml, hown, hts⟩ (hC H.size) ⟨callB_of t hts (qws_good hcode) rfl rfl rfl (hT _ hini) (hT _ hl) hd hR, hT _ hstat⟩ hpre rfl hn hls rfl (lv_room hle) hdg ⟨Nat.zero_le _, Nat.zero_le _⟩) hS hf kk
  · refine qgoon (va_runSN (rest := rest) ⟨hx, hb, hml, hown, hts⟩ (hC H.size) ⟨va_cnB t hts (qws_good hcode) rfl rfl rfl (hE.1 _ hl) (hT _ hini) hd hR, hT _ hstat, trivial⟩ hpre rfl hn hls rfl (lv_room hle) hdg ⟨Nat.zero_le _, Nat.zero_le _⟩) hS hf kk
theorem qcallVd {H : Heap} {locs : List Loc} {pc idx a t i : Nat} {ls : Array Slot} {rs rest : List Value} {h : HP} {Q : Option Value → HP → Prop} (F : qRun p s m args meth c cc nL mi own A D cy ad sv) (hok : qcv own idx a t 60 R) (hdg : decode cc pc = .ok (.invokevirtual idx, 3)) (hn : rs.length = t) (hi : i < 15) (hle : (rest.map fun v => v.category).sum ≤ 8) (hC : qD l D cy ad sv a (.ref (ad (300 + i)) :: rs) h Q)
    (hls : ls.size = nL) (hP : va_P D vwCl (qwld cy ad h) H) (hD : va_D A (qwld cy ad h)) (hS : va_S A s.heap H locs)
    (kk : ∀ (v : Option Value) (u : HP) (H1 : Heap) (locs1 : List Loc), Q v u → va_P D vwCl (qwld cy ad u) H1 → va_D A (qwld cy ad u) → va_S A s.heap H1 locs1 → W p l e R s m args below meth c H1 locs1 0 0 Qs (F0 m (pc + 3) ls ((v.map (qmv ad)).toList ++ rest))) : W p l e R s m args below meth c H locs 0 0 Qs (F0 m pc ls (rs.reverse ++ .ref (ad (300 + i)) :: rest)) := by
  obtain ⟨hx, hb, hml, hown, hts, hK, hE, hA, hlk⟩ := F
  obtain ⟨⟨hR, hd, hcode, hini, hlink⟩, hinst, hsel, hcl⟩ := hok
  have hf := qfree (cy := cy) (ad := ad) (h := h) hD hS hA
  have hT : ∀ w ∈ qTB, w.before args s = true := fun w hw => hts w (List.mem_cons_of_mem _ hw)
  have hrecv : ∃ cellB : Cell, H[ad (300 + i)]? = some cellB ∧ cellB.vm.isStatics = false ∧ s.vm.findClass (qmt a).1.cls = some cellB.cls := by
    rcases hcl with ⟨-, hcl⟩ | ⟨hu, -⟩
    · rw [hcl]; exact vk_recv hE.2.1 (i := i) hi hS
    · exact absurd rfl hu
  have hpre : PreV s H (qmt a).1.cls (ad (300 + i)) (qPd D cy ad sv h H.size (.ref (ad (300 + i)) :: rs)) rs := ⟨qPd_blind, hrecv, fun U hU hW => ⟨rfl, by rw [hU], by rw [hU]; exact hP, va_K.moved hW.alike hK, hD.weaken (fun _ _ _ _ => trivial), by rw [hU]; exact hE.call hS hf hW⟩⟩
  rcases hlink with hl | ⟨host, hl⟩
  · refine qgoon (va_runV (rest := rest) ⟨hx, hb, hml, hown, hts⟩ (hC H.size) ⟨callB_of t hts (qws_good hcode) rfl rfl rfl (hT _ hini) (hT _ hl) hd hR, hT _ hinst, hT _ hsel⟩ hpre rfl hn hls rfl (lv_room hle) hdg ⟨Nat.zero_le _, Nat.zero_le _⟩) hS hf kk
  · refine qgoon (va_runVN (rest := rest) ⟨hx, hb, hml, hown, hts⟩ (hC H.size) ⟨va_cnB t hts (qws_good hcode) rfl rfl rfl (hE.1 _ hl) (hT _ hini) hd hR, hT _ hinst, hT _ hsel⟩ hpre rfl hn hls rfl (lv_room hle) hdg ⟨Nat.zero_le _, Nat.zero_le _⟩) hS hf kk
end QDCALL
def bcF (x : Int32) : Int32 :=
  let us : Int32 → Int32 → Int32 := fun x y => (x.toUInt32 >>> (y.toUInt32 &&& Int32.toUInt32 31)).toInt32
  let y1 := x - (us x 1 &&& 1431655765)
  let y2 := (y1 &&& 858993459) + (us y1 2 &&& 858993459)
  let y3 := (y2 + us y2 4) &&& 252645135
  let y4 := y3 + us y3 8
  let y5 := y4 + us y4 16
  y5 &&& 63
theorem bcF_ok : ∀ c, c < 256 → bcF (nI c) = nI (pc8 c) := by decide +kernel
section JDK
variable {l : Launch} {D : va_G} {cy ad sv : Nat → Nat} {Q : Option Value → HP → Prop} {h : HP}
theorem k_bitCount {c : Nat} (hc : c < 256) (h1 : Q (some (.int (nI (pc8 c)))) h) : qD l D cy ad sv 166 [.int (nI c)] h Q := by
  refine qD.raw (by decide +kernel) (Nat.le_of_ble_eq_true rfl) (fun p e s m below meth c9 ls A Qc F hr hl hP hD hS fin => ?_)
  obtain ⟨hx, hb, hml, hown, hts, hK, hE, hA, hlk⟩ := id F
  have hT : ∀ w ∈ qTB, w.before [Value.int (nI c)].toArray s = true := fun w hw => hts w (List.mem_cons_of_mem _ hw)
  refine lv_iload_n hx hb dJ_166_0 rfl (lv_at hl 0 rfl) ?_
  refine lv_iload_n hx hb dJ_166_1 rfl (lv_at hl 0 rfl) ?_
  refine lv_iconst (v := 1) hx hb dJ_166_2 (by decide) ?_
  refine lv_iushr hx hb dJ_166_3 rfl ?_
  refine lv_ldcw hx hb hown (hT _ lkK_java_lang_Integer_265) dJ_166_4 ?_
  refine lv_iand hx hb dJ_166_7 ?_
  refine lv_isub hx hb dJ_166_8 ?_
  refine lv_topi (fun y1 k1 => ?_)
  refine lv_istore_n hx hb dJ_166_9 rfl hl (by decide) rfl (fun ls hl => ?_)
  refine lv_iload_n hx hb dJ_166_10 rfl (lv_at hl 0 rfl) ?_
  refine lv_ldcw hx hb hown (hT _ lkK_java_lang_Integer_266) dJ_166_11 ?_
  refine lv_iand hx hb dJ_166_14 ?_
  refine lv_iload_n hx hb dJ_166_15 rfl (lv_at hl 0 rfl) ?_
  refine lv_iconst (v := 2) hx hb dJ_166_16 (by decide) ?_
  refine lv_iushr hx hb dJ_166_17 rfl ?_
  refine lv_ldcw hx hb hown (hT _ lkK_java_lang_Integer_266) dJ_166_18 ?_
  refine lv_iand hx hb dJ_166_21 ?_
  refine lv_iadd hx hb dJ_166_22 ?_
  refine lv_topi (fun y2 k2 => ?_)
  refine lv_istore_n hx hb dJ_166_23 rfl hl (by decide) rfl (fun ls hl => ?_)
  refine lv_iload_n hx hb dJ_166_24 rfl (lv_at hl 0 rfl) ?_
  refine lv_iload_n hx hb dJ_166_25 rfl (lv_at hl 0 rfl) ?_
  refine lv_iconst (v := 4) hx hb dJ_166_26 (by decide) ?_
  refine lv_iushr hx hb dJ_166_27 rfl ?_
  refine lv_iadd hx hb dJ_166_28 ?_
  refine lv_ldcw hx hb hown (hT _ lkK_java_lang_Integer_267) dJ_166_29 ?_
  refine lv_iand hx hb dJ_166_32 ?_
  refine lv_topi (fun y3 k3 => ?_)
  refine lv_istore_n hx hb dJ_166_33 rfl hl (by decide) rfl (fun ls hl => ?_)
  refine lv_iload_n hx hb dJ_166_34 rfl (lv_at hl 0 rfl) ?_
  refine lv_iload_n hx hb dJ_166_35 rfl (lv_at hl 0 rfl) ?_
  refine lv_bipush (v := 8) hx hb dJ_166_36 (by decide) ?_
  refine lv_iushr hx hb dJ_166_38 rfl ?_
  refine lv_iadd hx hb dJ_166_39 ?_
  refine lv_topi (fun y4 k4 => ?_)
  refine lv_istore_n hx hb dJ_166_40 rfl hl (by decide) rfl (fun ls hl => ?_)
  refine lv_iload_n hx hb dJ_166_41 rfl (lv_at hl 0 rfl) ?_
  refine lv_iload_n hx hb dJ_166_42 rfl (lv_at hl 0 rfl) ?_
  refine lv_bipush (v := 16) hx hb dJ_166_43 (by decide) ?_
  refine lv_iushr hx hb dJ_166_45 rfl ?_
  refine lv_iadd hx hb dJ_166_46 ?_
  refine lv_topi (fun y5 k5 => ?_)
  refine lv_istore_n hx hb dJ_166_47 rfl hl (by decide) rfl (fun ls hl => ?_)
  refine lv_iload_n hx hb dJ_166_48 rfl (lv_at hl 0 rfl) ?_
  refine lv_bipush (v := 63) hx hb dJ_166_49 (by decide) ?_
  refine lv_iand hx hb dJ_166_51 ?_
  have e9 : y5 &&& 63 = nI (pc8 c) := by
    rw [← bcF_ok c hc, k5, k4, k3, k2, k1]
    rfl
  rw [e9]
  exact W.iret hx hb hr (fun t ht hW => fin (some (.int (nI (pc8 c)))) h s.heap t h1 hP hD (hS.F ht) ht hW) hS.2.2 dJ_166_52 hlk
theorem k_coder {i : Nat} (hi : i < 15) (h1 : Q (some (.int 0)) h) : qD l D cy ad sv 173 [.ref (ad (300 + i))] h Q := by
  refine qD.raw (by decide +kernel) (Nat.le_of_ble_eq_true rfl) (fun p e s m below meth c9 ls A Qc F hr hl hP hD hS fin => ?_)
  obtain ⟨hx, hb, hml, hown, hts, hK, hE, hA, hlk⟩ := id F
  have hT : ∀ w ∈ qTB, w.before [Value.ref (ad (300 + i))].toArray s = true := fun w hw => hts w (List.mem_cons_of_mem _ hw)
  refine va_gets hx hb hE.2.2.2.1 hS hown (hT _ jF_38) (fun _ h => h) dJ_173_0 ?_
  refine lv_if_eq hx hb dJ_173_3 (tgt := 13) rfl (fun z => absurd z one_ne) (fun _ => ?_)
  refine lv_aload_n hx hb dJ_173_6 rfl (lv_at hl 0 rfl) ?_
  refine vk_getf hx hb (hE.2.1.1 i hi).2.1 hS hown (hT _ jF_15) (fun _ h => h) dJ_173_7 ?_
  refine lv_goto hx hb dJ_173_10 (tgt := 14) rfl ?_
  exact W.zret hx hb hr (by decide) (fun t ht hW => fin (some (.int 0)) h s.heap t h1 hP hD (hS.F ht) ht hW) hS.2.2 dJ_173_14 hlk
theorem k_isLatin1 {i : Nat} (hi : i < 15) (h1 : Q (some (.int 1)) h) : qD l D cy ad sv 174 [.ref (ad (300 + i))] h Q := by
  refine qD.raw (by decide +kernel) (Nat.le_of_ble_eq_true rfl) (fun p e s m below meth c9 ls A Qc F hr hl hP hD hS fin => ?_)
  obtain ⟨hx, hb, hml, hown, hts, hK, hE, hA, hlk⟩ := id F
  have hT : ∀ w ∈ qTB, w.before [Value.ref (ad (300 + i))].toArray s = true := fun w hw => hts w (List.mem_cons_of_mem _ hw)
  refine va_gets hx hb hE.2.2.2.1 hS hown (hT _ jF_38) (fun _ h => h) dJ_174_0 ?_
  refine lv_if_eq hx hb dJ_174_3 (tgt := 17) rfl (fun z => absurd z one_ne) (fun _ => ?_)
  refine lv_aload_n hx hb dJ_174_6 rfl (lv_at hl 0 rfl) ?_
  refine vk_getf hx hb (hE.2.1.1 i hi).2.1 hS hown (hT _ jF_15) (fun _ h => h) dJ_174_7 ?_
  refine lv_if_ne hx hb dJ_174_10 (tgt := 17) rfl (fun z => absurd rfl z) (fun _ => ?_)
  refine lv_iconst (v := 1) hx hb dJ_174_13 (by decide) ?_
  refine lv_goto hx hb dJ_174_14 (tgt := 18) rfl ?_
  exact W.zret hx hb hr (by decide) (fun t ht hW => fin (some (.int 1)) h s.heap t h1 hP hD (hS.F ht) ht hW) hS.2.2 dJ_174_18 hlk
theorem k_pcheck {x y : Int32} {f : Value} (hv : f = .null ∨ ∃ q : Nat, f = .ref q) (h0 : ¬ x < 0) (hxy : x < y) (h1 : Q (some (.int x)) h) : qD l D cy ad sv 181 [.int x, .int y, f] h Q := by
  rcases hv with rfl | ⟨q, rfl⟩
  · refine qD.raw (by decide +kernel) (Nat.le_of_ble_eq_true rfl) (fun p e s m below meth c9 ls A Qc F hr hl hP hD hS fin => ?_)
    obtain ⟨hx, hb, hml, hown, hts, hK, hE, hA, hlk⟩ := id F
    refine lv_iload_n hx hb dJ_181_0 rfl (lv_at hl 0 rfl) ?_
    refine lv_if_lt hx hb dJ_181_1 (tgt := 9) rfl (fun z => absurd z h0) (fun _ => ?_)
    refine lv_iload_n hx hb dJ_181_4 rfl (lv_at hl 0 rfl) ?_
    refine lv_iload_n hx hb dJ_181_5 rfl (lv_at hl 1 rfl) ?_
    refine lv_icmp_lt hx hb dJ_181_6 (tgt := 16) rfl (fun _ => ?_) (fun z => absurd hxy z)
    refine lv_iload_n hx hb dJ_181_16 rfl (lv_at hl 0 rfl) ?_
    exact W.iret hx hb hr (fun t ht hW => fin (some (.int x)) h s.heap t h1 hP hD (hS.F ht) ht hW) hS.2.2 dJ_181_17 hlk
  · refine qD.raw (by decide +kernel) (Nat.le_of_ble_eq_true rfl) (fun p e s m below meth c9 ls A Qc F hr hl hP hD hS fin => ?_)
    obtain ⟨hx, hb, hml, hown, hts, hK, hE, hA, hlk⟩ := id F
    refine lv_iload_n hx hb dJ_181_0 rfl (lv_at hl 0 rfl) ?_
    refine lv_if_lt hx hb dJ_181_1 (tgt := 9) rfl (fun z => absurd z h0) (fun _ => ?_)
    refine lv_iload_n hx hb dJ_181_4 rfl (lv_at hl 0 rfl) ?_
    refine lv_iload_n hx hb dJ_181_5 rfl (lv_at hl 1 rfl) ?_
    refine lv_icmp_lt hx hb dJ_181_6 (tgt := 16) rfl (fun _ => ?_) (fun z => absurd hxy z)
    refine lv_iload_n hx hb dJ_181_16 rfl (lv_at hl 0 rfl) ?_
    exact W.iret hx hb hr (fun t ht hW => fin (some (.int x)) h s.heap t h1 hP hD (hS.F ht) ht hW) hS.2.2 dJ_181_17 hlk
theorem jok_1059 {R : Room} (h1 : 1 ≤ R.frames) (h2 : 22 ≤ R.locals) : qcs "java/lang/String" 1059 181 3 R := qmks h1 h2 (by decide +kernel) jC_181 lkI_jdk_internal_util_Preconditions (Or.inl jL_1059) jS_181
theorem jok_9 {R : Room} (h1 : 2 ≤ R.frames) (h2 : 43 ≤ R.locals) : qcs "java/lang/StringLatin1" 9 175 2 R := qmks h1 h2 (by decide +kernel) jC_175 lkI_java_lang_String (Or.inl jL_9) jS_175
theorem jok_495 {R : Room} (h1 : 3 ≤ R.frames) (h2 : 64 ≤ R.locals) : qcs "java/lang/String" 495 176 2 R := qmks h1 h2 (by decide +kernel) jC_176 lkI_java_lang_StringLatin1 (Or.inl jL_495) jS_176
theorem jok_335 {R : Room} (h1 : 1 ≤ R.frames) (h2 : 20 ≤ R.locals) : qcv "java/lang/String" 335 173 0 60 R := qmkv h1 h2 (by decide +kernel) jC_173 lkI_java_lang_String (Or.inl jL_335) jM_173 jE_173 (Or.inl ⟨rfl, rfl⟩)
theorem jok_492 {R : Room} (h1 : 1 ≤ R.frames) (h2 : 20 ≤ R.locals) : qcv "java/lang/String" 492 174 0 60 R := qmkv h1 h2 (by decide +kernel) jC_174 lkI_java_lang_String (Or.inl jL_492) jM_174 jE_174 (Or.inl ⟨rfl, rfl⟩)
theorem k_scheck {x y : Int32} (h0 : ¬ x < 0) (hxy : x < y) (h1 : Q none h) : qD l D cy ad sv 175 [.int x, .int y] h Q := by
  refine qD.raw (by decide +kernel) (Nat.le_of_ble_eq_true rfl) (fun p e s m below meth c9 ls A Qc F hr hl hP hD hS fin => ?_)
  obtain ⟨hx, hb, hml, hown, hts, hK, hE, hA, hlk⟩ := id F
  have hT : ∀ w ∈ qTB, w.before [Value.int x, Value.int y].toArray s = true := fun w hw => hts w (List.mem_cons_of_mem _ hw)
  obtain ⟨f, hv, hf⟩ := hE.2.2.2.2
  refine lv_iload_n hx hb dJ_175_0 rfl (lv_at hl 0 rfl) ?_
  refine lv_iload_n hx hb dJ_175_1 rfl (lv_at hl 1 rfl) ?_
  refine va_gets hx hb hf hS hown (hT _ jF_1053) (fun _ h => h) dJ_175_2 ?_
  refine qcallSd (rs := [.int x, .int y, f]) (rest := []) F (jok_1059 (Nat.le_of_ble_eq_true rfl) (Nat.le_of_ble_eq_true rfl)) dJ_175_5 rfl (Nat.zero_le _) (k_pcheck (Q := fun v u => v = some (.int x) ∧ u = h) hv h0 hxy ⟨rfl, rfl⟩) hl.1 hP hD hS (fun v u H1 locs1 hq hP1 hD1 hS1 => ?_)
  obtain ⟨rfl, rfl⟩ := hq
  refine lv_pop hx hb dJ_175_8 (va := .int x) rfl ?_
  exact W.vret hx hb hr (fun t ht hW => fin none u H1 t h1 hP1 hD1 (hS1.F ht) ht hW) hS1.2.2 dJ_175_9 hlk
theorem sc15 : ∀ i, i < 15 → qsln.getD i 0 = (stL i).length ∧ (stL i).length < 7 := by decide +kernel
theorem sd15 : ∀ i, i < 15 → ∀ j, j < 6 → (((qsby.getD i []).getD j 0 &&& 255).toUInt32 % 65536).toInt32 = nI ((stL i).getD j 0) ∧ narrow .char (.int (nI ((stL i).getD j 0))) = .int (nI ((stL i).getD j 0)) := by decide +kernel
theorem k_lcharAt {i j : Nat} (hi : i < 15) (hj : j < (stL i).length) (h1 : Q (some (.int (nI ((stL i).getD j 0)))) h) : qD l D cy ad sv 176 [.ref (sv i), .int (nI j)] h Q := by
  refine qD.raw (by decide +kernel) (Nat.le_of_ble_eq_true rfl) (fun p e s m below meth c9 ls A Qc F hr hl hP hD hS fin => ?_)
  obtain ⟨hx, hb, hml, hown, hts, hK, hE, hA, hlk⟩ := id F
  obtain ⟨e1, e2⟩ := sc15 i hi
  obtain ⟨g1, g2⟩ := sd15 i hi j (by omega)
  have hV := (hE.2.1.1 i hi).2.2.2
  rw [e1] at hV
  refine lv_iload_n hx hb dJ_176_0 rfl (lv_at hl 1 rfl) ?_
  refine lv_aload_n hx hb dJ_176_1 rfl (lv_at hl 0 rfl) ?_
  refine va_tlen hx hb hV hS (v := nI (stL i).length) rfl dJ_176_2 ?_
  refine qcallSd (rs := [.int (nI j), .int (nI (stL i).length)]) (rest := []) F (jok_9 (Nat.le_of_ble_eq_true rfl) (Nat.le_of_ble_eq_true rfl)) dJ_176_3 rfl (Nat.zero_le _) (k_scheck (Q := fun v u => v = none ∧ u = h) (by rw [i32_lt, nI_toInt (by omega), i32_zero]; omega) (by rw [i32_lt, nI_toInt (by omega), nI_toInt (by omega)]; omega) ⟨rfl, rfl⟩) hl.1 hP hD hS (fun v u H1 locs1 hq hP1 hD1 hS1 => ?_)
  obtain ⟨rfl, rfl⟩ := hq
  refine lv_aload_n hx hb dJ_176_6 rfl (lv_at hl 0 rfl) ?_
  refine lv_iload_n hx hb dJ_176_7 rfl (lv_at hl 1 rfl) ?_
  refine va_tb hx hb hV hS1 (v := .int ((qsby.getD i []).getD j 0)) (qin_nI hj (by omega)) (by rw [nI_clamp (by omega)]) dJ_176_8 ?_
  refine lv_sipush (v := 255) hx hb dJ_176_9 (by decide) ?_
  refine lv_iand hx hb dJ_176_12 ?_
  refine lv_i2c hx hb dJ_176_13 g1 ?_
  exact W.zret hx hb hr g2 (fun t ht hW => fin (some (.int (nI ((stL i).getD j 0)))) u H1 t h1 hP1 hD1 (hS1.F ht) ht hW) hS1.2.2 dJ_176_14 hlk
theorem k_length {i : Nat} (hi : i < 15) (h1 : Q (some (.int (nI (stL i).length))) h) : qD l D cy ad sv 171 [.ref (ad (300 + i))] h Q := by
  refine qD.raw (by decide +kernel) (Nat.le_of_ble_eq_true rfl) (fun p e s m below meth c9 ls A Qc F hr hl hP hD hS fin => ?_)
  obtain ⟨hx, hb, hml, hown, hts, hK, hE, hA, hlk⟩ := id F
  have hT : ∀ w ∈ qTB, w.before [Value.ref (ad (300 + i))].toArray s = true := fun w hw => hts w (List.mem_cons_of_mem _ hw)
  obtain ⟨e1, e2⟩ := sc15 i hi
  have hV := (hE.2.1.1 i hi).2.2.2
  rw [e1] at hV
  refine lv_aload_n hx hb dJ_171_0 rfl (lv_at hl 0 rfl) ?_
  refine vk_getf hx hb (hE.2.1.1 i hi).2.2.1 hS hown (hT _ jF_9) (fun _ h => h) dJ_171_1 ?_
  refine va_tlen hx hb hV hS (v := nI (stL i).length) rfl dJ_171_4 ?_
  refine lv_aload_n hx hb dJ_171_5 rfl (lv_at hl 0 rfl) ?_
  refine qcallVd (rs := []) (rest := [.int (nI (stL i).length)]) F (jok_335 (Nat.le_of_ble_eq_true rfl) (Nat.le_of_ble_eq_true rfl)) dJ_171_6 rfl hi (Nat.le_of_ble_eq_true rfl) (k_coder (Q := fun v u => v = some (.int 0) ∧ u = h) hi ⟨rfl, rfl⟩) hl.1 hP hD hS (fun v u H1 locs1 hq hP1 hD1 hS1 => ?_)
  obtain ⟨rfl, rfl⟩ := hq
  refine lv_ishr hx hb dJ_171_9 ?_
  have e9 : ∀ n, n < 7 → nI n >>> ((0 : Int32) &&& 31) = nI n := by decide +kernel
  rw [e9 _ e2]
  exact W.iret hx hb hr (fun t ht hW => fin (some (.int (nI (stL i).length))) u H1 t h1 hP1 hD1 (hS1.F ht) ht hW) hS1.2.2 dJ_171_10 hlk
theorem k_charAt {i j : Nat} (hi : i < 15) (hj : j < (stL i).length) (h1 : Q (some (.int (nI ((stL i).getD j 0)))) h) : qD l D cy ad sv 172 [.ref (ad (300 + i)), .int (nI j)] h Q := by
  refine qD.raw (by decide +kernel) (Nat.le_of_ble_eq_true rfl) (fun p e s m below meth c9 ls A Qc F hr hl hP hD hS fin => ?_)
  obtain ⟨hx, hb, hml, hown, hts, hK, hE, hA, hlk⟩ := id F
  have hT : ∀ w ∈ qTB, w.before [Value.ref (ad (300 + i)), Value.int (nI j)].toArray s = true := fun w hw => hts w (List.mem_cons_of_mem _ hw)
  obtain ⟨e1, e2⟩ := sc15 i hi
  obtain ⟨g1, g2⟩ := sd15 i hi j (by omega)
  refine lv_aload_n hx hb dJ_172_0 rfl (lv_at hl 0 rfl) ?_
  refine qcallVd (rs := []) (rest := []) F (jok_492 (Nat.le_of_ble_eq_true rfl) (Nat.le_of_ble_eq_true rfl)) dJ_172_1 rfl hi (Nat.zero_le _) (k_isLatin1 (Q := fun v u => v = some (.int 1) ∧ u = h) hi ⟨rfl, rfl⟩) hl.1 hP hD hS (fun v u H1 locs1 hq hP1 hD1 hS1 => ?_)
  obtain ⟨rfl, rfl⟩ := hq
  refine lv_if_eq hx hb dJ_172_4 (tgt := 16) rfl (fun z => absurd z one_ne) (fun _ => ?_)
  refine lv_aload_n hx hb dJ_172_7 rfl (lv_at hl 0 rfl) ?_
  refine vk_getf hx hb (hE.2.1.1 i hi).2.2.1 hS1 hown (hT _ jF_9) (fun _ h => h) dJ_172_8 ?_
  refine lv_iload_n hx hb dJ_172_11 rfl (lv_at hl 1 rfl) ?_
  refine qcallSd (rs := [.ref (sv i), .int (nI j)]) (rest := []) F (jok_495 (Nat.le_of_ble_eq_true rfl) (Nat.le_of_ble_eq_true rfl)) dJ_172_12 rfl (Nat.zero_le _) (k_lcharAt (Q := fun v w => v = some (.int (nI ((stL i).getD j 0))) ∧ w = u) hi hj ⟨rfl, rfl⟩) hl.1 hP1 hD1 hS1 (fun v w H2 locs2 hq hP2 hD2 hS2 => ?_)
  obtain ⟨rfl, rfl⟩ := hq
  exact W.zret hx hb hr g2 (fun t ht hW => fin (some (.int (nI ((stL i).getD j 0)))) w H2 t h1 hP2 hD2 (hS2.F ht) ht hW) hS2.2.2 dJ_172_15 hlk
theorem bc_ok : bcOK l D cy ad sv := fun c h Q' hc h1 => k_bitCount (Q := Q') hc h1
theorem st_ok : stOK l D cy ad sv := ⟨fun i h Q' hi h1 => k_length (Q := Q') hi h1, fun i j h Q' hi hj h1 => k_charAt (Q := Q') hi hj h1⟩
end JDK
