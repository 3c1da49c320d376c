/-! the start: the walk to the loop (mk9l.py; the rows ahead of it are the skeleton's) -/
def R_law : String := "UsedUpLaw"
def lw_P (b : Addr) (xs : List Int32) (args : Array Value) (s : State) : Prop := args = #[.ref b] ∧ s.IntsAt b xs ∧ xs.length ≤ 3072 ∧ (Jvm.Cond.and given_1 narrow_1).before args s = true
def lw_Q (_ : Array Value) (s : State) (o : Outcome) (t : State) : Prop := o = .returned (some (.int 1)) ∧ Framed s o t [] 101 7052
def lw_Z (below : List Frame) (a : Array Value) (s : State) : State → Prop := fun t => ∃ o, t.status = .running ∧ Ended t below o ∧ lw_Q a s o t
theorem lw_ret {p : Program} {l : Launch} {e : Env} {s : State} {m : MethodId} {below : List Frame} {meth : Method} {c : Code} {b : Nat} (hx : p.tables.exec = Jvm.exec) (hb : c.code = code) (hr : meth.sig.returnType = ret) (hlocks : meth.locks = false) {pc : Nat} {H : Heap} {ls : Array Slot} (hdg : decode code pc = .ok (.ireturn, 1)) : W p l e room_1 s m #[Value.ref b] below meth c H [] 101 7052 (lw_Z below #[Value.ref b] s) (F0 m pc ls [.int 1]) := by
  intro T hT X
  obtain ⟨fs, hret, hrun, hended, hW, hframe⟩ := X.leave (v := some (.int 1)) (hlocks := hlocks) (fun h => by rw [hr] at h; cases h)
  have hmeth' : T.vm.method? m = some meth := X.method'
  refine ⟨T.setFrames fs, ?_, .returned (some (.int 1)), hrun, hended, rfl, ⟨_, rfl⟩, hW, hframe⟩
  jvm_step X.here [X.here.top, hx, hb, hdg, hmeth', hr, ret, narrow_b1]
  (try refine ⟨rfl, ?_⟩); (try refine ⟨rfl, ?_⟩)
  first | (intro acts; rw [hret _ acts rfl rfl rfl]) | rw [hret _ _ rfl rfl rfl]
  exact Steps.refl _
def lw_At (p : Program) (s : State) (m : MethodId) (meth : Method) (c : Code) (b L : Nat) (xs : Nat → Int32) : Prop :=
  p.tables.exec = Jvm.exec ∧ c.code = code ∧ meth.sig.returnType = ret ∧ c.maxLocals = 4 ∧ s.vm.findClass R_law = some m.cls ∧ (∀ w ∈ lw_tbl, w.before #[Value.ref b] s = true) ∧ va_X b L xs s s.heap ∧ b < s.heap.size ∧ meth.locks = false ∧ (Jvm.Cond.and given_1 narrow_1).before #[Value.ref b] s = true
set_option maxRecDepth 20000 in
set_option maxHeartbeats 4000000 in
theorem whole_start {p : Program} {e : Env} {s : State} {m : MethodId} {below : List Frame} {meth : Method} {c : Code} (l : Launch) {b L : Nat} {xs : Nat → Int32} (hL : L ≤ 3072) (C0 : lw_At p s m meth c b L xs) : W p l e room_1 s m #[Value.ref b] below meth c s.heap [] 0 0 (lw_Z below #[Value.ref b] s) (entryFrame m ([Value.ref b] : List Value).toArray 4) := by
  obtain ⟨hx, hb, hr, hml, hown0, hts, hX, hbl, hlocks, hgv⟩ := C0
  have hown : s.vm.findClass "UsedUpLaw" = some m.cls := hown0
  have hq : ∀ w ∈ qTB, w.before #[Value.ref b] s = true := fun w h => hts w (qTB_lw h)
  obtain ⟨D, cy, hK⟩ := sK hq
  generalize hAe : (fun q : Nat => s.heap.size ≤ q) = A
  have hA : ∀ q, s.heap.size ≤ q → A q := fun q h => by rw [← hAe]; exact h
  have hA1 : ∀ q, A q → s.heap.size ≤ q := fun q h => by rw [← hAe] at h; exact h
  obtain ⟨aK, sv, hE⟩ := sE hts hgv (fun a h z => absurd (hA1 a z) (by omega))
  have hN : ∀ w ∈ qnest, va_Nw w s := fun w hw => by
    have h2 := (List.mem_filter.mp hw).1
    obtain ⟨a, i, y, b9, rfl⟩ := qnest_on hw
    exact va_Nw.of rfl (hts _ h2)
  have hl := lv_entry [Value.ref b] (n := 4) (Nat.le_of_ble_eq_true rfl)
  rw [lg_entry_eq]
  generalize (lg_sl [Value.ref b] ++ List.replicate (4 - (lg_sl [Value.ref b]).length) Slot.unset).toArray = ls at hl ⊢
  have hl : lv_has ls 4 [(0, .ref b)] := hl
  have hP : va_P D vwCl [] s.heap := fun k q h => by simp at h
  have hD : va_D A [] := ⟨fun i j p q h => by simp at h, fun k q h => by simp at h⟩
  have hS : va_S A s.heap s.heap [] := va_S.rf
  refine va_new (ci := 8) (fs := [.null, .null, .null, .null, .null, .null, .null, .null, .int 0, .null, .null, .int 0, .null, .int 0, .int 0]) (C := RX8) (T := TX8) (N := 15) hx hb hq qlayX8 tyX8 tyX8_ok hown (hq _ sL_7) (hq _ cI8) (hq _ cT8) hK hP hD hS hA rfl (by decide +kernel) (Nat.le_of_ble_eq_true rfl) (Nat.le_of_ble_eq_true rfl) dL_0 (fun x8 H hP hD hS => ?_)
  have hP : va_P D vwCl [(x8, .inr (8, [.null, .null, .null, .null, .null, .null, .null, .null, .int 0, .null, .null, .int 0, .null, .int 0, .int 0]))] H := hP
  have hD : va_D A [(x8, .inr (8, [.null, .null, .null, .null, .null, .null, .null, .null, .int 0, .null, .null, .int 0, .null, .int 0, .int 0]))] := hD
  refine W.widen (k := 1) (n := 15) (Nat.le_refl _) (Nat.le_refl _) ?_
  refine lv_dup hx hb dL_3 rfl ?_
  have hPc := hP
  have hDc := hD
  refine cn_go (wr := []) (va_runI (As := []) (rest := [.ref x8]) ⟨hx, hb, hml, hown, hq⟩ (ct_X8 l D cy x8 H.size) ⟨callB_of 0 hq (qTB_goodc (fun _ h => h) cC8) rfl rfl rfl (hq _ cT8) (hq _ sM_9) (by decide +kernel) ⟨Nat.le_of_ble_eq_true rfl, Nat.le_of_ble_eq_true rfl⟩, rfl, hq _ cN8⟩ ⟨cPc_blind, fun U hU hW => ⟨rfl, by rw [hU], by rw [hU]; exact hPc, va_K.moved hW.alike hK, hDc.weaken (fun _ _ _ _ => trivial), va_Nw_warm hW hN⟩⟩ rfl rfl hl.1 rfl (lv_room (Nat.le_of_ble_eq_true rfl)) dL_4 ⟨Nat.le_of_ble_eq_true rfl, Nat.le_of_ble_eq_true rfl⟩) hP hD hS hA [0] [] rfl rfl (by decide +kernel) (by decide +kernel) (fun u H locs hB hP hD hS => ?_)
  obtain ⟨a8, e8, hu⟩ := sW8 hB
  subst hu
  have hP : va_P D vwCl (ord8.map (s_wf cy a8)) H := hP
  have hD : va_D A (ord8.map (s_wf cy a8)) := hD
  refine W.widen (k := 59) (n := 4252) (Nat.le_refl _) (Nat.le_refl _) ?_
  refine lv_astore_n (i := 1) (lv' := [(1, .ref x8), (0, .ref b)]) hx hb dL_7 rfl hl (by decide) rfl (fun ls hl => ?_)
  refine va_new (ci := 9) (fs := [.int 0, .int 0, .null, .null, .int 0, .int 0, .null, .null, .null, .null, .null, .null, .null, .null, .null, .int 0, .null, .null, .int 0, .int 0, .null, .null, .null, .null, .null, .null, .null, .int 0, .null, .null, .int 0, .null, .null, .null, .null, .null, .int 0, .null, .null, .null, .null, .null, .null, .int 0, .null, .null, .null, .int 0, .null, .null, .int 0, .int 0, .null, .null, .int 0, .int 0, .null, .int 0, .int 0, .int 0, .int 0, .long 0, .int 0, .int 0]) (C := RX9) (T := TX9) (N := 64) hx hb hq qlayX9 tyX9 tyX9_ok hown (hq _ sL_10) (hq _ cI9) (hq _ cT9) hK hP hD hS hA rfl (by decide +kernel) (Nat.le_of_ble_eq_true rfl) (Nat.le_of_ble_eq_true rfl) dL_8 (fun x9 H hP hD hS => ?_)
  refine W.widen (k := 60) (n := 4316) (Nat.le_refl _) (Nat.le_refl _) ?_
  refine lv_dup hx hb dL_11 rfl ?_
  have hPc := hP.sub (ws' := [(x9, .inr (9, [.int 0, .int 0, .null, .null, .int 0, .int 0, .null, .null, .null, .null, .null, .null, .null, .null, .null, .int 0, .null, .null, .int 0, .int 0, .null, .null, .null, .null, .null, .null, .null, .int 0, .null, .null, .int 0, .null, .null, .null, .null, .null, .int 0, .null, .null, .null, .null, .null, .null, .int 0, .null, .null, .null, .int 0, .null, .null, .int 0, .int 0, .null, .null, .int 0, .int 0, .null, .int 0, .int 0, .int 0, .int 0, .long 0, .int 0, .int 0]))]) [59] rfl
  have hDc := hD.sub (ws' := [(x9, .inr (9, [.int 0, .int 0, .null, .null, .int 0, .int 0, .null, .null, .null, .null, .null, .null, .null, .null, .null, .int 0, .null, .null, .int 0, .int 0, .null, .null, .null, .null, .null, .null, .null, .int 0, .null, .null, .int 0, .null, .null, .null, .null, .null, .int 0, .null, .null, .null, .null, .null, .null, .int 0, .null, .null, .null, .int 0, .null, .null, .int 0, .int 0, .null, .null, .int 0, .int 0, .null, .int 0, .int 0, .int 0, .int 0, .long 0, .int 0, .int 0]))]) [59] (by decide) rfl
  refine cn_go (wr := ord8.map (s_wf cy a8)) (va_runI (As := []) (rest := [.ref x9]) ⟨hx, hb, hml, hown, hq⟩ (ct_X9 l D cy x9 H.size) ⟨callB_of 0 hq (qTB_goodc (fun _ h => h) cC9) rfl rfl rfl (hq _ cT9) (hq _ sM_12) (by decide +kernel) ⟨Nat.le_of_ble_eq_true rfl, Nat.le_of_ble_eq_true rfl⟩, rfl, hq _ cN9⟩ ⟨cPc_blind, fun U hU hW => ⟨rfl, by rw [hU], by rw [hU]; exact hPc, va_K.moved hW.alike hK, hDc.weaken (fun _ _ _ _ => trivial), va_Nw_warm hW hN⟩⟩ rfl rfl hl.1 rfl (lv_room (Nat.le_of_ble_eq_true rfl)) dL_12 ⟨Nat.le_of_ble_eq_true rfl, Nat.le_of_ble_eq_true rfl⟩) hP hD hS hA [59] [0, 1, 2, 3, 4, 5, 6, 7, 8, 9, 10, 11, 12, 13, 14, 15, 16, 17, 18, 19, 20, 21, 22, 23, 24, 25, 26, 27, 28, 29, 30, 31, 32, 33, 34, 35, 36, 37, 38, 39, 40, 41, 42, 43, 44, 45, 46, 47, 48, 49, 50, 51, 52, 53, 54, 55, 56, 57, 58] rfl rfl (by decide +kernel) (by decide +kernel) (fun u H locs hB hP hD hS => ?_)
  obtain ⟨a9, e9, hu⟩ := sW9 hB
  subst hu
  refine W.widen (k := 101) (n := 7052) (Nat.le_refl _) (Nat.le_refl _) ?_
  refine lv_astore_n (i := 2) (lv' := [(2, .ref x9), (1, .ref x8), (0, .ref b)]) hx hb dL_15 rfl hl (by decide) rfl (fun ls hl => ?_)
  refine lv_iconst (v := nI 0) hx hb dL_16 (by decide) ?_
  refine lv_istore_n (i := 3) (lv' := [(3, .int (nI 0)), (2, .ref x9), (1, .ref x8), (0, .ref b)]) hx hb dL_17 rfl hl (by decide) rfl (fun ls hl => ?_)
  have hP : va_P D vwCl (ord8.map (s_wf cy a8) ++ ord9.map (s_wf cy a9)) H := hP
  have hD : va_D A (ord8.map (s_wf cy a8) ++ ord9.map (s_wf cy a9)) := hD
  rw [sG8 (a8 := a8) (a9 := a9) (aK := aK), sG9 (a8 := a8) (a9 := a9) (aK := aK), ← List.map_append] at hP hD
  have hP := s_P hP
  have hD := s_D hD
  have E := hE (s_adj a8 a9 aK) (fun k => s_adjK k)
  have hl : lv_has ls 4 [(3, .int (nI 0)), (2, .ref (s_adj a8 a9 aK 0)), (1, .ref (s_adj a8 a9 aK 100)), (0, .ref b)] := by
    rw [show s_adj a8 a9 aK 0 = x9 from e9, show s_adj a8 a9 aK 100 = x8 from e8]
    exact hl
  refine l_loop (L := L) (xs := xs) (A := A) (D := D) (cy := cy) (ad := s_adj a8 a9 aK) (sv := sv) ⟨hx, hb, hml, hown, hq, hK, E, hA, hX, hbl, fun z => absurd (hA1 b z) (by omega), hL⟩ (fun H locs ls hS => ?_) (L + 1) 0 sH0 H locs ls (by omega) (by omega) hl s_Rel hP hD hS
  refine lv_iconst (v := 1) hx hb dL_761 (by decide) ?_
  refine va_forget (fun q h => hA1 _ (hS.2.2 q h)) ?_
  exact lw_ret hx hb hr hlocks dL_762
