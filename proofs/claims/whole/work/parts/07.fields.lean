section QSOUND3
variable {p : Program} {l : Launch} {e : Env} {R : Room} {s : State} {m : MethodId} {args : Array Value} {below : List Frame} {meth : Method} {c : Code} {cc : ByteArray} {nL mi : Nat} {own : String} {A : Nat → Prop} {D : va_G} {cy ad sv : Nat → Nat} {Qs : State → Prop} {rt : Option FieldType}
set_option maxHeartbeats 4000000 in
theorem qgetS {H : Heap} {locs : List Loc} {pc idx a t u o : Nat} {ls : Array Slot} {r : List Value} {h : HP} (F : qRun p s m args meth c cc nL mi own A D cy ad sv) (hok : qfo own idx a t u) (hdg : decode cc pc = .ok (.getfield idx, 3)) (hk : (qkd o).1 = u) (hP : va_P D vwCl (qwld cy ad h) H)
    (kk : W p l e R s m args below meth c H locs 0 0 Qs (F0 m (pc + 3) ls (qmv ad (qgv h o a t) :: r))) : W p l e R s m args below meth c H locs 0 0 Qs (F0 m pc ls (.ref (ad o) :: r)) := by
  obtain ⟨hx, hb, hml, hown, hts, hK, hE, hA, hlk⟩ := F
  obtain ⟨C, T, N, hcl, haN, hlink, hft⟩ := hok
  have hT : ∀ w ∈ qTB, w.before args s = true := fun w hw => hts w (List.mem_cons_of_mem _ hw)
  obtain ⟨hlay, -, -, hu, -⟩ := qcls u C T N hcl
  obtain ⟨q0, hq, -⟩ := qwld_get (cy := cy) (ad := ad) (h := h) (qkd_in (i := o) (by omega))
  rw [qcel_O (by omega), hk] at hq
  exact va_get (D := D) (ci := u) (C := C) (T := T) (N := N) hx hb hT hlay hown hK hP q0 hq hcl a haN (hT _ hlink) (fun _ h => h) (by rw [List.getElem?_mapIdx, hft]; rfl) hdg kk
set_option maxHeartbeats 4000000 in
theorem qputS {H : Heap} {locs : List Loc} {pc idx a t u o : Nat} {ls : Array Slot} {r : List Value} {v : Value} {h : HP} (F : qRun p s m args meth c cc nL mi own A D cy ad sv) (hok : qfo own idx a t u) (hokp : qfp a t u) (hdg : decode cc pc = .ok (.putfield idx, 3)) (hk : (qkd o).1 = u) (hv : qps t v) (hP : va_P D vwCl (qwld cy ad h) H) (hD : va_D A (qwld cy ad h)) (hS : va_S A s.heap H locs)
    (kk : ∀ (H1 : Heap) (locs1 : List Loc), va_P D vwCl (qwld cy ad (qpv h o a v)) H1 → va_D A (qwld cy ad (qpv h o a v)) → va_S A s.heap H1 locs1 → W p l e R s m args below meth c H1 locs1 0 0 Qs (F0 m (pc + 3) ls r)) : W p l e R s m args below meth c H locs 0 0 Qs (F0 m pc ls (qmv ad v :: .ref (ad o) :: r)) := by
  obtain ⟨hx, hb, hml, hown, hts, hK, hE, hA, hlk⟩ := F
  obtain ⟨C, T, N, hcl, haN, hlink, hft⟩ := hok
  obtain ⟨C', T', N', hcl', hfin, hty⟩ := hokp
  cases hcl.symm.trans hcl'
  have hT : ∀ w ∈ qTB, w.before args s = true := fun w hw => hts w (List.mem_cons_of_mem _ hw)
  obtain ⟨hlay, ⟨ty0, hty0⟩, hnm, hu, hlenN⟩ := qcls u C T N hcl
  obtain ⟨q0, hq, hi⟩ := qwld_get (cy := cy) (ad := ad) (h := h) (qkd_in (i := o) (by omega))
  have hq2 := hq
  rw [qcel_O (by omega), hk] at hq2
  have hset : (qwld cy ad h).set q0 (ad o, .inr (u, ((qft u).mapIdx (fun k t => qmv ad (qgv h o k t))).set a (qmv ad v))) = qwld cy ad (qpv h o a v) := by
    refine qwld_set hi ?_ ?_
    · rw [qcel_O (by omega), hk]
      congr 2
      apply List.ext_getElem?
      intro n
      rw [List.getElem?_mapIdx, List.getElem?_set, List.getElem?_mapIdx, List.length_mapIdx]
      by_cases hn : a = n
      · subst hn
        rw [if_pos rfl, hft, if_pos (by omega)]
        unfold qps at hv
        split at hv
        · simp [qpv, qgv, up2, qmv]
        · simp [qpv, qgv, up2, qmv]
        · simp [qpv, qgv, up2, qmv, qrv]
        · simp [qpv, qgv, up2, qmv]
        · exact hv.elim
      · rw [if_neg hn]
        congr 1
        funext z
        unfold qps at hv
        have hn' : ¬ n = a := fun h => hn h.symm
        split at hv
        · unfold qgv; split <;> simp [qpv, up2, hn']
        · unfold qgv; split <;> simp [qpv, up2, hn']
        · unfold qgv; split <;> simp [qpv, up2, hn']
        · unfold qgv; split <;> simp [qpv, up2, hn']
        · exact hv.elim
    · intro j hj
      unfold qps at hv
      split at hv
      · exact qcel_ne (by simp [qpv, up2_ne hj]) rfl rfl
      · exact qcel_ne rfl (by simp [qpv, up2_ne hj]) rfl
      · exact qcel_ne rfl rfl (by simp [qpv, up2_ne hj])
      · exact qcel_ne (by simp [qpv, up2_ne hj]) rfl rfl
      · exact hv.elim
  have hl : a < ((qft u).mapIdx (fun k t => qmv ad (qgv h o k t))).length := by rw [List.length_mapIdx]; omega
  have kk' : ∀ (H1 : Heap) (locs1 : List Loc), va_P D vwCl ((qwld cy ad h).set q0 (ad o, .inr (u, ((qft u).mapIdx (fun k t => qmv ad (qgv h o k t))).set a (qmv ad v)))) H1 → va_D A ((qwld cy ad h).set q0 (ad o, .inr (u, ((qft u).mapIdx (fun k t => qmv ad (qgv h o k t))).set a (qmv ad v)))) → va_S A s.heap H1 locs1 → W p l e R s m args below meth c H1 locs1 0 0 Qs (F0 m (pc + 3) ls r) := by
    rw [hset]; exact kk
  rcases hty with ⟨rfl, hty⟩ | ⟨rfl, hty⟩ | ⟨rfl, K, hty⟩ | ⟨rfl, hty⟩
  · cases v <;> simp only [qps] at hv
    exact va_put (D := D) (ci := u) (C := C) (T := T) (N := N) (ty := .int) hx hb hT hlay ty0 hty0 hnm hown hK hP hD hS q0 hq2 hcl a haN (hT _ hlink) (fun _ h => h) hfin hty rfl rfl hl hdg kk'
  · cases v <;> simp only [qps] at hv
    exact va_put (D := D) (ci := u) (C := C) (T := T) (N := N) (ty := .long) hx hb hT hlay ty0 hty0 hnm hown hK hP hD hS q0 hq2 hcl a haN (hT _ hlink) (fun _ h => h) hfin hty rfl rfl hl hdg kk'
  · cases v <;> simp only [qps] at hv
    exact va_put (D := D) (ci := u) (C := C) (T := T) (N := N) (ty := .object K) hx hb hT hlay ty0 hty0 hnm hown hK hP hD hS q0 hq2 hcl a haN (hT _ hlink) (fun _ h => h) hfin hty rfl rfl hl hdg kk'
  · cases v <;> simp only [qps] at hv
    exact va_put (D := D) (ci := u) (C := C) (T := T) (N := N) (ty := .boolean) hx hb hT hlay ty0 hty0 hnm hown hK hP hD hS q0 hq2 hcl a haN (hT _ hlink) (fun _ h => h) hfin hty (by rcases hv with rfl | rfl <;> rfl) (by rcases hv with rfl | rfl <;> rfl) hl hdg kk'
end QSOUND3
