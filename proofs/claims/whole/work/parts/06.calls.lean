section QSOUND2
variable {p : Program} {l : Launch} {e : Env} {R : Room} {s : State} {m : MethodId} {args : Array Value} {below : List Frame} {meth : Method} {c : Code} {cc : ByteArray} {nL mi : Nat} {own : String} {A : Nat → Prop} {D : va_G} {cy ad sv : Nat → Nat} {Qs : State → Prop} {rt : Option FieldType}
theorem qcallS {H : Heap} {locs : List Loc} {pc idx a t : Nat} {ls : Array Slot} {st : List Value} {h : HP} {Q : Option Value → HP → Prop} (F : qRun p s m args meth c cc nL mi own A D cy ad sv) (hok : qcs own idx a t R) (hdg : decode cc pc = .ok (.invokestatic idx, 3)) (hlen : t ≤ st.length) (hle : qle (st.drop t)) (hC : qC l D cy ad sv a (st.take t).reverse h Q)
    (hls : ls.size = nL) (hP : va_P D vwCl (qwld cy ad h) H) (hD : va_D A (qwld cy ad h)) (hS : va_S A s.heap H locs)
    (kk : ∀ (v : Option Value) (u : HP) (H1 : Heap) (locs1 : List Loc), Q v u → va_P D vwCl (qwld cy ad u) H1 → va_D A (qwld cy ad u) → va_S A s.heap H1 locs1 → W p l e R s m args below meth c H1 locs1 0 0 Qs (F0 m (pc + 3) ls ((v.map (qmv ad)).toList ++ (st.drop t).map (qmv ad)))) : W p l e R s m args below meth c H locs 0 0 Qs (F0 m pc ls (st.map (qmv ad))) := by
  obtain ⟨hx, hb, hml, hown, hts, hK, hE, hA, hlk⟩ := F
  obtain ⟨⟨hR, hd, hcode, hini, hlink⟩, hstat⟩ := hok
  have hf := qfree (cy := cy) (ad := ad) (h := h) hD hS hA
  have hT : ∀ w ∈ qTB, w.before args s = true := fun w hw => hts w (List.mem_cons_of_mem _ hw)
  have hn : ((st.take t).reverse.map (qmv ad)).length = t := by simp; omega
  have hst : (F0 m pc ls (st.map (qmv ad))).stack = ((st.take t).reverse.map (qmv ad)).reverse ++ (st.drop t).map (qmv ad) := by
    show st.map (qmv ad) = _
    rw [List.map_reverse, List.reverse_reverse, ← List.map_append, List.take_append_drop]
  have hpre : PreS s H (qPc D cy ad sv h H.size (st.take t).reverse) ((st.take t).reverse.map (qmv ad)) := ⟨qPc_blind, fun U hU hW => ⟨rfl, by rw [hU], by rw [hU]; exact hP, va_K.moved hW.alike hK, hD.weaken (fun _ _ _ _ => trivial), by rw [hU]; exact hE.call hS hf hW⟩⟩
  rcases hlink with hl | ⟨host, hl⟩
  · refine qgoon (va_runS (rest := (st.drop t).map (qmv ad)) ⟨hx, hb, hml, hown, hts⟩ (hC H.size) ⟨callB_of t hts (qws_good hcode) rfl rfl rfl (hT _ hini) (hT _ hl) hd hR, hT _ hstat⟩ hpre rfl hn hls hst (lv_room (by simpa using qle_sum (ad := ad) hle)) hdg ⟨Nat.zero_le _, Nat.zero_le _⟩) hS hf kk
  · refine qgoon (va_runSN (rest := (st.drop t).map (qmv ad)) ⟨hx, hb, hml, hown, hts⟩ (hC H.size) ⟨va_cnB t hts (qws_good hcode) rfl rfl rfl (hE.1 _ hl) (hT _ hini) hd hR, hT _ hstat, trivial⟩ hpre rfl hn hls hst (lv_room (by simpa using qle_sum (ad := ad) hle)) hdg ⟨Nat.zero_le _, Nat.zero_le _⟩) hS hf kk
theorem qcallV {H : Heap} {locs : List Loc} {pc idx a t u o : Nat} {ls : Array Slot} {st as : List Value} {h : HP} {Q : Option Value → HP → Prop} (F : qRun p s m args meth c cc nL mi own A D cy ad sv) (hok : qcv own idx a t u R) (hdg : decode cc pc = .ok (.invokevirtual idx, 3)) (hst : (st.take (t + 1)).reverse = .ref o :: as) (has : as.length = t) (hrc : qrc u o) (hle : qle (st.drop (t + 1))) (hC : qC l D cy ad sv a (.ref o :: as) h Q)
    (hls : ls.size = nL) (hP : va_P D vwCl (qwld cy ad h) H) (hD : va_D A (qwld cy ad h)) (hS : va_S A s.heap H locs)
    (kk : ∀ (v : Option Value) (u : HP) (H1 : Heap) (locs1 : List Loc), Q v u → va_P D vwCl (qwld cy ad u) H1 → va_D A (qwld cy ad u) → va_S A s.heap H1 locs1 → W p l e R s m args below meth c H1 locs1 0 0 Qs (F0 m (pc + 3) ls ((v.map (qmv ad)).toList ++ (st.drop (t + 1)).map (qmv ad)))) : W p l e R s m args below meth c H locs 0 0 Qs (F0 m pc ls (st.map (qmv ad))) := by
  obtain ⟨hx, hb, hml, hown, hts, hK, hE, hA, hlk⟩ := F
  obtain ⟨⟨hR, hd, hcode, hini, hlink⟩, hinst, hsel, hcl⟩ := hok
  have hf := qfree (cy := cy) (ad := ad) (h := h) hD hS hA
  have hT : ∀ w ∈ qTB, w.before args s = true := fun w hw => hts w (List.mem_cons_of_mem _ hw)
  have hn : (as.map (qmv ad)).length = t := by simpa using has
  have hstk : (F0 m pc ls (st.map (qmv ad))).stack = (as.map (qmv ad)).reverse ++ .ref (ad o) :: (st.drop (t + 1)).map (qmv ad) := by
    show st.map (qmv ad) = _
    have h1 : st.take (t + 1) = as.reverse ++ [.ref o] := by
      have := congrArg List.reverse hst
      simpa using this
    conv => lhs; rw [← List.take_append_drop (t + 1) st, h1]
    simp [qmv]
  have hrecv : ∃ cellB : Cell, H[ad o]? = some cellB ∧ cellB.vm.isStatics = false ∧ s.vm.findClass (qmt a).1.cls = some cellB.cls := by
    rcases hcl with ⟨rfl, hcl⟩ | ⟨hu, T, N, hcl⟩
    · have h2 : 300 ≤ o ∧ o < 315 := hrc
      have h3 := vk_recv hE.2.1 (i := o - 300) (by omega) hS
      have h4 : 300 + (o - 300) = o := by omega
      simp only [h4] at h3
      rw [hcl]; exact h3
    · have h2 : (qkd o).1 = u := by
        unfold qrc at hrc
        split at hrc
        · exact absurd rfl hu
        · exact hrc
      obtain ⟨-, -, -, hu10, -⟩ := qcls u _ T N hcl
      obtain ⟨q0, hq, -⟩ := qwld_get (cy := cy) (ad := ad) (h := h) (qkd_in (i := o) (by omega))
      rw [qcel_O (by omega), h2] at hq
      exact va_recv hK hP hcl hq
  have hpre : PreV s H (qmt a).1.cls (ad o) (qPc D cy ad sv h H.size (.ref o :: as)) (as.map (qmv ad)) := ⟨qPc_blind, hrecv, fun U hU hW => ⟨rfl, by rw [hU], by rw [hU]; exact hP, va_K.moved hW.alike hK, hD.weaken (fun _ _ _ _ => trivial), by rw [hU]; exact hE.call hS hf hW⟩⟩
  rcases hlink with hl | ⟨host, hl⟩
  · refine qgoon (va_runV (rest := (st.drop (t + 1)).map (qmv ad)) ⟨hx, hb, hml, hown, hts⟩ (hC H.size) ⟨callB_of t hts (qws_good hcode) rfl rfl rfl (hT _ hini) (hT _ hl) hd hR, hT _ hinst, hT _ hsel⟩ hpre rfl hn hls hstk (lv_room (by simpa using qle_sum (ad := ad) hle)) hdg ⟨Nat.zero_le _, Nat.zero_le _⟩) hS hf kk
  · refine qgoon (va_runVN (rest := (st.drop (t + 1)).map (qmv ad)) ⟨hx, hb, hml, hown, hts⟩ (hC H.size) ⟨va_cnB t hts (qws_good hcode) rfl rfl rfl (hE.1 _ hl) (hT _ hini) hd hR, hT _ hinst, hT _ hsel⟩ hpre rfl hn hls hstk (lv_room (by simpa using qle_sum (ad := ad) hle)) hdg ⟨Nat.zero_le _, Nat.zero_le _⟩) hS hf kk
end QSOUND2
