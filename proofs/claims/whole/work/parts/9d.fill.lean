section CGO
variable {p : Program} {l : Launch} {e : Env} {R : Room} {s : State} {m : MethodId} {args : Array Value} {below : List Frame} {meth : Method} {c : Code} {H : Heap} {locs : List Loc} {cells slots : Nat} {Q : State → Prop}
variable {pc : Nat} {ls : Array Slot} {rest st0 : List Value} {D : va_G} {A : Nat → Prop} {ws : va_W} {H0 : Heap}
theorem cn_go {mc ms : Nat} {wc wr : va_W} {B : va_W → Prop} {a : Array Value} (hr : va_Run p l e R s m args below meth c H locs cells slots mc ms (F0 m pc ls st0) rest (cQc D wc H.size B a) (va_A wc H.size)) (hP : va_P D vwCl ws H) (hD : va_D A ws) (hS : va_S A H0 H locs) (hA : ∀ q, H0.size ≤ q → A q) (isC isR : List Nat) (hC : isC.map (fun i => ws[i]?) = wc.map some) (hR : isR.map (fun i => ws[i]?) = wr.map some) (hn : va_nd isR = true) (hdis : ∀ i ∈ isR, i ∉ isC)
    (kk : ∀ (u : va_W) (H1 : Heap) (locs1 : List Loc), B u → va_P D vwCl (wr ++ u) H1 → va_D A (wr ++ u) → va_S A H0 H1 locs1 → W p l e R s m args below meth c H1 locs1 (cells + mc) (slots + ms) Q (F0 m (pc + 3) ls rest)) : W p l e R s m args below meth c H locs cells slots Q (F0 m pc ls st0) := by
  have hFc := va_free (wc := wc) hD hS hA isC hC
  refine va_callv hr hS (fun q _ h => hFc q h) hFc (fun u t H1 locs1 ht hvm hB hW hz1 hk1 hS1 => ?_)
  obtain ⟨hP1, hD1⟩ := hW
  rw [ht] at hP1
  obtain ⟨hP2, hD2⟩ := va_join (wr := wr) (w1 := u) hP hD isC isR hC hR hn hdis hk1 hFc hP1 hD1
  exact kk u H1 locs1 hB hP2 hD2 hS1
end CGO
theorem dF_0 : decode cX8_fillWith 0 = .ok (.iconst 0, 1) := by decide +kernel
theorem dF_1 : decode cX8_fillWith 1 = .ok (.istore_n 2, 1) := by decide +kernel
theorem dF_2 : decode cX8_fillWith 2 = .ok (.iload_n 2, 1) := by decide +kernel
theorem dF_3 : decode cX8_fillWith 3 = .ok (.aload_n 0, 1) := by decide +kernel
theorem dF_4 : decode cX8_fillWith 4 = .ok (.arraylength, 1) := by decide +kernel
theorem dF_5 : decode cX8_fillWith 5 = .ok (.if_icmp .ge 13, 3) := by decide +kernel
theorem dF_8 : decode cX8_fillWith 8 = .ok (.aload_n 0, 1) := by decide +kernel
theorem dF_9 : decode cX8_fillWith 9 = .ok (.iload_n 2, 1) := by decide +kernel
theorem dF_10 : decode cX8_fillWith 10 = .ok (.iload_n 1, 1) := by decide +kernel
theorem dF_11 : decode cX8_fillWith 11 = .ok (.iastore, 1) := by decide +kernel
theorem dF_12 : decode cX8_fillWith 12 = .ok (.iinc 2 1, 3) := by decide +kernel
theorem dF_15 : decode cX8_fillWith 15 = .ok (.goto (-13), 3) := by decide +kernel
theorem dF_18 : decode cX8_fillWith 18 = .ok (.return_, 1) := by decide +kernel
set_option maxHeartbeats 1000000 in
theorem ct_fill (l : Launch) (D : va_G) (cy : Nat → Nat) (a n sz : Nat) (v : Int32) (f0 : Nat → Int32) (hn : n ≤ 2000) : Met l yX8_fillWith (qwc yX8_fillWith cX8_fillWith 3) ({ frames := 0, cells := 0, slots := 0, locals := 0 }) (cPc D cy [.ref a, .int v] [(a, .inl (cy 0, n, .inl f0))] sz) (cQc D [(a, .inl (cy 0, n, .inl f0))] sz (fun u => u = [aV cy a n v])) 0 0 (va_A [(a, .inl (cy 0, n, .inl f0))] sz) := by
  refine ct_intro (by decide) (Nat.le_of_ble_eq_true rfl) ?_
  intro p e s m below meth c A hsz hx hb hml hown hin hr hlocks hq hK hN hP hD hS hA hAe ls hl
  have hl : lv_has ls 3 [(0, .ref a), (1, .int v)] := hl
  have lp : ∀ (k i : Nat) (f : Nat → Int32) (H : Heap) (locs : List Loc) (ls : Array Slot), i + k = n → (∀ j, j < i → f j = v) → va_P D vwCl [(a, .inl (cy 0, n, .inl f))] H → va_D A [(a, .inl (cy 0, n, .inl f))] → va_S A s.heap H locs → lv_has ls 3 [(2, .int (nI i)), (0, .ref a), (1, .int v)] → W p l e ({ frames := 0, cells := 0, slots := 0, locals := 0 }) s m ([.ref a, .int v] : List Value).toArray below meth c H locs 0 0 (MQ below (cQc D [(a, .inl (cy 0, n, .inl f0))] sz (fun u => u = [aV cy a n v])) ([.ref a, .int v] : List Value).toArray s 0 0 (va_A [(a, .inl (cy 0, n, .inl f0))] sz)) (F0 m 2 ls []) := by
    intro k
    induction k with
    | zero =>
      intro i f H locs ls hi hf hP hD hS hl
      refine lv_iload_n hx hb dF_2 rfl (lv_at hl 0 rfl) ?_
      refine lv_aload_n hx hb dF_3 rfl (lv_at hl 1 rfl) ?_
      refine va_alen (v := nI n) hx hb hK hP 0 0 rfl rfl rfl dF_4 ?_
      refine lv_icmp_ge (tgt := 18) hx hb dF_5 (by decide) (fun c1 => ?_) (fun c1 => absurd (nI_le (by omega) (by omega)) c1)
      have hP9 : va_P D vwCl [aV cy a n v] H := cn_ext0 hP (fun j hj => hf j (by omega))
      have hD9 : va_D A [aV cy a n v] := cn_extD hD
      rw [hAe] at hD9 hS
      exact W.vret hx hb hr (fun t ht hW => ⟨⟨_, rfl, rfl, by rw [ht]; exact hP9, hD9⟩, by rw [← hAe] at hS ⊢; exact hS.F ht⟩) hS.2.2 dF_18 hlocks
    | succ k ih =>
      intro i f H locs ls hi hf hP hD hS hl
      refine lv_iload_n hx hb dF_2 rfl (lv_at hl 0 rfl) ?_
      refine lv_aload_n hx hb dF_3 rfl (lv_at hl 1 rfl) ?_
      refine va_alen (v := nI n) hx hb hK hP 0 0 rfl rfl rfl dF_4 ?_
      refine lv_icmp_ge (tgt := 18) hx hb dF_5 (by decide) (fun c1 => absurd c1 (nI_ge (by omega) (by omega))) (fun c1 => ?_)
      refine lv_aload_n hx hb dF_8 rfl (lv_at hl 1 rfl) ?_
      refine lv_iload_n hx hb dF_9 rfl (lv_at hl 0 rfl) ?_
      refine lv_iload_n hx hb dF_10 rfl (lv_at hl 2 rfl) ?_
      refine va_iast hx hb hK hP hD hS 0 0 rfl rfl (vp_in_nI (by omega) (by omega)) dF_11 (fun H locs hP hD hS => ?_)
      refine lv_iinc (v := nI (i + 1)) (lv' := [(2, .int (nI (i + 1))), (0, .ref a), (1, .int v)]) hx hb dF_12 hl (k := 0) rfl (nI_1 i) (by decide) rfl (fun ls hl => ?_)
      refine lv_goto (tgt := 2) hx hb dF_15 (by decide) ?_
      refine ih (i + 1) _ H locs ls (by omega) (fun j hj => ?_) hP hD hS hl
      rw [nI_clamp (by omega)]
      unfold upd
      by_cases ej : j = i
      · rw [if_pos ej]
      · rw [if_neg ej]
        exact hf j (by omega)
  refine lv_iconst (v := nI 0) hx hb dF_0 (by decide) ?_
  refine lv_istore_n (lv' := [(2, .int (nI 0)), (0, .ref a), (1, .int v)]) hx hb dF_1 rfl hl (by decide) rfl (fun ls hl => ?_)
  exact lp n 0 f0 s.heap [] ls (by omega) (fun j hj => absurd hj (Nat.not_lt_zero j)) hP hD hS hl
