section QSOUND4
variable {p : Program} {l : Launch} {e : Env} {R : Room} {s : State} {m : MethodId} {args : Array Value} {below : List Frame} {meth : Method} {c : Code} {cc : ByteArray} {nL mi : Nat} {own : String} {A : Nat → Prop} {D : va_G} {cy ad sv : Nat → Nat} {Qs : State → Prop} {rt : Option FieldType}
/-- what the rest must give -/
theorem qbrS {cnd : ClassFile.Cond} {x y : Int32} {P N : Prop} (h : qbr cnd x y P N) : ((cnd = .eq ∧ (x = y → P) ∧ (¬ x = y → N)) ∨ (cnd = .ne ∧ (¬ x = y → P) ∧ (¬ ¬ x = y → N)) ∨ (cnd = .lt ∧ (x < y → P) ∧ (¬ x < y → N)) ∨ (cnd = .ge ∧ (y ≤ x → P) ∧ (¬ y ≤ x → N)) ∨ (cnd = .gt ∧ (y < x → P) ∧ (¬ y < x → N)) ∨ (cnd = .le ∧ (x ≤ y → P) ∧ (¬ x ≤ y → N))) := by
  cases cnd <;> simp only [qbr] at h
  · exact Or.inl ⟨rfl, h⟩
  · exact Or.inr (Or.inl ⟨rfl, h.1, fun q => h.2 (Classical.not_not.mp q)⟩)
  · exact Or.inr (Or.inr (Or.inl ⟨rfl, h⟩))
  · exact Or.inr (Or.inr (Or.inr (Or.inl ⟨rfl, h⟩)))
  · exact Or.inr (Or.inr (Or.inr (Or.inr (Or.inl ⟨rfl, h⟩))))
  · exact Or.inr (Or.inr (Or.inr (Or.inr (Or.inr ⟨rfl, h⟩))))
set_option maxHeartbeats 4000000 in
theorem qicS {H : Heap} {locs : List Loc} {pc a : Nat} {off : Int} {cnd : ClassFile.Cond} {ls : Array Slot} {r : List Value} {x y : Int32} (hx : p.tables.exec = Jvm.exec) (hb : c.code = cc) (hdg : decode cc pc = .ok (.if_icmp cnd off, 3)) (ht : (pc : Int) + off = (a : Int)) (h : qbr cnd x y (W p l e R s m args below meth c H locs 0 0 Qs (F0 m a ls r)) (W p l e R s m args below meth c H locs 0 0 Qs (F0 m (pc + 3) ls r))) : W p l e R s m args below meth c H locs 0 0 Qs (F0 m pc ls (.int y :: .int x :: r)) := by
  rcases qbrS h with ⟨rfl, h1, h2⟩ | ⟨rfl, h1, h2⟩ | ⟨rfl, h1, h2⟩ | ⟨rfl, h1, h2⟩ | ⟨rfl, h1, h2⟩ | ⟨rfl, h1, h2⟩
  · exact lv_icmp_eq hx hb hdg ht h1 h2
  · exact lv_icmp_ne hx hb hdg ht h1 (fun q => h2 (fun z => z q))
  · exact lv_icmp_lt hx hb hdg ht h1 h2
  · exact lv_icmp_ge hx hb hdg ht h1 h2
  · exact lv_icmp_gt hx hb hdg ht h1 h2
  · exact lv_icmp_le hx hb hdg ht h1 h2
set_option maxHeartbeats 4000000 in
theorem qifS {H : Heap} {locs : List Loc} {pc a : Nat} {off : Int} {cnd : ClassFile.Cond} {ls : Array Slot} {r : List Value} {x : Int32} (hx : p.tables.exec = Jvm.exec) (hb : c.code = cc) (hdg : decode cc pc = .ok (.ifCond cnd off, 3)) (ht : (pc : Int) + off = (a : Int)) (h : qbr cnd x 0 (W p l e R s m args below meth c H locs 0 0 Qs (F0 m a ls r)) (W p l e R s m args below meth c H locs 0 0 Qs (F0 m (pc + 3) ls r))) : W p l e R s m args below meth c H locs 0 0 Qs (F0 m pc ls (.int x :: r)) := by
  rcases qbrS h with ⟨rfl, h1, h2⟩ | ⟨rfl, h1, h2⟩ | ⟨rfl, h1, h2⟩ | ⟨rfl, h1, h2⟩ | ⟨rfl, h1, h2⟩ | ⟨rfl, h1, h2⟩
  · exact lv_if_eq hx hb hdg ht h1 h2
  · exact lv_if_ne hx hb hdg ht h1 (fun q => h2 (fun z => z q))
  · exact lv_if_lt hx hb hdg ht h1 h2
  · exact lv_if_ge hx hb hdg ht h1 h2
  · exact lv_if_gt hx hb hdg ht h1 h2
  · exact lv_if_le hx hb hdg ht h1 h2
theorem qbr_imp {cnd : ClassFile.Cond} {x y : Int32} {P N P' N' : Prop} (hP : P → P') (hN : N → N') (h : qbr cnd x y P N) : qbr cnd x y P' N' := by
  cases cnd <;> exact ⟨fun q => hP (h.1 q), fun q => hN (h.2 q)⟩
set_option maxHeartbeats 4000000 in
theorem qtsS {H : Heap} {locs : List Loc} {pc a len : Nat} {dflt lo hi : Int} {offs : Array Int} {xs : List (Int × Nat)} {ls : Array Slot} {r : List Value} {x : Int32} (hx : p.tables.exec = Jvm.exec) (hb : c.code = cc) (hdg : decode cc pc = .ok (.tableswitch dflt lo hi offs, len)) (ht : (pc : Int) + dflt = (a : Int)) (hxs : xs = offs.toList.mapIdx (fun (j : Nat) off => (lo + (j : Int), ((pc : Int) + off).toNat))) (hnn : ∀ off ∈ offs.toList, 0 ≤ (pc : Int) + off) (hhi : hi + 1 = lo + (offs.size : Int))
    (h1 : ∀ q ∈ xs, x.toInt = q.1 → W p l e R s m args below meth c H locs 0 0 Qs (F0 m q.2 ls r)) (h2 : (∀ q ∈ xs, ¬ x.toInt = q.1) → W p l e R s m args below meth c H locs 0 0 Qs (F0 m a ls r)) : W p l e R s m args below meth c H locs 0 0 Qs (F0 m pc ls (.int x :: r)) := by
  by_cases hin : x.toInt < lo ∨ hi < x.toInt
  · refine lv_tableOut hx hb hdg hin ht (h2 ?_)
    intro q hq hxq
    rw [hxs] at hq
    obtain ⟨j, hj, rfl⟩ := List.mem_mapIdx.mp hq
    have : j < offs.size := by simpa using hj
    simp only at hxq
    omega
  · have hlo : ¬ x.toInt < lo := fun q => hin (Or.inl q)
    have hhi' : ¬ hi < x.toInt := fun q => hin (Or.inr q)
    have hj : (x.toInt - lo).toNat < offs.size := by omega
    have hmem : offs[(x.toInt - lo).toNat] ∈ offs.toList := by simp
    have h0 := hnn _ hmem
    refine lv_tableIn (off := offs[(x.toInt - lo).toNat]) (tgt := ((pc : Int) + offs[(x.toInt - lo).toNat]).toNat) hx hb hdg hlo hhi' (by simp [hj]) (by omega) ?_
    refine h1 (lo + ((x.toInt - lo).toNat : Int), ((pc : Int) + offs[(x.toInt - lo).toNat]).toNat) ?_ (by simp only; omega)
    rw [hxs]
    exact List.mem_mapIdx.mpr ⟨(x.toInt - lo).toNat, by simpa using hj, by simp⟩
set_option maxHeartbeats 4000000 in
theorem qlsS {H : Heap} {locs : List Loc} {pc a len : Nat} {dflt : Int} {ps : Array (Int × Int)} {xs : List (Int × Nat)} {ls : Array Slot} {r : List Value} {x : Int32} (hx : p.tables.exec = Jvm.exec) (hb : c.code = cc) (hdg : decode cc pc = .ok (.lookupswitch dflt ps, len)) (ht : (pc : Int) + dflt = (a : Int)) (hxs : xs = ps.toList.map (fun q => (q.1, ((pc : Int) + q.2).toNat))) (hnn : ∀ q ∈ ps.toList, 0 ≤ (pc : Int) + q.2) (hso : (ps.toList.zip (ps.toList.drop 1)).all (fun (a, next) => a.1 < next.1) = true) (hof : ∀ x : Int, (∀ q ∈ ps.toList, ¬ x = q.1) → Op.lookupswitch.offset ps.toList dflt x = dflt) (hon : ∀ q ∈ ps.toList, Op.lookupswitch.offset ps.toList dflt q.1 = q.2)
    (h1 : ∀ q ∈ xs, x.toInt = q.1 → W p l e R s m args below meth c H locs 0 0 Qs (F0 m q.2 ls r)) (h2 : (∀ q ∈ xs, ¬ x.toInt = q.1) → W p l e R s m args below meth c H locs 0 0 Qs (F0 m a ls r)) : W p l e R s m args below meth c H locs 0 0 Qs (F0 m pc ls (.int x :: r)) := by
  by_cases hin : ∃ q ∈ ps.toList, x.toInt = q.1
  · obtain ⟨q, hq, hxq⟩ := hin
    have h0 := hnn q hq
    refine lv_lookup (off := q.2) (tgt := ((pc : Int) + q.2).toNat) hx hb hdg hso (by rw [hxq]; exact hon q hq) (by omega) ?_
    exact h1 (q.1, ((pc : Int) + q.2).toNat) (by rw [hxs]; exact List.mem_map.mpr ⟨q, hq, rfl⟩) hxq
  · refine lv_lookup (off := dflt) (tgt := a) hx hb hdg hso (hof _ (fun q hq hx => hin ⟨q, hq, hx⟩)) ht (h2 ?_)
    intro q hq hxq
    rw [hxs] at hq
    obtain ⟨q', hq', rfl⟩ := List.mem_map.mp hq
    exact hin ⟨q', hq', hxq⟩
end QSOUND4
