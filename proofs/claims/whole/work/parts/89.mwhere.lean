/-! where the time goes: both -/
theorem chV_gen {E : Nat → Nat} {c : Nat → Bool} {x b : Nat} (hE : ∀ j, j < b → j < E j) (hn : ∀ j, j < b → c j = true → E j ≤ b ∧ (E j < b → c (E j) = true) ∧ ∀ i, j < i → i < E j → c i = false) : ∀ (m k : Nat) (V : Nat → Nat), k ≤ b → b - k ≤ m → (k < b → c k = true) → ∀ j, chV E x m k b V j = if k ≤ j ∧ j < b ∧ c j = true then x else V j
  | 0, k, V, hk, hm, hc, j => by
    rw [if_neg (by omega)]
    rfl
  | m + 1, k, V, hk, hm, hc, j => by
    rw [chV_s]
    by_cases e : b ≤ k
    · rw [if_pos e, if_neg (by omega)]
    · rw [if_neg e]
      have hkb : k < b := by omega
      have hEk := hE k hkb
      obtain ⟨q1, q2, q3⟩ := hn k hkb (hc hkb)
      rw [chV_gen hE hn m (E k) (upN V k x) q1 (by omega) q2 j]
      by_cases z : E k ≤ j ∧ j < b ∧ c j = true
      · rw [if_pos z, if_pos ⟨by omega, z.2⟩]
      · rw [if_neg z]
        by_cases y : j = k
        · rw [y, upN_at, if_pos ⟨Nat.le_refl _, hkb, hc hkb⟩]
        · rw [upN_ne y, if_neg]
          rintro ⟨w1, w2, w3⟩
          by_cases v : j < E k
          · rw [q3 j (by omega) v] at w3
            cases w3
          · exact z ⟨by omega, w2, w3⟩
section MWHERE
variable {am : Nat → Nat} {cp : Nat → Option Nat} {ask K E L A B f U bl pS : Nat → Nat} {par : Nat → Option Nat} {n nd : Nat}
theorem vs_step (h : tW n nd K E L A bl pS par) (hff : ∀ k, k < n → f k = figK am cp ask K A B k) {k x : Nat} {V : Nat → Nat} (hk : k < n) (h4 : ¬ K k = 4) (j : Nat) (hj : j < n) : chV E x (vsZ ask K E L A B k - vsA ask K L A B k) (vsA ask K L A B k) (vsZ ask K E L A B k) V j = if goneB K f bl par k j = true then x else V j := by
  have hE := h.1.1 k hk
  have kid : ∀ j, j < n → par j = some k → k < j ∧ j < E k := fun j hj hp => by
    have := h.1.2.1 j k hj hp
    omega
  have fin : ∀ a b, k < a → a ≤ b → b ≤ E k → (a < b → par a = some k) → (∀ j, a ≤ j → j < b → par j = some k → E j ≤ b) → (∀ j, j < n → par j = some k → (goneB K f bl par k j = true ↔ a ≤ j ∧ j < b)) → chV E x (b - a) a b V j = if goneB K f bl par k j = true then x else V j := by
    intro a b ha hab hb g0 gc gg
    rw [chV_gen (c := fun j => decide (par j = some k) && decide (a ≤ j)) (fun j hj => (h.1.1 j (by omega)).1) (fun j hj hc => ?_) (b - a) a V hab (Nat.le_refl _) (fun hlt => by simp [g0 hlt]) j]
    · by_cases z : goneB K f bl par k j = true
      · rw [if_pos z, if_pos]
        have z1 := (goneB_iff.mp z).1
        have := (gg j hj z1).mp z
        exact ⟨this.1, this.2, by simp [z1, this.1]⟩
      · rw [if_neg z, if_neg]
        rintro ⟨w1, w2, w3⟩
        simp only [Bool.and_eq_true, decide_eq_true_eq] at w3
        exact z ((gg j hj w3.1).mpr ⟨w1, w2⟩)
    · simp only [Bool.and_eq_true, decide_eq_true_eq] at hc
      obtain ⟨hc, hja⟩ := hc
      have e1 := gc j hja hj hc
      refine ⟨e1, fun z => ?_, fun i q1 q2 => ?_⟩
      · have := tr_next h.1 hc (by omega) (by omega) (by omega)
        have := (h.1.1 j (by omega)).1
        simp only [Bool.and_eq_true, decide_eq_true_eq]
        exact ⟨by assumption, by omega⟩
      · have := tr_in h.1 hc (by omega) q1 q2 (by omega)
        simp [this]
  unfold vsA vsZ
  by_cases k5 : K k = 5
  · rw [if_pos k5, if_pos k5]
    have hL := h.2.1.1 k hk k5
    have fk : f k = if ask (A k) < B k then 0 else 1 := by
      rw [hff k hk]
      unfold figK
      rw [if_pos k5]
    have tb := fun j (hj : j < n) (hp : par j = some k) => tr_bl h.1 h.2.1 h.2.2.1 hp hj k5
    have gi : ∀ j, par j = some k → (goneB K f bl par k j = true ↔ f k = bl j) := fun j hp => by
      rw [goneB_iff]
      constructor
      · rintro ⟨-, z⟩
        rcases z with z | z
        · exact absurd k5 z
        · exact z
      · intro z
        exact ⟨hp, Or.inr z⟩
    unfold ifA ifB
    by_cases c : ask (A k) < B k
    · rw [if_pos c, if_pos c]
      rw [if_pos c] at fk
      refine fin (k + 1) (L k) (by omega) (by omega) hL.2 (fun z => tr_first h.1 (by omega) (by omega)) (fun j q1 q2 q3 => (tb j (by omega) q3).2 q2) (fun j hj hp => ?_)
      rw [gi j hp, fk]
      have t1 := (tb j hj hp).1
      have t2 := kid j hj hp
      exact ⟨fun z => ⟨by omega, t1.mpr z.symm⟩, fun z => (t1.mp z.2).symm⟩
    · rw [if_neg c, if_neg c]
      rw [if_neg c] at fk
      refine fin (L k) (E k) (by omega) hL.2 (Nat.le_refl _) (fun z => tr_else h.1 h.2.1 h.2.2.1 hk k5 (by omega) z) (fun j q1 q2 q3 => (h.1.2.1 j k (by omega) q3).2.2) (fun j hj hp => ?_)
      rw [gi j hp, fk]
      have t1 := (tb j hj hp).1
      have t2 := kid j hj hp
      have t3 := h.2.2.1 j hj
      constructor
      · intro z
        have : ¬ j < L k := fun w => by have := t1.mp w; omega
        exact ⟨by omega, t2.2⟩
      · intro z
        have : ¬ bl j = 0 := fun w => by have := t1.mpr w; omega
        omega
  · rw [if_neg k5, if_neg k5]
    refine fin (k + 1) (E k) (by omega) (by omega) (Nat.le_refl _) (fun z => tr_first h.1 (by omega) z) (fun j q1 q2 q3 => (h.1.2.1 j k (by omega) q3).2.2) (fun j hj hp => ?_)
    rw [goneB_iff]
    have := kid j hj hp
    exact ⟨fun _ => ⟨by omega, by omega⟩, fun _ => ⟨hp, Or.inl k5⟩⟩
/-- as often as the class says, from step k of part d on -/
def vsI (K f bl pS : Nat → Nat) (par : Nat → Option Nat) (d k x : Nat) (s t : vsT) : Prop := (∀ j, pS d ≤ j → j < k → s.1 j = t.1 j) ∧ (∀ j, k ≤ j → j < pS (d + 1) → s.1 j = match par j with | none => x | some q => if q < k then cwK K f bl t.1 j q else 0) ∧ (∀ e, e < d → s.2 e = t.2 e) ∧ t.2 d = x
theorem vs_loop (h : tW n nd K E L A bl pS par) (hff : ∀ k, k < n → f k = figK am cp ask K A B k) (hU : ∀ k, k < n → K k = 1 → U k = f k) (hE4 : ∀ k, k < n → K k = 4 → E k = k + 1) {d x : Nat} (hd : d ≤ nd) :
    ∀ (m k : Nat) (s t : vsT), pS d ≤ k → k + m = pS (d + 1) → vsI K f bl pS par d k x s t → vsI K f bl pS par d (pS (d + 1)) x (vsL ask K E L A B U m k s) (cmL K A f bl par d m k t)
  | 0, k, s, t, h1, h2, hi => by
    have : k = pS (d + 1) := by omega
    subst this
    exact hi
  | m + 1, k, s, t, h1, h2, hi => by
    have hn := tW_n h (show d + 1 ≤ nd + 1 by omega)
    rw [vsL, cmL]
    refine vs_loop h hff hU hE4 hd m (k + 1) _ _ (by omega) (by omega) ?_
    obtain ⟨i1, i2, i3, i4⟩ := hi
    have hk : k < n := by omega
    have vk : s.1 k = cmO K f bl par d k t := by
      rw [i2 k (Nat.le_refl _) (by omega)]
      unfold cmO
      cases e : par k with
      | none => exact i4.symm
      | some q =>
        have := (h.1.2.1 k q hk e).1
        show (if q < k then cwK K f bl t.1 k q else 0) = _
        rw [if_pos this]
    have tk : (cmS K A f bl par d k t).1 = upN t.1 k (cmO K f bl par d k t) := rfl
    by_cases k4 : K k = 4
    · have sv : vsS ask K E L A B U k s = (s.1, upN s.2 (A k) (sat (s.2 (A k) + s.1 k))) := by unfold vsS; rw [if_pos k4]
      have ca := tW_call h hd h1 (by omega) k4
      have t2 : (cmS K A f bl par d k t).2 = upN t.2 (A k) (sat (t.2 (A k) + cmO K f bl par d k t)) := by unfold cmS; rw [if_pos k4]
      rw [sv]
      refine ⟨fun j q1 q2 => ?_, fun j q1 q2 => ?_, fun e he => ?_, ?_⟩
      · rw [tk]
        by_cases e : j = k
        · rw [e, upN_at]; exact vk
        · rw [upN_ne e]; exact i1 j q1 (by omega)
      · show s.1 j = _
        rw [i2 j (by omega) q2]
        cases e : par j with
        | none => rfl
        | some q =>
          have r := h.1.2.1 j q (by omega) e
          have : q ≠ k := fun z => by
            rw [z] at r
            have := hE4 k hk k4
            omega
          show (if q < k then cwK K f bl t.1 j q else 0) = if q < k + 1 then cwK K f bl (cmS K A f bl par d k t).1 j q else 0
          by_cases c : q < k
          · rw [if_pos c, if_pos (by omega), tk]
            unfold cwK
            rw [upN_ne this]
          · rw [if_neg c, if_neg (by omega)]
      · rw [t2]
        show upN s.2 (A k) _ e = _
        by_cases z : e = A k
        · rw [z, upN_at, upN_at, i3 (A k) (by omega), vk]
        · rw [upN_ne z, upN_ne z]; exact i3 e he
      · rw [t2, upN_ne (by omega)]; exact i4
    · have sv : vsS ask K E L A B U k s = (chV E (vsX K U s.1 k) (vsZ ask K E L A B k - vsA ask K L A B k) (vsA ask K L A B k) (vsZ ask K E L A B k) s.1, s.2) := by unfold vsS; rw [if_neg k4]
      have t2 : (cmS K A f bl par d k t).2 = t.2 := by unfold cmS; rw [if_neg k4]
      have vs := fun j hj => vs_step h hff (x := vsX K U s.1 k) (V := s.1) hk k4 j hj
      rw [sv]
      refine ⟨fun j q1 q2 => ?_, fun j q1 q2 => ?_, fun e he => ?_, ?_⟩
      · show chV E (vsX K U s.1 k) _ _ _ s.1 j = _
        rw [vs j (by omega), if_neg, tk]
        · by_cases e : j = k
          · rw [e, upN_at]; exact vk
          · rw [upN_ne e]; exact i1 j q1 (by omega)
        · intro z
          have := (h.1.2.1 j k (by omega) (goneB_iff.mp z).1).1
          omega
      · show chV E (vsX K U s.1 k) _ _ _ s.1 j = _
        rw [vs j (by omega)]
        cases e : par j with
        | none =>
          rw [if_neg (fun z => by have := (goneB_iff.mp z).1; rw [e] at this; cases this), i2 j (by omega) q2, e]
        | some q =>
          have r := h.1.2.1 j q (by omega) e
          by_cases c : q = k
          · subst c
            show _ = if q < q + 1 then cwK K f bl (cmS K A f bl par d q t).1 j q else 0
            rw [if_pos (show q < q + 1 by omega), tk]
            unfold cwK
            rw [upN_at, ← vk]
            by_cases k1 : K q = 1
            · rw [if_pos k1, if_pos (goneB_iff.mpr ⟨e, Or.inl (by omega)⟩)]
              unfold vsX
              rw [if_pos k1, hU q hk k1]
            · rw [if_neg k1]
              by_cases g : ¬ K q = 5 ∨ f q = bl j
              · rw [if_pos g, if_pos (goneB_iff.mpr ⟨e, g⟩)]
                unfold vsX
                rw [if_neg k1]
              · rw [if_neg g, if_neg (fun z => g (goneB_iff.mp z).2), i2 j (by omega) q2, e]
                show (if q < q then _ else 0) = 0
                rw [if_neg (by omega)]
          · rw [if_neg (fun z => by have := (goneB_iff.mp z).1; rw [e] at this; cases this; exact c rfl), i2 j (by omega) q2, e]
            show (if q < k then cwK K f bl t.1 j q else 0) = if q < k + 1 then cwK K f bl (cmS K A f bl par d k t).1 j q else 0
            by_cases c2 : q < k
            · rw [if_pos c2, if_pos (by omega), tk]
              unfold cwK
              rw [upN_ne c]
            · rw [if_neg c2, if_neg (by omega)]
      · rw [t2]; exact i3 e he
      · rw [t2]; exact i4
theorem vs_out (h : tW n nd K E L A bl pS par) (hff : ∀ k, k < n → f k = figK am cp ask K A B k) {d : Nat} (hd : d ≤ nd) : ∀ (m k : Nat) (s t : vsT), pS d ≤ k → k + m = pS (d + 1) → (∀ j, j < n → (j < pS d ∨ pS (d + 1) ≤ j) → (vsL ask K E L A B U m k s).1 j = s.1 j ∧ (cmL K A f bl par d m k t).1 j = t.1 j) ∧ (∀ e, d ≤ e → (cmL K A f bl par d m k t).2 e = t.2 e)
  | 0, k, s, t, h1, h2 => ⟨fun _ _ _ => ⟨rfl, rfl⟩, fun _ _ => rfl⟩
  | m + 1, k, s, t, h1, h2 => by
    have hn := tW_n h (show d + 1 ≤ nd + 1 by omega)
    have hk : k < n := by omega
    obtain ⟨a, b⟩ := vs_out h hff hd m (k + 1) (vsS ask K E L A B U k s) (cmS K A f bl par d k t) (by omega) (by omega)
    rw [vsL, cmL]
    refine ⟨fun j hj hr => ?_, fun e he => ?_⟩
    · obtain ⟨q1, q2⟩ := a j hj hr
      rw [q1, q2]
      refine ⟨?_, upN_ne (by omega)⟩
      unfold vsS
      split
      · rfl
      · rename_i k4
        show chV E _ _ _ _ s.1 j = s.1 j
        rw [vs_step (bl := bl) (par := par) h hff hk k4 j hj, if_neg]
        intro z
        have z1 := h.1.2.1 j k hj (goneB_iff.mp z).1
        have := h.2.2.2.2.1 (d + 1) k (by omega) (by omega)
        omega
    · rw [b e he]
      unfold cmS
      by_cases k4 : K k = 4
      · have ca := tW_call h hd h1 (by omega) k4
        show (if K k = 4 then upN t.2 (A k) _ else t.2) e = t.2 e
        rw [if_pos k4, upN_ne (by omega)]
      · show (if K k = 4 then upN t.2 (A k) _ else t.2) e = t.2 e
        rw [if_neg k4]
/-- one part -/
theorem vs_part (h : tW n nd K E L A bl pS par) (hff : ∀ k, k < n → f k = figK am cp ask K A B k) (hU : ∀ k, k < n → K k = 1 → U k = f k) (hE4 : ∀ k, k < n → K k = 4 → E k = k + 1) {d x : Nat} (hd : d ≤ nd) {s t : vsT} (hx : t.2 d = x) (hP : ∀ e, e < d → s.2 e = t.2 e) :
    (∀ k, pS d ≤ k → k < pS (d + 1) → (vsV ask K E L A B U (pS d) (pS (d + 1)) x s).1 k = (cmL K A f bl par d (pS (d + 1) - pS d) (pS d) t).1 k) ∧ (∀ j, j < n → (j < pS d ∨ pS (d + 1) ≤ j) → (vsV ask K E L A B U (pS d) (pS (d + 1)) x s).1 j = s.1 j ∧ (cmL K A f bl par d (pS (d + 1) - pS d) (pS d) t).1 j = t.1 j) ∧ (∀ e, e < d → (vsV ask K E L A B U (pS d) (pS (d + 1)) x s).2 e = (cmL K A f bl par d (pS (d + 1) - pS d) (pS d) t).2 e) := by
  have hn := tW_n h (show d + 1 ≤ nd + 1 by omega)
  have hle := h.2.2.2.1.2.1 d hd
  have v0 : ∀ j, j < n → chV E x (pS (d + 1) - pS d) (pS d) (pS (d + 1)) (zrN s.1 (pS d) (pS (d + 1))) j = if pS d ≤ j ∧ j < pS (d + 1) then (if par j = none then x else 0) else s.1 j := fun j hj => by
    rw [chV_gen (c := rootB par) (fun j hj => (h.1.1 j (by omega)).1) (fun j hj hc => ?_) _ _ _ hle (Nat.le_refl _) (fun hlt => ?_) j]
    · by_cases z : pS d ≤ j ∧ j < pS (d + 1)
      · rw [if_pos z]
        by_cases y : par j = none
        · rw [if_pos y, if_pos ⟨z.1, z.2, by unfold rootB; simpa using y⟩]
        · rw [if_neg y, if_neg (fun w => y (by have := w.2.2; unfold rootB at this; simpa using this))]
          unfold zrN
          rw [if_pos z]
      · rw [if_neg z, if_neg (fun w => z ⟨w.1, w.2.1⟩)]
        unfold zrN
        rw [if_neg z]
    · have hc : par j = none := by unfold rootB at hc; simpa using hc
      have e1 := h.2.2.2.2.1 (d + 1) j (by omega) hj
      refine ⟨e1, fun q => ?_, fun i q1 q2 => ?_⟩
      · unfold rootB
        rw [tr_rootn h.1 (by omega) hc (by omega)]
        rfl
      · unfold rootB
        have := tr_rooti h.1 q1 q2 (by omega)
        simpa using this
    · unfold rootB
      rw [tr_root0 h.1 (fun k hk => h.2.2.2.2.1 d k (by omega) hk) (by omega)]
      rfl
  have st : vsI K f bl pS par d (pS d) x (chV E x (pS (d + 1) - pS d) (pS d) (pS (d + 1)) (zrN s.1 (pS d) (pS (d + 1))), s.2) t := by
    refine ⟨fun j q1 q2 => absurd q1 (by omega), fun j q1 q2 => ?_, hP, hx⟩
    show chV E x _ _ _ _ j = _
    rw [v0 j (by omega), if_pos ⟨q1, q2⟩]
    cases e : par j with
    | none => rw [if_pos rfl]
    | some q =>
      rw [if_neg (fun z => by cases z)]
      have r := h.1.2.1 j q (by omega) e
      show 0 = if q < pS d then _ else 0
      rw [if_neg]
      intro z
      have := h.2.2.2.2.1 d q (by omega) z
      omega
  have lp := vs_loop (U := U) (x := x) h hff hU hE4 hd (pS (d + 1) - pS d) (pS d) _ t (Nat.le_refl _) (by omega) st
  have ou := vs_out (U := U) h hff hd (pS (d + 1) - pS d) (pS d) (chV E x (pS (d + 1) - pS d) (pS d) (pS (d + 1)) (zrN s.1 (pS d) (pS (d + 1))), s.2) t (Nat.le_refl _) (by omega)
  refine ⟨fun k q1 q2 => lp.1 k q1 q2, fun j hj hr => ⟨?_, (ou.1 j hj hr).2⟩, fun e he => lp.2.2.1 e he⟩
  have : (vsV ask K E L A B U (pS d) (pS (d + 1)) x s).1 j = _ := (ou.1 j hj hr).1
  rw [this]
  show chV E x _ _ _ _ j = _
  rw [v0 j hj, if_neg (by omega)]
theorem vs_defs (h : tW n nd K E L A bl pS par) (hff : ∀ k, k < n → f k = figK am cp ask K A B k) (hU : ∀ k, k < n → K k = 1 → U k = f k) (hE4 : ∀ k, k < n → K k = 4 → E k = k + 1) : ∀ (m : Nat) (s t : vsT), m ≤ nd → (∀ e, e < m → s.2 e = t.2 e) → (∀ k, k < n → pS m ≤ k → s.1 k = t.1 k) → ∀ k, k < n → (vsD ask K E L A B U pS (fun d => pS (d + 1)) m s).1 k = (cmD K A f bl par pS m t).1 k
  | 0, s, t, _, _, hV, k, hk => hV k hk (by rw [h.2.2.2.1.1]; exact Nat.zero_le _)
  | m + 1, s, t, hm, hP, hV, k, hk => by
    rw [vsD, cmD]
    obtain ⟨a, b, c⟩ := vs_part (U := U) (x := s.2 m) (s := s) (t := t) h hff hU hE4 (show m ≤ nd by omega) (hP m (by omega)).symm (fun e he => hP e (by omega))
    refine vs_defs h hff hU hE4 m _ _ (by omega) c (fun j hj q => ?_) k hk
    by_cases e : j < pS (m + 1)
    · exact a j q e
    · have r := b j hj (Or.inr (by omega))
      rw [r.1, r.2]
      exact hV j hj (by omega)
theorem where_eq (h : tW n nd K E L A bl pS par) (hff : ∀ k, k < n → f k = figK am cp ask K A B k) (hU : ∀ k, k < n → K k = 1 → U k = f k) (hE4 : ∀ k, k < n → K k = 4 → E k = k + 1) {V P C : Nat → Nat} {k : Nat} (hk : k < n) : (vsW ask K E L A B U pS (fun d => pS (d + 1)) n nd (pS nd) V P).1 k = (cmD K A f bl par pS (nd + 1) (C, upN (fun _ => 0) nd 1)).1 k := by
  unfold vsW
  rw [cmD]
  have en := h.2.2.2.1.2.2
  obtain ⟨a, b, c⟩ := vs_part (U := U) (x := 1) (s := (V, zrN P 0 nd)) (t := (C, upN (fun _ => 0) nd 1)) h hff hU hE4 (Nat.le_refl nd) (show upN (fun _ => 0) nd 1 nd = 1 from upN_at) (fun e he => by
    show zrN P 0 nd e = upN (fun _ => 0) nd 1 e
    rw [upN_ne (by omega)]
    unfold zrN
    rw [if_pos ⟨Nat.zero_le _, he⟩])
  rw [en] at a b c ⊢
  exact vs_defs h hff hU hE4 nd _ _ (Nat.le_refl _) c (fun j hj q => a j q hj) k hk
end MWHERE
