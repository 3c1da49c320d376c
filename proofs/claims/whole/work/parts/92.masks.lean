/-! the asks in their order; names that are not used -/
theorem dm_x {x c d : Nat} (h : d ≤ c) : (x * (c + 1) + d) / (c + 1) = x ∧ (x * (c + 1) + d) % (c + 1) = d := by
  refine ⟨?_, ?_⟩
  · rw [Nat.mul_comm, Nat.mul_add_div (by omega), Nat.div_eq_of_lt (by omega), Nat.add_zero]
  · rw [Nat.mul_comm, Nat.mul_add_mod, Nat.mod_eq_of_lt (by omega)]
/-- the place of a row -/
def ixA (r a : Nat → Nat) : Nat := ((a 0 * (r 1 + 1) + a 1) * (r 2 + 1) + a 2) * (r 3 + 1) + a 3
theorem lx_lt {x y c d e : Nat} (hd : d ≤ c) (h : x < y) : x * (c + 1) + d < y * (c + 1) + e := by
  have : (x + 1) * (c + 1) ≤ y * (c + 1) := Nat.mul_le_mul_right _ h
  rw [Nat.succ_mul] at this
  omega
theorem prN_4 (r : Nat → Nat) : prN r 4 = (r 0 + 1) * (r 1 + 1) * (r 2 + 1) * (r 3 + 1) := by
  show 1 * (r 0 + 1) * (r 1 + 1) * (r 2 + 1) * (r 3 + 1) = _
  rw [Nat.one_mul]
theorem ixA_lt {r a : Nat → Nat} (h : ∀ k, k < 4 → a k ≤ r k) : ixA r a < prN r 4 := by
  have h0 := h 0 (by omega)
  have h1 := h 1 (by omega)
  have h2 := h 2 (by omega)
  have h3 := h 3 (by omega)
  rw [prN_4]
  unfold ixA
  have a1 : a 0 * (r 1 + 1) + a 1 < (r 0 + 1) * (r 1 + 1) + 0 := lx_lt h1 (by omega)
  have a2 : (a 0 * (r 1 + 1) + a 1) * (r 2 + 1) + a 2 < (r 0 + 1) * (r 1 + 1) * (r 2 + 1) + 0 := lx_lt h2 (by omega)
  have a3 : ((a 0 * (r 1 + 1) + a 1) * (r 2 + 1) + a 2) * (r 3 + 1) + a 3 < (r 0 + 1) * (r 1 + 1) * (r 2 + 1) * (r 3 + 1) + 0 := lx_lt h3 (by omega)
  omega
theorem ixA_dg {r a : Nat → Nat} (h : ∀ k, k < 4 → a k ≤ r k) : ∀ k, k < 4 → dgD r (ixA r a) k = a k := by
  have h0 := h 0 (by omega)
  have h1 := h 1 (by omega)
  have h2 := h 2 (by omega)
  have h3 := h 3 (by omega)
  have e3 := dm_x (x := (a 0 * (r 1 + 1) + a 1) * (r 2 + 1) + a 2) h3
  have e2 := dm_x (x := a 0 * (r 1 + 1) + a 1) h2
  have e1 := dm_x (x := a 0) h1
  refine lt4 ?_ ?_ ?_ ?_
  · rw [dg0]
    unfold ixA
    rw [e3.1, e2.1, e1.1, Nat.mod_eq_of_lt (by omega)]
  · rw [dg1]
    unfold ixA
    rw [e3.1, e2.1, e1.2]
  · rw [dg2]
    unfold ixA
    rw [e3.1, e2.2]
  · rw [dg3]
    unfold ixA
    rw [e3.2]
theorem dg_ixA {r : Nat → Nat} {i : Nat} (h : i < prN r 4) : ixA r (dgD r i) = i := by
  rw [prN_4] at h
  unfold ixA
  rw [dg0, dg1, dg2, dg3]
  have b1 : i / (r 3 + 1) < (r 0 + 1) * (r 1 + 1) * (r 2 + 1) := Nat.div_lt_of_lt_mul (by rw [Nat.mul_comm]; exact h)
  have b2 : i / (r 3 + 1) / (r 2 + 1) < (r 0 + 1) * (r 1 + 1) := Nat.div_lt_of_lt_mul (by rw [Nat.mul_comm]; exact b1)
  have b3 : i / (r 3 + 1) / (r 2 + 1) / (r 1 + 1) < r 0 + 1 := Nat.div_lt_of_lt_mul (by rw [Nat.mul_comm]; exact b2)
  rw [Nat.mod_eq_of_lt b3]
  have dd : ∀ a b : Nat, a / b * b + a % b = a := fun a b => by rw [Nat.mul_comm]; exact Nat.div_add_mod a b
  rw [dd, dd, dd]
/-- a row that is nowhere greater comes no later -/
theorem ixA_mono {r a b : Nat → Nat} (h : ∀ k, k < 4 → a k ≤ b k) : ixA r a ≤ ixA r b := by
  unfold ixA
  have m1 := Nat.mul_le_mul_right (r 1 + 1) (h 0 (by omega))
  have m2 := Nat.mul_le_mul_right (r 2 + 1) (show a 0 * (r 1 + 1) + a 1 ≤ b 0 * (r 1 + 1) + b 1 by have := h 1 (by omega); omega)
  have m3 := Nat.mul_le_mul_right (r 3 + 1) (show (a 0 * (r 1 + 1) + a 1) * (r 2 + 1) + a 2 ≤ (b 0 * (r 1 + 1) + b 1) * (r 2 + 1) + b 2 by have := h 2 (by omega); omega)
  have := h 3 (by omega)
  omega
theorem lx_le {x y c d e X Y C : Nat} (hd : d ≤ c) (he : e ≤ c) (hD : d ≤ C) (hxy : x < y → X < Y) (hyx : x = y → X = Y) (h : x * (c + 1) + d ≤ y * (c + 1) + e) : X * (C + 1) + d ≤ Y * (C + 1) + e := by
  rcases Nat.lt_trichotomy x y with z | z | z
  · exact Nat.le_of_lt (lx_lt hD (hxy z))
  · have := hyx z
    rw [this]
    rw [z] at h
    omega
  · have := lx_lt (x := y) (y := x) (c := c) (d := e) (e := d) he z
    omega
theorem lx_lts {x y c d e X Y C : Nat} (hd : d ≤ c) (he : e ≤ c) (hD : d ≤ C) (hxy : x < y → X < Y) (hyx : x = y → X = Y) (h : x * (c + 1) + d < y * (c + 1) + e) : X * (C + 1) + d < Y * (C + 1) + e := by
  rcases Nat.lt_trichotomy x y with z | z | z
  · exact lx_lt hD (hxy z)
  · have := hyx z
    rw [this]
    rw [z] at h
    omega
  · have := lx_lt (x := y) (y := x) (c := c) (d := e) (e := d) he z
    omega
theorem lx_eqs {x y c d e X Y C : Nat} (hd : d ≤ c) (he : e ≤ c) (hyx : x = y → X = Y) (h : x * (c + 1) + d = y * (c + 1) + e) : X * (C + 1) + d = Y * (C + 1) + e := by
  rcases Nat.lt_trichotomy x y with z | z | z
  · have := lx_lt (x := x) (y := y) (c := c) (d := d) (e := e) hd z
    omega
  · have := hyx z
    rw [this]
    rw [z] at h
    omega
  · have := lx_lt (x := y) (y := x) (c := c) (d := e) (e := d) he z
    omega
/-- the order of rows is the same over smaller ranges -/
theorem ixA_order {r s a b : Nat → Nat} (ha : ∀ k, k < 4 → a k ≤ r k) (hb : ∀ k, k < 4 → b k ≤ r k) (hs : ∀ k, k < 4 → r k ≤ s k) (h : ixA r a ≤ ixA r b) : ixA s a ≤ ixA s b := by
  have a1 := ha 1 (by omega)
  have a2 := ha 2 (by omega)
  have a3 := ha 3 (by omega)
  have b1 := hb 1 (by omega)
  have b2 := hb 2 (by omega)
  have b3 := hb 3 (by omega)
  have s1 := hs 1 (by omega)
  have s2 := hs 2 (by omega)
  have s3 := hs 3 (by omega)
  refine lx_le a3 b3 (by omega) (fun z => ?_) (fun z => ?_) h
  · refine lx_lts a2 b2 (by omega) (fun y => ?_) (fun y => ?_) z
    · exact lx_lts a1 b1 (by omega) (fun x => x) (fun x => x) y
    · exact lx_eqs a1 b1 (fun x => x) y
  · refine lx_eqs a2 b2 (fun y => ?_) z
    exact lx_eqs a1 b1 (fun x => x) y
/-! the best of all -/
theorem wsP_spec {v w : Nat → Nat} {W : Nat} : ∀ n, match wsP v w W n with
    | none => ∀ j, j < n → ¬ w j ≤ W
    | some b => b < n ∧ w b ≤ W ∧ ∀ j, j < n → w j ≤ W → v j < v b ∨ (v j = v b ∧ (w b < w j ∨ (w b = w j ∧ b ≤ j)))
  | 0 => fun j hj => absurd hj (Nat.not_lt_zero j)
  | n + 1 => by
    have ih := wsP_spec (v := v) (w := w) (W := W) n
    show match (if w n ≤ W ∧ wsB v w n (wsP v w W n) = true then some n else wsP v w W n) with
      | none => ∀ j, j < n + 1 → ¬ w j ≤ W
      | some b => b < n + 1 ∧ w b ≤ W ∧ ∀ j, j < n + 1 → w j ≤ W → v j < v b ∨ (v j = v b ∧ (w b < w j ∨ (w b = w j ∧ b ≤ j)))
    by_cases c : w n ≤ W ∧ wsB v w n (wsP v w W n) = true
    · rw [if_pos c]
      refine ⟨by omega, c.1, fun j hj hw => ?_⟩
      by_cases e : j = n
      · rw [e]; exact Or.inr ⟨rfl, Or.inr ⟨rfl, Nat.le_refl _⟩⟩
      · cases hb : wsP v w W n with
        | none =>
          rw [hb] at ih
          exact absurd hw (ih j (by omega))
        | some b =>
          rw [hb] at ih c
          have q := ih.2.2 j (by omega) hw
          have c2 := c.2
          unfold wsB at c2
          simp only [Bool.or_eq_true, Bool.and_eq_true, decide_eq_true_eq] at c2
          rcases c2 with c2 | ⟨c2, c3⟩
          · rcases q with q | q <;> exact Or.inl (by omega)
          · rcases q with q | ⟨q1, q2⟩
            · exact Or.inl (by omega)
            · refine Or.inr ⟨by omega, Or.inl ?_⟩
              rcases q2 with q2 | q2 <;> omega
    · rw [if_neg c]
      cases hb : wsP v w W n with
      | none =>
        rw [hb] at ih c
        intro j hj
        by_cases e : j = n
        · rw [e]
          exact fun z => c ⟨z, rfl⟩
        · exact ih j (by omega)
      | some b =>
        rw [hb] at ih c
        refine ⟨by have := ih.1; omega, ih.2.1, fun j hj hw => ?_⟩
        by_cases e : j = n
        · rw [e] at hw ⊢
          have c2 : ¬ wsB v w n (some b) = true := fun z => c ⟨hw, z⟩
          unfold wsB at c2
          simp only [Bool.or_eq_true, Bool.and_eq_true, decide_eq_true_eq] at c2
          have := ih.1
          by_cases x : v n < v b
          · exact Or.inl x
          · refine Or.inr ⟨?_, ?_⟩
            · have : ¬ v b < v n := fun z => c2 (Or.inl z)
              omega
            · have e1 : v n = v b := by
                have : ¬ v b < v n := fun z => c2 (Or.inl z)
                omega
              have : ¬ w n < w b := fun z => c2 (Or.inr ⟨e1, z⟩)
              by_cases y : w b < w n
              · exact Or.inl y
              · exact Or.inr ⟨by omega, by omega⟩
        · exact ih.2.2 j (by omega) hw
theorem chP_spec {v w : Nat → Nat} {s : Int} : ∀ n, match chP v w s n with
    | none => ∀ j, j < n → ¬ s ≤ (v j : Int)
    | some b => b < n ∧ s ≤ (v b : Int) ∧ ∀ j, j < n → s ≤ (v j : Int) → w b < w j ∨ (w b = w j ∧ b ≤ j)
  | 0 => fun j hj => absurd hj (Nat.not_lt_zero j)
  | n + 1 => by
    have ih := chP_spec (v := v) (w := w) (s := s) n
    show match (if chB w n (chP v w s n) = true ∧ s ≤ (v n : Int) then some n else chP v w s n) with
      | none => ∀ j, j < n + 1 → ¬ s ≤ (v j : Int)
      | some b => b < n + 1 ∧ s ≤ (v b : Int) ∧ ∀ j, j < n + 1 → s ≤ (v j : Int) → w b < w j ∨ (w b = w j ∧ b ≤ j)
    by_cases c : chB w n (chP v w s n) = true ∧ s ≤ (v n : Int)
    · rw [if_pos c]
      refine ⟨by omega, c.2, fun j hj hw => ?_⟩
      by_cases e : j = n
      · rw [e]; exact Or.inr ⟨rfl, Nat.le_refl _⟩
      · cases hb : chP v w s n with
        | none =>
          rw [hb] at ih
          exact absurd hw (ih j (by omega))
        | some b =>
          rw [hb] at ih c
          have q := ih.2.2 j (by omega) hw
          have c2 := c.1
          unfold chB at c2
          simp only [decide_eq_true_eq] at c2
          left
          omega
    · rw [if_neg c]
      cases hb : chP v w s n with
      | none =>
        rw [hb] at ih c
        intro j hj
        by_cases e : j = n
        · rw [e]
          exact fun z => c ⟨rfl, z⟩
        · exact ih j (by omega)
      | some b =>
        rw [hb] at ih c
        refine ⟨by have := ih.1; omega, ih.2.1, fun j hj hw => ?_⟩
        by_cases e : j = n
        · rw [e] at hw ⊢
          have c2 : ¬ chB w n (some b) = true := fun z => c ⟨z, hw⟩
          unfold chB at c2
          simp only [decide_eq_true_eq] at c2
          have := ih.1
          by_cases y : w b < w n
          · exact Or.inl y
          · exact Or.inr ⟨by omega, by omega⟩
        · exact ih.2.2 j (by omega) hw
/-! with fewer names -/
section FEWER
variable {us : Nat → Bool} {r sz wt : Nat → Nat}
/-- what is left of a row -/
def prA (us : Nat → Bool) (a : Nat → Nat) (k : Nat) : Nat := if us k = true then a k else 0
theorem smN_mono {f g : Nat → Nat} (h : ∀ k, k < 4 → f k ≤ g k) : smN f 4 ≤ smN g 4 := by
  have h0 := h 0 (by omega)
  have h1 := h 1 (by omega)
  have h2 := h 2 (by omega)
  have h3 := h 3 (by omega)
  show 0 + f 0 + f 1 + f 2 + f 3 ≤ 0 + g 0 + g 1 + g 2 + g 3
  omega
theorem smN_eq {f g : Nat → Nat} (h : ∀ k, k < 4 → f k = g k) : smN f 4 = smN g 4 := by
  show 0 + f 0 + f 1 + f 2 + f 3 = 0 + g 0 + g 1 + g 2 + g 3
  rw [h 0 (by omega), h 1 (by omega), h 2 (by omega), h 3 (by omega)]
/-- from all to the few: no heavier, and the same by its used names -/
theorem fw_down (hr : ∀ k, k < 4 → r k = if us k = true then sz k else 0) (j : Nat) : ∃ i, i < prN r 4 ∧ (∀ k, k < 4 → dgD r i k = prA us (dgD sz j) k) ∧ wgt (dgD r) wt i ≤ wgt (dgD sz) wt j := by
  have h : ∀ k, k < 4 → prA us (dgD sz j) k ≤ r k := fun k hk => by
    rw [hr k hk]
    unfold prA
    split
    · exact dgD_le _ _ _
    · exact Nat.le_refl _
  refine ⟨ixA r (prA us (dgD sz j)), ixA_lt h, ixA_dg h, ?_⟩
  unfold wgt
  refine smN_mono (fun k hk => ?_)
  rw [ixA_dg h k hk]
  refine Nat.mul_le_mul_right _ ?_
  unfold prA
  split
  · exact Nat.le_refl _
  · exact Nat.zero_le _
/-- from the few to all -/
theorem fw_up (hr : ∀ k, k < 4 → r k = if us k = true then sz k else 0) (i : Nat) : ∃ j, j < prN sz 4 ∧ (∀ k, k < 4 → dgD sz j k = dgD r i k) ∧ wgt (dgD sz) wt j = wgt (dgD r) wt i ∧ j = ixA sz (dgD r i) := by
  have h : ∀ k, k < 4 → dgD r i k ≤ sz k := fun k hk => by
    refine Nat.le_trans (dgD_le _ _ _) ?_
    rw [hr k hk]
    split
    · exact Nat.le_refl _
    · exact Nat.zero_le _
  refine ⟨ixA sz (dgD r i), ixA_lt h, ixA_dg h, ?_, rfl⟩
  unfold wgt
  exact smN_eq (fun k hk => by rw [ixA_dg h k hk])
/-- the order, from a few's place to all's -/
theorem fw_ord (hr : ∀ k, k < 4 → r k = if us k = true then sz k else 0) {b i j : Nat} (hb : b < prN r 4) (hi : i < prN r 4) (hj : j < prN sz 4) (hij : ∀ k, k < 4 → dgD r i k = prA us (dgD sz j) k) (h : b ≤ i) : ixA sz (dgD r b) ≤ j := by
  have e1 : ixA r (dgD r b) ≤ ixA r (dgD r i) := by rw [dg_ixA hb, dg_ixA hi]; exact h
  have e2 := ixA_order (s := sz) (fun k _ => dgD_le r b k) (fun k _ => dgD_le r i k) (fun k hk => by
    rw [hr k hk]
    split
    · exact Nat.le_refl _
    · exact Nat.zero_le _) e1
  have e3 : ixA sz (dgD r i) ≤ ixA sz (dgD sz j) := ixA_mono (fun k hk => by
    rw [hij k hk]
    unfold prA
    split
    · exact Nat.le_refl _
    · exact Nat.zero_le _)
  rw [dg_ixA hj] at e3
  omega
/-- what both find -/
def sameR (r sz v v' : Nat → Nat) : Option Nat → Option Nat → Prop
  | none, none => True
  | some b, some c => v' b = v c ∧ ∀ k, k < 4 → dgD r b k = dgD sz c k
  | _, _ => False
theorem ws_same (hr : ∀ k, k < 4 → r k = if us k = true then sz k else 0) {v v' : Nat → Nat} (hv : ∀ i j, (∀ k, k < 4 → us k = true → dgD r i k = dgD sz j k) → v' i = v j) (W : Nat) : sameR r sz v v' (wsP v' (wgt (dgD r) wt) W (prN r 4)) (wsP v (wgt (dgD sz) wt) W (prN sz 4)) := by
  have s1 := wsP_spec (v := v') (w := wgt (dgD r) wt) (W := W) (prN r 4)
  have s2 := wsP_spec (v := v) (w := wgt (dgD sz) wt) (W := W) (prN sz 4)
  cases h1 : wsP v' (wgt (dgD r) wt) W (prN r 4) with
  | none =>
    cases h2 : wsP v (wgt (dgD sz) wt) W (prN sz 4) with
    | none => trivial
    | some c =>
      rw [h1] at s1
      rw [h2] at s2
      obtain ⟨i, i1, i2, i3⟩ := fw_down (wt := wt) hr c
      exact absurd (Nat.le_trans i3 s2.2.1) (s1 i i1)
  | some b =>
    cases h2 : wsP v (wgt (dgD sz) wt) W (prN sz 4) with
    | none =>
      rw [h1] at s1
      rw [h2] at s2
      obtain ⟨j, j1, j2, j3, -⟩ := fw_up (wt := wt) hr b
      exact absurd (by rw [j3]; exact s1.2.1) (s2 j j1)
    | some c =>
      rw [h1] at s1
      rw [h2] at s2
      obtain ⟨b1, b2, b3⟩ := s1
      obtain ⟨c1, c2, c3⟩ := s2
      obtain ⟨i, i1, i2, i3⟩ := fw_down (wt := wt) hr c
      obtain ⟨j, j1, j2, j3, j4⟩ := fw_up (wt := wt) hr b
      have vi : v' i = v c := hv i c (fun k hk hu => by rw [i2 k hk]; unfold prA; rw [if_pos hu])
      have vj : v' b = v j := hv b j (fun k hk hu => (j2 k hk).symm)
      have q1 := b3 i i1 (Nat.le_trans i3 c2)
      have q2 := c3 j j1 (by rw [j3]; exact b2)
      have ej : j = c := by
        have o : b ≤ i → j ≤ c := fun z => by rw [j4]; exact fw_ord hr b1 i1 c1 i2 z
        rcases q1 with q1 | ⟨q1, q3 | ⟨q3, q4⟩⟩
        · rcases q2 with q2 | ⟨q2, -⟩ <;> omega
        · rcases q2 with q2 | ⟨q2, q5 | ⟨q5, q6⟩⟩ <;> omega
        · have := o q4
          rcases q2 with q2 | ⟨q2, q5 | ⟨q5, q6⟩⟩ <;> omega
      refine ⟨by rw [vj, ej], fun k hk => ?_⟩
      rw [← j2 k hk, ej]
theorem ch_same (hr : ∀ k, k < 4 → r k = if us k = true then sz k else 0) {v v' : Nat → Nat} (hv : ∀ i j, (∀ k, k < 4 → us k = true → dgD r i k = dgD sz j k) → v' i = v j) (s : Int) : sameR r sz (wgt (dgD sz) wt) (wgt (dgD r) wt) (chP v' (wgt (dgD r) wt) s (prN r 4)) (chP v (wgt (dgD sz) wt) s (prN sz 4)) := by
  have s1 := chP_spec (v := v') (w := wgt (dgD r) wt) (s := s) (prN r 4)
  have s2 := chP_spec (v := v) (w := wgt (dgD sz) wt) (s := s) (prN sz 4)
  cases h1 : chP v' (wgt (dgD r) wt) s (prN r 4) with
  | none =>
    cases h2 : chP v (wgt (dgD sz) wt) s (prN sz 4) with
    | none => trivial
    | some c =>
      rw [h1] at s1
      rw [h2] at s2
      obtain ⟨i, i1, i2, i3⟩ := fw_down (wt := wt) hr c
      have vi : v' i = v c := hv i c (fun k hk hu => by rw [i2 k hk]; unfold prA; rw [if_pos hu])
      exact absurd (by rw [vi]; exact s2.2.1) (s1 i i1)
  | some b =>
    cases h2 : chP v (wgt (dgD sz) wt) s (prN sz 4) with
    | none =>
      rw [h1] at s1
      rw [h2] at s2
      obtain ⟨j, j1, j2, j3, -⟩ := fw_up (wt := wt) hr b
      have vj : v' b = v j := hv b j (fun k hk hu => (j2 k hk).symm)
      exact absurd (by rw [← vj]; exact s1.2.1) (s2 j j1)
    | some c =>
      rw [h1] at s1
      rw [h2] at s2
      obtain ⟨b1, b2, b3⟩ := s1
      obtain ⟨c1, c2, c3⟩ := s2
      obtain ⟨i, i1, i2, i3⟩ := fw_down (wt := wt) hr c
      obtain ⟨j, j1, j2, j3, j4⟩ := fw_up (wt := wt) hr b
      have vi : v' i = v c := hv i c (fun k hk hu => by rw [i2 k hk]; unfold prA; rw [if_pos hu])
      have vj : v' b = v j := hv b j (fun k hk hu => (j2 k hk).symm)
      have q1 := b3 i i1 (by rw [vi]; exact c2)
      have q2 := c3 j j1 (by rw [← vj]; exact b2)
      have ej : j = c := by
        have o : b ≤ i → j ≤ c := fun z => by rw [j4]; exact fw_ord hr b1 i1 c1 i2 z
        rcases q1 with q3 | ⟨q3, q4⟩
        · rcases q2 with q5 | ⟨q5, q6⟩ <;> omega
        · have := o q4
          rcases q2 with q5 | ⟨q5, q6⟩ <;> omega
      refine ⟨by rw [← j3, ej], fun k hk => ?_⟩
      rw [← j2 k hk, ej]
/-- all, or the few: whether none brings more than a bound -/
theorem bl_same (hr : ∀ k, k < 4 → r k = if us k = true then sz k else 0) {v v' : Nat → Nat} (hv : ∀ i j, (∀ k, k < 4 → us k = true → dgD r i k = dgD sz j k) → v' i = v j) (s : Int) : (∀ i, i < prN r 4 → (v' i : Int) ≤ s) ↔ (∀ j, j < prN sz 4 → (v j : Int) ≤ s) := by
  constructor
  · intro h j hj
    obtain ⟨i, i1, i2, -⟩ := fw_down (wt := fun _ => 0) hr j
    have vi : v' i = v j := hv i j (fun k hk hu => by rw [i2 k hk]; unfold prA; rw [if_pos hu])
    rw [← vi]
    exact h i i1
  · intro h i hi
    obtain ⟨j, j1, j2, -⟩ := fw_up (wt := fun _ => 0) hr i
    have vj : v' i = v j := hv i j (fun k hk hu => (j2 k hk).symm)
    rw [vj]
    exact h j j1
end FEWER
