/-! both meters are one -/
section MEQ
variable {sort : Int32} {am : Nat → Nat} {cp : Nat → Option Nat} {ask K E L A B f bl pS : Nat → Nat} {par : Nat → Option Nat} {n nd : Nat}
theorem memb_congr {c : Nat → Bool} {T T' : Nat → Nat} {j : Nat} (h : T j = T' j) : memb c T j = memb c T' j := by unfold memb; rw [h]
/-- the roots of a part, along the ends -/
theorem ch_roots (h : tW n nd K E L A bl pS par) {X : Nat → Nat} (hX : ∀ k, k < n → X k ≤ MU) {d : Nat} (hd : d ≤ nd) : chX sort E X (pS d) (pS (d + 1)) = jnS sort (memb (rootB par) X) (pS (d + 1) - pS d) (pS d) := by
  have hn := tW_n h (show d + 1 ≤ nd + 1 by omega)
  have hle := h.2.2.2.1.2.1 d hd
  refine chX_eq hle (fun j hj => (h.1.1 j (by omega)).1) (fun j hj => hX j (by omega)) (fun j hj hc => ?_) (fun hlt => ?_)
  · have hc : par j = none := by unfold rootB at hc; simpa using hc
    have e1 := h.2.2.2.2.1 (d + 1) j (by omega) hj
    refine ⟨e1, fun q => ?_, fun i q1 q2 => ?_⟩
    · unfold rootB
      rw [tr_rootn h.1 (by omega) hc (by omega)]
      rfl
    · unfold rootB
      have := tr_rooti h.1 q1 q2 (by omega)
      simpa using this
  · unfold rootB
    rw [tr_root0 h.1 (fun k hk => h.2.2.2.2.1 d k (by omega) hk) (by omega)]
    rfl
/-- the children of a step, along the ends -/
theorem ch_kids (h : tW n nd K E L A bl pS par) {X : Nat → Nat} (hX : ∀ k, k < n → X k ≤ MU) {q a b : Nat} (hq : q < n) (hab : a ≤ b) (hqa : q < a) (hb : b ≤ E q) (h0 : a < b → par a = some q) (hcl : ∀ j, a ≤ j → j < b → par j = some q → E j ≤ b) : chX sort E X a b = jnS sort (memb (fun j => decide (par j = some q)) X) (b - a) a := by
  have hE := h.1.1 q hq
  have e1 : chX sort E X a b = jnS sort (memb (fun j => decide (par j = some q) && decide (a ≤ j)) X) (b - a) a := by
    refine chX_eq hab (fun j hj => (h.1.1 j (by omega)).1) (fun j hj => hX j (by omega)) (fun j hj hc => ?_) (fun hlt => ?_)
    · simp only [Bool.and_eq_true, decide_eq_true_eq] at hc
      obtain ⟨hc, hja⟩ := hc
      have e1 := hcl j hja hj hc
      refine ⟨e1, fun z => ?_, fun i q1 q2 => ?_⟩
      · have := tr_next h.1 hc (by omega) (by omega) (by omega)
        have := (h.1.1 j (by omega)).1
        simp only [Bool.and_eq_true, decide_eq_true_eq]
        exact ⟨by assumption, by omega⟩
      · have := tr_in h.1 hc (by omega) q1 q2 (by omega)
        simp [this]
    · simp [h0 hlt]
  rw [e1]
  refine jnS_congr _ _ (fun j q1 q2 => ?_)
  unfold memb
  have : decide (a ≤ j) = true := by simpa using q1
  simp only [this, Bool.and_true]
theorem goneB_iff {q j : Nat} : goneB K f bl par q j = true ↔ par j = some q ∧ (¬ K q = 5 ∨ f q = bl j) := by
  unfold goneB
  simp
/-- the inside of a step -/
theorem in_kids (h : tW n nd K E L A bl pS par) {X : Nat → Nat} (hX : ∀ k, k < n → X k ≤ MU) (hff : ∀ k, k < n → f k = figK am cp ask K A B k) {d k : Nat} (hd : d ≤ nd) (h1 : pS d ≤ k) (h2 : k < pS (d + 1)) (h4 : ¬ K k = 4) : inX sort ask K E L A B pS (fun d => pS (d + 1)) X k = jnS sort (memb (goneB K f bl par k) X) (pS (d + 1) - pS d) (pS d) := by
  have hn := tW_n h (show d + 1 ≤ nd + 1 by omega)
  have hle := h.2.2.2.1.2.1 d hd
  have hEk := h.2.2.2.2.1 (d + 1) k (by omega) h2
  have hE := h.1.1 k (by omega)
  have kid : ∀ j, j < n → par j = some k → k < j ∧ j < E k := fun j hj hp => by
    have := h.1.2.1 j k hj hp
    omega
  have mb : ∀ (c : Nat → Bool) j, pS d ≤ j → j < pS (d + 1) → memb c X j ≤ MU := fun c j q1 q2 => by
    unfold memb
    split
    · exact hX j (by omega)
    · exact Nat.zero_le _
  -- a range that holds all that are gone into
  have fin : ∀ a b, k < a → a ≤ b → b ≤ E k → (a < b → par a = some k) → (∀ j, a ≤ j → j < b → par j = some k → E j ≤ b) → (∀ j, j < n → par j = some k → (goneB K f bl par k j = true ↔ a ≤ j ∧ j < b)) → chX sort E X a b = jnS sort (memb (goneB K f bl par k) X) (pS (d + 1) - pS d) (pS d) := by
    intro a b ha hab hb g0 gc gg
    rw [ch_kids h hX (by omega) hab ha hb g0 gc]
    rw [jnS_sub (sort := sort) (g := memb (goneB K f bl par k) X) (lo := pS d) (a := a) (b := b) (hi := pS (d + 1)) (by omega) hab (by omega) (fun j q1 q2 => mb _ j q1 q2) (fun j q1 q2 q3 => by
      unfold memb
      rw [if_neg]
      intro z
      have z1 := (goneB_iff.mp z).1
      exact q3 ((gg j (by omega) z1).mp z))]
    refine jnS_congr _ _ (fun j q1 q2 => ?_)
    unfold memb
    by_cases c : par j = some k
    · have e1 : goneB K f bl par k j = true := (gg j (by omega) c).mpr ⟨q1, by omega⟩
      rw [if_pos (by simpa using c), if_pos e1]
    · rw [if_neg (by simpa using c), if_neg (fun z => c (goneB_iff.mp z).1)]
  unfold inX
  rw [if_neg h4]
  by_cases k5 : K k = 5
  · rw [if_pos k5]
    have hL := h.2.1.1 k (by omega) k5
    have fk : f k = if ask (A k) < B k then 0 else 1 := by
      rw [hff k (by omega)]
      unfold figK
      rw [if_pos k5]
    have tb := fun j (hj : j < n) (hp : par j = some k) => tr_bl h.1 h.2.1 h.2.2.1 hp hj k5
    have gi : ∀ j, par j = some k → (goneB K f bl par k j = true ↔ f k = bl j) := fun j hp => by
      rw [goneB_iff]
      constructor
      · rintro ⟨-, z⟩
        rcases z with z | z
        · exact absurd k5 z
        · exact z
      · intro z
        exact ⟨hp, Or.inr z⟩
    unfold ifA ifB
    by_cases c : ask (A k) < B k
    · rw [if_pos c, if_pos c]
      rw [if_pos c] at fk
      refine fin (k + 1) (L k) (by omega) (by omega) hL.2 (fun z => tr_first h.1 (by omega) (by omega)) (fun j q1 q2 q3 => (tb j (by omega) q3).2 q2) (fun j hj hp => ?_)
      rw [gi j hp, fk]
      have := (tb j hj hp).1
      have := kid j hj hp
      constructor
      · intro z
        exact ⟨by omega, this.2 |> fun _ => by have := (tb j hj hp).1; exact this.mpr z.symm⟩
      · intro z
        have := (tb j hj hp).1.mp z.2
        omega
    · rw [if_neg c, if_neg c]
      rw [if_neg c] at fk
      refine fin (L k) (E k) (by omega) hL.2 (Nat.le_refl _) (fun z => tr_else h.1 h.2.1 h.2.2.1 (by omega) k5 (by omega) z) (fun j q1 q2 q3 => (h.1.2.1 j k (by omega) q3).2.2) (fun j hj hp => ?_)
      rw [gi j hp, fk]
      have t1 := (tb j hj hp).1
      have t2 := kid j hj hp
      have t3 := h.2.2.1 j hj
      constructor
      · intro z
        have : ¬ j < L k := fun w => by have := t1.mp w; omega
        exact ⟨by omega, t2.2⟩
      · intro z
        have : ¬ bl j = 0 := fun w => by have := t1.mpr w; omega
        omega
  · rw [if_neg k5]
    refine fin (k + 1) (E k) (by omega) (by omega) (Nat.le_refl _) (fun z => tr_first h.1 (by omega) z) (fun j q1 q2 q3 => (h.1.2.1 j k (by omega) q3).2.2) (fun j hj hp => ?_)
    rw [goneB_iff]
    have := kid j hj hp
    exact ⟨fun _ => ⟨by omega, by omega⟩, fun _ => ⟨hp, Or.inl k5⟩⟩
/-- time, or room -/
def xsP (sort : Int32) (s : (Nat → Nat) × (Nat → Nat) × (Nat → Nat)) : Nat → Nat := if sort = 0 then s.1 else s.2.1
theorem xsP_fix (h : tW n nd K E L A bl pS par) {s : (Nat → Nat) × (Nat → Nat) × (Nat → Nat)} {k : Nat} (hk : k < n) (g : rkG am cp ask K E L A B pS (fun d => pS (d + 1)) s k) : xsP sort s k = if sort = 0 then cT (K k) (figK am cp ask K A B k) (inX sort ask K E L A B pS (fun d => pS (d + 1)) (xsP sort s) k) else cR (K k) (figK am cp ask K A B k) (inX sort ask K E L A B pS (fun d => pS (d + 1)) (xsP sort s) k) := by
  have hK := h.2.2.2.2.2.2 k hk
  unfold xsP
  by_cases z : sort = 0
  · subst z
    rw [if_pos rfl, if_pos rfl]
    rw [← tmK_in hK]
    exact g.1
  · rw [if_neg z, if_neg z]
    rw [← rmK_in z hK]
    exact g.2.1
theorem chX_congr {X X' : Nat → Nat} {a b : Nat} (hE : ∀ j, a ≤ j → j < b → j < E j) (h : ∀ j, a ≤ j → j < b → X j = X' j) : chX sort E X a b = chX sort E X' a b := by
  unfold chX
  rw [chT_congr (lo := a) (hi := b) h hE _ _ _ (Nat.le_refl _), chR_congr (lo := a) (hi := b) h hE _ _ _ (Nat.le_refl _)]
/-- a fixpoint is what the class adds up -/
theorem meter_eq (h : tW n nd K E L A bl pS par) (hff : ∀ k, k < n → f k = figK am cp ask K A B k) {X : Nat → Nat} (hX : ∀ k, k < n → X k ≤ MU) (hfx : ∀ k, k < n → X k = if sort = 0 then cT (K k) (figK am cp ask K A B k) (inX sort ask K E L A B pS (fun d => pS (d + 1)) X k) else cR (K k) (figK am cp ask K A B k) (inX sort ask K E L A B pS (fun d => pS (d + 1)) X k)) {s : brT} (hg : ∀ d, d ≤ nd → brG sort K A f bl pS par s d) :
    ∀ d, d ≤ nd + 1 → ∀ k, k < pS d → s.2.1 k = X k
  | 0, _, k, hk => by rw [h.2.2.2.1.1] at hk; omega
  | d + 1, hd, k, hk => by
    have ih := meter_eq h hff hX hfx hg d (by omega)
    have hn := tW_n h hd
    have hle := h.2.2.2.1.2.1 d (by omega)
    obtain ⟨g1, g2⟩ := hg d (by omega)
    -- from the last step on
    have dn : ∀ m k, pS (d + 1) ≤ k + m → pS d ≤ k → k < pS (d + 1) → s.2.1 k = X k := by
      intro m
      induction m with
      | zero => intro k q1 q2 q3; omega
      | succ m im =>
        intro k q1 q2 q3
        have hb : ∀ j, k < j → j < pS (d + 1) → s.2.1 j = X j := fun j r1 r2 => im j (by omega) (by omega) r2
        obtain ⟨w1, w2⟩ := g1 k q2 q3
        have inn : (if K k = 4 then s.2.2 (A k) else s.1 k) = inX sort ask K E L A B pS (fun d => pS (d + 1)) X k := by
          by_cases c : K k = 4
          · rw [if_pos c]
            have cc := tW_call h (by omega) q2 q3 c
            have ca := hg (A k) (by omega)
            rw [ca.2]
            unfold inX
            rw [if_pos c]
            rw [ch_roots h hX (show A k ≤ nd by omega)]
            refine jnS_congr _ _ (fun j r1 r2 => memb_congr ?_)
            have := h.2.2.2.1.2.1 (A k) (by omega)
            exact ih j (by omega)
          · rw [if_neg c, w2, in_kids h hX hff (by omega) q2 q3 c]
            refine jnS_congr _ _ (fun j r1 r2 => ?_)
            unfold memb
            by_cases z : goneB K f bl par k j = true
            · rw [if_pos z, if_pos z]
              have := (h.1.2.1 j k (by omega) (goneB_iff.mp z).1).1
              exact hb j this (by omega)
            · rw [if_neg z, if_neg z]
        rw [w1, hfx k (by omega)]
        unfold brK
        rw [inn, hff k (by omega)]
    by_cases e : k < pS d
    · exact ih k e
    · exact dn (pS (d + 1)) k (by omega) (by omega) hk
end MEQ
