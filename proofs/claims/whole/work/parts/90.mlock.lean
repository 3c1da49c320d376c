/-! locks: both -/
/-- among the first m of a chain of parents -/
def onC (par : Nat → Option Nat) (q : Nat) : Nat → Option Nat → Prop
  | 0, _ => False
  | _ + 1, none => False
  | m + 1, some c => c = q ∨ onC par q m (par c)
theorem onC_none {par : Nat → Option Nat} {q : Nat} : ∀ m, ¬ onC par q m none
  | 0 => fun z => z
  | _ + 1 => fun z => z
section MLOCK
variable {K E L A B bl pS : Nat → Nat} {par : Nat → Option Nat} {n nd : Nat}
theorem onC_iff (h : trE n E par) {q : Nat} : ∀ (m k : Nat), k < n → ancN par m (par k) → (onC par q m (par k) ↔ q < k ∧ k < E q)
  | 0, k, hk, ha => by
    cases e : par k with
    | none =>
      refine ⟨fun z => z.elim, fun z => ?_⟩
      obtain ⟨c, hc, -⟩ := h.2.2 q k hk z.1 z.2
      rw [e] at hc
      cases hc
    | some c =>
      rw [e] at ha
      exact ha.elim
  | m + 1, k, hk, ha => by
    cases e : par k with
    | none =>
      refine ⟨fun z => z.elim, fun z => ?_⟩
      obtain ⟨c, hc, -⟩ := h.2.2 q k hk z.1 z.2
      rw [e] at hc
      cases hc
    | some c =>
      rw [e] at ha
      have hc := h.2.1 k c hk e
      have ih := onC_iff (q := q) h m c (by omega) ha
      constructor
      · rintro (z | z)
        · rw [← z]; exact ⟨hc.1, hc.2.1⟩
        · have r := ih.mp z
          have := tr_lam h (show c < n by omega) r.1 r.2
          exact ⟨by omega, by omega⟩
      · intro z
        obtain ⟨x, x1, x2⟩ := h.2.2 q k hk z.1 z.2
        rw [e] at x1
        cases x1
        by_cases y : c = q
        · exact Or.inl y
        · exact Or.inr (ih.mpr ⟨by omega, by omega⟩)
theorem hoL_bit {c a b : Nat} : ∀ (m : Nat) (o : Option Nat) (h : Nat → Nat), ((hoL K A par c m o h a).testBit b = true ↔ (h a).testBit b = true ∨ (c.testBit b = true ∧ ∃ q, onC par q m o ∧ K q = 3 ∧ A q = a))
  | 0, o, h => by
    show ((h a).testBit b = true ↔ _)
    constructor
    · exact Or.inl
    · rintro (z | ⟨-, q, z, -⟩)
      · exact z
      · exact z.elim
  | m + 1, none, h => by
    show ((h a).testBit b = true ↔ _)
    constructor
    · exact Or.inl
    · rintro (z | ⟨-, q, z, -⟩)
      · exact z
      · exact z.elim
  | m + 1, some x, h => by
    show ((hoL K A par c m (par x) (if K x = 3 then upN h (A x) (h (A x) ||| c) else h) a).testBit b = true ↔ _)
    rw [hoL_bit m (par x)]
    have e1 : (((if K x = 3 then upN h (A x) (h (A x) ||| c) else h) a).testBit b = true ↔ (h a).testBit b = true ∨ (c.testBit b = true ∧ K x = 3 ∧ A x = a)) := by
      by_cases k3 : K x = 3
      · rw [if_pos k3]
        by_cases y : a = A x
        · rw [y, upN_at, Nat.testBit_or, Bool.or_eq_true]
          constructor
          · rintro (z | z)
            · exact Or.inl z
            · exact Or.inr ⟨z, k3, rfl⟩
          · rintro (z | z)
            · exact Or.inl z
            · exact Or.inr z.1
        · rw [upN_ne y]
          constructor
          · exact Or.inl
          · rintro (z | z)
            · exact z
            · exact absurd z.2.2.symm y
      · rw [if_neg k3]
        constructor
        · exact Or.inl
        · rintro (z | z)
          · exact z
          · exact absurd z.2.1 k3
    rw [e1]
    constructor
    · rintro ((z | z) | ⟨z1, q, z2, z3⟩)
      · exact Or.inl z
      · exact Or.inr ⟨z.1, x, Or.inl rfl, z.2⟩
      · exact Or.inr ⟨z1, q, Or.inr z2, z3⟩
    · rintro (z | ⟨z1, q, z2 | z2, z3⟩)
      · exact Or.inl (Or.inl z)
      · rw [← z2] at z3
        exact Or.inl (Or.inr ⟨z1, z3⟩)
      · exact Or.inr ⟨z1, q, z2, z3⟩
theorem lkN_bit {w : Nat → Nat} {a b : Nat} : ∀ m, ((lkN K A w a m).testBit b = true ↔ ∃ k, a ≤ k ∧ k < a + m ∧ (lkK K A w k).testBit b = true)
  | 0 => by
    show ((0 : Nat).testBit b = true ↔ _)
    rw [Nat.zero_testBit]
    constructor
    · intro z; cases z
    · rintro ⟨k, z1, z2, -⟩; omega
  | m + 1 => by
    show ((lkN K A w a m ||| lkK K A w (a + m)).testBit b = true ↔ _)
    rw [Nat.testBit_or, Bool.or_eq_true, lkN_bit m]
    constructor
    · rintro (⟨k, z1, z2, z3⟩ | z)
      · exact ⟨k, z1, by omega, z3⟩
      · exact ⟨a + m, by omega, by omega, z⟩
    · rintro ⟨k, z1, z2, z3⟩
      by_cases e : k = a + m
      · rw [e] at z3; exact Or.inr z3
      · exact Or.inl ⟨k, z1, by omega, z3⟩
theorem lkK_eq {w w' : Nat → Nat} {k : Nat} (h : K k = 4 → w (A k) = w' (A k)) : lkK K A w k = lkK K A w' k := by
  unfold lkK
  split
  · rfl
  · split
    · exact h (by assumption)
    · rfl
theorem lkN_eq {w w' : Nat → Nat} {a : Nat} : ∀ m, (∀ k, a ≤ k → k < a + m → K k = 4 → w (A k) = w' (A k)) → lkN K A w a m = lkN K A w' a m
  | 0, _ => rfl
  | m + 1, h => by
    show lkN K A w a m ||| lkK K A w (a + m) = lkN K A w' a m ||| lkK K A w' (a + m)
    rw [lkN_eq m (fun k h1 h2 => h k h1 (by omega)), lkK_eq (h (a + m) (by omega) (by omega))]
/-- the class, one part -/
theorem lpL_w {d : Nat} : ∀ (m k : Nat) (s : vsT), (∀ j, k ≤ j → j < k + m → K j = 4 → A j ≠ d) → (∀ e, e ≠ d → (lpL K A par d m k s).2 e = s.2 e) ∧ (lpL K A par d m k s).2 d = s.2 d ||| lkN K A s.2 k m
  | 0, k, s, _ => ⟨fun _ _ => rfl, by show s.2 d = s.2 d ||| 0; rw [Nat.or_zero]⟩
  | m + 1, k, s, h => by
    obtain ⟨a, b⟩ := lpL_w m (k + 1) (lpS K A par d k s) (fun j h1 h2 => h j (by omega) (by omega))
    have e1 : (lpS K A par d k s).2 = upN s.2 d (s.2 d ||| lkK K A s.2 k) := rfl
    rw [lpL]
    refine ⟨fun e he => ?_, ?_⟩
    · rw [a e he, e1, upN_ne he]
    · rw [b, e1, upN_at]
      rw [lkN_eq (w := upN s.2 d (s.2 d ||| lkK K A s.2 k)) (w' := s.2) m (fun j h1 h2 h4 => upN_ne (h j (by omega) (by omega) h4))]
      apply Nat.eq_of_testBit_eq
      intro i
      rw [Bool.eq_iff_iff]
      simp only [Nat.testBit_or, Bool.or_eq_true, lkN_bit]
      constructor
      · rintro ((z | z) | ⟨j, z1, z2, z3⟩)
        · exact Or.inl z
        · exact Or.inr ⟨k, Nat.le_refl _, by omega, z⟩
        · exact Or.inr ⟨j, by omega, by omega, z3⟩
      · rintro (z | ⟨j, z1, z2, z3⟩)
        · exact Or.inl (Or.inl z)
        · by_cases e : j = k
          · rw [e] at z3; exact Or.inl (Or.inr z3)
          · exact Or.inr ⟨j, by omega, by omega, z3⟩
theorem lpL_h {d a b : Nat} : ∀ (m k : Nat) (s : vsT), (∀ j, k ≤ j → j < k + m → K j = 4 → A j ≠ d) → (((lpL K A par d m k s).1 a).testBit b = true ↔ (s.1 a).testBit b = true ∨ ∃ j, k ≤ j ∧ j < k + m ∧ (lkK K A s.2 j).testBit b = true ∧ ∃ q, onC par q 8 (par j) ∧ K q = 3 ∧ A q = a)
  | 0, k, s, _ => by
    show ((s.1 a).testBit b = true ↔ _)
    constructor
    · exact Or.inl
    · rintro (z | ⟨j, z1, z2, -⟩)
      · exact z
      · omega
  | m + 1, k, s, h => by
    rw [lpL, lpL_h m (k + 1) (lpS K A par d k s) (fun j h1 h2 => h j (by omega) (by omega))]
    have e0 : (lpS K A par d k s).1 = hoL K A par (lkK K A s.2 k) 8 (par k) s.1 := rfl
    have e1 : (lpS K A par d k s).2 = upN s.2 d (s.2 d ||| lkK K A s.2 k) := rfl
    rw [e0, hoL_bit]
    have e2 : ∀ j, k + 1 ≤ j → j < k + 1 + m → lkK K A (lpS K A par d k s).2 j = lkK K A s.2 j := fun j h1 h2 => lkK_eq (fun h4 => by rw [e1]; exact upN_ne (h j (by omega) (by omega) h4))
    constructor
    · rintro ((z | z) | ⟨j, z1, z2, z3, z4⟩)
      · exact Or.inl z
      · exact Or.inr ⟨k, Nat.le_refl _, by omega, z⟩
      · rw [e2 j z1 z2] at z3
        exact Or.inr ⟨j, by omega, by omega, z3, z4⟩
    · rintro (z | ⟨j, z1, z2, z3, z4⟩)
      · exact Or.inl (Or.inl z)
      · by_cases e : j = k
        · rw [e] at z3 z4
          exact Or.inl (Or.inr ⟨z3, z4⟩)
        · exact Or.inr ⟨j, by omega, by omega, by rw [e2 j (by omega) (by omega)]; exact z3, z4⟩
theorem lpD_snoc : ∀ (m d : Nat) (s : vsT), lpD K A par pS (m + 1) d s = lpL K A par (d + m) (pS (d + m + 1) - pS (d + m)) (pS (d + m)) (lpD K A par pS m d s)
  | 0, d, s => rfl
  | m + 1, d, s => by
    show lpD K A par pS (m + 1) (d + 1) (lpL K A par d (pS (d + 1) - pS d) (pS d) s) = _
    rw [lpD_snoc m (d + 1), show d + 1 + m = d + (m + 1) by omega]
    rfl
theorem lp_G (h : tW n nd K E L A bl pS par) : ∀ m, m ≤ nd + 1 → (∀ e, e < m → (lpD K A par pS m 0 (fun _ => 0, fun _ => 0)).2 e = lkN K A (lpD K A par pS m 0 (fun _ => 0, fun _ => 0)).2 (pS e) (pS (e + 1) - pS e)) ∧ (∀ e, m ≤ e → (lpD K A par pS m 0 (fun _ => 0, fun _ => 0)).2 e = 0) ∧ (∀ a b, ((lpD K A par pS m 0 (fun _ => 0, fun _ => 0)).1 a).testBit b = true ↔ ∃ j, j < pS m ∧ (lkK K A (lpD K A par pS m 0 (fun _ => 0, fun _ => 0)).2 j).testBit b = true ∧ ∃ q, onC par q 8 (par j) ∧ K q = 3 ∧ A q = a)
  | 0, _ => ⟨fun e he => absurd he (Nat.not_lt_zero e), fun _ _ => rfl, fun a b => by
      show ((0 : Nat).testBit b = true ↔ _)
      rw [Nat.zero_testBit, h.2.2.2.1.1]
      constructor
      · intro z; cases z
      · rintro ⟨j, z, -⟩; omega⟩
  | m + 1, hm => by
    obtain ⟨g1, g2, g3⟩ := lp_G h m (by omega)
    have hle := h.2.2.2.1.2.1 m (by omega)
    have e5 : pS m + (pS (m + 1) - pS m) = pS (m + 1) := by omega
    rw [lpD_snoc, Nat.zero_add]
    generalize lpD K A par pS m 0 (fun _ => 0, fun _ => 0) = s at g1 g2 g3 ⊢
    have nc : ∀ j, pS m ≤ j → j < pS m + (pS (m + 1) - pS m) → K j = 4 → A j ≠ m := fun j h1 h2 h4 => by
      have := tW_call h (show m ≤ nd by omega) h1 (by omega) h4
      omega
    obtain ⟨w1, w2⟩ := lpL_w (K := K) (A := A) (par := par) (d := m) (pS (m + 1) - pS m) (pS m) s nc
    have wh := fun a b => lpL_h (K := K) (A := A) (par := par) (d := m) (a := a) (b := b) (pS (m + 1) - pS m) (pS m) s nc
    generalize lpL K A par m (pS (m + 1) - pS m) (pS m) s = t at w1 w2 wh ⊢
    have nn := tW_n h (show m ≤ nd + 1 by omega)
    have old : ∀ j, j < pS (m + 1) → K j = 4 → t.2 (A j) = s.2 (A j) := fun j hj h4 => by
      refine w1 _ ?_
      by_cases c : j < pS m
      · have q := h.2.2.2.2.2.1 j (by omega) h4
        intro z
        have := tW_le h (A j + 1) (by omega) m (by omega)
        omega
      · exact nc j (by omega) (by omega) h4
    refine ⟨fun e he => ?_, fun e he => ?_, fun a b => ?_⟩
    · by_cases c : e = m
      · rw [c, w2, g2 m (Nat.le_refl _), Nat.zero_or]
        exact lkN_eq _ (fun k h1 h2 h4 => (old k (by omega) h4).symm)
      · have l1 := tW_le h m (by omega) (e + 1) (by omega)
        have l2 := h.2.2.2.1.2.1 e (by omega)
        rw [w1 e c, g1 e (by omega)]
        exact lkN_eq _ (fun k h1 h2 h4 => (old k (by omega) h4).symm)
    · rw [w1 e (by omega)]; exact g2 e (by omega)
    · rw [wh a b, g3 a b]
      have ek : ∀ j, j < pS (m + 1) → lkK K A t.2 j = lkK K A s.2 j := fun j hj => lkK_eq (fun h4 => old j hj h4)
      constructor
      · rintro (⟨j, z1, z2, z3⟩ | ⟨j, z1, z2, z3, z4⟩)
        · exact ⟨j, by omega, by rw [ek j (by omega)]; exact z2, z3⟩
        · exact ⟨j, by omega, by rw [ek j (by omega)]; exact z3, z4⟩
      · rintro ⟨j, z1, z2, z3⟩
        rw [ek j z1] at z2
        by_cases c : j < pS m
        · exact Or.inl ⟨j, c, z2, z3⟩
        · exact Or.inr ⟨j, by omega, by omega, z2, z3⟩
/-! the model -/
theorem wiD_snoc {dF dT : Nat → Nat} : ∀ (m d : Nat) (w : Nat → Nat), wiD K A dF dT (m + 1) d w = upN (wiD K A dF dT m d w) (d + m) (lkN K A (wiD K A dF dT m d w) (dF (d + m)) (dT (d + m) - dF (d + m)))
  | 0, d, w => rfl
  | m + 1, d, w => by
    show wiD K A dF dT (m + 1) (d + 1) (upN w d (lkN K A w (dF d) (dT d - dF d))) = _
    rw [wiD_snoc m (d + 1), show d + 1 + m = d + (m + 1) by omega]
    rfl
theorem wi_G (h : tW n nd K E L A bl pS par) (w0 : Nat → Nat) : ∀ m, m ≤ nd → ∀ e, e < m → wiD K A pS (fun d => pS (d + 1)) m 0 w0 e = lkN K A (wiD K A pS (fun d => pS (d + 1)) m 0 w0) (pS e) (pS (e + 1) - pS e)
  | 0, _, e, he => absurd he (Nat.not_lt_zero e)
  | m + 1, hm, e, he => by
    have g := wi_G h w0 m (by omega)
    rw [wiD_snoc, Nat.zero_add]
    generalize wiD K A pS (fun d => pS (d + 1)) m 0 w0 = w at g ⊢
    have hle := h.2.2.2.1.2.1 e (by omega)
    have nc : ∀ j, pS e ≤ j → j < pS e + (pS (e + 1) - pS e) → K j = 4 → A j ≠ m := fun j h1 h2 h4 => by
      have := tW_call h (show e ≤ nd by omega) h1 (by omega) h4
      omega
    by_cases c : e = m
    · rw [c, upN_at]
      rw [c] at nc
      exact lkN_eq _ (fun k h1 h2 h4 => (upN_ne (nc k h1 h2 h4)).symm)
    · rw [upN_ne c, g e (by omega)]
      exact lkN_eq _ (fun k h1 h2 h4 => (upN_ne (nc k h1 h2 h4)).symm)
theorem clr_bit {x j b : Nat} : (clr x j).testBit b = true ↔ x.testBit b = true ∧ (255 - 2 ^ j).testBit b = true := by
  unfold clr
  rw [Nat.testBit_and, Bool.and_eq_true]
theorem haL_bit {w : Nat → Nat} {a b : Nat} : ∀ (m k : Nat) (h : Nat → Nat), ((haL K E A w m k h a).testBit b = true ↔ (h a).testBit b = true ∨ ∃ q, k ≤ q ∧ q < k + m ∧ K q = 3 ∧ A q = a ∧ (lkN K A w (q + 1) (E q - (q + 1))).testBit b = true ∧ (255 - 2 ^ a).testBit b = true)
  | 0, k, h => by
    show ((h a).testBit b = true ↔ _)
    constructor
    · exact Or.inl
    · rintro (z | ⟨q, z1, z2, -⟩)
      · exact z
      · omega
  | m + 1, k, h => by
    rw [haL, haL_bit m (k + 1)]
    have e1 : (((if K k = 3 then upN h (A k) (h (A k) ||| clr (lkN K A w (k + 1) (E k - (k + 1))) (A k)) else h) a).testBit b = true ↔ (h a).testBit b = true ∨ (K k = 3 ∧ A k = a ∧ (lkN K A w (k + 1) (E k - (k + 1))).testBit b = true ∧ (255 - 2 ^ a).testBit b = true)) := by
      by_cases k3 : K k = 3
      · rw [if_pos k3]
        by_cases y : a = A k
        · rw [y, upN_at, Nat.testBit_or, Bool.or_eq_true, clr_bit]
          constructor
          · rintro (z | z)
            · exact Or.inl z
            · exact Or.inr ⟨k3, rfl, z⟩
          · rintro (z | z)
            · exact Or.inl z
            · exact Or.inr z.2.2
        · rw [upN_ne y]
          constructor
          · exact Or.inl
          · rintro (z | z)
            · exact z
            · exact absurd z.2.1.symm y
      · rw [if_neg k3]
        constructor
        · exact Or.inl
        · rintro (z | z)
          · exact z
          · exact absurd z.1 k3
    rw [e1]
    constructor
    · rintro ((z | z) | ⟨q, z1, z2, z3⟩)
      · exact Or.inl z
      · exact Or.inr ⟨k, Nat.le_refl _, by omega, z⟩
      · exact Or.inr ⟨q, by omega, by omega, z3⟩
    · rintro (z | ⟨q, z1, z2, z3⟩)
      · exact Or.inl (Or.inl z)
      · by_cases e : q = k
        · rw [e] at z3; exact Or.inl (Or.inr z3)
        · exact Or.inr ⟨q, by omega, by omega, z3⟩
/-- held ahead is one -/
theorem locks_eq (h : tW n nd K E L A bl pS par) (hanc : ∀ k, k < n → ancN par 8 (par k)) (w0 : Nat → Nat) {a : Nat} (ha : a < 8) : clL (lpD K A par pS (nd + 1) 0 (fun _ => 0, fun _ => 0)).1 8 a = haM K E A pS (fun d => pS (d + 1)) n nd w0 a := by
  obtain ⟨g1, g2, g3⟩ := lp_G h (nd + 1) (Nat.le_refl _)
  have g4 := wi_G h w0 nd (Nat.le_refl _)
  unfold haM
  generalize lpD K A par pS (nd + 1) 0 (fun _ => 0, fun _ => 0) = s at g1 g2 g3 ⊢
  generalize wiD K A pS (fun d => pS (d + 1)) nd 0 w0 = w at g4 ⊢
  -- the parts' locks
  have we : ∀ m e, e ≤ m → e < nd → s.2 e = w e := by
    intro m
    induction m with
    | zero =>
      intro e h1 h2
      have : e = 0 := by omega
      subst this
      rw [g1 0 (by omega), g4 0 h2]
      refine lkN_eq _ (fun k q1 q2 q4 => ?_)
      have hle := h.2.2.2.1.2.1 0 (by omega)
      have := tW_call h (show 0 ≤ nd by omega) q1 (by omega) q4
      omega
    | succ m ih =>
      intro e h1 h2
      rw [g1 e (by omega), g4 e h2]
      refine lkN_eq _ (fun k q1 q2 q4 => ?_)
      have hle := h.2.2.2.1.2.1 e (by omega)
      have := tW_call h (show e ≤ nd by omega) q1 (by omega) q4
      exact ih (A k) (by omega) (by omega)
  have ke : ∀ k, k < n → lkK K A s.2 k = lkK K A w k := fun k hk => lkK_eq (fun h4 => by
    have := h.2.2.2.2.2.1 k hk h4
    exact we (A k) (A k) (Nat.le_refl _) this.1)
  apply Nat.eq_of_testBit_eq
  intro b
  rw [Bool.eq_iff_iff, haL_bit]
  have e0 : clL s.1 8 a = clr (s.1 a) a := by unfold clL; rw [if_pos ha]
  rw [e0, clr_bit, g3, h.2.2.2.1.2.2]
  constructor
  · rintro ⟨⟨j, z1, z2, q, z3, z4, z5⟩, z6⟩
    have r := (onC_iff h.1 8 j z1 (hanc j z1)).mp z3
    rw [ke j z1] at z2
    exact Or.inr ⟨q, Nat.zero_le _, by omega, z4, z5, (lkN_bit _).mpr ⟨j, by omega, by omega, z2⟩, z6⟩
  · rintro (z | ⟨q, z1, z2, z3, z4, z5, z6⟩)
    · have z : (0 : Nat).testBit b = true := z
      rw [Nat.zero_testBit] at z
      cases z
    · obtain ⟨j, y1, y2, y3⟩ := (lkN_bit _).mp z5
      have hE := h.1.1 q (by omega)
      rw [← ke j (by omega)] at y3
      exact ⟨⟨j, by omega, y3, q, (onC_iff h.1 8 j (by omega) (hanc j (by omega))).mpr ⟨by omega, by omega⟩, z3, z4⟩, z6⟩
end MLOCK
