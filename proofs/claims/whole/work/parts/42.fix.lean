/-! what is reckoned is a fixpoint -/
theorem chT_congr {E T T' : Nat → Nat} {lo hi : Nat} (h : ∀ j, lo ≤ j → j < hi → T j = T' j) (hE : ∀ j, lo ≤ j → j < hi → j < E j) : ∀ (m k acc : Nat), lo ≤ k → chT E T m k hi acc = chT E T' m k hi acc := by
  intro m
  induction m with
  | zero => intro k acc _; rfl
  | succ m ih =>
    intro k acc hk
    unfold chT
    split
    · rfl
    · rw [h k hk (by omega)]
      exact ih _ _ (by have := hE k hk (by omega); omega)
theorem chR_congr {E T T' : Nat → Nat} {lo hi : Nat} (h : ∀ j, lo ≤ j → j < hi → T j = T' j) (hE : ∀ j, lo ≤ j → j < hi → j < E j) : ∀ (m k acc : Nat), lo ≤ k → chR E T m k hi acc = chR E T' m k hi acc := by
  intro m
  induction m with
  | zero => intro k acc _; rfl
  | succ m ih =>
    intro k acc hk
    unfold chR
    split
    · rfl
    · rw [h k hk (by omega)]
      exact ih _ _ (by have := hE k hk (by omega); omega)
section FIX
variable {am : Nat → Nat} {cp : Nat → Option Nat} {ask K E L A B dF dT : Nat → Nat} {n : Nat}
theorem tmK_congr {T T' : Nat → Nat} {k : Nat} (hE : ∀ j, j < n → j < E j ∧ E j ≤ n) (hk : k < n) (hK : K k ≤ 5) (hL : K k = 5 → k < L k ∧ L k ≤ E k) (hd : K k = 4 → dT (A k) ≤ n) (h1 : ∀ j, k < j → j < E k → T j = T' j) (h2 : K k = 4 → ∀ j, dF (A k) ≤ j → j < dT (A k) → T j = T' j) : tmK am cp ask K E L A B dF dT T k = tmK am cp ask K E L A B dF dT T' k := by
  have e := hE k hk
  have c1 : chT E T (E k - (k + 1)) (k + 1) (E k) 0 = chT E T' (E k - (k + 1)) (k + 1) (E k) 0 := chT_congr (lo := k + 1) (fun j a b => h1 j (by omega) b) (fun j a b => (hE j (by omega)).1) _ _ _ (Nat.le_refl _)
  unfold tmK
  by_cases k0 : K k = 0
  · rw [if_pos k0, if_pos k0]
  rw [if_neg k0, if_neg k0]
  by_cases k1 : K k = 1
  · rw [if_pos k1, if_pos k1, c1]
  rw [if_neg k1, if_neg k1]
  by_cases k3 : K k ≤ 3
  · rw [if_pos k3, if_pos k3, c1]
  rw [if_neg k3, if_neg k3]
  by_cases k4 : K k = 4
  · rw [if_pos k4, if_pos k4]
    rw [chT_congr (lo := dF (A k)) (hi := dT (A k)) (h2 k4) (fun j a b => (hE j (by have := hd k4; omega)).1) _ _ _ (Nat.le_refl _)]
  rw [if_neg k4, if_neg k4]
  have cl : ∀ lo hi m, k + 1 ≤ lo → hi ≤ E k → chT E T m lo hi 0 = chT E T' m lo hi 0 := fun lo hi m a b => chT_congr (lo := lo) (hi := hi) (fun j c d => h1 j (by omega) (by omega)) (fun j c d => (hE j (by omega)).1) _ _ _ (Nat.le_refl _)
  have ab : k + 1 ≤ ifA ask L A B k ∧ ifB ask E L A B k ≤ E k := by
    have := hL (by omega)
    unfold ifA ifB
    split <;> exact ⟨by omega, by omega⟩
  rw [cl _ _ _ ab.1 ab.2]
theorem rkL_out : ∀ (m lo k : Nat) (s : (Nat → Nat) × (Nat → Nat) × (Nat → Nat)), (k < lo ∨ lo + m ≤ k) → (rkL am cp ask K E L A B dF dT m lo s).1 k = s.1 k := by
  intro m
  induction m with
  | zero => intro lo k s _; rfl
  | succ m ih =>
    intro lo k s hk
    rw [rkL, ih lo k _ (by omega)]
    show upN s.1 (lo + m) _ k = s.1 k
    unfold upN
    rw [if_neg (by omega)]
theorem rkL_fix (hE : ∀ j, j < n → j < E j ∧ E j ≤ n) (hK : ∀ k, k < n → K k ≤ 5) (hL : ∀ k, k < n → K k = 5 → k < L k ∧ L k ≤ E k) : ∀ (m lo : Nat) (s : (Nat → Nat) × (Nat → Nat) × (Nat → Nat)), lo + m ≤ n → (∀ k, lo ≤ k → k < lo + m → K k = 4 → dT (A k) ≤ lo) → ∀ k, lo ≤ k → k < lo + m → (rkL am cp ask K E L A B dF dT m lo s).1 k = tmK am cp ask K E L A B dF dT (rkL am cp ask K E L A B dF dT m lo s).1 k := by
  intro m
  induction m with
  | zero => intro lo s _ _ k h1 h2; omega
  | succ m ih =>
    intro lo s hn hd k h1 h2
    rw [rkL]
    by_cases e : k = lo + m
    · subst e
      rw [rkL_out m lo (lo + m) _ (by omega)]
      have ev : (stK am cp ask K E L A B dF dT (lo + m) s).1 (lo + m) = tmK am cp ask K E L A B dF dT s.1 (lo + m) := by
        show upN s.1 (lo + m) _ (lo + m) = _
        unfold upN
        rw [if_pos rfl]
      have eo : ∀ j, j ≠ lo + m → (stK am cp ask K E L A B dF dT (lo + m) s).1 j = s.1 j := fun j hj => by
        show upN s.1 (lo + m) _ j = _
        unfold upN
        rw [if_neg hj]
      rw [ev]
      refine tmK_congr hE (by omega) (hK _ (by omega)) (hL _ (by omega)) (fun z => by have := hd (lo + m) (by omega) (by omega) z; omega) (fun j a b => ?_) (fun z j a b => ?_)
      · rw [rkL_out m lo j _ (by omega), eo j (by omega)]
      · have := hd (lo + m) (by omega) (by omega) z
        rw [rkL_out m lo j _ (by omega), eo j (by omega)]
    · exact ih lo _ (by omega) (fun q a b z => hd q a (by omega) z) k h1 (by omega)
end FIX
