/-! a program as the model's tables have it: K kinds, E ends, L else-starts, A, B operands, F factor starts, fk fv fp factors, dF dT defs; n steps, nd defs -/
def mPrg (I : Nat → Nat → Int32) (K E L A B F fk fv fp dF dT : Nat → Nat) (n nd : Nat) : Prop :=
  n ≤ 60 ∧ nd ≤ 6 ∧ (∀ k, k < n → I 7 k = nI (K k) ∧ K k ≤ 5 ∧ I 8 k = nI (E k) ∧ k < E k ∧ E k ≤ n ∧ I 9 k = nI (L k) ∧ I 10 k = nI (A k) ∧ I 11 k = nI (B k) ∧ B k ≤ 1000 ∧ A k ≤ 1000 ∧ (K k = 1 → A k < 8) ∧ (K k = 3 → A k < 8) ∧ (K k = 4 → A k < nd) ∧ (K k = 5 → A k < 4 ∧ k < L k ∧ L k ≤ E k) ∧ I 12 k = nI (F k) ∧ I 12 (k + 1) = nI (F (k + 1)) ∧ F k ≤ F (k + 1) ∧ F (k + 1) ≤ F n) ∧ F n ≤ 200 ∧ facT I 13 14 15 fk fv fp (F n) ∧ ∀ d, d < nd → I 17 d = nI (dF d) ∧ I 18 d = nI (dT d) ∧ dF d ≤ n ∧ dT d ≤ n
def capT (I : Nat → Nat → Int32) (o : Nat) (cp : Nat → Option Nat) : Prop := ∀ p, p < 8 → (cp p = none ∧ I o p = -1) ∨ ∃ c, cp p = some c ∧ I o p = nI c ∧ c ≤ 1000000
def amtK (ask F fk fv fp : Nat → Nat) (k : Nat) : Nat := amtR (fcW ask fk fv) fp (F (k + 1) - F k) (F k) 0 0
def trnK (cp : Option Nat) (am : Nat) : Nat := match cp with
  | none => am
  | some c => min am c
/-- the block that an if goes into -/
def ifA (ask L A B : Nat → Nat) (k : Nat) : Nat := if ask (A k) < B k then k + 1 else L k
def ifB (ask E L A B : Nat → Nat) (k : Nat) : Nat := if ask (A k) < B k then L k else E k
def tmK (am : Nat → Nat) (cp : Nat → Option Nat) (ask K E L A B dF dT T : Nat → Nat) (k : Nat) : Nat :=
  if K k = 0 then am k
  else if K k = 1 then sat (trnK (cp (A k)) (am k) * sat (chT E T (E k - (k + 1)) (k + 1) (E k) 0 + 1))
  else if K k ≤ 3 then chT E T (E k - (k + 1)) (k + 1) (E k) 0
  else if K k = 4 then sat (chT E T (dT (A k) - dF (A k)) (dF (A k)) (dT (A k)) 0 + 1)
  else sat (chT E T (ifB ask E L A B k - ifA ask L A B k) (ifA ask L A B k) (ifB ask E L A B k) 0 + 1)
def rmK (am : Nat → Nat) (cp : Nat → Option Nat) (ask K E L A B dF dT T : Nat → Nat) (k : Nat) : Nat :=
  if K k = 0 then 0
  else if K k = 1 then (if trnK (cp (A k)) (am k) = 0 then 0 else chR E T (E k - (k + 1)) (k + 1) (E k) 0)
  else if K k = 2 then sat (am k + chR E T (E k - (k + 1)) (k + 1) (E k) 0)
  else if K k = 3 then chR E T (E k - (k + 1)) (k + 1) (E k) 0
  else if K k = 4 then chR E T (dT (A k) - dF (A k)) (dF (A k)) (dT (A k)) 0
  else chR E T (ifB ask E L A B k - ifA ask L A B k) (ifA ask L A B k) (ifB ask E L A B k) 0
def upN (f : Nat → Nat) (k v : Nat) : Nat → Nat := fun j => if j = k then v else f j
theorem lonT_up {J : Nat → Nat → Int64} {o k v n : Nat} {T : Nat → Nat} (h : lonT J o T n) (hv : v ≤ MU) : lonT (up2 J o k (lN v)) o (upN T k v) n := by
  intro j hj
  unfold up2 upN
  by_cases e : j = k
  · simp [e, hv]
  · simp [e, h j hj]
theorem lonT_ne {J : Nat → Nat → Int64} {o o' k n : Nat} {x : Int64} {T : Nat → Nat} (h : lonT J o T n) (hne : o ≠ o') : lonT (up2 J o' k x) o T n := by
  intro j hj
  rw [up2_ne' hne]
  exact h j hj
theorem amtR_le {fc fp : Nat → Nat} : ∀ (n f s p : Nat), amtR fc fp n f s p ≤ MU := by
  intro n
  induction n with
  | zero => intro f s p; exact sat_le _
  | succ n ih =>
    intro f s p
    unfold amtR
    split <;> exact ih _ _ _
theorem trnK_le {cp : Option Nat} {am : Nat} (h : am ≤ MU) : trnK cp am ≤ MU := by
  unfold trnK
  split
  · exact h
  · omega
theorem tmK_le {am : Nat → Nat} {cp : Nat → Option Nat} {ask K E L A B dF dT T : Nat → Nat} {k : Nat} (h : am k ≤ MU) : tmK am cp ask K E L A B dF dT T k ≤ MU := by
  unfold tmK
  split
  · exact h
  · split
    · exact sat_le _
    · split
      · exact chT_le _ _ _ _ (Nat.zero_le _)
      · split <;> exact sat_le _
