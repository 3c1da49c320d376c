/-! what is reckoned is a fixpoint: room, turns, all parts -/
section FIX2
variable {am : Nat → Nat} {cp : Nat → Option Nat} {ask K E L A B dF dT : Nat → Nat} {n : Nat}
theorem rmK_congr {T T' : Nat → Nat} {k : Nat} (hE : ∀ j, j < n → j < E j ∧ E j ≤ n) (hk : k < n) (hK : K k ≤ 5) (hL : K k = 5 → k < L k ∧ L k ≤ E k) (hd : K k = 4 → dT (A k) ≤ n) (h1 : ∀ j, k < j → j < E k → T j = T' j) (h2 : K k = 4 → ∀ j, dF (A k) ≤ j → j < dT (A k) → T j = T' j) : rmK am cp ask K E L A B dF dT T k = rmK am cp ask K E L A B dF dT T' k := by
  have e := hE k hk
  have c1 : chR E T (E k - (k + 1)) (k + 1) (E k) 0 = chR E T' (E k - (k + 1)) (k + 1) (E k) 0 := chR_congr (lo := k + 1) (fun j a b => h1 j (by omega) b) (fun j a b => (hE j (by omega)).1) _ _ _ (Nat.le_refl _)
  unfold rmK
  by_cases k0 : K k = 0
  · rw [if_pos k0, if_pos k0]
  rw [if_neg k0, if_neg k0]
  by_cases k1 : K k = 1
  · rw [if_pos k1, if_pos k1, c1]
  rw [if_neg k1, if_neg k1]
  by_cases k2 : K k = 2
  · rw [if_pos k2, if_pos k2, c1]
  rw [if_neg k2, if_neg k2]
  by_cases k3 : K k = 3
  · rw [if_pos k3, if_pos k3, c1]
  rw [if_neg k3, if_neg k3]
  by_cases k4 : K k = 4
  · rw [if_pos k4, if_pos k4]
    rw [chR_congr (lo := dF (A k)) (hi := dT (A k)) (h2 k4) (fun j a b => (hE j (by have := hd k4; omega)).1) _ _ _ (Nat.le_refl _)]
  rw [if_neg k4, if_neg k4]
  have cl : ∀ lo hi m, k + 1 ≤ lo → hi ≤ E k → chR E T m lo hi 0 = chR E T' m lo hi 0 := fun lo hi m a b => chR_congr (lo := lo) (hi := hi) (fun j c d => h1 j (by omega) (by omega)) (fun j c d => (hE j (by omega)).1) _ _ _ (Nat.le_refl _)
  have ab : k + 1 ≤ ifA ask L A B k ∧ ifB ask E L A B k ≤ E k := by
    have := hL (by omega)
    unfold ifA ifB
    split <;> exact ⟨by omega, by omega⟩
  rw [cl _ _ _ ab.1 ab.2]
theorem stK_ne {k j : Nat} {s : (Nat → Nat) × (Nat → Nat) × (Nat → Nat)} (h : j ≠ k) : (stK am cp ask K E L A B dF dT k s).1 j = s.1 j ∧ (stK am cp ask K E L A B dF dT k s).2.1 j = s.2.1 j ∧ (stK am cp ask K E L A B dF dT k s).2.2 j = s.2.2 j := by
  refine ⟨upN_ne h, upN_ne h, ?_⟩
  show (if K k = 1 then upN s.2.2 k _ else s.2.2) j = s.2.2 j
  split
  · exact upN_ne h
  · rfl
theorem rkL_all : ∀ (m lo k : Nat) (s : (Nat → Nat) × (Nat → Nat) × (Nat → Nat)), (k < lo ∨ lo + m ≤ k) → (rkL am cp ask K E L A B dF dT m lo s).1 k = s.1 k ∧ (rkL am cp ask K E L A B dF dT m lo s).2.1 k = s.2.1 k ∧ (rkL am cp ask K E L A B dF dT m lo s).2.2 k = s.2.2 k
  | 0, lo, k, s, _ => ⟨rfl, rfl, rfl⟩
  | m + 1, lo, k, s, hk => by
    rw [rkL]
    obtain ⟨a, b, c⟩ := rkL_all m lo k (stK am cp ask K E L A B dF dT (lo + m) s) (by omega)
    obtain ⟨d, e, f⟩ := stK_ne (am := am) (cp := cp) (ask := ask) (K := K) (E := E) (L := L) (A := A) (B := B) (dF := dF) (dT := dT) (k := lo + m) (j := k) (s := s) (by omega)
    rw [a, b, c, d, e, f]
    exact ⟨rfl, rfl, rfl⟩
def rkG (am : Nat → Nat) (cp : Nat → Option Nat) (ask K E L A B dF dT : Nat → Nat) (s : (Nat → Nat) × (Nat → Nat) × (Nat → Nat)) (k : Nat) : Prop := s.1 k = tmK am cp ask K E L A B dF dT s.1 k ∧ s.2.1 k = rmK am cp ask K E L A B dF dT s.2.1 k ∧ (K k = 1 → s.2.2 k = trnK (cp (A k)) (am k))
theorem rkG_congr {s s' : (Nat → Nat) × (Nat → Nat) × (Nat → Nat)} {k : Nat} (hE : ∀ j, j < n → j < E j ∧ E j ≤ n) (hk : k < n) (hK : K k ≤ 5) (hL : K k = 5 → k < L k ∧ L k ≤ E k) (hd : K k = 4 → dT (A k) ≤ n) (h0 : s'.1 k = s.1 k ∧ s'.2.1 k = s.2.1 k ∧ s'.2.2 k = s.2.2 k) (h1 : ∀ j, k < j → j < E k → s'.1 j = s.1 j ∧ s'.2.1 j = s.2.1 j) (h2 : K k = 4 → ∀ j, dF (A k) ≤ j → j < dT (A k) → s'.1 j = s.1 j ∧ s'.2.1 j = s.2.1 j) (h : rkG am cp ask K E L A B dF dT s k) : rkG am cp ask K E L A B dF dT s' k := by
  obtain ⟨a, b, c⟩ := h
  refine ⟨?_, ?_, fun z => by rw [h0.2.2]; exact c z⟩
  · rw [h0.1, a]
    exact (tmK_congr hE hk hK hL hd (fun j x y => (h1 j x y).1) (fun z j x y => (h2 z j x y).1)).symm
  · rw [h0.2.1, b]
    exact (rmK_congr hE hk hK hL hd (fun j x y => (h1 j x y).2) (fun z j x y => (h2 z j x y).2)).symm
theorem rkL_G (hE : ∀ j, j < n → j < E j ∧ E j ≤ n) (hK : ∀ k, k < n → K k ≤ 5) (hL : ∀ k, k < n → K k = 5 → k < L k ∧ L k ≤ E k) : ∀ (m lo : Nat) (s : (Nat → Nat) × (Nat → Nat) × (Nat → Nat)), lo + m ≤ n → (∀ k, lo ≤ k → k < lo + m → K k = 4 → dT (A k) ≤ lo) → ∀ k, lo ≤ k → k < lo + m → rkG am cp ask K E L A B dF dT (rkL am cp ask K E L A B dF dT m lo s) k
  | 0, lo, s, _, _, k, h1, h2 => absurd h1 (by omega)
  | m + 1, lo, s, hn, hd, k, h1, h2 => by
    rw [rkL]
    by_cases e : k = lo + m
    · subst e
      have ev : (stK am cp ask K E L A B dF dT (lo + m) s).1 (lo + m) = tmK am cp ask K E L A B dF dT s.1 (lo + m) ∧ (stK am cp ask K E L A B dF dT (lo + m) s).2.1 (lo + m) = rmK am cp ask K E L A B dF dT s.2.1 (lo + m) ∧ (K (lo + m) = 1 → (stK am cp ask K E L A B dF dT (lo + m) s).2.2 (lo + m) = trnK (cp (A (lo + m))) (am (lo + m))) := by
        refine ⟨upN_at, upN_at, fun z => ?_⟩
        show (if K (lo + m) = 1 then upN s.2.2 (lo + m) _ else s.2.2) (lo + m) = _
        rw [if_pos z]
        exact upN_at
      have eo := fun j (hj : j ≠ lo + m) => stK_ne (am := am) (cp := cp) (ask := ask) (K := K) (E := E) (L := L) (A := A) (B := B) (dF := dF) (dT := dT) (k := lo + m) (j := j) (s := s) hj
      have g : rkG am cp ask K E L A B dF dT (stK am cp ask K E L A B dF dT (lo + m) s) (lo + m) := by
        refine ⟨?_, ?_, ev.2.2⟩
        · rw [ev.1]
          exact tmK_congr hE (by omega) (hK _ (by omega)) (hL _ (by omega)) (fun z => by have := hd (lo + m) (by omega) (by omega) z; omega) (fun j a b => (eo j (by omega)).1.symm) (fun z j a b => (eo j (by have := hd (lo + m) (by omega) (by omega) z; omega)).1.symm)
        · rw [ev.2.1]
          exact rmK_congr hE (by omega) (hK _ (by omega)) (hL _ (by omega)) (fun z => by have := hd (lo + m) (by omega) (by omega) z; omega) (fun j a b => (eo j (by omega)).2.1.symm) (fun z j a b => (eo j (by have := hd (lo + m) (by omega) (by omega) z; omega)).2.1.symm)
      have ro := fun j (hj : j < lo ∨ lo + m ≤ j) => rkL_all (am := am) (cp := cp) (ask := ask) (K := K) (E := E) (L := L) (A := A) (B := B) (dF := dF) (dT := dT) m lo j (stK am cp ask K E L A B dF dT (lo + m) s) hj
      refine rkG_congr hE (by omega) (hK _ (by omega)) (hL _ (by omega)) (fun z => by have := hd (lo + m) (by omega) (by omega) z; omega) (ro (lo + m) (by omega)) (fun j a b => ⟨(ro j (by omega)).1, (ro j (by omega)).2.1⟩) (fun z j a b => ?_) g
      have := hd (lo + m) (by omega) (by omega) z
      exact ⟨(ro j (by omega)).1, (ro j (by omega)).2.1⟩
    · exact rkL_G hE hK hL m lo _ (by omega) (fun q a b z => hd q a (by omega) z) k h1 (by omega)
theorem rkD_snoc : ∀ (m d : Nat) (s : (Nat → Nat) × (Nat → Nat) × (Nat → Nat)), rkD am cp ask K E L A B dF dT (m + 1) d s = rkL am cp ask K E L A B dF dT (dT (d + m) - dF (d + m)) (dF (d + m)) (rkD am cp ask K E L A B dF dT m d s)
  | 0, d, s => rfl
  | m + 1, d, s => by
    show rkD am cp ask K E L A B dF dT (m + 1) (d + 1) (rkL am cp ask K E L A B dF dT (dT d - dF d) (dF d) s) = _
    rw [rkD_snoc m (d + 1), show d + 1 + m = d + (m + 1) by omega]
    rfl
end FIX2
/-! a whole program -/
def tW (n nd : Nat) (K E L A bl pS : Nat → Nat) (par : Nat → Option Nat) : Prop := trE n E par ∧ trL n E L K bl par ∧ (∀ j, j < n → bl j ≤ 1) ∧ (pS 0 = 0 ∧ (∀ d, d ≤ nd → pS d ≤ pS (d + 1)) ∧ pS (nd + 1) = n) ∧ (∀ d k, d ≤ nd + 1 → k < pS d → E k ≤ pS d) ∧ (∀ k, k < n → K k = 4 → A k < nd ∧ pS (A k + 1) ≤ k) ∧ (∀ k, k < n → K k ≤ 5)
section WHOLE9
variable {am : Nat → Nat} {cp : Nat → Option Nat} {ask K E L A B bl pS : Nat → Nat} {n nd : Nat} {par : Nat → Option Nat}
theorem tW_le (h : tW n nd K E L A bl pS par) : ∀ b, b ≤ nd + 1 → ∀ a, a ≤ b → pS a ≤ pS b := fun b hb a ha => pS_le (fun d hd => h.2.2.2.1.2.1 d (by omega)) b hb a ha
theorem tW_n (h : tW n nd K E L A bl pS par) {d : Nat} (hd : d ≤ nd + 1) : pS d ≤ n := by
  have := tW_le h (nd + 1) (Nat.le_refl _) d hd
  rw [h.2.2.2.1.2.2] at this
  exact this
/-- a call is of a part ahead -/
theorem tW_call (h : tW n nd K E L A bl pS par) {d k : Nat} (hd : d ≤ nd) (h1 : pS d ≤ k) (h2 : k < pS (d + 1)) (hk : K k = 4) : A k < d ∧ pS (A k + 1) ≤ pS d := by
  have hn := tW_n h (show d + 1 ≤ nd + 1 by omega)
  have q := h.2.2.2.2.2.1 k (by omega) hk
  have : A k < d := by
    by_cases c : A k < d
    · exact c
    · have := tW_le h (A k + 1) (by omega) (d + 1) (by omega)
      omega
  exact ⟨this, tW_le h d (by omega) (A k + 1) (by omega)⟩
theorem rk_G (h : tW n nd K E L A bl pS par) (s : (Nat → Nat) × (Nat → Nat) × (Nat → Nat)) : ∀ m, m ≤ nd + 1 → (∀ k, k < pS m → rkG am cp ask K E L A B pS (fun d => pS (d + 1)) (rkD am cp ask K E L A B pS (fun d => pS (d + 1)) m 0 s) k) ∧ (∀ k, pS m ≤ k → (rkD am cp ask K E L A B pS (fun d => pS (d + 1)) m 0 s).1 k = s.1 k ∧ (rkD am cp ask K E L A B pS (fun d => pS (d + 1)) m 0 s).2.1 k = s.2.1 k ∧ (rkD am cp ask K E L A B pS (fun d => pS (d + 1)) m 0 s).2.2 k = s.2.2 k)
  | 0, _ => ⟨fun k hk => by rw [h.2.2.2.1.1] at hk; omega, fun k _ => ⟨rfl, rfl, rfl⟩⟩
  | m + 1, hm => by
    obtain ⟨g, o⟩ := rk_G h s m (by omega)
    have hn := tW_n h hm
    have hle := h.2.2.2.1.2.1 m (by omega)
    rw [rkD_snoc, Nat.zero_add]
    have hE : ∀ j, j < n → j < E j ∧ E j ≤ n := h.1.1
    have hL : ∀ k, k < n → K k = 5 → k < L k ∧ L k ≤ E k := h.2.1.1
    have ro := fun j hj => rkL_all (am := am) (cp := cp) (ask := ask) (K := K) (E := E) (L := L) (A := A) (B := B) (dF := pS) (dT := fun d => pS (d + 1)) (pS (m + 1) - pS m) (pS m) j (rkD am cp ask K E L A B pS (fun d => pS (d + 1)) m 0 s) hj
    refine ⟨fun k hk => ?_, fun k hk => ?_⟩
    · by_cases e : k < pS m
      · have hEk := h.2.2.2.2.1 m k (by omega) e
        refine rkG_congr hE (by omega) (h.2.2.2.2.2.2 k (by omega)) (hL k (by omega)) (fun z => ?_) (ro k (Or.inl e)) (fun j a b => ⟨(ro j (Or.inl (by omega))).1, (ro j (Or.inl (by omega))).2.1⟩) (fun z j a b => ?_) (g k e)
        · have := h.2.2.2.2.2.1 k (by omega) z
          show pS (A k + 1) ≤ n
          omega
        · have := h.2.2.2.2.2.1 k (by omega) z
          have b : j < pS (A k + 1) := b
          exact ⟨(ro j (Or.inl (by omega))).1, (ro j (Or.inl (by omega))).2.1⟩
      · refine rkL_G hE h.2.2.2.2.2.2 hL _ _ _ (by show pS m + (pS (m + 1) - pS m) ≤ n; omega) (fun q a b z => ?_) k (by omega) (by show k < pS m + (pS (m + 1) - pS m); omega)
        exact (tW_call h (by omega) a (by omega) z).2
    · have q := o k (by omega)
      have r := ro k (Or.inr (by show pS m + (pS (m + 1) - pS m) ≤ k; omega))
      exact ⟨r.1.trans q.1, r.2.1.trans q.2.1, r.2.2.trans q.2.2⟩
theorem rkA_D (h : tW n nd K E L A bl pS par) (s : (Nat → Nat) × (Nat → Nat) × (Nat → Nat)) : rkA am cp ask K E L A B pS (fun d => pS (d + 1)) n nd (pS nd) s = rkD am cp ask K E L A B pS (fun d => pS (d + 1)) (nd + 1) 0 s := by
  rw [rkD_snoc, Nat.zero_add]
  unfold rkA
  rw [h.2.2.2.1.2.2]
theorem rkA_G (h : tW n nd K E L A bl pS par) (s : (Nat → Nat) × (Nat → Nat) × (Nat → Nat)) {k : Nat} (hk : k < n) : rkG am cp ask K E L A B pS (fun d => pS (d + 1)) (rkA am cp ask K E L A B pS (fun d => pS (d + 1)) n nd (pS nd) s) k := by
  rw [rkA_D h]
  exact (rk_G h s (nd + 1) (Nat.le_refl _)).1 k (by rw [h.2.2.2.1.2.2]; exact hk)
end WHOLE9
/-! the same by kinds -/
def inX (sort : Int32) (ask K E L A B dF dT X : Nat → Nat) (k : Nat) : Nat := if K k = 4 then chX sort E X (dF (A k)) (dT (A k)) else if K k = 5 then chX sort E X (ifA ask L A B k) (ifB ask E L A B k) else chX sort E X (k + 1) (E k)
theorem tmK_in {am : Nat → Nat} {cp : Nat → Option Nat} {ask K E L A B dF dT T : Nat → Nat} {k : Nat} (hK : K k ≤ 5) : tmK am cp ask K E L A B dF dT T k = cT (K k) (figK am cp ask K A B k) (inX 0 ask K E L A B dF dT T k) := by
  unfold tmK cT figK inX chX
  rcases (show K k = 0 ∨ K k = 1 ∨ K k = 2 ∨ K k = 3 ∨ K k = 4 ∨ K k = 5 by omega) with e | e | e | e | e | e <;> simp [e]
theorem rmK_in {am : Nat → Nat} {cp : Nat → Option Nat} {ask K E L A B dF dT T : Nat → Nat} {k : Nat} {sort : Int32} (hs : ¬ sort = 0) (hK : K k ≤ 5) : rmK am cp ask K E L A B dF dT T k = cR (K k) (figK am cp ask K A B k) (inX sort ask K E L A B dF dT T k) := by
  unfold rmK cR figK inX chX
  rcases (show K k = 0 ∨ K k = 1 ∨ K k = 2 ∨ K k = 3 ∨ K k = 4 ∨ K k = 5 by omega) with e | e | e | e | e | e <;> simp [e, hs]
