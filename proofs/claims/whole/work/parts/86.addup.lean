/-! the class's adding up, as sums over children -/
def goneB (K f bl : Nat → Nat) (par : Nat → Option Nat) (q j : Nat) : Bool := decide (par j = some q) && (decide (¬ K q = 5) || decide (f q = bl j))
def rootB (par : Nat → Option Nat) (j : Nat) : Bool := decide (par j = none)
section ADL
variable {sort : Int32} {K A f pb bl : Nat → Nat} {par : Nat → Option Nat}
theorem jnS_snoc {g : Nat → Nat} {m lo : Nat} (h : ∀ j, lo ≤ j → j < lo + (m + 1) → g j ≤ MU) : jnS sort g (m + 1) lo = jnV sort (jnS sort g m lo) (g (lo + m)) := by
  rw [jnS_add m 1 lo h]
  show jnV sort (jnS sort g m lo) (jnV sort (g (lo + m)) 0) = _
  rw [jnV_0 (h (lo + m) (by omega) (by omega))]
theorem adS_w {k : Nat} {s : adT} : (adS sort K A f pb bl par k s).2.1 = upN s.2.1 k (brK sort K A f pb s.1 k) := by
  unfold adS
  split <;> rfl
theorem adS_i {k q : Nat} {s : adT} : (adS sort K A f pb bl par k s).1 q = if goneB K f bl par q k = true then jnV sort (s.1 q) (brK sort K A f pb s.1 k) else s.1 q := by
  unfold adS goneB
  split
  · rename_i h
    rw [h]
    simp
  · rename_i p h
    rw [h]
    by_cases e : p = q
    · subst e
      by_cases c : ¬ K p = 5 ∨ f p = bl k
      · rw [if_pos c]
        have : (decide (some p = some p) && (decide (¬ K p = 5) || decide (f p = bl k))) = true := by simpa using c
        rw [if_pos this]
        exact upN_at
      · rw [if_neg c]
        have : ¬ (decide (some p = some p) && (decide (¬ K p = 5) || decide (f p = bl k))) = true := by simpa using c
        rw [if_neg this]
    · have : ¬ (decide (some p = some q) && (decide (¬ K q = 5) || decide (f q = bl k))) = true := by simp [e]
      rw [if_neg this]
      have e2 : q ≠ p := fun z => e z.symm
      split
      · exact upN_ne e2
      · rfl
theorem adS_a {k : Nat} {s : adT} (ha : s.2.2 ≤ MU) : (adS sort K A f pb bl par k s).2.2 = jnV sort s.2.2 (if rootB par k = true then brK sort K A f pb s.1 k else 0) := by
  unfold adS rootB
  split
  · rename_i h
    rw [h]
    rfl
  · rename_i p h
    rw [h]
    show s.2.2 = jnV sort s.2.2 0
    rw [jnV_0 ha]
theorem brK_le' {i : Nat → Nat} {k : Nat} (hf : ∀ k, f k ≤ MU) (hi : ∀ k, i k ≤ MU) (hp : ∀ d, pb d ≤ MU) : brK sort K A f pb i k ≤ MU := brK_le (hf k) (hi k) (fun _ => hp _)
theorem adS_le {k : Nat} {s : adT} (hf : ∀ k, f k ≤ MU) (hp : ∀ d, pb d ≤ MU) (hi : ∀ k, s.1 k ≤ MU) (ha : s.2.2 ≤ MU) : (∀ q, (adS sort K A f pb bl par k s).1 q ≤ MU) ∧ (adS sort K A f pb bl par k s).2.2 ≤ MU := by
  have hb := brK_le' (sort := sort) (K := K) (A := A) (k := k) hf hi hp
  refine ⟨fun q => ?_, ?_⟩
  · rw [adS_i]
    split
    · exact jnV_le (hi q) hb
    · exact hi q
  · rw [adS_a ha]
    refine jnV_le ha ?_
    split
    · exact hb
    · exact Nat.zero_le _
theorem adL_out : ∀ (m lo : Nat) (s : adT) (k : Nat), (k < lo ∨ lo + m ≤ k) → (adL sort K A f pb bl par m lo s).2.1 k = s.2.1 k
  | 0, _, _, _, _ => rfl
  | m + 1, lo, s, k, hk => by
    rw [adL, adL_out m lo _ k (by omega), adS_w, upN_ne (by omega)]
theorem adL_i0 : ∀ (m lo : Nat) (s : adT) (q : Nat), (∀ j, lo ≤ j → j < lo + m → par j ≠ some q) → (adL sort K A f pb bl par m lo s).1 q = s.1 q
  | 0, _, _, _, _ => rfl
  | m + 1, lo, s, q, h => by
    rw [adL, adL_i0 m lo _ q (fun j a b => h j a (by omega)), adS_i, if_neg]
    have := h (lo + m) (by omega) (by omega)
    unfold goneB
    simp [this]
theorem adL_le (hf : ∀ k, f k ≤ MU) (hp : ∀ d, pb d ≤ MU) : ∀ (m lo : Nat) (s : adT), (∀ k, s.1 k ≤ MU) → s.2.2 ≤ MU → (∀ q, (adL sort K A f pb bl par m lo s).1 q ≤ MU) ∧ (adL sort K A f pb bl par m lo s).2.2 ≤ MU
  | 0, _, _, hi, ha => ⟨hi, ha⟩
  | m + 1, lo, s, hi, ha => by
    have q := adS_le (sort := sort) (K := K) (A := A) (bl := bl) (par := par) (k := lo + m) hf hp hi ha
    exact adL_le hf hp m lo _ q.1 q.2
/-- what is brought, by the insides at the end -/
theorem adL_w (hpar : ∀ j c, par j = some c → c < j) : ∀ (m lo : Nat) (s : adT) (k : Nat), lo ≤ k → k < lo + m → (adL sort K A f pb bl par m lo s).2.1 k = brK sort K A f pb (adL sort K A f pb bl par m lo s).1 k
  | 0, lo, s, k, h1, h2 => absurd h1 (by omega)
  | m + 1, lo, s, k, h1, h2 => by
    rw [adL]
    by_cases e : k = lo + m
    · rw [e, adL_out m lo _ (lo + m) (Or.inr (Nat.le_refl _)), adS_w, upN_at]
      have e1 : (adL sort K A f pb bl par m lo (adS sort K A f pb bl par (lo + m) s)).1 (lo + m) = s.1 (lo + m) := by
        rw [adL_i0 m lo _ (lo + m) (fun j a b z => by have := hpar j _ z; omega), adS_i, if_neg]
        unfold goneB
        have : par (lo + m) ≠ some (lo + m) := fun z => by have := hpar _ _ z; omega
        simp [this]
      unfold brK
      rw [e1]
    · exact adL_w hpar m lo _ k h1 (by omega)
/-- insides and the whole, as joins -/
theorem adL_j (hf : ∀ k, f k ≤ MU) (hp : ∀ d, pb d ≤ MU) (hpar : ∀ j c, par j = some c → c < j) : ∀ (m lo : Nat) (s : adT), (∀ k, s.1 k ≤ MU) → s.2.2 ≤ MU →
    (∀ q, (adL sort K A f pb bl par m lo s).1 q = jnV sort (jnS sort (memb (goneB K f bl par q) (adL sort K A f pb bl par m lo s).2.1) m lo) (s.1 q)) ∧ (adL sort K A f pb bl par m lo s).2.2 = jnV sort (jnS sort (memb (rootB par) (adL sort K A f pb bl par m lo s).2.1) m lo) s.2.2
  | 0, lo, s, hi, ha => ⟨fun q => (jnV_z (hi q)).symm, (jnV_z ha).symm⟩
  | m + 1, lo, s, hi, ha => by
    have q0 := adS_le (sort := sort) (K := K) (A := A) (bl := bl) (par := par) (k := lo + m) hf hp hi ha
    have ih := adL_j hf hp hpar m lo (adS sort K A f pb bl par (lo + m) s) q0.1 q0.2
    have bd := adL_le (sort := sort) (K := K) (A := A) (bl := bl) (par := par) hf hp (m + 1) lo s hi ha
    have ww := adL_w (sort := sort) (K := K) (A := A) (f := f) (pb := pb) (bl := bl) hpar (m + 1) lo s
    have w9 : (adL sort K A f pb bl par (m + 1) lo s).2.1 (lo + m) = brK sort K A f pb s.1 (lo + m) := by
      rw [adL, adL_out m lo _ (lo + m) (Or.inr (Nat.le_refl _)), adS_w, upN_at]
    have wb : ∀ j, lo ≤ j → j < lo + (m + 1) → (adL sort K A f pb bl par (m + 1) lo s).2.1 j ≤ MU := fun j h1 h2 => by
      rw [ww j h1 h2]
      exact brK_le' hf bd.1 hp
    have mb : ∀ (c : Nat → Bool) j, lo ≤ j → j < lo + (m + 1) → memb c (adL sort K A f pb bl par (m + 1) lo s).2.1 j ≤ MU := fun c j h1 h2 => by
      unfold memb
      split
      · exact wb j h1 h2
      · exact Nat.zero_le _
    refine ⟨fun q => ?_, ?_⟩
    · rw [jnS_snoc (mb _), jnV_assoc]
      have : (adL sort K A f pb bl par (m + 1) lo s).1 q = jnV sort (jnS sort (memb (goneB K f bl par q) (adL sort K A f pb bl par (m + 1) lo s).2.1) m lo) ((adS sort K A f pb bl par (lo + m) s).1 q) := ih.1 q
      rw [this]
      congr 1
      rw [adS_i]
      unfold memb
      rw [w9]
      split
      · rw [jnV_comm]
      · rw [jnV_z (hi q)]
    · rw [jnS_snoc (mb _), jnV_assoc]
      have : (adL sort K A f pb bl par (m + 1) lo s).2.2 = jnV sort (jnS sort (memb (rootB par) (adL sort K A f pb bl par (m + 1) lo s).2.1) m lo) ((adS sort K A f pb bl par (lo + m) s).2.2) := ih.2
      rw [this]
      congr 1
      rw [adS_a ha]
      unfold memb
      rw [w9, jnV_comm]
end ADL
section BRD
variable {sort : Int32} {K E L A f bl pS : Nat → Nat} {par : Nat → Option Nat} {n nd : Nat}
theorem brD_snoc : ∀ (m d : Nat) (s : brT), brD sort K A f bl par pS (m + 1) d s = ((adL sort K A f (brD sort K A f bl par pS m d s).2.2 bl par (pS (d + m + 1) - pS (d + m)) (pS (d + m)) ((brD sort K A f bl par pS m d s).1, (brD sort K A f bl par pS m d s).2.1, 0)).1, (adL sort K A f (brD sort K A f bl par pS m d s).2.2 bl par (pS (d + m + 1) - pS (d + m)) (pS (d + m)) ((brD sort K A f bl par pS m d s).1, (brD sort K A f bl par pS m d s).2.1, 0)).2.1, upN (brD sort K A f bl par pS m d s).2.2 (d + m) (adL sort K A f (brD sort K A f bl par pS m d s).2.2 bl par (pS (d + m + 1) - pS (d + m)) (pS (d + m)) ((brD sort K A f bl par pS m d s).1, (brD sort K A f bl par pS m d s).2.1, 0)).2.2)
  | 0, d, s => rfl
  | m + 1, d, s => by
    have := brD_snoc m (d + 1) ((adL sort K A f s.2.2 bl par (pS (d + 1) - pS d) (pS d) (s.1, s.2.1, 0)).1, (adL sort K A f s.2.2 bl par (pS (d + 1) - pS d) (pS d) (s.1, s.2.1, 0)).2.1, upN s.2.2 d (adL sort K A f s.2.2 bl par (pS (d + 1) - pS d) (pS d) (s.1, s.2.1, 0)).2.2)
    rw [show d + 1 + m = d + (m + 1) by omega] at this
    exact this
/-- the parts below m: all is as it must be -/
def brG (sort : Int32) (K A f bl pS : Nat → Nat) (par : Nat → Option Nat) (s : brT) (d : Nat) : Prop := (∀ k, pS d ≤ k → k < pS (d + 1) → s.2.1 k = brK sort K A f s.2.2 s.1 k ∧ s.1 k = jnS sort (memb (goneB K f bl par k) s.2.1) (pS (d + 1) - pS d) (pS d)) ∧ s.2.2 d = jnS sort (memb (rootB par) s.2.1) (pS (d + 1) - pS d) (pS d)
theorem br_G (h : tW n nd K E L A bl pS par) (hpar : ∀ j c, par j = some c → c < j) (hf : ∀ k, f k ≤ MU) (s : brT) (h1 : ∀ k, s.1 k ≤ MU) (h3 : ∀ d, s.2.2 d ≤ MU) (h0 : ∀ k, k < n → s.1 k = 0) : ∀ m, m ≤ nd + 1 → (∀ d, d < m → brG sort K A f bl pS par (brD sort K A f bl par pS m 0 s) d) ∧ (∀ k, (brD sort K A f bl par pS m 0 s).1 k ≤ MU) ∧ (∀ d, (brD sort K A f bl par pS m 0 s).2.2 d ≤ MU) ∧ (∀ k, pS m ≤ k → k < n → (brD sort K A f bl par pS m 0 s).1 k = 0) ∧ (∀ k, k < pS m → (brD sort K A f bl par pS m 0 s).2.1 k ≤ MU)
  | 0, _ => ⟨fun d hd => absurd hd (Nat.not_lt_zero d), h1, h3, fun k _ hk => h0 k hk, fun k hk => by rw [h.2.2.2.1.1] at hk; omega⟩
  | m + 1, hm => by
    obtain ⟨g, b1, b3, z, wb⟩ := br_G h hpar hf s h1 h3 h0 m (by omega)
    have hn := tW_n h hm
    have hle := h.2.2.2.1.2.1 m (by omega)
    have pp : ∀ j c, pS m ≤ j → j < pS (m + 1) → par j = some c → pS m ≤ c := fun j c q1 q2 q3 => by
      have r := h.1.2.1 j c (by omega) q3
      by_cases x : c < pS m
      · have := h.2.2.2.2.1 m c (by omega) x
        omega
      · omega
    rw [brD_snoc, Nat.zero_add]
    generalize brD sort K A f bl par pS m 0 s = t at g b1 b3 z wb ⊢
    have e5 : pS m + (pS (m + 1) - pS m) = pS (m + 1) := by omega
    have aw := adL_w (sort := sort) (K := K) (A := A) (f := f) (pb := t.2.2) (bl := bl) (par := par) hpar (pS (m + 1) - pS m) (pS m) (t.1, t.2.1, 0)
    have ab := adL_le (sort := sort) (K := K) (A := A) (f := f) (pb := t.2.2) (bl := bl) (par := par) hf b3 (pS (m + 1) - pS m) (pS m) (t.1, t.2.1, 0) b1 (Nat.zero_le _)
    have aj := adL_j (sort := sort) (K := K) (A := A) (f := f) (pb := t.2.2) (bl := bl) (par := par) hf b3 hpar (pS (m + 1) - pS m) (pS m) (t.1, t.2.1, 0) b1 (Nat.zero_le _)
    have ao := adL_out (sort := sort) (K := K) (A := A) (f := f) (pb := t.2.2) (bl := bl) (par := par) (pS (m + 1) - pS m) (pS m) (t.1, t.2.1, 0)
    have ai := adL_i0 (sort := sort) (K := K) (A := A) (f := f) (pb := t.2.2) (bl := bl) (par := par) (pS (m + 1) - pS m) (pS m) (t.1, t.2.1, 0)
    have awb : ∀ k, pS m ≤ k → k < pS (m + 1) → (adL sort K A f t.2.2 bl par (pS (m + 1) - pS m) (pS m) (t.1, t.2.1, 0)).2.1 k ≤ MU := fun k q1 q2 => by
      rw [aw k q1 (by omega)]
      exact brK_le' hf ab.1 b3
    have mb : ∀ (c : Nat → Bool) j, pS m ≤ j → j < pS m + (pS (m + 1) - pS m) → memb c (adL sort K A f t.2.2 bl par (pS (m + 1) - pS m) (pS m) (t.1, t.2.1, 0)).2.1 j ≤ MU := fun c j q1 q2 => by
      unfold memb
      split
      · exact awb j q1 (by omega)
      · exact Nat.zero_le _
    generalize adL sort K A f t.2.2 bl par (pS (m + 1) - pS m) (pS m) (t.1, t.2.1, 0) = u at aw ab aj ao ai awb mb ⊢
    refine ⟨fun d hd => ?_, ab.1, fun d => ?_, fun k q1 q2 => ?_, fun k hk => ?_⟩
    · by_cases e : d = m
      · subst e
        refine ⟨fun k q1 q2 => ⟨?_, ?_⟩, ?_⟩
        · show u.2.1 k = brK sort K A f (upN t.2.2 d u.2.2) u.1 k
          rw [aw k q1 (by omega)]
          unfold brK
          by_cases c : K k = 4
          · have := tW_call h (by omega) q1 q2 c
            rw [if_pos c, if_pos c, upN_ne (by omega)]
          · rw [if_neg c, if_neg c]
        · have zk : t.1 k = 0 := z k q1 (by omega)
          show u.1 k = jnS sort (memb (goneB K f bl par k) u.2.1) (pS (d + 1) - pS d) (pS d)
          rw [aj.1 k]
          show jnV sort _ (t.1 k) = _
          rw [zk, jnV_0 (jnS_le _ _ (mb _))]
        · show upN t.2.2 d u.2.2 d = _
          rw [upN_at, aj.2, jnV_0 (jnS_le _ _ (mb _))]
      · have hdm : d < m := by omega
        obtain ⟨g1, g2⟩ := g d hdm
        have l1 : pS (d + 1) ≤ pS m := tW_le h m (by omega) (d + 1) (by omega)
        have wj : ∀ j, j < pS m → u.2.1 j = t.2.1 j := fun j hj => ao j (Or.inl hj)
        have ij : ∀ j, j < pS m → u.1 j = t.1 j := fun j hj => ai j (fun i q1 q2 q3 => by have := pp i j q1 (by omega) q3; omega)
        have jc : ∀ c : Nat → Bool, jnS sort (memb c u.2.1) (pS (d + 1) - pS d) (pS d) = jnS sort (memb c t.2.1) (pS (d + 1) - pS d) (pS d) := fun c => jnS_congr _ _ (fun j q1 q2 => by
          have := h.2.2.2.1.2.1 d (by omega)
          unfold memb
          rw [wj j (by omega)])
        refine ⟨fun k q1 q2 => ⟨?_, ?_⟩, ?_⟩
        · show u.2.1 k = brK sort K A f (upN t.2.2 m u.2.2) u.1 k
          rw [wj k (by omega), (g1 k q1 q2).1]
          unfold brK
          by_cases c : K k = 4
          · have := tW_call h (by omega) q1 q2 c
            rw [if_pos c, if_pos c, upN_ne (by omega)]
          · rw [if_neg c, if_neg c, ij k (by omega)]
        · show u.1 k = jnS sort (memb (goneB K f bl par k) u.2.1) (pS (d + 1) - pS d) (pS d)
          rw [ij k (by omega), jc]
          exact (g1 k q1 q2).2
        · show upN t.2.2 m u.2.2 d = _
          rw [upN_ne e]
          rw [g2]
          exact (jc _).symm
    · show upN t.2.2 m u.2.2 d ≤ MU
      by_cases e : d = m
      · rw [e, upN_at]; exact ab.2
      · rw [upN_ne e]; exact b3 d
    · show u.1 k = 0
      rw [ai k (fun i x1 x2 x3 => by have := hpar i k x3; omega)]
      exact z k (by omega) q2
    · show u.2.1 k ≤ MU
      by_cases e : k < pS m
      · rw [ao k (Or.inl e)]
        exact wb k e
      · exact awb k (by omega) hk
end BRD
