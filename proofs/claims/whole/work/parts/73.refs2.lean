/-! references written -/
theorem rr_ext {sc it sc' it' : Nat} (o k : Nat) (h0 : ¬ (o = 100 ∧ k = 0)) (h1 : ¬ (o = 100 ∧ k = 1)) (h2 : ¬ (o = 170 ∧ k = 1)) : rr sc it o k = rr sc' it' o k := by
  unfold rr
  by_cases c : o = 100
  · rw [if_pos c, if_pos c]
    match k, h0, h1 with
    | 0, h0, _ => exact absurd ⟨c, rfl⟩ h0
    | 1, _, h1 => exact absurd ⟨c, rfl⟩ h1
    | 2, _, _ => rfl
    | 3, _, _ => rfl
    | 4, _, _ => rfl
    | 5, _, _ => rfl
    | 6, _, _ => rfl
    | 7, _, _ => rfl
    | k + 8, _, _ => rfl
  · rw [if_neg c, if_neg c]
    by_cases c2 : o = 170
    · subst c2
      match k, h2 with
      | 0, _ => rfl
      | 1, h2 => exact absurd ⟨rfl, rfl⟩ h2
      | k + 2, _ => rfl
    · first
      | rfl
      | simp only [c2, if_false]
theorem rr_into {sc it v : Nat} : up2 (rr sc it) 170 1 (some v) = rr sc v := by
  funext o k
  by_cases e1 : o = 170
  · by_cases e2 : k = 1
    · rw [e1, e2, up2_at]; rfl
    · rw [up2_nj e2]
      by_cases e0 : o = 100
      · omega
      · exact rr_ext o k (fun q => e0 q.1) (fun q => e0 q.1) (fun q => e2 q.2)
  · rw [up2_ne' e1]
    by_cases e0 : o = 100
    · subst e0
      match k with
      | 0 => rfl
      | 1 => rfl
      | k + 2 => exact rr_ext 100 (k + 2) (by omega) (by omega) (by omega)
    · exact rr_ext o k (fun q => e0 q.1) (fun q => e0 q.1) (fun q => e1 q.1)
/-- script and spare change places -/
theorem rr_swap {sc it : Nat} (hsc : sc = 120 ∨ sc = 140) : up2 (up2 (rr sc it) 100 0 (some (260 - sc))) 100 1 (some sc) = rr (260 - sc) it := by
  funext o k
  by_cases e1 : o = 100
  · subst e1
    by_cases e2 : k = 1
    · rw [e2, up2_at]
      show some sc = some (260 - (260 - sc))
      congr 1
      omega
    · rw [up2_nj e2]
      by_cases e3 : k = 0
      · rw [e3, up2_at]; rfl
      · rw [up2_nj e3]
        exact rr_ext 100 k (by omega) (by omega) (by omega)
  · rw [up2_ne' e1, up2_ne' e1]
    by_cases e4 : o = 170 ∧ k = 1
    · obtain ⟨rfl, rfl⟩ := e4
      rfl
    · exact rr_ext o k (by omega) (by omega) e4
