/-! what stays true, defs too -/
def cn6 (d : Nat → Option Nat) : Nat → Nat
  | 0 => 0
  | n + 1 => cn6 d n + (if d n = none then 0 else 1)
theorem cn_le {d : Nat → Option Nat} : ∀ n, cn6 d n ≤ n
  | 0 => Nat.le_refl _
  | n + 1 => by
    have := cn_le (d := d) n
    unfold cn6
    split <;> omega
theorem cn_lt {d : Nat → Option Nat} {j : Nat} (hd : d j = none) : ∀ n, j < n → cn6 d n < n
  | 0, h => absurd h (by omega)
  | n + 1, h => by
    unfold cn6
    by_cases e : j = n
    · rw [← e, if_pos hd]
      have := cn_le (d := d) j
      omega
    · have := cn_lt hd n (by omega)
      split <;> omega
theorem cn_out {d : Nat → Option Nat} {k : Nat} {v : Option Nat} : ∀ n, n ≤ k → cn6 (upO d k v) n = cn6 d n
  | 0, _ => rfl
  | n + 1, h => by
    unfold cn6
    rw [cn_out n (by omega), upO_ne (by omega)]
theorem cn_up {d : Nat → Option Nat} {k v : Nat} (hd : d k = none) : ∀ n, k < n → cn6 (upO d k (some v)) n = cn6 d n + 1
  | 0, h => absurd h (by omega)
  | n + 1, h => by
    unfold cn6
    by_cases e : k = n
    · subst e
      rw [cn_out k (Nat.le_refl _), upO_at, if_neg (by intro q; cases q), if_pos hd]
    · rw [cn_up hd n (by omega), upO_ne (by omega)]
      omega
def botT : List (Option Nat × Nat) → Prop
  | [] => True
  | e :: r => (e.1 = none → r = []) ∧ botT r
def pV (p : PS) : Prop := cn6 p.dp 6 = p.nd ∧ (hasD p.st → p.dp p.lt = none) ∧ botT p.st
section PRES2
variable {T : Nat → Nat} {n : Nat} {p p' : PS}
theorem pW_cl {k : Nat} {r : List (Option Nat × Nat)} {e9 : Nat → Nat} {e : Option Nat × Nat} (h : pW T n p) (hs : p.st = e :: r) : pW T n (PSm (p.s.adv T n) (p.ns) (p.np) (p.nd) (p.K) (p.A) (p.B) (e9) (p.L) (p.F) (p.par) (p.bl) (p.ps) (r) (p.bare) (p.dp) (p.lt) (p.pS)) := by
  have hl := h.dep
  rw [hs] at hl
  have hl : r.length + 1 ≤ 8 := hl
  refine ⟨adv_W h.f, h.ns, h.np, h.nd, by show r.length ≤ 8; omega, h.row, h.par, h.bl, fun e he => h.stk e (by rw [hs]; exact List.mem_cons_of_mem _ he), h.dp, fun hd => h.def' ?_, h.fre, h.pl, h.Fn⟩
  obtain ⟨b, hb⟩ := hd
  exact ⟨b, by rw [hs]; exact List.mem_cons_of_mem _ hb⟩
theorem pW_L {e9 : Nat → Nat} (h : pW T n p) : pW T n (PSm (p.s) (p.ns) (p.np) (p.nd) (p.K) (p.A) (p.B) (p.E) (e9) (p.F) (p.par) (p.bl) (p.ps) (p.st) (p.bare) (p.dp) (p.lt) (p.pS)) := ⟨h.f, h.ns, h.np, h.nd, h.dep, h.row, h.par, h.bl, h.stk, h.dp, h.def', h.fre, h.pl, h.Fn⟩
theorem pW_clB (h : pW T n p) (hv : pV p) (hb : tkB T p.s.f p.s.t (stL 1) = true) (hr : clB T n p = .ok p') : pW T n p' ∧ p.s.f < p'.s.f := by
  have a := adv_W2 h.f (by decide) hb
  unfold clB at hr
  split at hr
  · cases hr
  · split at hr
    · cases hr
    · rename_i b r hs
      cases hr
      have hD : hasD p.st := ⟨b, by rw [hs]; exact List.mem_cons_self⟩
      have hd := h.def' hD
      have hl := hv.2.1 hD
      have hbt := hv.2.2
      rw [hs] at hbt
      have r0 : r = [] := hbt.1 rfl
      refine ⟨⟨a.1, h.ns, h.np, by show p.nd + 1 ≤ 6; omega, by rw [r0]; exact Nat.zero_le _, fun k hk => ?_, h.par, h.bl, fun e he => ?_, fun j d hj hd9 => ?_, fun hd9 => ?_, fun j hj hj9 => ?_, h.pl, h.Fn⟩, a.2.1⟩
      · have q := h.row k hk
        exact ⟨q.1, q.2.1, q.2.2.1, q.2.2.2.1, q.2.2.2.2.1, fun z => Nat.lt_succ_of_lt (q.2.2.2.2.2.1 z), q.2.2.2.2.2.2⟩
      · rw [r0] at he
        exact absurd he (List.not_mem_nil)
      · have hd9 : upO p.dp p.lt (some p.nd) j = some d := hd9
        show d < p.nd + 1
        by_cases e : j = p.lt
        · rw [e, upO_at] at hd9
          cases hd9
          omega
        · rw [upO_ne e] at hd9
          have := h.dp j d hj hd9
          omega
      · rw [r0] at hd9
        obtain ⟨b9, hb9⟩ := hd9
        exact absurd hb9 (List.not_mem_nil)
      · show p.nd + 1 < 6
        have q := cn_lt (d := upO p.dp p.lt (some p.nd)) hj9 6 hj
        rw [cn_up hl 6 hd.1, hv.1] at q
        exact q
    · rename_i k b r hs
      have hk := (h.stk _ (by rw [hs]; exact List.mem_cons_self)).2 k rfl
      have w := pW_cl (k := k) (e9 := upN p.E k p.ns) h hs
      unfold clE at hr
      split at hr
      · split at hr
        · rename_i hb3
          have w2 := pW_L (e9 := upN p.L k p.ns) (pW_s w (adv_W w.f) rfl)
          have w3 := pW_op w2 (by omega) (fun k9 hk9 => by cases hk9; exact hk) (fun q => by cases q) hr
          have f3 := adv_W2 w.f (by decide) hb3
          exact ⟨w3.1, Nat.lt_trans a.2.1 (Nat.lt_trans f3.2.1 w3.2)⟩
        · cases hr
          exact ⟨pW_L (e9 := upN p.L k p.ns) w, a.2.1⟩
      · cases hr
        exact ⟨w, a.2.1⟩
end PRES2
