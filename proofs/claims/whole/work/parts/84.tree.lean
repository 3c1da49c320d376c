/-! chains of ends are the children of a block -/
section TREE
variable {n : Nat} {E L K bl : Nat → Nat} {par : Nat → Option Nat}
/-- the child of q that a step within q stands in -/
theorem tr_anc (h : trE n E par) {q : Nat} : ∀ (m j : Nat), j ≤ m → j < n → q < j → j < E q → ∃ r, q < r ∧ r ≤ j ∧ par r = some q ∧ E j ≤ E r
  | 0, j, hm, hj, hq, he => absurd hq (by omega)
  | m + 1, j, hm, hj, hq, he => by
    obtain ⟨c, hc, hqc⟩ := h.2.2 q j hj hq he
    have h2 := h.2.1 j c hj hc
    by_cases e : c = q
    · exact ⟨j, hq, Nat.le_refl _, by rw [hc, e], Nat.le_refl _⟩
    · obtain ⟨r, r1, r2, r3, r4⟩ := tr_anc (q := q) h m c (by omega) (by omega) (by omega) (by omega)
      exact ⟨r, r1, by omega, r3, by omega⟩
theorem tr_lam (h : trE n E par) {q j : Nat} (hj : j < n) (hq : q < j) (he : j < E q) : E j ≤ E q := by
  obtain ⟨r, r1, r2, r3, r4⟩ := tr_anc h j j (Nat.le_refl _) hj hq he
  have := (h.2.1 r q (by omega) r3).2.2
  omega
/-- no child of the same within -/
theorem tr_in (h : trE n E par) {q j i : Nat} (hp : par j = some q) (hj : j < n) (hi : j < i) (hi2 : i < E j) (hin : i < n) : par i ≠ some q := by
  intro z
  obtain ⟨c, hc, hqc⟩ := h.2.2 j i hin hi hi2
  rw [z] at hc
  cases hc
  have := (h.2.1 j q hj hp).1
  omega
theorem tr_next (h : trE n E par) {q j : Nat} (hp : par j = some q) (hj : j < n) (he : E j < E q) (hn : E j < n) : par (E j) = some q := by
  have h1 := h.2.1 j q hj hp
  have h2 := h.1 j hj
  obtain ⟨r, r1, r2, r3, r4⟩ := tr_anc h (E j) (E j) (Nat.le_refl _) hn (by omega) he
  have h3 := h.1 (E j) hn
  by_cases e : r = E j
  · rw [← e]; exact r3
  · rcases Nat.lt_trichotomy r j with c | c | c
    · obtain ⟨x, x1, x2⟩ := h.2.2 r j hj c (by omega)
      rw [hp] at x1
      cases x1
      omega
    · rw [c] at r4; omega
    · obtain ⟨x, x1, x2⟩ := h.2.2 j r (by omega) c (by omega)
      rw [r3] at x1
      cases x1
      omega
theorem tr_first (h : trE n E par) {q : Nat} (hn : q + 1 < n) (he : q + 1 < E q) : par (q + 1) = some q := by
  obtain ⟨c, hc, hqc⟩ := h.2.2 q (q + 1) hn (by omega) he
  have := (h.2.1 (q + 1) c hn hc).1
  have : c = q := by omega
  rw [hc, this]
/-- blocks of an if -/
theorem tr_bl (h : trE n E par) (hL : trL n E L K bl par) (hb : ∀ j, j < n → bl j ≤ 1) {q j : Nat} (hp : par j = some q) (hj : j < n) (hk : K q = 5) : (j < L q ↔ bl j = 0) ∧ (j < L q → E j ≤ L q) := by
  have h1 := hL.2 j q hj hp hk
  have h2 := h.1 j hj
  have h3 := hb j hj
  rcases (show bl j = 0 ∨ bl j = 1 by omega) with e | e
  · have := h1.1 e
    exact ⟨⟨fun _ => e, fun _ => by omega⟩, fun _ => this⟩
  · have := h1.2 e
    exact ⟨⟨fun z => absurd z (by omega), fun z => absurd z (by omega)⟩, fun z => absurd z (by omega)⟩
theorem tr_else (h : trE n E par) (hL : trL n E L K bl par) (hb : ∀ j, j < n → bl j ≤ 1) {q : Nat} (hq : q < n) (hk : K q = 5) (hn : L q < n) (he : L q < E q) : par (L q) = some q := by
  have h0 := hL.1 q hq hk
  obtain ⟨r, r1, r2, r3, r4⟩ := tr_anc h (L q) (L q) (Nat.le_refl _) hn h0.1 he
  by_cases e : r = L q
  · rw [← e]; exact r3
  · have := (tr_bl h hL hb r3 (by omega) hk).2 (by omega)
    have := h.1 (L q) hn
    omega
/-- roots of a part -/
theorem tr_root0 (h : trE n E par) {lo : Nat} (hlo : ∀ k, k < lo → E k ≤ lo) (hn : lo < n) : par lo = none := by
  cases e : par lo with
  | none => rfl
  | some c =>
    have h1 := h.2.1 lo c hn e
    have := hlo c h1.1
    omega
theorem tr_rootn (h : trE n E par) {j : Nat} (hj : j < n) (hp : par j = none) (hn : E j < n) : par (E j) = none := by
  cases e : par (E j) with
  | none => rfl
  | some q =>
    have h1 := h.2.1 (E j) q hn e
    have h2 := h.1 j hj
    rcases Nat.lt_trichotomy q j with c | c | c
    · obtain ⟨x, x1, x2⟩ := h.2.2 q j hj c (by omega)
      rw [hp] at x1
      cases x1
    · rw [c] at h1; omega
    · have := tr_lam h (show q < n by omega) c h1.1
      omega
theorem tr_rooti (h : trE n E par) {j i : Nat} (hi : j < i) (hi2 : i < E j) (hin : i < n) : par i ≠ none := by
  obtain ⟨c, hc, hqc⟩ := h.2.2 j i hin hi hi2
  rw [hc]
  intro z
  cases z
end TREE
/-! joining -/
theorem jnV_comm {sort : Int32} {a b : Nat} : jnV sort a b = jnV sort b a := by
  unfold jnV
  split
  · rw [Nat.add_comm]
  · rw [Nat.max_comm]
theorem sat_sat (a b : Nat) : sat (sat a + b) = sat (a + b) := by
  unfold sat
  omega
theorem jnV_assoc {sort : Int32} {a b c : Nat} : jnV sort (jnV sort a b) c = jnV sort a (jnV sort b c) := by
  unfold jnV
  split
  · rw [sat_sat, Nat.add_comm a (sat (b + c)), sat_sat, Nat.add_assoc, Nat.add_comm (b + c) a]
  · rw [Nat.max_assoc]
theorem jnV_0 {sort : Int32} {a : Nat} (h : a ≤ MU) : jnV sort a 0 = a := by
  unfold jnV
  split
  · rw [Nat.add_zero, sat_of h]
  · exact Nat.max_eq_left (Nat.zero_le _)
theorem jnV_z {sort : Int32} {a : Nat} (h : a ≤ MU) : jnV sort 0 a = a := by rw [jnV_comm]; exact jnV_0 h
/-- all of g from lo on, m of them -/
def jnS (sort : Int32) (g : Nat → Nat) : Nat → Nat → Nat
  | 0, _ => 0
  | m + 1, lo => jnV sort (g lo) (jnS sort g m (lo + 1))
theorem jnS_le {sort : Int32} {g : Nat → Nat} : ∀ (m lo : Nat), (∀ j, lo ≤ j → j < lo + m → g j ≤ MU) → jnS sort g m lo ≤ MU
  | 0, _, _ => Nat.zero_le _
  | m + 1, lo, h => jnV_le (h lo (by omega) (by omega)) (jnS_le m (lo + 1) (fun j h1 h2 => h j (by omega) (by omega)))
theorem jnS_congr {sort : Int32} {g g' : Nat → Nat} : ∀ (m lo : Nat), (∀ j, lo ≤ j → j < lo + m → g j = g' j) → jnS sort g m lo = jnS sort g' m lo
  | 0, _, _ => rfl
  | m + 1, lo, h => by
    unfold jnS
    rw [h lo (by omega) (by omega), jnS_congr m (lo + 1) (fun j h1 h2 => h j (by omega) (by omega))]
theorem jnS_add {sort : Int32} {g : Nat → Nat} : ∀ (a b lo : Nat), (∀ j, lo ≤ j → j < lo + (a + b) → g j ≤ MU) → jnS sort g (a + b) lo = jnV sort (jnS sort g a lo) (jnS sort g b (lo + a))
  | 0, b, lo, h => by
    rw [Nat.zero_add]
    show jnS sort g b lo = jnV sort 0 (jnS sort g b (lo + 0))
    rw [Nat.add_zero, jnV_z (jnS_le b lo (fun j h1 h2 => h j (by omega) (by omega)))]
  | a + 1, b, lo, h => by
    rw [show a + 1 + b = (a + b) + 1 by omega]
    show jnV sort (g lo) (jnS sort g (a + b) (lo + 1)) = jnV sort (jnV sort (g lo) (jnS sort g a (lo + 1))) _
    rw [jnS_add a b (lo + 1) (fun j h1 h2 => h j (by omega) (by omega)), jnV_assoc, show lo + 1 + a = lo + (a + 1) by omega]
theorem jnS_zero {sort : Int32} {g : Nat → Nat} : ∀ (m lo : Nat), (∀ j, lo ≤ j → j < lo + m → g j = 0) → jnS sort g m lo = 0
  | 0, _, _ => rfl
  | m + 1, lo, h => by
    show jnV sort (g lo) (jnS sort g m (lo + 1)) = 0
    rw [h lo (by omega) (by omega), jnS_zero m (lo + 1) (fun j h1 h2 => h j (by omega) (by omega)), jnV_0 (Nat.zero_le _)]
/-- only a part of the row counts -/
theorem jnS_sub {sort : Int32} {g : Nat → Nat} {lo a b hi : Nat} (h1 : lo ≤ a) (h2 : a ≤ b) (h3 : b ≤ hi) (hg : ∀ j, lo ≤ j → j < hi → g j ≤ MU) (hz : ∀ j, lo ≤ j → j < hi → ¬ (a ≤ j ∧ j < b) → g j = 0) : jnS sort g (hi - lo) lo = jnS sort g (b - a) a := by
  have e1 : hi - lo = (a - lo) + (hi - a) := by omega
  have e2 : hi - a = (b - a) + (hi - b) := by omega
  rw [e1, jnS_add _ _ _ (fun j q1 q2 => hg j (by omega) (by omega)), jnS_zero (a - lo) lo (fun j q1 q2 => hz j (by omega) (by omega) (by omega)), show lo + (a - lo) = a by omega, e2, jnS_add _ _ _ (fun j q1 q2 => hg j (by omega) (by omega)), jnS_zero (hi - b) (a + (b - a)) (fun j q1 q2 => hz j (by omega) (by omega) (by omega))]
  have l1 : jnS sort g (b - a) a ≤ MU := jnS_le _ _ (fun j q1 q2 => hg j (by omega) (by omega))
  rw [jnV_0 l1, jnV_z l1]
/-- along the ends -/
def chX (sort : Int32) (E T : Nat → Nat) (a b : Nat) : Nat := if sort = 0 then chT E T (b - a) a b 0 else chR E T (b - a) a b 0
def memb (c : Nat → Bool) (T : Nat → Nat) (j : Nat) : Nat := if c j = true then T j else 0
theorem ch_gen {sort : Int32} {E T : Nat → Nat} {c : Nat → Bool} {b : Nat} (hE : ∀ j, j < b → j < E j) (hT : ∀ j, j < b → T j ≤ MU) (hn : ∀ j, j < b → c j = true → E j ≤ b ∧ (E j < b → c (E j) = true) ∧ ∀ i, j < i → i < E j → c i = false) :
    ∀ (m k acc : Nat), acc ≤ MU → k ≤ b → b - k ≤ m → (k < b → c k = true) → (if sort = 0 then chT E T m k b acc else chR E T m k b acc) = jnV sort acc (jnS sort (memb c T) (b - k) k)
  | 0, k, acc, ha, hk, hm, hc => by
    have : b - k = 0 := by omega
    rw [this]
    show (if sort = 0 then acc else acc) = jnV sort acc 0
    rw [jnV_0 ha]
    exact ite_self _
  | m + 1, k, acc, ha, hk, hm, hc => by
    by_cases e : b ≤ k
    · have : b - k = 0 := by omega
      rw [this]
      show (if sort = 0 then chT E T (m + 1) k b acc else chR E T (m + 1) k b acc) = jnV sort acc 0
      unfold chT chR
      rw [if_pos e, if_pos e, jnV_0 ha]
      exact ite_self _
    · have hkb : k < b := by omega
      have hck := hc hkb
      have hEk := hE k hkb
      obtain ⟨q1, q2, q3⟩ := hn k hkb hck
      have hb2 : ∀ j, j < b → memb c T j ≤ MU := fun j hj => by
        unfold memb
        split
        · exact hT j hj
        · exact Nat.zero_le _
      have ih := ch_gen (sort := sort) hE hT hn m (E k) (jnV sort acc (T k)) (jnV_le ha (hT k hkb)) q1 (by omega) q2
      have s1 : jnS sort (memb c T) (b - k) k = jnV sort (T k) (jnS sort (memb c T) (b - E k) (E k)) := by
        have e1 : b - k = (b - k - 1) + 1 := by omega
        rw [e1]
        show jnV sort (memb c T k) (jnS sort (memb c T) (b - k - 1) (k + 1)) = _
        have e2 : memb c T k = T k := by unfold memb; rw [if_pos hck]
        rw [e2]
        congr 1
        have := jnS_sub (sort := sort) (g := memb c T) (lo := k + 1) (a := E k) (b := b) (hi := b) (by omega) q1 (Nat.le_refl _) (fun j _ hj => hb2 j hj) (fun j h1 h2 h3 => by
          unfold memb
          rw [q3 j (by omega) (by omega)]
          rfl)
        rw [show b - k - 1 = b - (k + 1) by omega]
        exact this
      rw [s1, ← jnV_assoc, ← ih]
      have c1 : chT E T (m + 1) k b acc = chT E T m (E k) b (sat (acc + T k)) := by
        show (if b ≤ k then acc else chT E T m (E k) b (sat (acc + T k))) = _
        rw [if_neg e]
      have c2 : chR E T (m + 1) k b acc = chR E T m (E k) b (max acc (T k)) := by
        show (if b ≤ k then acc else chR E T m (E k) b (max acc (T k))) = _
        rw [if_neg e]
      rw [c1, c2]
      by_cases z : sort = 0
      · rw [if_pos z, if_pos z]
        unfold jnV
        rw [if_pos z]
      · rw [if_neg z, if_neg z]
        unfold jnV
        rw [if_neg z]
theorem chX_eq {sort : Int32} {E T : Nat → Nat} {c : Nat → Bool} {a b : Nat} (hab : a ≤ b) (hE : ∀ j, j < b → j < E j) (hT : ∀ j, j < b → T j ≤ MU) (hn : ∀ j, j < b → c j = true → E j ≤ b ∧ (E j < b → c (E j) = true) ∧ ∀ i, j < i → i < E j → c i = false) (h0 : a < b → c a = true) : chX sort E T a b = jnS sort (memb c T) (b - a) a := by
  unfold chX
  rw [ch_gen (sort := sort) (c := c) hE hT hn (b - a) a 0 (Nat.zero_le _) hab (Nat.le_refl _) h0, jnV_z]
  exact jnS_le _ _ (fun j h1 h2 => by
    unfold memb
    split
    · exact hT j (by omega)
    · exact Nat.zero_le _)
