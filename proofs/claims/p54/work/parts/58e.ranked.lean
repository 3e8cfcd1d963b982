/-! THE RANK OF A SESSION BY ITS KEY -/
def q_key (m : q_W) (k : Nat) : Nat := 1000 * m.dy k + (m.id k).toNatClampNeg
theorem q_kle {x n : Nat} (hx : x < 2 ^ 30) (hn : n < 2 ^ 30) : (nI x ≤ nI n - nI 1) ↔ x < n := by
  rw [Int32.le_iff_toInt_le, pk_sub_toInt hn (by omega), nI_toInt (by omega)]; omega
theorem q_klt0 {n : Nat} (hn : n < 2 ^ 30) : (nI n - nI 1 < 0) ↔ n = 0 := by
  have z0 : (0 : Int32).toInt = 0 := by decide
  rw [Int32.lt_iff_toInt_lt, pk_sub_toInt hn (by omega), z0]; omega
theorem q_kge {x n : Nat} (hx : x < 2 ^ 30) (hn : n < 2 ^ 30) : (nI n - nI 1 ≤ nI x) ↔ n ≤ x + 1 := by
  rw [Int32.le_iff_toInt_le, pk_sub_toInt hn (by omega), nI_toInt (by omega)]; omega
theorem q_keq {x n : Nat} (hx : x < 2 ^ 30) (hn : n < 2 ^ 30) : (nI n - nI 1 = nI x) ↔ n = x + 1 := by
  constructor
  · intro h
    have h2 := congrArg Int32.toInt h
    rw [pk_sub_toInt hn (by omega), nI_toInt (by omega)] at h2; omega
  · rintro rfl; rw [pk_sub (by omega)]; rfl
theorem q_p1 (k : Nat) : nI k = nI (k + 1) - nI 1 := by rw [pk_sub (by omega)]; rfl
section QRK
variable {W m : q_W} {N : Nat} {τ : Nat → Nat}
theorem q_key_id (k0 : q_si2 m N) {k : Nat} (hk : k < m.c) : ∃ a, a < N ∧ m.id k = nI a := k0.2.2.2.1 k hk
theorem q_key_v (k0 : q_si2 m N) (hN : N ≤ 500) {k : Nat} (hk : k < m.c) : ∃ a, a < N ∧ m.id k = nI a ∧ q_key m k = 1000 * m.dy k + a := by
  obtain ⟨a, h1, h2⟩ := q_key_id k0 hk
  exact ⟨a, h1, h2, by unfold q_key; rw [h2, nI_clamp (by omega)]⟩
theorem q_key_e (k0 : q_si2 m N) (hN : N ≤ 500) {k : Nat} (hk : k < m.c) : nI (1000 * m.dy k) + m.id k = nI (q_key m k) := by
  obtain ⟨a, h1, h2, h3⟩ := q_key_v k0 hN hk
  rw [h2, nI_add, h3]
theorem q_key_b (k0 : q_si2 m N) (hN : N ≤ 500) {k : Nat} (hk : k < m.c) : q_key m k ≤ 199500 := by
  obtain ⟨a, h1, h2, h3⟩ := q_key_v k0 hN hk
  have h4 := k0.2.2.2.2.2.1 k hk
  have h5 := k0.2.2.2.2.2.2.1
  omega
theorem q_key_inj (k0 : q_si2 m N) (hN : N ≤ 500) {k l : Nat} (hk : k < m.c) (hl : l < m.c) (e : q_key m k = q_key m l) : k = l := by
  obtain ⟨a, h1, h2, h3⟩ := q_key_v k0 hN hk
  obtain ⟨b, g1, g2, g3⟩ := q_key_v k0 hN hl
  exact k0.2.2.2.2.1 k hk l hl (by rw [h2, g2, show a = b by omega])
theorem q_key_lt (b0 : q_si1 W m τ) (k0 : q_si2 m N) (hN : N ≤ 500) {i j : Nat} (hij : i < j) (hj : j < m.c) : q_key m (τ i) < q_key m (τ j) := by
  have bi := b0.1.1 i (by omega)
  have bj := b0.1.1 j hj
  obtain ⟨a, h1, h2, h3⟩ := q_key_v k0 hN bi
  obtain ⟨b, g1, g2, g3⟩ := q_key_v k0 hN bj
  have e1 := b0.2.1 i (by omega)
  have e2 := b0.2.1 j hj
  rcases b0.2.2 i j hij hj with h | ⟨h, h'⟩
  · rw [e1.2.1, e2.2.1] at h; omega
  · rw [e1.2.1, e2.2.1] at h
    rw [e1.1, e2.1, h2, g2, nI_ltI (by omega) (by omega)] at h'
    omega
/-- the least key from ln on, among the first k -/
def q_rk (m : q_W) (ln fd k nx f2 : Nat) : Prop := (nx = 0 ∧ f2 = fd ∧ ∀ q, q < k → q_key m q < ln) ∨ ∃ j, j < k ∧ nx = q_key m j + 1 ∧ f2 = j + 1 ∧ ln ≤ q_key m j ∧ ∀ q, q < k → ln ≤ q_key m q → q_key m j ≤ q_key m q
theorem q_rk_0 (ln fd : Nat) : q_rk m ln fd 0 0 fd := Or.inl ⟨rfl, rfl, fun q hq => absurd hq (Nat.not_lt_zero q)⟩
theorem q_rk_b (k0 : q_si2 m N) (hN : N ≤ 500) {ln fd k nx f2 : Nat} (h : q_rk m ln fd k nx f2) (hk : k ≤ m.c) : nx ≤ 199501 := by
  rcases h with ⟨h1, -⟩ | ⟨j, h1, h2, -⟩
  · omega
  · have := q_key_b k0 hN (show j < m.c by omega); omega
theorem q_rk_no (k0 : q_si2 m N) (hN : N ≤ 500) {ln fd k nx f2 : Nat} (h : q_rk m ln fd k nx f2) (hk : k < m.c) (e : nx = q_key m k + 1) : False := by
  rcases h with ⟨h1, -⟩ | ⟨j, h1, h2, -⟩
  · omega
  · have := q_key_inj k0 hN (show j < m.c by omega) hk (by omega); omega
theorem q_rk_un {ln fd k nx f2 : Nat} (h : q_rk m ln fd k nx f2) (g : q_key m k < ln ∨ (nx ≠ 0 ∧ nx ≤ q_key m k + 1)) : q_rk m ln fd (k + 1) nx f2 := by
  rcases h with ⟨h1, h2, h3⟩ | ⟨j, h1, h2, h3, h4, h5⟩
  · refine Or.inl ⟨h1, h2, fun q hq => ?_⟩
    by_cases e : q = k
    · rw [e]; omega
    · exact h3 q (by omega)
  · refine Or.inr ⟨j, by omega, h2, h3, h4, fun q hq hl => ?_⟩
    by_cases e : q = k
    · rw [e] at hl ⊢; omega
    · exact h5 q (by omega) hl
theorem q_rk_ch {ln fd k nx f2 : Nat} (h : q_rk m ln fd k nx f2) (g1 : ln ≤ q_key m k) (g : nx = 0 ∨ q_key m k + 1 < nx) : q_rk m ln fd (k + 1) (q_key m k + 1) (k + 1) := by
  refine Or.inr ⟨k, by omega, rfl, rfl, g1, fun q hq hl => ?_⟩
  by_cases e : q = k
  · rw [e]; exact Nat.le_refl _
  · rcases h with ⟨h1, h2, h3⟩ | ⟨j, h1, h2, h3, h4, h5⟩
    · have := h3 q (by omega); omega
    · have := h5 q (by omega) hl; omega
def q_rk1 (m : q_W) (τ : Nat → Nat) (n ln fd : Nat) : Prop := (n = 0 ∧ ln = 0) ∨ (0 < n ∧ ln = q_key m (τ (n - 1)) + 1 ∧ fd = τ (n - 1) + 1)
theorem q_rk_end (b0 : q_si1 W m τ) (k0 : q_si2 m N) (hN : N ≤ 500) {n ln fd nx f2 : Nat} (hn : n < m.c) (h : q_rk1 m τ n ln fd) (g : q_rk m ln fd m.c nx f2) : q_rk1 m τ (n + 1) nx f2 := by
  have hln : ln ≤ q_key m (τ n) := by
    rcases h with ⟨h1, h2⟩ | ⟨h1, h2, h3⟩
    · omega
    · have := q_key_lt b0 k0 hN (show n - 1 < n by omega) hn; omega
  have hτ := b0.1.1 n hn
  rcases g with ⟨g1, g2, g3⟩ | ⟨j, g1, g2, g3, g4, g5⟩
  · have := g3 _ hτ; omega
  · obtain ⟨i, hi, rfl⟩ := q_bij_sur _ _ b0.1 j g1
    have e : i = n := by
      refine Classical.byContradiction fun e => ?_
      by_cases e1 : i < n
      · rcases h with ⟨h1, h2⟩ | ⟨h1, h2, h3⟩
        · omega
        · by_cases e2 : i = n - 1
          · rw [← e2] at h2; omega
          · have := q_key_lt b0 k0 hN (show i < n - 1 by omega) (by omega); omega
      · have h1 := q_key_lt b0 k0 hN (show n < i by omega) hi
        have h2 := g5 _ hτ hln
        omega
    subst e
    exact Or.inr ⟨Nat.succ_pos _, g2, g3⟩
theorem q_rk1_b (b0 : q_si1 W m τ) (k0 : q_si2 m N) (hN : N ≤ 500) {n ln fd : Nat} (hn : n ≤ m.c) (h : q_rk1 m τ n ln fd) : ln ≤ 199501 := by
  rcases h with ⟨h1, h2⟩ | ⟨h1, h2, h3⟩
  · omega
  · have := q_key_b k0 hN (b0.1.1 (n - 1) (by omega)); omega
end QRK
