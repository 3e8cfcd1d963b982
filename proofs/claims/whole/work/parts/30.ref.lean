/-! THE REFERENCE'S STATE AS PLAIN DATA: the same kind, with sessions in the order of their ids -/
def q_rw (r : Nat → Int32) (m : q_W) : Prop :=
  r 0 = nI m.t ∧ m.t ≤ 199 ∧ r 1 = m.nx ∧ r 2 = nI m.c ∧ m.c ≤ 40 ∧ r 3 = nI m.n ∧ m.n ≤ 10 ∧ r 4 = nI m.pe ∧ m.pe ≤ 1 ∧ r 5 = nI m.pf ∧ m.pf ≤ 199 ∧ r 6 = nI m.pc ∧ m.pc ≤ 28 ∧
  (∀ z, z < 6 → r (8 + z) = m.bd z ∧ r (14 + z) = m.wt z) ∧ (∀ k, k < 10 → r (20 + 2 * k) = m.d k ∧ r (21 + 2 * k) = m.v k) ∧ (∀ e, e < 28 → r (40 + e) = m.tg e) ∧
  (∀ k, k < 40 → r (70 + 19 * k) = m.id k ∧ r (71 + 19 * k) = nI (m.dy k) ∧ m.dy k ≤ 199 ∧ r (72 + 19 * k) = nI (m.pn k) ∧ m.pn k ≤ 8 ∧ ∀ p, p < 8 → r (73 + 19 * k + p) = m.mn k p ∧ r (81 + 19 * k + p) = m.it k p)
theorem q_rw.t {r : Nat → Int32} {m : q_W} (M : q_rw r m) : r 0 = nI m.t := M.1
theorem q_rw.t9 {r : Nat → Int32} {m : q_W} (M : q_rw r m) : m.t ≤ 199 := M.2.1
theorem q_rw.nx {r : Nat → Int32} {m : q_W} (M : q_rw r m) : r 1 = m.nx := M.2.2.1
theorem q_rw.c {r : Nat → Int32} {m : q_W} (M : q_rw r m) : r 2 = nI m.c := M.2.2.2.1
theorem q_rw.c40 {r : Nat → Int32} {m : q_W} (M : q_rw r m) : m.c ≤ 40 := M.2.2.2.2.1
theorem q_rw.n {r : Nat → Int32} {m : q_W} (M : q_rw r m) : r 3 = nI m.n := M.2.2.2.2.2.1
theorem q_rw.n10 {r : Nat → Int32} {m : q_W} (M : q_rw r m) : m.n ≤ 10 := M.2.2.2.2.2.2.1
theorem q_rw.pe {r : Nat → Int32} {m : q_W} (M : q_rw r m) : r 4 = nI m.pe := M.2.2.2.2.2.2.2.1
theorem q_rw.pe1 {r : Nat → Int32} {m : q_W} (M : q_rw r m) : m.pe ≤ 1 := M.2.2.2.2.2.2.2.2.1
theorem q_rw.pf {r : Nat → Int32} {m : q_W} (M : q_rw r m) : r 5 = nI m.pf := M.2.2.2.2.2.2.2.2.2.1
theorem q_rw.pf9 {r : Nat → Int32} {m : q_W} (M : q_rw r m) : m.pf ≤ 199 := M.2.2.2.2.2.2.2.2.2.2.1
theorem q_rw.pc {r : Nat → Int32} {m : q_W} (M : q_rw r m) : r 6 = nI m.pc := M.2.2.2.2.2.2.2.2.2.2.2.1
theorem q_rw.pc28 {r : Nat → Int32} {m : q_W} (M : q_rw r m) : m.pc ≤ 28 := M.2.2.2.2.2.2.2.2.2.2.2.2.1
theorem q_rw.bd {r : Nat → Int32} {m : q_W} (M : q_rw r m) {z : Nat} (hz : z < 6) : r (8 + z) = m.bd z := (M.2.2.2.2.2.2.2.2.2.2.2.2.2.1 z hz).1
theorem q_rw.wt {r : Nat → Int32} {m : q_W} (M : q_rw r m) {z : Nat} (hz : z < 6) : r (14 + z) = m.wt z := (M.2.2.2.2.2.2.2.2.2.2.2.2.2.1 z hz).2
theorem q_rw.d {r : Nat → Int32} {m : q_W} (M : q_rw r m) {k : Nat} (hk : k < 10) : r (20 + 2 * k) = m.d k := (M.2.2.2.2.2.2.2.2.2.2.2.2.2.2.1 k hk).1
theorem q_rw.v {r : Nat → Int32} {m : q_W} (M : q_rw r m) {k : Nat} (hk : k < 10) : r (21 + 2 * k) = m.v k := (M.2.2.2.2.2.2.2.2.2.2.2.2.2.2.1 k hk).2
theorem q_rw.tg {r : Nat → Int32} {m : q_W} (M : q_rw r m) {e : Nat} (he : e < 28) : r (40 + e) = m.tg e := M.2.2.2.2.2.2.2.2.2.2.2.2.2.2.2.1 e he
theorem q_rw.id {r : Nat → Int32} {m : q_W} (M : q_rw r m) {k : Nat} (hk : k < 40) : r (70 + 19 * k) = m.id k := (M.2.2.2.2.2.2.2.2.2.2.2.2.2.2.2.2 k hk).1
theorem q_rw.dy {r : Nat → Int32} {m : q_W} (M : q_rw r m) {k : Nat} (hk : k < 40) : r (71 + 19 * k) = nI (m.dy k) := (M.2.2.2.2.2.2.2.2.2.2.2.2.2.2.2.2 k hk).2.1
theorem q_rw.dy9 {r : Nat → Int32} {m : q_W} (M : q_rw r m) {k : Nat} (hk : k < 40) : m.dy k ≤ 199 := (M.2.2.2.2.2.2.2.2.2.2.2.2.2.2.2.2 k hk).2.2.1
theorem q_rw.pn {r : Nat → Int32} {m : q_W} (M : q_rw r m) {k : Nat} (hk : k < 40) : r (72 + 19 * k) = nI (m.pn k) := (M.2.2.2.2.2.2.2.2.2.2.2.2.2.2.2.2 k hk).2.2.2.1
theorem q_rw.pn8 {r : Nat → Int32} {m : q_W} (M : q_rw r m) {k : Nat} (hk : k < 40) : m.pn k ≤ 8 := (M.2.2.2.2.2.2.2.2.2.2.2.2.2.2.2.2 k hk).2.2.2.2.1
theorem q_rw.mn {r : Nat → Int32} {m : q_W} (M : q_rw r m) {k : Nat} (hk : k < 40) {p : Nat} (hp : p < 8) : r (73 + 19 * k + p) = m.mn k p := ((M.2.2.2.2.2.2.2.2.2.2.2.2.2.2.2.2 k hk).2.2.2.2.2 p hp).1
theorem q_rw.it {r : Nat → Int32} {m : q_W} (M : q_rw r m) {k : Nat} (hk : k < 40) {p : Nat} (hp : p < 8) : r (81 + 19 * k + p) = m.it k p := ((M.2.2.2.2.2.2.2.2.2.2.2.2.2.2.2.2 k hk).2.2.2.2.2 p hp).2
/-- a row that the reference may hold as its state -/
def q_mw (w : Nat) : Prop := w = 1062 ∨ ∃ j, j < 6 ∧ w = 1064 + j
theorem q_mwt {w : Nat} (h : q_mw w) : q_tag w = 12 := by
  rcases h with rfl | ⟨j, hj, rfl⟩
  · rfl
  · exact (by decide +kernel : ∀ j, j < 6 → q_tag (1064 + j) = 12) j hj
theorem q_mwl {w : Nat} (h : q_mw w) : q_len w = 830 := by
  rcases h with rfl | ⟨j, hj, rfl⟩
  · rfl
  · exact (by decide +kernel : ∀ j, j < 6 → q_len (1064 + j) = 830) j hj
theorem q_mw1 {w : Nat} (h : q_mw w) : 1062 ≤ w ∧ w ≤ 1069 ∧ w ≠ 1063 := by
  rcases h with rfl | ⟨j, hj, rfl⟩ <;> omega
theorem q_mwn {w : Nat} (h : q_mw w) : 1 ≤ w ∧ w ≤ 1075 := by have := q_mw1 h; omega
theorem q_lkM : q_lkT 1061 0 = none := rfl
/-! what is valid: tests' thresholds, bounds, weights, parts -/
def q_val (m : q_W) : Prop :=
  (∀ i, i < m.n → ∃ k : Nat, 50 ≤ k ∧ k ≤ 400 ∧ m.v i = nI k) ∧ (∀ z, 2 ≤ z → z ≤ 5 → ∃ b : Nat, 1 ≤ b ∧ b ≤ 300 ∧ m.bd z = nI b) ∧ (∀ z, 1 ≤ z → z ≤ 5 → ∃ w : Nat, w ≤ 100 ∧ m.wt z = nI w) ∧
  (∀ k, k < 40 → m.okS k ∧ ∀ p, p < m.pn k → ∃ x : Nat, x ≤ 500 ∧ m.it k p = nI x) ∧ (∀ i, i < m.n → ∃ k : Nat, k ≤ 199 ∧ m.d i = nI k) ∧ (∀ e, e < m.pc → ∃ x : Nat, x ≤ 20000 ∧ m.tg e = nI x) ∧ (m.pe = 0 → m.pc = 0)
theorem q_thr_v {m : q_W} (v : q_val m) (day : Int32) : ∃ t : Nat, 50 ≤ t ∧ t ≤ 400 ∧ m.th day = nI t := by
  have key : ∀ n, n ≤ m.n → ∃ t : Nat, 50 ≤ t ∧ t ≤ 400 ∧ (q_thr m.d m.v day n).2 = nI t := by
    intro n
    induction n with
    | zero => intro _; exact ⟨200, by omega, by omega, show (200 : Int32) = nI 200 from by decide⟩
    | succ n ih =>
      intro hn
      unfold q_thr
      split
      · exact v.1 n (by omega)
      · exact ih (by omega)
  exact key _ (Nat.le_refl _)
/-- the reference's zone: of n zones from 2 on the last whose bound is at most the percent -/
def q_zf (bd : Nat → Int32) (pc : Int32) : Nat → Nat
  | 0 => 1
  | n + 1 => if bd (n + 2) ≤ pc then n + 2 else q_zf bd pc n
theorem q_zf_le (bd : Nat → Int32) (pc : Int32) (n : Nat) : 1 ≤ q_zf bd pc n ∧ q_zf bd pc n ≤ n + 1 := by
  induction n with
  | zero => exact ⟨Nat.le_refl _, Nat.le_refl _⟩
  | succ n ih => unfold q_zf; split <;> omega
theorem q_zf_zn {m : q_W} (v : q_val m) {x t : Nat} (hx : x ≤ 500) (ht : 50 ≤ t) (ht4 : t ≤ 400) : q_zf m.bd (nI 100 * nI x / nI t) 4 = q_zn m.bd (nI x) (nI t) := by
  have key : ∀ z, 2 ≤ z → z ≤ 5 → (m.bd z ≤ nI 100 * nI x / nI t ↔ m.bd z * nI t ≤ nI 100 * nI x) := by
    intro z h2 h5
    obtain ⟨b, hb1, hb3, e⟩ := v.2.1 z h2 h5
    have hbt : b * t ≤ 300 * 400 := Nat.mul_le_mul hb3 ht4
    have hq : 100 * x / t ≤ 100 * x := Nat.div_le_self _ _
    rw [e, pk_mul, pk_mul, pk_div (by omega) (by omega) (by omega), nI_leI (by omega) (by omega), nI_leI (by omega) (by omega)]
    exact Nat.le_div_iff_mul_le (by omega)
  unfold q_zn
  simp only [← key 5 (by omega) (by omega), ← key 4 (by omega) (by omega), ← key 3 (by omega) (by omega), ← key 2 (by omega) (by omega)]
  rfl
theorem q_sum5 (g w : Nat → Int32) (j : Nat) (a : Int32) (h1 : 1 ≤ j) (h5 : j ≤ 5) : q_sum (fun z => va_up g j (g j + a) (z + 1) * w (z + 1)) 5 = q_sum (fun z => g (z + 1) * w (z + 1)) 5 + a * w j := by
  rcases (show j = 1 ∨ j = 2 ∨ j = 3 ∨ j = 4 ∨ j = 5 by omega) with rfl | rfl | rfl | rfl | rfl <;>
  · simp only [q_sum, va_up]
    simp only [Nat.zero_add, Nat.reduceAdd, Nat.reduceEqDiff, if_true, if_false, Int32.add_mul]
    ac_rfl
theorem q_W.ld_z {m : q_W} (g : Nat → Int32) (hg : ∀ z, z < 6 → g z = nI 0) (k : Nat) : q_sum (fun z => q_az g (m.z k) (m.mn k) (m.pn k) (z + 1) * m.wt (z + 1)) 5 = m.ld k := by
  have key : ∀ n, q_sum (fun z => q_az g (m.z k) (m.mn k) n (z + 1) * m.wt (z + 1)) 5 = q_sum (fun p => m.mn k p * m.wt (m.z k p)) n := by
    intro n
    induction n with
    | zero =>
      show q_sum (fun z => g (z + 1) * m.wt (z + 1)) 5 = 0
      rw [q_sum_cong (g := fun _ => 0) fun z hz => by rw [hg (z + 1) (by omega)]; exact Int32.zero_mul]
      rfl
    | succ n ih =>
      have hz : 1 ≤ m.z k n ∧ m.z k n ≤ 5 := q_zn_le m.bd (m.it k n) (m.lt k)
      show q_sum (fun z => va_up (q_az g (m.z k) (m.mn k) n) (m.z k n) (q_az g (m.z k) (m.mn k) n (m.z k n) + m.mn k n) (z + 1) * m.wt (z + 1)) 5 = _
      rw [q_sum5 _ _ _ _ hz.1 hz.2, ih]
      rfl
  exact key _
/-- the last of n that p holds of; -1 if there is none -/
def q_pl (p : Nat → Bool) : Nat → Int32
  | 0 => -1
  | n + 1 => if p n then nI n else q_pl p n
theorem q_pl_c (p : Nat → Bool) (n : Nat) : (∃ i, i < n ∧ p i = true ∧ (∀ j, i < j → j < n → p j = false) ∧ q_pl p n = nI i) ∨ ((∀ j, j < n → p j = false) ∧ q_pl p n = -1) := by
  induction n with
  | zero => exact Or.inr ⟨fun j hj => absurd hj (Nat.not_lt_zero j), rfl⟩
  | succ n ih =>
    unfold q_pl
    by_cases e : p n = true
    · rw [if_pos e]
      exact Or.inl ⟨n, by omega, e, fun j h1 h2 => by omega, rfl⟩
    · rw [if_neg e]
      rcases ih with ⟨i, h1, h2, h3, h4⟩ | ⟨h1, h2⟩
      · exact Or.inl ⟨i, by omega, h2, fun j h5 h6 => if ej : j = n then (by rw [ej]; simpa using e) else h3 j h5 (by omega), h4⟩
      · exact Or.inr ⟨fun j hj => if ej : j = n then (by rw [ej]; simpa using e) else h1 j (by omega), h2⟩
theorem q_im_at (m i g : Nat → Int32) {n p x : Nat} (hp : p < n) (h1 : q_cm m p ≤ x) (h2 : x < q_cm m (p + 1)) : q_fm m i g n x = i p := by
  induction n with
  | zero => exact absurd hp (Nat.not_lt_zero p)
  | succ n ih =>
    show (if q_cm m n ≤ x ∧ x < q_cm m (n + 1) then i n else q_fm m i g n x) = i p
    by_cases e : p = n
    · subst e; rw [if_pos ⟨h1, h2⟩]
    · have h3 := q_cm_mono m (show p + 1 ≤ n by omega)
      rw [if_neg (by omega)]
      exact ih (by omega)
