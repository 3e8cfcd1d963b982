/-! THE LAW'S NET: a row of ints that holds the same as the class's State, with the tests in another order -/
def q_nr (N : Nat → Int32) (m : q_W) (ρ : Nat → Nat) : Prop :=
  N 0 = nI m.t ∧ N 1 = m.nx ∧ N 2 = nI m.c ∧ N 3 = nI m.n ∧ N 4 = nI m.pe ∧ N 5 = nI m.pf ∧ N 6 = nI m.pc ∧
  (∀ z, 2 ≤ z → z ≤ 5 → N (20 + z) = m.bd z) ∧ (∀ z, 1 ≤ z → z ≤ 5 → N (30 + z) = m.wt z) ∧
  q_bij ρ m.n ∧ (∀ t, t < m.n → N (40 + 2 * t) = m.d (ρ t) ∧ N (41 + 2 * t) = m.v (ρ t)) ∧
  (∀ e, e < m.pc → N (60 + e) = m.tg e) ∧
  ∀ k, k < m.c → N (100 + 20 * k) = m.id k ∧ N (101 + 20 * k) = nI (m.dy k) ∧ N (102 + 20 * k) = nI (m.pn k) ∧ ∀ p, p < m.pn k → N (103 + 20 * k + p) = m.mn k p ∧ N (111 + 20 * k + p) = m.it k p
section QNR
variable {N : Nat → Int32} {m : q_W} {ρ : Nat → Nat} (R : q_nr N m ρ)
theorem q_nr.t {N : Nat → Int32} {m : q_W} {ρ : Nat → Nat} (R : q_nr N m ρ) : N 0 = nI m.t := R.1
theorem q_nr.nx {N : Nat → Int32} {m : q_W} {ρ : Nat → Nat} (R : q_nr N m ρ) : N 1 = m.nx := R.2.1
theorem q_nr.c {N : Nat → Int32} {m : q_W} {ρ : Nat → Nat} (R : q_nr N m ρ) : N 2 = nI m.c := R.2.2.1
theorem q_nr.n {N : Nat → Int32} {m : q_W} {ρ : Nat → Nat} (R : q_nr N m ρ) : N 3 = nI m.n := R.2.2.2.1
theorem q_nr.pe {N : Nat → Int32} {m : q_W} {ρ : Nat → Nat} (R : q_nr N m ρ) : N 4 = nI m.pe := R.2.2.2.2.1
theorem q_nr.pf {N : Nat → Int32} {m : q_W} {ρ : Nat → Nat} (R : q_nr N m ρ) : N 5 = nI m.pf := R.2.2.2.2.2.1
theorem q_nr.pc {N : Nat → Int32} {m : q_W} {ρ : Nat → Nat} (R : q_nr N m ρ) : N 6 = nI m.pc := R.2.2.2.2.2.2.1
theorem q_nr.bd {N : Nat → Int32} {m : q_W} {ρ : Nat → Nat} (R : q_nr N m ρ) {z : Nat} (h1 : 2 ≤ z) (h2 : z ≤ 5) : N (20 + z) = m.bd z := R.2.2.2.2.2.2.2.1 z h1 h2
theorem q_nr.wt {N : Nat → Int32} {m : q_W} {ρ : Nat → Nat} (R : q_nr N m ρ) {z : Nat} (h1 : 1 ≤ z) (h2 : z ≤ 5) : N (30 + z) = m.wt z := R.2.2.2.2.2.2.2.2.1 z h1 h2
theorem q_nr.bij {N : Nat → Int32} {m : q_W} {ρ : Nat → Nat} (R : q_nr N m ρ) : q_bij ρ m.n := R.2.2.2.2.2.2.2.2.2.1
theorem q_nr.d {N : Nat → Int32} {m : q_W} {ρ : Nat → Nat} (R : q_nr N m ρ) {t : Nat} (h : t < m.n) : N (40 + 2 * t) = m.d (ρ t) := (R.2.2.2.2.2.2.2.2.2.2.1 t h).1
theorem q_nr.v {N : Nat → Int32} {m : q_W} {ρ : Nat → Nat} (R : q_nr N m ρ) {t : Nat} (h : t < m.n) : N (41 + 2 * t) = m.v (ρ t) := (R.2.2.2.2.2.2.2.2.2.2.1 t h).2
theorem q_nr.tg {N : Nat → Int32} {m : q_W} {ρ : Nat → Nat} (R : q_nr N m ρ) {e : Nat} (h : e < m.pc) : N (60 + e) = m.tg e := R.2.2.2.2.2.2.2.2.2.2.2.1 e h
theorem q_nr.id {N : Nat → Int32} {m : q_W} {ρ : Nat → Nat} (R : q_nr N m ρ) {k : Nat} (h : k < m.c) : N (100 + 20 * k) = m.id k := (R.2.2.2.2.2.2.2.2.2.2.2.2 k h).1
theorem q_nr.dy {N : Nat → Int32} {m : q_W} {ρ : Nat → Nat} (R : q_nr N m ρ) {k : Nat} (h : k < m.c) : N (101 + 20 * k) = nI (m.dy k) := (R.2.2.2.2.2.2.2.2.2.2.2.2 k h).2.1
theorem q_nr.pn {N : Nat → Int32} {m : q_W} {ρ : Nat → Nat} (R : q_nr N m ρ) {k : Nat} (h : k < m.c) : N (102 + 20 * k) = nI (m.pn k) := (R.2.2.2.2.2.2.2.2.2.2.2.2 k h).2.2.1
theorem q_nr.mn {N : Nat → Int32} {m : q_W} {ρ : Nat → Nat} (R : q_nr N m ρ) {k p : Nat} (h : k < m.c) (hp : p < m.pn k) : N (103 + 20 * k + p) = m.mn k p := ((R.2.2.2.2.2.2.2.2.2.2.2.2 k h).2.2.2 p hp).1
theorem q_nr.it {N : Nat → Int32} {m : q_W} {ρ : Nat → Nat} (R : q_nr N m ρ) {k p : Nat} (h : k < m.c) (hp : p < m.pn k) : N (111 + 20 * k + p) = m.it k p := ((R.2.2.2.2.2.2.2.2.2.2.2.2 k h).2.2.2 p hp).2
end QNR
/-- sizes -/
def q_bd (m : q_W) : Prop := m.t ≤ 199 ∧ m.n ≤ 10 ∧ m.c ≤ 38 ∧ m.pe ≤ 1 ∧ m.pf ≤ 199 ∧ m.pc ≤ 28 ∧ (∀ k, k < m.c → m.pn k ≤ 8 ∧ m.dy k ≤ 199)
/-- all of the law that depends on the first 899 cells alone -/
theorem q_nr.cong {N N' : Nat → Int32} {m : q_W} {ρ : Nat → Nat} (B : q_bd m) (R : q_nr N m ρ) (e : ∀ k, k < 899 → N' k = N k) : q_nr N' m ρ := by
  obtain ⟨b1, b2, b3, b4, b5, b6, b7⟩ := B
  refine ⟨(e _ (by omega)).trans R.t, (e _ (by omega)).trans R.nx, (e _ (by omega)).trans R.c, (e _ (by omega)).trans R.n, (e _ (by omega)).trans R.pe, (e _ (by omega)).trans R.pf, (e _ (by omega)).trans R.pc, fun z h1 h2 => (e _ (by omega)).trans (R.bd h1 h2), fun z h1 h2 => (e _ (by omega)).trans (R.wt h1 h2), R.bij, fun t ht => ⟨(e _ (by omega)).trans (R.d ht), (e _ (by omega)).trans (R.v ht)⟩, fun x hx => (e _ (by omega)).trans (R.tg hx), fun k hk => ?_⟩
  have := (b7 k hk).1
  exact ⟨(e _ (by omega)).trans (R.id hk), (e _ (by omega)).trans (R.dy hk), (e _ (by omega)).trans (R.pn hk), fun p hp => ⟨(e _ (by omega)).trans (R.mn hk hp), (e _ (by omega)).trans (R.it hk hp)⟩⟩
/-! thresholds -/
theorem q_th_at {m : q_W} (v : q_val m) (dd : q_dd m) {i d day : Nat} (hi : i < m.n) (hd : m.d i = nI d) (h1 : d ≤ day) (h2 : day ≤ 199) (hx : ∀ u, u < m.n → ∀ e, d < e → e ≤ day → m.d u ≠ nI e) : m.th (nI day) = m.v i := by
  unfold q_W.th
  rcases q_thr_c m.d m.v (nI day) m.n with ⟨-, c2⟩ | ⟨j, j1, j2, j3, j4, j5⟩
  · refine absurd ⟨?_, ?_⟩ (c2 i hi)
    · rw [hd, nI_leI (by omega) (by omega)]; exact h1
    · rw [hd, Int32.lt_iff_toInt_lt, nI_toInt (by omega)]
      have : (-1 : Int32).toInt = -1 := by decide
      omega
  · rw [j4]
    show m.v j = m.v i
    obtain ⟨e, he, ej⟩ := v.2.2.2.2.1 j j1
    have g1 := j5 i hi (by rw [hd, nI_leI (by omega) (by omega)]; exact h1)
    rw [hd, ej, nI_leI (by omega) (by omega)] at g1
    rw [ej, nI_leI (by omega) (by omega)] at j2
    by_cases e9 : e = d
    · rw [dd j j1 i hi (by rw [ej, hd, e9])]
    · exact absurd ej (hx j j1 e (by omega) j2)
theorem q_th_no {m : q_W} (v : q_val m) {day : Nat} (h2 : day ≤ 199) (hx : ∀ u, u < m.n → ∀ e, e ≤ day → m.d u ≠ nI e) : m.th (nI day) = nI 200 := by
  unfold q_W.th
  rcases q_thr_c m.d m.v (nI day) m.n with ⟨c1, -⟩ | ⟨j, j1, j2, j3, j4, j5⟩
  · rw [c1]; rfl
  · obtain ⟨e, he, ej⟩ := v.2.2.2.2.1 j j1
    rw [ej, nI_leI (by omega) (by omega)] at j2
    exact absurd ej (hx j j1 e j2)
/-- minutes of a session in a zone; zone 0: all -/
def q_ms (m : q_W) (k z n : Nat) : Int32 := q_sum (fun p => if z = 0 ∨ m.z k p = z then m.mn k p else nI 0) n
theorem q_ms_s (m : q_W) (k z n : Nat) : q_ms m k z (n + 1) = q_ms m k z n + (if z = 0 ∨ m.z k n = z then m.mn k n else nI 0) := rfl
theorem q_ms_0 (m : q_W) (k : Nat) : q_ms m k 0 (m.pn k) = m.len k := q_sum_cong fun p _ => if_pos (Or.inl rfl)
theorem q_ms_z (m : q_W) (k : Nat) {z : Nat} (hz : 1 ≤ z) : q_ms m k z (m.pn k) = m.zc k z := q_sum_cong fun p _ => by
  by_cases e : m.z k p = z
  · rw [if_pos (Or.inr e), if_pos e]
  · rw [if_neg (fun c => by rcases c with c | c; omega; exact e c), if_neg e]; rfl
theorem q_t9 {c : Nat} (h1 : 2000 ≤ c) (h2 : c % 4 = 0) : q_tag c = 16 := by rw [q_tag_dyn h1, if_neg (by omega)]
theorem q_l9 {c : Nat} (h1 : 2000 ≤ c) (h2 : c % 4 = 0) : q_len c = 900 := by rw [q_len_dyn h1, if_pos h2]
