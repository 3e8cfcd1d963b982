/-! A WEEK AS THE LAW READS IT -/
theorem q_cn_p {p : Nat → Bool} {n : Nat} (h : p n = true) : q_cn p (n + 1) = q_cn p n + 1 := if_pos h
theorem q_cn_f {p : Nat → Bool} {n : Nat} (h : p n = false) : q_cn p (n + 1) = q_cn p n := if_neg (by rw [h]; decide)
theorem q_pa_p {m : q_W} {d n : Nat} (h : m.dy n = d) : m.pa d (n + 1) = m.pa d n + m.pn n := if_pos h
theorem q_pa_f {m : q_W} {d n : Nat} (h : ¬ m.dy n = d) : m.pa d (n + 1) = m.pa d n := if_neg h
theorem q_pa_le2 {m : q_W} (d : Nat) : ∀ n, (∀ k, k < n → m.pn k ≤ 8) → m.pa d n ≤ 8 * n := by
  intro n
  induction n with
  | zero => intro _; exact Nat.le_refl 0
  | succ n ih =>
    intro h
    have h1 := ih fun k hk => h k (by omega)
    have h2 := h n (by omega)
    unfold q_W.pa
    split <;> omega
/-- the minutes of a day in a zone -/
def q_dz1 (m : q_W) (d z n : Nat) : Int32 := q_sum (fun j => if m.dy j = d then q_ms m j z (m.pn j) else nI 0) n
theorem q_dz1_p {m : q_W} {d z n : Nat} (h : m.dy n = d) : q_dz1 m d z n + q_ms m n z (m.pn n) = q_dz1 m d z (n + 1) := by
  show _ = q_dz1 m d z n + (if m.dy n = d then q_ms m n z (m.pn n) else nI 0); rw [if_pos h]
theorem q_dz1_f {m : q_W} {d z n : Nat} (h : ¬ m.dy n = d) : q_dz1 m d z n + nI 0 = q_dz1 m d z (n + 1) := by
  show _ = q_dz1 m d z n + (if m.dy n = d then q_ms m n z (m.pn n) else nI 0); rw [if_neg h]
theorem q_dz1_e {m : q_W} {N : Nat} (c : q_si2 m N) (d : Nat) {z : Nat} (hz : 1 ≤ z) : q_dz1 m d z m.c = m.zr d z := by
  rw [q_zr_sum c]
  exact q_sum_cong fun j _ => by
    by_cases h : m.dy j = d
    · rw [if_pos h, if_pos h, q_ms_z m j hz]
    · rw [if_neg h, if_neg h]; rfl
/-- the most so far -/
def q_mo (r : Nat → Int32) (z : Nat) : Int32 := if z ≤ 1 then -1 else r (q_bz r (z - 2))
theorem q_mo_a {r : Nat → Int32} (hr : ∀ z, ∃ x, x < 2 ^ 31 ∧ r z = nI x) {z : Nat} (hz : 1 ≤ z) (h : q_mo r z < r z) : q_bz r (z + 1 - 2) = z ∧ q_mo r (z + 1) = r z := by
  unfold q_mo at h ⊢
  by_cases h1 : z = 1
  · subst h1
    exact ⟨rfl, rfl⟩
  · obtain ⟨i, rfl⟩ : ∃ i, z = i + 2 := ⟨z - 2, by omega⟩
    rw [if_neg (by omega), Nat.add_sub_cancel] at h
    rw [if_neg (by omega), show i + 2 + 1 - 2 = i + 1 by omega]
    have e : q_bz r (i + 1) = i + 2 := by unfold q_bz; rw [if_pos h]
    rw [e]; exact ⟨rfl, rfl⟩
theorem q_mo_b {r : Nat → Int32} (hr : ∀ z, ∃ x, x < 2 ^ 31 ∧ r z = nI x) {z : Nat} (hz : 1 ≤ z) (h : ¬ q_mo r z < r z) : q_bz r (z + 1 - 2) = q_bz r (z - 2) ∧ q_mo r (z + 1) = q_mo r z := by
  unfold q_mo at h ⊢
  by_cases h1 : z = 1
  · subst h1
    obtain ⟨x, hx, e⟩ := hr 1
    rw [if_pos (Nat.le_refl 1), e] at h
    have h0 : ((-1 : Int32)) < nI x := by
      have z0 : (-1 : Int32).toInt = -1 := by decide
      rw [Int32.lt_iff_toInt_lt, nI_toInt hx, z0]; omega
    exact absurd h0 h
  · obtain ⟨i, rfl⟩ : ∃ i, z = i + 2 := ⟨z - 2, by omega⟩
    rw [if_neg (by omega), Nat.add_sub_cancel] at h
    rw [if_neg (by omega), if_neg (by omega), show i + 2 + 1 - 2 = i + 1 by omega, Nat.add_sub_cancel]
    have e : q_bz r (i + 1) = q_bz r i := by
      show (if r (q_bz r i) < r (i + 2) then i + 2 else q_bz r i) = _
      rw [if_neg h]
    rw [e]; exact ⟨rfl, rfl⟩
theorem q_zr_nn {m : q_W} {N : Nat} (c : q_si2 m N) (d : Nat) : ∀ z, ∃ x, x < 2 ^ 31 ∧ m.zr d z = nI x := fun z => by
  obtain ⟨x, hx, e⟩ := q_zr_ge c d z
  exact ⟨x, by omega, e⟩
theorem q_sg2_le (m : q_W) (r : Nat → Int32) (d : Nat) : m.sg2 r d ≤ 53 := by
  have := q_bz_le r 4
  unfold q_W.sg2
  (repeat' split) <;> omega
