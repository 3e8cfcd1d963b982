/-! SMALL THINGS -/
theorem q_any_s (p : Nat → Bool) (n : Nat) : q_any p (n + 1) = (q_any p n || p n) := by
  unfold q_any; rw [List.range_succ, List.any_append]; simp
theorem q_any_0 (p : Nat → Bool) : q_any p 0 = false := rfl
theorem q_bl_or (a b : Bool) : q_bl a ||| q_bl b = q_bl (a || b) := by cases a <;> cases b <;> decide
theorem q_bl_1 : nI 1 = q_bl true := rfl
theorem q_bl_f : nI 0 = q_bl false := rfl
theorem q_bl_ne {b : Bool} (h : ¬ q_bl b = 0) : b = true := by cases b <;> first | rfl | exact absurd rfl h
theorem q_bl_eq {b : Bool} (h : q_bl b = 0) : b = false := (q_bl0 b).mp h
/-- some of a row in another order -/
theorem q_has_pl {p : Nat → Bool} {ρ : Nat → Nat} {n : Nat} (hb : q_bij ρ n) (hn : n < 2 ^ 31) : q_any (fun u => p (ρ u)) n = true ↔ 0 ≤ q_pl p n := by
  constructor
  · intro h
    refine Int32.not_lt.mp fun e => ?_
    obtain ⟨u, hu, hp⟩ := List.any_eq_true.mp h
    have := (q_pl_neg hn).mp e (ρ u) (hb.1 u (List.mem_range.mp hu))
    rw [this] at hp; cases hp
  · intro h
    refine Classical.byContradiction fun e => ?_
    have e : q_any (fun u => p (ρ u)) n = false := by simpa using e
    refine absurd h (Int32.not_le.mpr ((q_pl_neg hn).mpr fun j hj => ?_))
    obtain ⟨u, hu, rfl⟩ := q_bij_sur n ρ hb j hj
    exact q_any_f.mp e u hu
/-- in a range -/
theorem q_rin {a x b : Nat} (h1 : a ≤ x) (h2 : x ≤ b) (hb : b < 2 ^ 31) : ¬ ¬ (nI a ≤ nI x ∧ nI x ≤ nI b) := fun h => h ⟨(nI_leI (by omega) (by omega)).mpr h1, (nI_leI (by omega) hb).mpr h2⟩
theorem q_rout {a x b : Nat} (h1 : x < a ∨ b < x) (ha : a < 2 ^ 31) (hx : x < 2 ^ 31) (hb : b < 2 ^ 31) : ¬ (nI a ≤ nI x ∧ nI x ≤ nI b) := fun h => by
  have g1 := (nI_leI ha hx).mp h.1
  have g2 := (nI_leI hx hb).mp h.2
  omega
theorem q_rneg {x : Int32} {b : Nat} (h : x < 0) : ¬ (nI 0 ≤ x ∧ x ≤ nI b) := fun g => by
  have g1 := g.1
  simp only [Int32.le_iff_toInt_le, Int32.lt_iff_toInt_lt] at g1 h
  have h0 : (nI 0).toInt = 0 := by decide
  have z0 : (0 : Int32).toInt = 0 := by decide
  omega
/-- a session that stands: where -/
theorem q_pl_at {m : q_W} {x : Int32} (hc : m.c ≤ 40) (h : ¬ q_pl (fun k => decide (m.id k = x)) m.c < 0) : ∃ k, k < m.c ∧ m.id k = x ∧ q_pl (fun k => decide (m.id k = x)) m.c = nI k ∧ m.mat x = k := by
  rcases q_pl_c (fun k => decide (m.id k = x)) m.c with ⟨i, h1, h2, h3, h4⟩ | ⟨h1, h2⟩
  · exact ⟨i, h1, of_decide_eq_true h2, h4, by unfold q_W.mat; rw [h4]; exact nI_clamp (by omega)⟩
  · rw [h2] at h; exact absurd (by decide) h
theorem q_sum_id {m : q_W} (c : ∀ i, m.σ i = i) {d : Nat} (hd : d < 200) : q_sum (fun i => if m.dy i = d then m.ld i else 0) m.c = m.D d := (q_D_id c hd).symm
/-- all bounds increase with x for z's: its neighbours allow it -/
theorem q_bnd_iff {m : q_W} (hi : q_inc m) {z : Nat} (h2 : 2 ≤ z) (h5 : z ≤ 5) (x : Int32) : ¬ ((2 < z ∧ x ≤ m.bd (z - 1)) ∨ (z < 5 ∧ m.bd (z + 1) ≤ x)) ↔ (va_up m.bd z x 2 < va_up m.bd z x 3 ∧ va_up m.bd z x 3 < va_up m.bd z x 4 ∧ va_up m.bd z x 4 < va_up m.bd z x 5) := by
  obtain ⟨i1, i2, i3⟩ := hi
  unfold va_up
  rcases (show z = 2 ∨ z = 3 ∨ z = 4 ∨ z = 5 by omega) with rfl | rfl | rfl | rfl
  · simp only [Int32.lt_iff_toInt_lt, Int32.le_iff_toInt_le, Nat.reduceEqDiff, if_true, if_false, Nat.reduceAdd, Nat.reduceSub] at *; omega
  · simp only [Int32.lt_iff_toInt_lt, Int32.le_iff_toInt_le, Nat.reduceEqDiff, if_true, if_false, Nat.reduceAdd, Nat.reduceSub] at *; omega
  · simp only [Int32.lt_iff_toInt_lt, Int32.le_iff_toInt_le, Nat.reduceEqDiff, if_true, if_false, Nat.reduceAdd, Nat.reduceSub] at *; omega
  · simp only [Int32.lt_iff_toInt_lt, Int32.le_iff_toInt_le, Nat.reduceEqDiff, if_true, if_false, Nat.reduceAdd, Nat.reduceSub] at *; omega
/-- the parts of a copy's making -/
theorem q_cn_flip {f g : Nat → Int32} {n : Nat} : q_cn (fun k => decide (f k ≠ g k)) (n + 1) = (if g n = f n then q_cn (fun k => decide (f k ≠ g k)) n else q_cn (fun k => decide (f k ≠ g k)) n + 1) := by
  show (if decide (f n ≠ g n) = true then _ else _) = _
  by_cases e : g n = f n
  · rw [if_pos e, if_neg (by simp [e])]
  · rw [if_neg e, if_pos (by simp [Ne.symm e])]
theorem q_pl_t {m : q_W} (dd : q_dd m) {i : Nat} {x : Int32} (hi : i < m.n) (hx : m.d i = x) : q_pl (fun i => decide (m.d i = x)) m.n = nI i :=
  q_pl_i hi (by simpa using hx) (fun j hj e => dd j hj i hi ((by simpa using e : m.d j = x).trans hx.symm))
theorem q_fo_e (m : q_W) (i : Nat) : m.fo (i + 1) = (if (m.fo i).1 < m.pc then (if m.tg (m.fo i).1 ≤ nI 2 * m.D (m.pf + i) then ((m.fo i).1 + 1, (m.fo i).2.1, (m.fo i).2.2.1, 0) else if (m.fo i).2.2.2 + 1 = 3 then ((m.fo i).1 + 1, (m.fo i).2.1 + 1, (m.fo i).2.2.1 + 1, 0) else ((m.fo i).1, (m.fo i).2.1 + 1, (m.fo i).2.2.1, (m.fo i).2.2.2 + 1)) else m.fo i) := by
  by_cases h : (m.fo i).1 < m.pc
  · rw [if_pos h]
    by_cases h2 : m.tg (m.fo i).1 ≤ nI 2 * m.D (m.pf + i)
    · rw [if_pos h2]; exact m.fo_c h h2
    · rw [if_neg h2]
      by_cases h3 : (m.fo i).2.2.2 + 1 = 3
      · rw [if_pos h3]; exact m.fo_a h h2 h3
      · rw [if_neg h3]; exact m.fo_b h h2 h3
  · rw [if_neg h]; exact m.fo_stuck h _ (Nat.le_succ i)
theorem q_tgi {d n : Nat} (h : d < n) (hn : n < 2 ^ 30) : ¬ ¬ (nI 0 ≤ nI d ∧ nI d ≤ nI n - nI 1) := fun e => by
  rcases (q_idx hn).mpr e with h1 | h1
  · exact absurd h1 (nI_pos (by omega))
  · rw [nI_leI (by omega) (by omega)] at h1; omega
theorem q_tgo {d n : Nat} (h : n ≤ d) (hn : n < 2 ^ 30) (hd : d < 2 ^ 30) : ¬ (nI 0 ≤ nI d ∧ nI d ≤ nI n - nI 1) := (q_idx hn).mp (Or.inr ((nI_leI (by omega) (by omega)).mpr h))
