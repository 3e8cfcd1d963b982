/-! CLASS AND REFERENCE GIVE THE SAME -/
theorem q_ps_neg {p : Nat → Bool} {n : Nat} (hn : n < 2 ^ 31) : q_ps p n < 0 ↔ ∀ j, j < n → p j = false := by
  constructor
  · intro h
    rcases q_ps_c p n with ⟨i, h1, h2, h3, h4⟩ | ⟨h1, _⟩
    · rw [h4] at h; exact absurd h (nI_pos (by omega))
    · exact h1
  · intro h
    rw [q_ps_n h]; decide
theorem q_pl_neg {p : Nat → Bool} {n : Nat} (hn : n < 2 ^ 31) : q_pl p n < 0 ↔ ∀ j, j < n → p j = false := by
  rcases q_pl_c p n with ⟨i, h1, h2, h3, h4⟩ | ⟨h1, h2⟩
  · constructor
    · intro h; rw [h4] at h; exact absurd h (nI_pos (by omega))
    · intro h; rw [h i h1] at h2; cases h2
  · exact ⟨fun _ => h1, fun _ => by rw [h2]; decide⟩
theorem q_at_p {W : q_W} (hc : W.c ≤ 40) {x : Int32} (hx : ¬ W.no x) : W.at_ x < W.c ∧ W.id (W.σ (W.at_ x)) = x := by
  obtain ⟨i, h1, h2, h3, h4, h5⟩ := q_ps_pos (by omega) hx
  have e : W.at_ x = i := h5
  rw [e]
  exact ⟨h1, of_decide_eq_true h2⟩
theorem q_sum_lt (i c : Nat) : q_sum (fun k => if k < i then nI 1 else 0) c = nI (min i c) := by
  induction c with
  | zero => show (0 : Int32) = _; rw [Nat.min_zero]; rfl
  | succ c ih =>
    show q_sum (fun k => if k < i then nI 1 else 0) c + (if c < i then nI 1 else 0) = _
    rw [ih]
    by_cases e : c < i
    · rw [if_pos e, nI_add, show min i c + 1 = min i (c + 1) by omega]
    · rw [if_neg e, Int32.add_zero, show min i c = min i (c + 1) by omega]
section QSJ
variable {W m : q_W} {N : Nat} {τ : Nat → Nat}
theorem q_no_eq (a : q_si0 W m) (b : q_si1 W m τ) (c : q_si2 m N) (x : Int32) : W.no x ↔ m.mno x := by
  have hc := c.2.1
  have ec := a.2.1
  show q_ps _ _ < 0 ↔ q_pl _ _ < 0
  rw [q_ps_neg (by omega), q_pl_neg (by omega)]
  constructor
  · intro h k hk
    obtain ⟨i, h1, rfl⟩ := q_bij_sur _ τ b.1 k hk
    have := h i (by omega)
    rw [(b.2.1 i h1).1] at this
    exact this
  · intro h i hi
    rw [(b.2.1 i (by omega)).1]
    exact h _ (b.1.1 i (by omega))
theorem q_at_eq (a : q_si0 W m) (b : q_si1 W m τ) (c : q_si2 m N) {x : Int32} (hx : ¬ W.no x) : W.at_ x < m.c ∧ τ (W.at_ x) = m.mat x := by
  have hc := c.2.1
  have ec := a.2.1
  obtain ⟨h1, h2⟩ := q_at_p (by omega) hx
  obtain ⟨h3, h4, _⟩ := q_mat (by omega) fun h => hx ((q_no_eq a b c x).mpr h)
  refine ⟨by omega, c.2.2.2.2.1 _ (b.1.1 _ (by omega)) _ h3 ?_⟩
  rw [← (b.2.1 _ (by omega)).1, h2, h4]
theorem q_ah_eq (b : q_si1 W m τ) (c : q_si2 m N) {i : Nat} (hi : i < m.c) : m.ah (τ i) = i := by
  have hc := c.2.1
  have hle := q_cn_le (fun j => decide (m.dy j < m.dy (τ i) ∨ (m.dy j = m.dy (τ i) ∧ m.id j < m.id (τ i)))) m.c
  have e : nI (m.ah (τ i)) = nI i := by
    unfold q_W.ah
    rw [q_cn_sum, ← q_sum_perm _ m.c τ b.1]
    rw [q_sum_cong (g := fun k => if k < i then nI 1 else 0)]
    · rw [q_sum_lt, Nat.min_eq_left (by omega)]
    · intro k hk
      have e1 := b.2.1 k hk
      have e2 := b.2.1 i hi
      have e3 : (m.dy (τ k) < m.dy (τ i) ∨ (m.dy (τ k) = m.dy (τ i) ∧ m.id (τ k) < m.id (τ i))) ↔ q_bf W (W.σ k) (W.σ i) := by
        unfold q_bf
        rw [e1.1, e1.2.1, e2.1, e2.2.1]
      by_cases hlt : k < i
      · rw [if_pos hlt, if_pos (decide_eq_true (e3.mpr (b.2.2 k i hlt hi)))]
      · rw [if_neg hlt, if_neg]
        intro h
        have h := e3.mp (of_decide_eq_true h)
        by_cases he : k = i
        · subst he; exact q_bf_as h h
        · exact q_bf_as h (b.2.2 i k (by omega) hk)
  exact (nI_eq (by unfold q_W.ah; omega) (by omega)).mp e
theorem q_rk_eq (b : q_si1 W m τ) (c : q_si2 m N) : ∀ r, r < m.c → q_ps (fun k => decide (m.ah k = r)) m.c = nI (τ r) ∧ τ r < m.c := by
  intro r hr
  have h1 := b.1.1 r hr
  refine ⟨q_ps_i h1 (decide_eq_true (q_ah_eq b c hr)) fun j hj => decide_eq_false fun e => ?_, h1⟩
  obtain ⟨i, h2, h3⟩ := q_bij_sur _ τ b.1 j (by omega)
  rw [← h3, q_ah_eq b c h2] at e
  subst e
  omega
/-! the plan -/
theorem q_fo_eq (a : q_si0 W m) (b : q_si1 W m τ) (c : q_si2 m N) : ∀ n, m.pf + n ≤ 200 → W.fo n = m.fo n := by
  intro n
  induction n with
  | zero => intro _; rfl
  | succ n ih =>
    intro hn
    show q_fs3 W (W.fo n) (W.pf + n) = q_fs3 m (m.fo n) (m.pf + n)
    rw [ih (by omega), a.2.2.2.2.2.2.2.2.1]
    unfold q_fs3
    rw [a.2.2.2.2.2.2.2.2.2.1]
    split
    · rw [a.2.2.2.2.2.2.2.2.2.2 _ (by assumption), q_D_eq a b c (by omega)]
    · rfl
theorem q_foe_eq (a : q_si0 W m) (b : q_si1 W m τ) (c : q_si2 m N) (hpf : m.pf ≤ 199) : W.fo (W.t - W.pf) = m.fo (m.t - m.pf) := by
  have := c.2.2.2.2.2.2.1
  rw [a.1, a.2.2.2.2.2.2.2.2.1]
  exact q_fo_eq a b c _ (by omega)
theorem q_due_eq (a : q_si0 W m) (b : q_si1 W m τ) (c : q_si2 m N) (hpf : m.pf ≤ 199) : W.due = m.due ∧ W.mis = m.mis ∧ W.drp = m.drp := by
  unfold q_W.due q_W.mis q_W.drp
  rw [q_foe_eq a b c hpf]
  exact ⟨rfl, rfl, rfl⟩
/-! the trend -/
theorem q_dec_eq (a : q_si0 W m) (b : q_si1 W m τ) (c : q_si2 m N) (x : Int32) : ∀ n, n ≤ 200 → q_dec x W.D n = q_dec x m.D2 n := by
  intro n
  induction n with
  | zero => intro _; rfl
  | succ n ih =>
    intro hn
    unfold q_dec
    rw [ih (by omega), q_D_eq a b c (by omega), show m.D2 n = m.D n from if_pos (by omega)]
theorem q_fm_eq (a : q_si0 W m) (b : q_si1 W m τ) (c : q_si2 m N) {n : Nat} (hn : n ≤ 200) : W.fm n = m.f2 n := by
  unfold q_W.fm q_W.f2
  rw [q_dec_eq a b c _ n hn, q_dec_eq a b c _ n hn]
theorem q_D2_0 (c : q_si2 m N) {k : Nat} (hk : m.t < k) : m.D2 k = nI 0 := by
  unfold q_W.D2
  by_cases e : k ≤ 199
  · rw [if_pos e, m.D_sum (by omega), q_sum_zero]
    · rfl
    · intro i hi
      rw [if_neg]
      rw [c.1]
      have := c.2.2.2.2.2.1 i hi
      omega
  · rw [if_neg e]
theorem q_dz_eq (a : q_si0 W m) (b : q_si1 W m τ) (c : q_si2 m N) (x : Int32) : ∀ n, q_dz x (q_dec x W.D (W.t + 1)) n = q_dec x m.D2 (m.t + 1 + n) := by
  have ht := c.2.2.2.2.2.2.1
  intro n
  induction n with
  | zero =>
    show q_dec x W.D (W.t + 1) = _
    rw [a.1, q_dec_eq a b c _ _ (by omega)]
  | succ n ih =>
    show q_dz x (q_dec x W.D (W.t + 1)) n + (nI 1000 * nI 0 - q_dz x (q_dec x W.D (W.t + 1)) n) / x = q_dec x m.D2 (m.t + 1 + n) + (nI 1000 * m.D2 (m.t + 1 + n) - q_dec x m.D2 (m.t + 1 + n)) / x
    rw [ih, q_D2_0 c (by omega)]
theorem q_G_eq (a : q_si0 W m) (b : q_si1 W m τ) (c : q_si2 m N) (n : Nat) : W.G n = m.f2 (m.t + n) := by
  have ht := c.2.2.2.2.2.2.1
  cases n with
  | zero => show W.fm W.t = m.f2 m.t; rw [a.1]; exact q_fm_eq a b c (by omega)
  | succ n =>
    show q_dz _ _ n - q_dz _ _ n = m.f2 (m.t + (n + 1))
    rw [q_dz_eq a b c, q_dz_eq a b c, show m.t + (n + 1) = m.t + 1 + n by omega]; rfl
theorem q_fd_c (p : Nat → Bool) : ∀ k, k ≤ 201 → (∃ n, 201 - k ≤ n ∧ n ≤ 200 ∧ p n = true ∧ (∀ j, 201 - k ≤ j → j < n → p j = false) ∧ q_fd p k = nI n) ∨ ((∀ j, 201 - k ≤ j → j ≤ 200 → p j = false) ∧ q_fd p k = -1) := by
  intro k
  induction k with
  | zero => intro _; exact Or.inr ⟨fun j h1 h2 => by omega, rfl⟩
  | succ k ih =>
    intro hk
    unfold q_fd
    by_cases e : p (200 - k) = true
    · rw [if_pos e]
      exact Or.inl ⟨200 - k, by omega, by omega, e, fun j h1 h2 => by omega, rfl⟩
    · rw [if_neg e]
      have e2 : p (200 - k) = false := by simpa using e
      rcases ih (by omega) with ⟨n, h1, h2, h3, h4, h5⟩ | ⟨h1, h2⟩
      · exact Or.inl ⟨n, by omega, h2, h3, fun j h6 h7 => if ej : j = 200 - k then (by rw [ej]; exact e2) else h4 j (by omega) h7, h5⟩
      · exact Or.inr ⟨fun j h6 h7 => if ej : j = 200 - k then (by rw [ej]; exact e2) else h1 j (by omega) h7, h2⟩
theorem q_fd_ps (p : Nat → Bool) : q_fd p 201 = q_ps p 201 := by
  rcases q_fd_c p 201 (Nat.le_refl _) with ⟨n, h1, h2, h3, h4, h5⟩ | ⟨h1, h2⟩
  · rw [h5, q_ps_i (by omega) h3 fun j hj => h4 j (by omega) hj]
  · rw [h2, q_ps_n fun j hj => h1 j (by omega) (by omega)]
/-! not negative -/
theorem q_nn {x : Int32} {v : Nat} (e : x = nI v) (hv : v < 2 ^ 31) : 0 ≤ x := by rw [e]; exact nI_pos' hv
theorem q_sum_nn {f : Nat → Int32} {B n : Nat} (h : ∀ k, k < n → ∃ v, v ≤ B ∧ f k = nI v) : ∃ v, v ≤ n * B ∧ q_sum f n = nI v := by
  induction n with
  | zero => exact ⟨0, by omega, rfl⟩
  | succ n ih =>
    obtain ⟨v, h1, h2⟩ := ih fun k hk => h k (by omega)
    obtain ⟨u, h3, h4⟩ := h n (by omega)
    refine ⟨v + u, ?_, ?_⟩
    · rw [Nat.succ_mul]; omega
    · show q_sum f n + f n = _
      rw [h2, h4, nI_add]
theorem q_ld_nn (v : q_val m) {k : Nat} (hk : k < 40) : ∃ x, x ≤ 24000 ∧ m.ld k = nI x := by
  obtain ⟨hok, hit⟩ := v.2.2.2.1 k hk
  have key : ∀ n, n ≤ m.pn k → ∃ x, x ≤ 100 * q_cm (m.mn k) n ∧ q_sum (fun p => m.mn k p * m.wt (m.z k p)) n = nI x := by
    intro n
    induction n with
    | zero => intro _; exact ⟨0, by omega, rfl⟩
    | succ n ih =>
      intro hn
      obtain ⟨x, h1, h2⟩ := ih (by omega)
      obtain ⟨u, hu1, hu2, hu3⟩ := hok.1 n (by omega)
      have hz := q_zn_le m.bd (m.it k n) (m.lt k)
      obtain ⟨w, hw1, hw2⟩ := v.2.2.1 (m.z k n) hz.1 hz.2
      refine ⟨x + u * w, ?_, ?_⟩
      · show x + u * w ≤ 100 * (q_cm (m.mn k) n + (m.mn k n).toNatClampNeg)
        rw [hu3, nI_clamp (by omega)]
        have : u * w ≤ u * 100 := Nat.mul_le_mul_left u hw1
        omega
      · show q_sum (fun p => m.mn k p * m.wt (m.z k p)) n + m.mn k n * m.wt (m.z k n) = _
        rw [h2, hu3, hw2, pk_mul, nI_add]
  obtain ⟨x, h1, h2⟩ := key _ (Nat.le_refl _)
  have h3 : q_cm (m.mn k) (m.pn k) ≤ 240 := hok.2
  exact ⟨x, by omega, h2⟩
theorem q_D_nn (c : q_si2 m N) {k : Nat} (hk : k < 200) : ∃ x, x ≤ 960000 ∧ m.D k = nI x := by
  have hc := c.2.1
  rw [m.D_sum hk]
  obtain ⟨x, h1, h2⟩ := q_sum_nn (f := fun i => if m.dy (m.σ i) = k then m.ld (m.σ i) else 0) (B := 24000) (n := m.c) fun i hi => by
    try dsimp only
    split
    · rw [c.1]; exact q_ld_nn c.2.2.2.2.2.2.2 (by omega)
    · exact ⟨0, by omega, rfl⟩
  refine ⟨x, ?_, h2⟩
  have : m.c * 24000 ≤ 40 * 24000 := Nat.mul_le_mul_right _ hc
  omega
theorem q_row_nn (c : q_si2 m N) {a n : Nat} (hn : n ≤ 60) (ha : a + n ≤ 200) : 0 ≤ q_sum (fun k => m.D (a + k)) n := by
  obtain ⟨x, h1, h2⟩ := q_sum_nn (f := fun k => m.D (a + k)) (B := 960000) (n := n) fun k hk => q_D_nn c (by omega)
  refine q_nn h2 ?_
  have : n * 960000 ≤ 60 * 960000 := Nat.mul_le_mul_right _ hn
  omega
theorem q_mz_br {f : Nat → Int32} : ∀ n, (∀ i, i ≤ n → 0 ≤ f i) → q_mz f (n + 1) = f (q_br f n) := by
  intro n
  induction n with
  | zero =>
    intro h
    show (if nI 0 < f 0 then f 0 else nI 0) = f 0
    have := h 0 (Nat.le_refl _)
    split
    · rfl
    · rename_i hn
      rw [Int32.lt_iff_toInt_lt] at hn
      rw [Int32.le_iff_toInt_le] at this
      apply Int32.toInt_inj.mp
      have h0 : (0 : Int32).toInt = 0 := by decide
      have h1 : (nI 0).toInt = 0 := by decide
      omega
  | succ n ih =>
    intro h
    show (if q_mz f (n + 1) < f (n + 1) then f (n + 1) else q_mz f (n + 1)) = f (if f (q_br f n) < f (n + 1) then n + 1 else q_br f n)
    rw [ih fun i hi => h i (by omega)]
    split <;> rfl
/-! efforts -/
theorem q_im_nn (v : q_val m) {k x : Nat} (hk : k < 40) (hx : x < m.ml k) : ∃ y, y ≤ 500 ∧ m.im k x = nI y := by
  obtain ⟨hok, hit⟩ := v.2.2.2.1 k hk
  have key : ∀ n, n ≤ m.pn k → x < q_cm (m.mn k) n → ∃ y, y ≤ 500 ∧ q_fm (m.mn k) (m.it k) (fun _ => 0) n x = nI y := by
    intro n
    induction n with
    | zero => intro _ h; exact absurd h (Nat.not_lt_zero x)
    | succ n ih =>
      intro hn hx
      show ∃ y, y ≤ 500 ∧ (if q_cm (m.mn k) n ≤ x ∧ x < q_cm (m.mn k) (n + 1) then m.it k n else q_fm (m.mn k) (m.it k) (fun _ => 0) n x) = nI y
      split
      · exact hit n (by omega)
      · exact ih (by omega) (by omega)
  exact key _ (Nat.le_refl _) hx
theorem q_mx_nn {f : Nat → Int32} {n : Nat} (h : ∀ i, i < n → 0 ≤ f i) (h0 : 0 < n) : 0 ≤ q_mx f n := by
  cases n with
  | zero => exact absurd h0 (Nat.lt_irrefl 0)
  | succ n =>
    unfold q_mx
    split
    · exact h n (by omega)
    · rename_i hn
      have := h n (by omega)
      rw [Int32.le_iff_toInt_le] at *
      rw [Int32.lt_iff_toInt_lt] at hn
      omega
theorem q_ef_c (v : q_val m) {k n : Nat} (hk : k < 40) (hn1 : 1 ≤ n) : (m.ef k n = -1 ∧ m.ml k < n) ∨ (0 ≤ m.ef k n ∧ n ≤ m.ml k) := by
  obtain ⟨hok, hit⟩ := v.2.2.2.1 k hk
  have hml : m.ml k ≤ 240 := hok.2
  by_cases e : m.ml k < n
  · refine Or.inl ⟨?_, e⟩
    unfold q_W.ef
    rw [show m.ml k + 1 - n = 0 by omega]; rfl
  · refine Or.inr ⟨?_, by omega⟩
    rw [← q_et_ef]
    refine q_mx_nn (fun i hi => ?_) (by omega)
    obtain ⟨x, h1, h2⟩ := q_sum_nn (f := fun j => m.im k (i + j)) (B := 500) (n := n) fun j hj => q_im_nn v hk (by omega)
    refine q_nn h2 ?_
    have : n * 500 ≤ 240 * 500 := Nat.mul_le_mul_right _ (by omega)
    omega
/-- one or none -/
theorem q_sg_bp {F : Nat → Int32} {f : Nat → Int32} {c : Nat} (hf : ∀ i, i < c → f i = F (τ i)) (hF : ∀ i, i < c → f i = -1 ∨ 0 ≤ f i) : ∀ r, r ≤ c →
    (q_sg F τ r = none ∧ q_mx f r = -1 ∧ ∀ i, i < r → f i = -1) ∨ (q_sg F τ r = some (τ (q_bp f r)) ∧ q_mx f r = f (q_bp f r) ∧ 0 ≤ q_mx f r ∧ q_bp f r < r) := by
  have m1 : (-1 : Int32).toInt = -1 := by decide
  have z0 : (0 : Int32).toInt = 0 := by decide
  intro r
  induction r with
  | zero => intro _; exact Or.inl ⟨rfl, rfl, fun i hi => absurd hi (Nat.not_lt_zero i)⟩
  | succ r ih =>
    intro hr
    have h1 := hF r (by omega)
    rcases ih (by omega) with ⟨i1, i2, i3⟩ | ⟨i1, i2, i3, i4⟩
    · rcases h1 with h1 | h1
      · refine Or.inl ⟨?_, ?_, fun i hi => if e : i = r then (by rw [e]; exact h1) else i3 i (by omega)⟩
        · unfold q_sg; rw [i1]; dsimp only
          rw [if_neg]
          rw [← hf r (by omega), h1]; decide
        · unfold q_mx; rw [i2, h1]; decide
      · refine Or.inr ⟨?_, ?_, ?_, ?_⟩
        · unfold q_sg q_bp; rw [i1, i2]; dsimp only
          rw [← hf r (by omega), if_pos h1, if_pos]
          rw [Int32.lt_iff_toInt_lt]; rw [Int32.le_iff_toInt_le] at h1; omega
        · unfold q_mx q_bp; rw [i2]
          rw [if_pos, if_pos]
          all_goals (rw [Int32.lt_iff_toInt_lt]; rw [Int32.le_iff_toInt_le] at h1; omega)
        · unfold q_mx; rw [i2, if_pos]
          · exact h1
          · rw [Int32.lt_iff_toInt_lt]; rw [Int32.le_iff_toInt_le] at h1; omega
        · unfold q_bp; rw [i2, if_pos]
          · exact Nat.lt_succ_self r
          · rw [Int32.lt_iff_toInt_lt]; rw [Int32.le_iff_toInt_le] at h1; omega
    · have e5 : F (τ (q_bp f r)) = q_mx f r := by rw [← hf _ (by omega), i2]
      refine Or.inr ?_
      unfold q_sg q_mx q_bp
      rw [i1]; dsimp only
      rw [e5, ← hf r (by omega)]
      by_cases hlt : q_mx f r < f r
      · have h2 : 0 ≤ f r := by rw [Int32.le_iff_toInt_le] at *; rw [Int32.lt_iff_toInt_lt] at hlt; omega
        rw [if_pos ⟨h2, hlt⟩, if_pos hlt, if_pos hlt]
        exact ⟨rfl, rfl, h2, Nat.lt_succ_self r⟩
      · rw [if_neg fun h => hlt h.2, if_neg hlt, if_neg hlt]
        exact ⟨rfl, i2, i3, by omega⟩
theorem q_mz_mx {f : Nat → Int32} : ∀ n, (∀ i, i < n → f i = -1 ∨ 0 ≤ f i) → q_mz f n = if 0 ≤ q_mx f n then q_mx f n else nI 0 := by
  have m1 : (-1 : Int32).toInt = -1 := by decide
  have z0 : (0 : Int32).toInt = 0 := by decide
  have z1 : (nI 0).toInt = 0 := by decide
  intro n
  induction n with
  | zero => intro _; rfl
  | succ n ih =>
    intro h
    have h1 := h n (by omega)
    unfold q_mz q_mx
    rw [ih fun i hi => h i (by omega)]
    rcases h1 with h1 | h1
    · rw [h1]
      have hb : ¬ q_mx f n < -1 := by
        have : ∀ k, -1 ≤ (q_mx f k).toInt := by
          intro k
          induction k with
          | zero => show -1 ≤ (-1 : Int32).toInt; omega
          | succ k ih2 =>
            unfold q_mx
            split
            · rename_i hl; rw [Int32.lt_iff_toInt_lt] at hl; omega
            · exact ih2
        have := this n
        rw [Int32.lt_iff_toInt_lt]; omega
      rw [if_neg hb]
      split
      · rename_i h2
        first
          | rfl
          | exact if_neg (by rw [Int32.lt_iff_toInt_lt]; rw [Int32.le_iff_toInt_le] at h2; omega)
      · first
          | rfl
          | exact if_neg (by rw [Int32.lt_iff_toInt_lt]; omega)
    · by_cases h2 : 0 ≤ q_mx f n
      · rw [if_pos h2]
        by_cases h3 : q_mx f n < f n
        · rw [if_pos h3, if_pos h1]
        · rw [if_neg h3, if_pos h2]
      · rw [if_neg h2]
        have h3 : q_mx f n < f n := by rw [Int32.le_iff_toInt_le] at *; rw [Int32.lt_iff_toInt_lt]; omega
        rw [if_pos h3, if_pos h1]
        by_cases h4 : nI 0 < f n
        · rw [if_pos h4]
        · rw [if_neg h4]
          apply Int32.toInt_inj.mp
          rw [Int32.le_iff_toInt_le] at h1; rw [Int32.lt_iff_toInt_lt] at h4; omega
end QSJ
