/-! CLASS AND REFERENCE GIVE THE SAME, MORE -/
theorem q_br_cg {f g : Nat → Int32} : ∀ n, (∀ i, i ≤ n → f i = g i) → q_br f n = q_br g n := by
  intro n
  induction n with
  | zero => intro _; rfl
  | succ n ih =>
    intro h
    unfold q_br
    rw [ih fun i hi => h i (by omega), h (n + 1) (Nat.le_refl _), h (q_br g n) (by have := q_br_le g n; omega)]
theorem q_mz_cong {f g : Nat → Int32} : ∀ n, (∀ i, i < n → f i = g i) → q_mz f n = q_mz g n := by
  intro n
  induction n with
  | zero => intro _; rfl
  | succ n ih =>
    intro h
    unfold q_mz
    rw [ih fun i hi => h i (by omega), h n (by omega)]
theorem q_mx_cong {f g : Nat → Int32} : ∀ n, (∀ i, i < n → f i = g i) → q_mx f n = q_mx g n := by
  intro n
  induction n with
  | zero => intro _; rfl
  | succ n ih =>
    intro h
    unfold q_mx
    rw [ih fun i hi => h i (by omega), h n (by omega)]
theorem q_ps_cong {p r : Nat → Bool} {n : Nat} (h : ∀ i, i < n → p i = r i) : q_ps p n = q_ps r n := by
  rcases q_ps_c r n with ⟨i, h1, h2, h3, h4⟩ | ⟨h1, h2⟩
  · rw [h4]; exact q_ps_i h1 (by rw [h i h1]; exact h2) fun j hj => by rw [h j (by omega)]; exact h3 j hj
  · rw [h2]; exact q_ps_n fun j hj => by rw [h j hj]; exact h1 j hj
theorem q_any_f {p : Nat → Bool} {n : Nat} : q_any p n = false ↔ ∀ j, j < n → p j = false := by
  constructor
  · intro h j hj
    by_cases e : p j = true
    · rw [q_any_i hj e] at h; cases h
    · simpa using e
  · exact q_any_n
theorem q_cn_0 {p : Nat → Bool} {n : Nat} : q_cn p n = 0 ↔ ∀ j, j < n → p j = false := by
  induction n with
  | zero => exact ⟨fun _ j hj => absurd hj (Nat.not_lt_zero j), fun _ => rfl⟩
  | succ n ih =>
    unfold q_cn
    by_cases e : p n = true
    · rw [if_pos e]
      exact ⟨fun h => absurd h (Nat.succ_ne_zero _), fun h => by rw [h n (by omega)] at e; cases e⟩
    · rw [if_neg e, ih]
      exact ⟨fun h j hj => if ej : j = n then (by rw [ej]; simpa using e) else h j (by omega), fun h j hj => h j (by omega)⟩
/-- tests' days differ -/
def q_dd (m : q_W) : Prop := ∀ i, i < m.n → ∀ j, j < m.n → m.d i = m.d j → i = j
theorem q_pl_i {p : Nat → Bool} {n i : Nat} (hi : i < n) (hp : p i = true) (hu : ∀ j, j < n → p j = true → j = i) : q_pl p n = nI i := by
  rcases q_pl_c p n with ⟨k, h1, h2, h3, h4⟩ | ⟨h1, h2⟩
  · rw [h4, hu k h1 h2]
  · rw [h1 i hi] at hp; cases hp
/-- the first is the last, where only one can be -/
theorem q_ps_pl {p : Nat → Bool} {n : Nat} (hu : ∀ i, i < n → ∀ j, j < n → p i = true → p j = true → i = j) : q_ps p n = q_pl p n := by
  rcases q_ps_c p n with ⟨i, h1, h2, h3, h4⟩ | ⟨h1, h2⟩
  · rw [h4, q_pl_i h1 h2 fun j hj hp => hu j hj i h1 hp h2]
  · rcases q_pl_c p n with ⟨k, h5, h6, h7, h8⟩ | ⟨h5, h6⟩
    · rw [h1 k h5] at h6; cases h6
    · rw [h2, h6]
theorem q_sum_ge {f : Nat → Int32} {B n i u : Nat} (h : ∀ k, k < n → ∃ v, v ≤ B ∧ f k = nI v) (hi : i < n) (hu : f i = nI u) (hB : B < 2 ^ 31) (hu2 : u < 2 ^ 31) : ∃ v, u ≤ v ∧ v ≤ n * B ∧ q_sum f n = nI v := by
  induction n with
  | zero => exact absurd hi (Nat.not_lt_zero i)
  | succ n ih =>
    obtain ⟨w, h3, h4⟩ := h n (by omega)
    by_cases e : i = n
    · subst e
      obtain ⟨v, h1, h2⟩ := q_sum_nn (f := f) (B := B) (n := i) fun k hk => h k (by omega)
      have hw : w = u := (nI_eq (by omega) hu2).mp (by rw [← h4, hu])
      refine ⟨v + w, by omega, by rw [Nat.succ_mul]; omega, ?_⟩
      show q_sum f i + f i = _
      rw [h2, h4, nI_add]
    · obtain ⟨v, h0, h1, h2⟩ := ih (fun k hk => h k (by omega)) (by omega)
      refine ⟨v + w, by omega, by rw [Nat.succ_mul]; omega, ?_⟩
      show q_sum f n + f n = _
      rw [h2, h4, nI_add]
section QSK
variable {W m : q_W} {N : Nat} {τ : Nat → Nat}
/-! efforts -/
theorem q_eff (a : q_si0 W m) (b : q_si1 W m τ) (c : q_si2 m N) {n : Nat} (hn1 : 1 ≤ n) (hn : n ≤ 240) :
    (q_any (fun i => decide (nI n ≤ W.len (W.σ i))) W.c = false ∧ q_on (q_sg (fun k => m.ef k n) τ m.c) < 0) ∨
    (¬ q_any (fun i => decide (nI n ≤ W.len (W.σ i))) W.c = false ∧ ¬ q_on (q_sg (fun k => m.ef k n) τ m.c) < 0 ∧ W.bp n < m.c ∧ (q_sg (fun k => m.ef k n) τ m.c).getD 0 = τ (W.bp n) ∧ q_mz (fun i => W.et (W.σ i) n) W.c = m.ef (τ (W.bp n)) n) := by
  have hc := c.2.1
  have v := c.2.2.2.2.2.2.2
  have ec := a.2.1
  have hf : ∀ i, i < m.c → W.ef (W.σ i) n = m.ef (τ i) n := fun i hi => q_ef_eq (b.2.1 i hi) n
  have hF : ∀ i, i < m.c → W.ef (W.σ i) n = -1 ∨ 0 ≤ W.ef (W.σ i) n := fun i hi => by
    rw [hf i hi]
    rcases q_ef_c v (k := τ i) (by have := b.1.1 i hi; omega) hn1 with h | h
    · exact Or.inl h.1
    · exact Or.inr h.1
  have hlen : ∀ i, i < m.c → (nI n ≤ W.len (W.σ i) ↔ n ≤ m.ml (τ i)) := fun i hi => by
    have hk := b.1.1 i hi
    have hok := (v.2.2.2.1 (τ i) (by omega)).1
    have hml : m.ml (τ i) ≤ 240 := hok.2
    rw [q_len_eq (b.2.1 i hi), q_W.len_ml hok, nI_leI (by omega) (by omega)]
  rcases q_sg_bp (τ := τ) (F := fun k => m.ef k n) (f := fun i => W.ef (W.σ i) n) (c := m.c) hf hF m.c (Nat.le_refl _) with ⟨h1, h2, h3⟩ | ⟨h1, h2, h3, h4⟩
  · refine Or.inl ⟨?_, by rw [h1]; decide⟩
    rw [ec]
    refine q_any_n fun i hi => decide_eq_false ?_
    rw [hlen i hi]
    intro hle
    rcases q_ef_c v (k := τ i) (by have := b.1.1 i hi; omega) hn1 with h | h
    · exact absurd hle (by omega)
    · have := h3 i hi
      have h5 : W.ef (W.σ i) n = -1 := this
      rw [hf i hi] at h5
      rw [h5] at h
      exact absurd h.1 (by decide)
  · have ebp : q_bp (fun i => W.ef (W.σ i) n) m.c = W.bp n := by unfold q_W.bp; rw [ec]
    rw [ebp] at h1 h2 h4
    refine Or.inr ⟨?_, ?_, h4, by rw [h1]; rfl, ?_⟩
    · intro h
      rw [ec] at h
      have := of_decide_eq_false (q_any_f.mp h _ h4)
      rw [hlen _ h4] at this
      rcases q_ef_c v (k := τ (W.bp n)) (by have := b.1.1 _ h4; omega) hn1 with h5 | h5
      · have h6 : q_mx (fun i => W.ef (W.σ i) n) m.c = W.ef (W.σ (W.bp n)) n := h2
        rw [h6, hf _ h4, h5.1] at h3
        exact absurd h3 (by decide)
      · exact this h5.2
    · rw [h1]
      have := b.1.1 _ h4
      exact nI_pos (by omega)
    · rw [q_mz_cong (g := fun i => W.ef (W.σ i) n) _ fun i _ => q_et_ef W _ _, ec, q_mz_mx _ hF, if_pos h3, h2]
      exact hf _ h4
/-! rows of days -/
theorem q_rows (a : q_si0 W m) (b : q_si1 W m τ) (c : q_si2 m N) {n i : Nat} (hi : i + n ≤ 200) : q_sum (fun k => W.D (i + k)) n = q_sum (fun k => m.D (i + k)) n := q_sum_cong fun k hk => q_D_eq a b c (by omega)
theorem q_bds (a : q_si0 W m) (b : q_si1 W m τ) (c : q_si2 m N) {n : Nat} (hn : n ≤ m.t + 1) : q_br (fun a => q_sum (fun k => W.D (a + k)) n) (W.t + 1 - n) = q_br (fun a => q_sum (fun k => m.D (a + k)) n) (m.t + 1 - n) := by
  have ht := c.2.2.2.2.2.2.1
  rw [a.1]
  exact q_br_cg _ fun i hi => q_rows a b c (by omega)
theorem q_bdt (a : q_si0 W m) (b : q_si1 W m τ) (c : q_si2 m N) {n : Nat} (hn1 : 1 ≤ n) (hn6 : n ≤ 60) (hn : n ≤ m.t + 1) : q_mz (fun a => q_sum (fun k => W.D (a + k)) n) (W.t + 2 - n) = q_sum (fun k => m.D (q_br (fun a => q_sum (fun k => m.D (a + k)) n) (m.t + 1 - n) + k)) n := by
  have ht := c.2.2.2.2.2.2.1
  rw [a.1, q_mz_cong (g := fun a => q_sum (fun k => m.D (a + k)) n) _ fun i hi => q_rows a b c (by omega), show m.t + 2 - n = (m.t + 1 - n) + 1 by omega, q_mz_br _ fun i hi => q_row_nn c hn6 (by omega)]
theorem q_all0 (a : q_si0 W m) (b : q_si1 W m τ) (c : q_si2 m N) : q_sum (fun k => W.D (0 + k)) (W.t + 1) = q_sum m.D (m.t + 1) := by
  have ht := c.2.2.2.2.2.2.1
  rw [a.1]
  exact q_sum_cong fun k hk => by rw [Nat.zero_add]; exact q_D_eq a b c (by omega)
theorem q_bfd (a : q_si0 W m) (b : q_si1 W m τ) (c : q_si2 m N) : q_br W.fm W.t = q_br m.f2 m.t := by
  have ht := c.2.2.2.2.2.2.1
  rw [a.1]
  exact q_br_cg _ fun i hi => q_fm_eq a b c (by omega)
theorem q_dtf (a : q_si0 W m) (b : q_si1 W m τ) (c : q_si2 m N) (x : Int32) : q_ps (fun n => decide (x ≤ W.G n)) 201 = q_fd (fun n => decide (x ≤ m.f2 (m.t + n))) 201 := by
  rw [q_fd_ps]
  exact q_ps_cong fun i _ => by rw [q_G_eq a b c]
/-! a sign -/
theorem q_zc_ge (v : q_val m) {k : Nat} (hk : k < 40) (z : Nat) : ∃ x, x ≤ 960 ∧ m.zc k z = nI x := by
  have hp : m.pn k ≤ 240 := by
    obtain ⟨hok, _⟩ := v.2.2.2.1 k hk
    have key : ∀ n, n ≤ m.pn k → n ≤ q_cm (m.mn k) n := by
      intro n
      induction n with
      | zero => intro _; exact Nat.zero_le _
      | succ n ih =>
        intro hn
        obtain ⟨u, h1, h2, h3⟩ := hok.1 n (by omega)
        have := ih (by omega)
        show n + 1 ≤ q_cm (m.mn k) n + (m.mn k n).toNatClampNeg
        rw [h3, nI_clamp (by omega)]; omega
    have := key _ (Nat.le_refl _)
    have h2 : q_cm (m.mn k) (m.pn k) ≤ 240 := hok.2
    omega
  obtain ⟨hok, _⟩ := v.2.2.2.1 k hk
  have key : ∀ n, n ≤ m.pn k → ∃ x, x ≤ q_cm (m.mn k) n ∧ q_sum (fun p => if m.z k p = z then m.mn k p else 0) n = nI x := by
    intro n
    induction n with
    | zero => intro _; exact ⟨0, Nat.zero_le _, rfl⟩
    | succ n ih =>
      intro hn
      obtain ⟨x, h1, h2⟩ := ih (by omega)
      obtain ⟨u, h3, h4, h5⟩ := hok.1 n (by omega)
      have e : (m.mn k n).toNatClampNeg = u := by rw [h5, nI_clamp (by omega)]
      show ∃ x, x ≤ q_cm (m.mn k) n + (m.mn k n).toNatClampNeg ∧ q_sum (fun p => if m.z k p = z then m.mn k p else 0) n + (if m.z k n = z then m.mn k n else 0) = nI x
      rw [e, h2]
      split
      · exact ⟨x + u, by omega, by rw [h5, nI_add]⟩
      · exact ⟨x, by omega, Int32.add_zero _⟩
  obtain ⟨x, h1, h2⟩ := key _ (Nat.le_refl _)
  have h3 : q_cm (m.mn k) (m.pn k) ≤ 240 := hok.2
  exact ⟨x, by omega, h2⟩
theorem q_zr_sum (c : q_si2 m N) (d k : Nat) : m.zr d k = q_sum (fun i => if m.dy i = d then m.zc i k else 0) m.c := by
  unfold q_W.zr
  rw [m.zd_sum]
  show nI 0 + _ = _
  rw [show nI 0 = (0 : Int32) from rfl, Int32.zero_add]
  exact q_sum_cong fun i _ => by rw [c.1]
theorem q_zr_ge (c : q_si2 m N) (d k : Nat) : ∃ x, x ≤ 38400 ∧ m.zr d k = nI x := by
  have hc := c.2.1
  rw [q_zr_sum c]
  obtain ⟨x, h1, h2⟩ := q_sum_nn (f := fun i => if m.dy i = d then m.zc i k else 0) (B := 960) (n := m.c) fun i hi => by
    try dsimp only
    split
    · exact q_zc_ge c.2.2.2.2.2.2.2 (by omega) k
    · exact ⟨0, by omega, rfl⟩
  have : m.c * 960 ≤ 40 * 960 := Nat.mul_le_mul_right _ hc
  exact ⟨x, by omega, h2⟩
theorem q_zr_0 (c : q_si2 m N) (d : Nat) : m.zr d 0 = 0 := by
  rw [q_zr_sum c]
  refine q_sum_zero fun i _ => ?_
  have : m.zc i 0 = 0 := q_sum_zero fun p _ => if_neg (by have := q_zn_le m.bd (m.it i p) (m.lt i); show ¬ q_zn _ _ _ = 0; omega)
  split
  · exact this
  · rfl
/-- no part: nothing anywhere; a part: something somewhere -/
theorem q_pa_0 (c : q_si2 m N) (d : Nat) : (m.pa d m.c = 0 ∧ ∀ z, m.zr d z = 0) ∨ (m.pa d m.c ≠ 0 ∧ ∃ z, 1 ≤ z ∧ z ≤ 5 ∧ m.zr d z ≠ 0) := by
  have hc := c.2.1
  have key : ∀ n, m.pa d n = 0 ↔ ∀ i, i < n → m.dy i = d → m.pn i = 0 := by
    intro n
    induction n with
    | zero => exact ⟨fun _ i hi => absurd hi (Nat.not_lt_zero i), fun _ => rfl⟩
    | succ n ih =>
      unfold q_W.pa
      split
      · rename_i e
        constructor
        · intro h i hi hd
          by_cases ei : i = n
          · subst ei; omega
          · exact ih.mp (by omega) i (by omega) hd
        · intro h
          have h1 := h n (by omega) e
          have h2 := ih.mpr fun i hi => h i (by omega)
          omega
      · rename_i e
        rw [ih]
        constructor
        · intro h i hi hd
          by_cases ei : i = n
          · subst ei; exact absurd hd e
          · exact h i (by omega) hd
        · exact fun h i hi => h i (by omega)
  by_cases e : m.pa d m.c = 0
  · refine Or.inl ⟨e, fun z => ?_⟩
    rw [q_zr_sum c]
    refine q_sum_zero fun i hi => ?_
    split
    · rename_i hd
      have := (key m.c).mp e i hi hd
      unfold q_W.zc; rw [this]; rfl
    · rfl
  · refine Or.inr ⟨e, ?_⟩
    have : ∃ i, i < m.c ∧ m.dy i = d ∧ m.pn i ≠ 0 := Classical.byContradiction fun h => e ((key m.c).mpr fun i hi hd => Classical.byContradiction fun h2 => h ⟨i, hi, hd, h2⟩)
    obtain ⟨i, hi, hd, hp⟩ := this
    have hz := q_zn_le m.bd (m.it i 0) (m.lt i)
    refine ⟨m.z i 0, hz.1, hz.2, ?_⟩
    obtain ⟨hok, _⟩ := c.2.2.2.2.2.2.2.2.2.2.1 i (by omega)
    obtain ⟨u, hu1, hu2, hu3⟩ := hok.1 0 (by omega)
    have h8 : m.pn i ≤ 240 := by
      have k2 : ∀ n, n ≤ m.pn i → n ≤ q_cm (m.mn i) n := by
        intro n
        induction n with
        | zero => intro _; exact Nat.zero_le _
        | succ n ih =>
          intro hn
          obtain ⟨u, h1, h2, h3⟩ := hok.1 n (by omega)
          have := ih (by omega)
          show n + 1 ≤ q_cm (m.mn i) n + (m.mn i n).toNatClampNeg
          rw [h3, nI_clamp (by omega)]; omega
      have := k2 _ (Nat.le_refl _)
      have h2 : q_cm (m.mn i) (m.pn i) ≤ 240 := hok.2
      omega
    obtain ⟨x, hx1, hx2, hx3⟩ := q_sum_ge (f := fun p => if m.z i p = m.z i 0 then m.mn i p else 0) (B := 120) (n := m.pn i) (i := 0) (u := u) (fun p hp2 => by
      try dsimp only
      split
      · obtain ⟨w, h1, h2, h3⟩ := hok.1 p hp2
        exact ⟨w, h2, h3⟩
      · exact ⟨0, by omega, rfl⟩) (by omega) ((if_pos rfl).trans hu3) (by decide) (by omega)
    have hx4 : m.pn i * 120 ≤ 240 * 120 := Nat.mul_le_mul_right _ h8
    obtain ⟨y, hy1, hy2, hy3⟩ := q_sum_ge (f := fun j => if m.dy j = d then m.zc j (m.z i 0) else 0) (B := 960) (n := m.c) (i := i) (u := x) (fun j hj => by
      try dsimp only
      split
      · exact q_zc_ge c.2.2.2.2.2.2.2 (by omega) _
      · exact ⟨0, by omega, rfl⟩) hi ((if_pos hd).trans hx3) (by decide) (by omega)
    have hy4 : m.c * 960 ≤ 40 * 960 := Nat.mul_le_mul_right _ hc
    rw [q_zr_sum c, hy3]
    intro h0
    have := (nI_eq (a := y) (b := 0) (by omega) (by decide)).mp h0
    omega
theorem q_brz {r : Nat → Int32} (h0 : r 0 = 0) (hn : ∀ k, ∃ x, x < 2 ^ 31 ∧ r k = nI x) : ∀ n, ((∀ z, z ≤ n + 1 → r z = 0) ∧ q_br r (n + 1) = 0 ∧ r (q_bz r n) = 0) ∨ (q_br r (n + 1) = q_bz r n ∧ 0 < r (q_bz r n)) := by
  have pos : ∀ k, ¬ 0 < r k → r k = 0 := fun k h => by
    obtain ⟨x, h1, h2⟩ := hn k
    rw [h2] at h ⊢
    have : ¬ nI 0 < nI x := h
    rw [nI_ltI (by decide) h1] at this
    rw [show x = 0 by omega]; rfl
  intro n
  induction n with
  | zero =>
    show ((∀ z, z ≤ 1 → r z = 0) ∧ (if r 0 < r 1 then 1 else 0) = 0 ∧ r 1 = 0) ∨ ((if r 0 < r 1 then 1 else 0) = 1 ∧ 0 < r 1)
    rw [h0]
    by_cases h : 0 < r 1
    · rw [if_pos h]; exact Or.inr ⟨rfl, h⟩
    · rw [if_neg h]
      refine Or.inl ⟨fun z hz => ?_, rfl, pos _ h⟩
      rcases (show z = 0 ∨ z = 1 by omega) with rfl | rfl
      · exact h0
      · exact pos _ h
  | succ n ih =>
    show ((∀ z, z ≤ n + 2 → r z = 0) ∧ (if r (q_br r (n + 1)) < r (n + 2) then n + 2 else q_br r (n + 1)) = 0 ∧ r (if r (q_bz r n) < r (n + 2) then n + 2 else q_bz r n) = 0) ∨ ((if r (q_br r (n + 1)) < r (n + 2) then n + 2 else q_br r (n + 1)) = (if r (q_bz r n) < r (n + 2) then n + 2 else q_bz r n) ∧ 0 < r (if r (q_bz r n) < r (n + 2) then n + 2 else q_bz r n))
    rcases ih with ⟨i1, i2, i3⟩ | ⟨i1, i2⟩
    · rw [i2, i3, h0]
      by_cases h : 0 < r (n + 2)
      · rw [if_pos h, if_pos h]; exact Or.inr ⟨rfl, h⟩
      · rw [if_neg h, if_neg h]
        refine Or.inl ⟨fun z hz => ?_, rfl, i3⟩
        by_cases e : z = n + 2
        · rw [e]; exact pos _ h
        · exact i1 z (by omega)
    · rw [i1]
      refine Or.inr ⟨rfl, ?_⟩
      split
      · rename_i h
        have m0 : (0 : Int32).toInt = 0 := rfl
        rw [Int32.lt_iff_toInt_lt] at *
        omega
      · exact i2
theorem q_sgn_eq (a : q_si0 W m) (b : q_si1 W m τ) (c : q_si2 m N) (d : Nat) : W.sgn d = m.sg2 (m.zr d) d := by
  unfold q_W.sgn q_W.sg2
  rw [a.1]
  split
  · rfl
  have e1 : (q_any (fun i => decide (W.dy (W.σ i) = d)) W.c = false) ↔ q_cn (fun k => decide (m.dy k = d)) m.c = 0 := by
    rw [q_any_f, q_cn_0, a.2.1]
    constructor
    · intro h k hk
      obtain ⟨i, h1, rfl⟩ := q_bij_sur _ τ b.1 k hk
      have := h i h1
      rw [(b.2.1 i h1).2.1] at this
      exact this
    · intro h i hi
      rw [(b.2.1 i hi).2.1]
      exact h _ (b.1.1 i hi)
  by_cases h : q_any (fun i => decide (W.dy (W.σ i) = d)) W.c = false
  · rw [if_pos h, if_pos (e1.mp h)]
  · rw [if_neg h, if_neg fun h2 => h (e1.mpr h2)]
    rw [show W.zr d = m.zr d from funext fun k => q_zr_eq a b c d k]
    have hn : ∀ k, ∃ x, x < 2 ^ 31 ∧ m.zr d k = nI x := fun k => by
      obtain ⟨x, h1, h2⟩ := q_zr_ge c d k
      exact ⟨x, by omega, h2⟩
    rcases q_pa_0 c d with ⟨h1, h2⟩ | ⟨h1, z, h2, h3, h4⟩
    · rw [if_pos h1]
      rcases q_brz (q_zr_0 c d) hn 4 with ⟨_, h5, _⟩ | ⟨_, h6⟩
      · rw [h5]
      · rw [h2] at h6; exact absurd h6 (by decide)
    · rw [if_neg h1]
      rcases q_brz (q_zr_0 c d) hn 4 with ⟨h5, _, _⟩ | ⟨h5, _⟩
      · exact absurd (h5 z (by omega)) h4
      · rw [h5]
/-! a count -/
theorem q_cnt (b : q_si1 W m τ) (ec : W.c = m.c) {p : Nat → Bool} {r : Nat → Bool} (h : ∀ i, i < m.c → p i = r (τ i)) : nI (q_cn p W.c) = nI (q_cn r m.c) := by
  rw [q_cn_sum, q_cn_sum, ec, ← q_sum_perm (fun i => if r i then nI 1 else 0) m.c τ b.1]
  exact q_sum_cong fun i hi => by rw [h i hi]
/-! the tests: the first is the last -/
theorem q_tst (a : q_si0 W m) (dd : q_dd m) (x : Int32) : q_ps (fun i => decide (W.d i = x)) W.n = q_pl (fun i => decide (m.d i = x)) m.n := by
  rw [a.2.2.2.1, q_ps_cong (r := fun i => decide (m.d i = x)) fun i hi => by rw [(a.2.2.2.2.1 i hi).1]]
  exact q_ps_pl fun i hi j hj h1 h2 => dd i hi j hj ((of_decide_eq_true h1).trans (of_decide_eq_true h2).symm)
end QSK
