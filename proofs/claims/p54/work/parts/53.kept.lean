/-! CHANGES KEEP THEM THE SAME -/
theorem q_bf_tr {W : q_W} {a b c : Nat} (h : q_bf W a b) (h2 : q_bf W b c) : q_bf W a c := by
  unfold q_bf at *
  rcases h with h | ⟨h, h3⟩ <;> rcases h2 with h2 | ⟨h2, h4⟩
  · exact Or.inl (by omega)
  · exact Or.inl (by omega)
  · exact Or.inl (by omega)
  · exact Or.inr ⟨by omega, Int32.lt_iff_toInt_lt.mpr (Int.lt_trans (Int32.lt_iff_toInt_lt.mp h3) (Int32.lt_iff_toInt_lt.mp h4))⟩
theorem q_bf_to {W : q_W} {a b : Nat} (h : W.id a ≠ W.id b) : q_bf W a b ∨ q_bf W b a := by
  unfold q_bf
  by_cases h1 : W.dy a < W.dy b
  · exact Or.inl (Or.inl h1)
  · by_cases h2 : W.dy b < W.dy a
    · exact Or.inr (Or.inl h2)
    · have e : W.dy a = W.dy b := by omega
      by_cases h3 : W.id a < W.id b
      · exact Or.inl (Or.inr ⟨e, h3⟩)
      · refine Or.inr (Or.inr ⟨e.symm, ?_⟩)
        rw [Int32.lt_iff_toInt_lt] at *
        have : (W.id a).toInt ≠ (W.id b).toInt := fun e => h (Int32.toInt_inj.mp e)
        omega
/-- place k, where p is taken to r -/
def q_ro (p r k : Nat) : Nat := if k = r then p else if r < k ∧ k ≤ p then k - 1 else if p ≤ k ∧ k < r then k + 1 else k
theorem q_ro_mv (f : Nat → Nat) (p r k : Nat) : q_mv f p r k = f (q_ro p r k) := by
  unfold q_mv q_ro
  split
  · rfl
  split
  · rfl
  split <;> rfl
theorem q_ro_c (p r k : Nat) : (k = r ∧ q_ro p r k = p) ∨ (k ≠ r ∧ r < k ∧ k ≤ p ∧ q_ro p r k = k - 1) ∨ (k ≠ r ∧ p ≤ k ∧ k < r ∧ q_ro p r k = k + 1) ∨ (k ≠ r ∧ ¬ (r < k ∧ k ≤ p) ∧ ¬ (p ≤ k ∧ k < r) ∧ q_ro p r k = k) := by
  unfold q_ro
  by_cases h1 : k = r
  · exact Or.inl ⟨h1, if_pos h1⟩
  · rw [if_neg h1]
    by_cases h2 : r < k ∧ k ≤ p
    · exact Or.inr (Or.inl ⟨h1, h2.1, h2.2, if_pos h2⟩)
    · rw [if_neg h2]
      by_cases h3 : p ≤ k ∧ k < r
      · exact Or.inr (Or.inr (Or.inl ⟨h1, h3.1, h3.2, if_pos h3⟩))
      · exact Or.inr (Or.inr (Or.inr ⟨h1, h2, h3, if_neg h3⟩))
theorem q_ro_bij {p r c : Nat} (hp : p < c) (hr : r < c) : q_bij (q_ro p r) c :=
  ⟨fun i hi => by have := q_ro_c p r i; omega, fun i hi j hj e => by have := q_ro_c p r i; have := q_ro_c p r j; omega⟩
theorem q_bij.comp {f g : Nat → Nat} {c : Nat} (a : q_bij f c) (b : q_bij g c) : q_bij (fun i => f (g i)) c :=
  ⟨fun i hi => a.1 _ (b.1 i hi), fun i hi j hj e => b.2 i hi j hj (a.2 _ (b.1 i hi) _ (b.1 j hj) e)⟩
theorem q_srt {X : q_W} {p r : Nat} (hp : p < X.c) (sd : q_sd X p r) (tot : ∀ i, i < X.c → ∀ j, j < X.c → i ≠ j → q_bf X (X.σ i) (X.σ j) ∨ q_bf X (X.σ j) (X.σ i)) (so : ∀ i j, i < j → j < X.c → i ≠ p → j ≠ p → q_bf X (X.σ i) (X.σ j)) : ∀ i j, i < j → j < X.c → q_bf X (X.σ (q_ro p r i)) (X.σ (q_ro p r j)) := by
  intro i j hij hj
  have ci := q_ro_c p r i
  have cj := q_ro_c p r j
  obtain ⟨s1, s2, s3, s4, s5⟩ := sd
  by_cases ei : i = r
  · have e1 : q_ro p r i = p := by omega
    rw [e1]
    by_cases h1 : r < p
    · by_cases h2 : j ≤ p
      · have e2 : q_ro p r j = j - 1 := by omega
        rw [e2]; exact s2 (j - 1) (by omega) (by omega)
      · have e2 : q_ro p r j = j := by omega
        rw [e2]
        exact q_bf_tr (s2 r (Nat.le_refl _) h1) (so r j (by omega) hj (by omega) (by omega))
    · have e2 : q_ro p r j = j := by omega
      rw [e2]
      have h3 : q_bf X (X.σ p) (X.σ (r + 1)) := by
        rcases s5 (by omega) with h | h
        · omega
        · exact (tot p hp (r + 1) (by omega) (by omega)).elim id fun h9 => absurd h9 h
      by_cases e3 : j = r + 1
      · rw [e3]; exact h3
      · exact q_bf_tr h3 (so (r + 1) j (by omega) hj (by omega) (by omega))
  · by_cases ej : j = r
    · have e1 : q_ro p r j = p := by omega
      rw [e1]
      by_cases h1 : p < r
      · by_cases h2 : i < p
        · have e2 : q_ro p r i = i := by omega
          rw [e2]
          exact q_bf_tr (so i r (by omega) (by omega) (by omega) (by omega)) (s3 r h1 (Nat.le_refl _))
        · have e2 : q_ro p r i = i + 1 := by omega
          rw [e2]; exact s3 (i + 1) (by omega) (by omega)
      · have e2 : q_ro p r i = i := by omega
        rw [e2]
        have h3 : q_bf X (X.σ (r - 1)) (X.σ p) := by
          rcases s4 (by omega) with h | h
          · omega
          · exact (tot p hp (r - 1) (by omega) (by omega)).elim (fun h9 => absurd h9 h) id
        by_cases e3 : i = r - 1
        · rw [e3]; exact h3
        · exact q_bf_tr (so i (r - 1) (by omega) (by omega) (by omega) (by omega)) h3
    · exact so _ _ (by omega) (by omega) (by omega) (by omega)
theorem q_si1_mv {X m' : q_W} {τ : Nat → Nat} {p r : Nat} (hp : p < X.c) (ec : X.c = m'.c) (bj : q_bij τ m'.c) (ss : ∀ i, i < m'.c → q_ss1 X (X.σ i) m' (τ i)) (sd : q_sd X p r) (so : ∀ i j, i < j → j < X.c → i ≠ p → j ≠ p → q_bf X (X.σ i) (X.σ j)) (ids : ∀ k, k < m'.c → ∀ l, l < m'.c → m'.id k = m'.id l → k = l) : q_si1 (X.sσ (q_mv X.σ p r)) m' (fun i => τ (q_ro p r i)) := by
  have hr : r < m'.c := by rw [← ec]; exact sd.1
  have rb : q_bij (q_ro p r) m'.c := q_ro_bij (by omega) hr
  refine ⟨bj.comp rb, fun i hi => ?_, fun i j hij hj => ?_⟩
  · have := ss _ (rb.1 i hi)
    show q_ss1 X (q_mv X.σ p r i) m' _
    rw [q_ro_mv]; exact this
  · show q_bf X (q_mv X.σ p r i) (q_mv X.σ p r j)
    rw [q_ro_mv, q_ro_mv]
    refine q_srt hp sd (fun i hi j hj hne => q_bf_to fun e => ?_) so i j hij (by rw [ec]; exact hj)
    rw [ec] at hi hj
    rw [(ss i hi).1, (ss j hj).1] at e
    exact hne (bj.2 i hi j hj (ids _ (bj.1 i hi) _ (bj.1 j hj) e))
/-! what is valid stays so -/
section QVL
variable {m : q_W}
theorem q_val.pass (v : q_val m) (t : Nat) : q_val (m.sA t) := v
theorem q_val.remT (v : q_val m) {i : Nat} (hi : i < m.n) : q_val (m.sT (m.n - 1) (va_up m.d i (m.d (m.n - 1))) (va_up m.v i (m.v (m.n - 1)))) := by
  obtain ⟨v1, v2, v3, v4, v5, v6, v7⟩ := v
  refine ⟨fun j hj => ?_, v2, v3, v4, fun j hj => ?_, v6, v7⟩
  · have hj : j < m.n - 1 := hj
    show ∃ k : Nat, 50 ≤ k ∧ k ≤ 400 ∧ va_up m.v i (m.v (m.n - 1)) j = nI k
    by_cases e : j = i
    · rw [e, va_us]; exact v1 _ (by omega)
    · rw [va_un _ _ e]; exact v1 _ (by omega)
  · have hj : j < m.n - 1 := hj
    show ∃ k : Nat, k ≤ 199 ∧ va_up m.d i (m.d (m.n - 1)) j = nI k
    by_cases e : j = i
    · rw [e, va_us]; exact v5 _ (by omega)
    · rw [va_un _ _ e]; exact v5 _ (by omega)
theorem q_val.bnd (v : q_val m) {z x : Nat} (h1 : 1 ≤ x) (h2 : x ≤ 300) : q_val (m.sZ (va_up m.bd z (nI x)) m.wt) := by
  obtain ⟨v1, v2, v3, v4, v5, v6, v7⟩ := v
  refine ⟨v1, fun y hy hy2 => ?_, v3, v4, v5, v6, v7⟩
  show ∃ b : Nat, 1 ≤ b ∧ b ≤ 300 ∧ va_up m.bd z (nI x) y = nI b
  by_cases e : y = z
  · rw [e, va_us]; exact ⟨x, h1, h2, rfl⟩
  · rw [va_un _ _ e]; exact v2 y hy hy2
theorem q_val.wgt (v : q_val m) {z x : Nat} (h2 : x ≤ 100) : q_val (m.sZ m.bd (va_up m.wt z (nI x))) := by
  obtain ⟨v1, v2, v3, v4, v5, v6, v7⟩ := v
  refine ⟨v1, v2, fun y hy hy2 => ?_, v4, v5, v6, v7⟩
  show ∃ b : Nat, b ≤ 100 ∧ va_up m.wt z (nI x) y = nI b
  by_cases e : y = z
  · rw [e, va_us]; exact ⟨x, h2, rfl⟩
  · rw [va_un _ _ e]; exact v3 y hy hy2
theorem q_val.plan (v : q_val m) (t : Nat) (g : Nat → Int32) : q_val (m.sP 1 t 0 g) := by
  obtain ⟨v1, v2, v3, v4, v5, v6, v7⟩ := v
  exact ⟨v1, v2, v3, v4, v5, fun e he => absurd he (Nat.not_lt_zero e), fun _ => rfl⟩
theorem q_val.targ (v : q_val m) {x : Nat} (hx : x ≤ 20000) (hpe : m.pe ≠ 0) : q_val (m.sP m.pe m.pf (m.pc + 1) (va_up m.tg m.pc (nI x))) := by
  obtain ⟨v1, v2, v3, v4, v5, v6, v7⟩ := v
  refine ⟨v1, v2, v3, v4, v5, fun e he => ?_, fun e => absurd e hpe⟩
  have he : e < m.pc + 1 := he
  show ∃ b : Nat, b ≤ 20000 ∧ va_up m.tg m.pc (nI x) e = nI b
  by_cases e2 : e = m.pc
  · rw [e2, va_us]; exact ⟨x, hx, rfl⟩
  · rw [va_un _ _ e2]; exact v6 e (by omega)
theorem q_val.adS (v : q_val m) (d : Nat) : q_val (m.adS d) := by
  obtain ⟨v1, v2, v3, v4, v5, v6, v7⟩ := v
  refine ⟨v1, v2, v3, fun k hk => ?_, v5, v6, v7⟩
  by_cases e : k = m.c
  · subst e
    have h0 : (m.adS d).pn m.c = 0 := va_us _ _ _
    exact ⟨q_okS_0 h0, fun p hp => by rw [h0] at hp; exact absurd hp (Nat.not_lt_zero p)⟩
  · have h0 : (m.adS d).pn k = m.pn k := va_un _ _ e
    exact ⟨q_okS_cong (W := m) (s := k) h0 (fun p _ => rfl) (v4 k hk).1, fun p hp => by rw [h0] at hp; exact (v4 k hk).2 p hp⟩
theorem q_val.movS (v : q_val m) (k d : Nat) : q_val (m.movS k d) := v
theorem q_val.clrP (v : q_val m) (k : Nat) : q_val (m.clrP k) := by
  obtain ⟨v1, v2, v3, v4, v5, v6, v7⟩ := v
  refine ⟨v1, v2, v3, fun j hj => ?_, v5, v6, v7⟩
  by_cases e : j = k
  · subst e
    have h0 : (m.clrP j).pn j = 0 := va_us _ _ _
    exact ⟨q_okS_0 h0, fun p hp => by rw [h0] at hp; exact absurd hp (Nat.not_lt_zero p)⟩
  · have h0 : (m.clrP k).pn j = m.pn j := va_un _ _ e
    exact ⟨q_okS_cong (W := m) (s := j) h0 (fun p _ => rfl) (v4 j hj).1, fun p hp => by rw [h0] at hp; exact (v4 j hj).2 p hp⟩
theorem q_val.addP (v : q_val m) {k x y : Nat} (h1 : 1 ≤ x) (h2 : x ≤ 120) (hl : m.ml k + x ≤ 240) (hy : y ≤ 500) : q_val (m.addP k (nI x) (nI y)) := by
  obtain ⟨v1, v2, v3, v4, v5, v6, v7⟩ := v
  refine ⟨v1, v2, v3, fun j hj => ?_, v5, v6, v7⟩
  by_cases e : j = k
  · subst e
    have hp : (m.addP j (nI x) (nI y)).pn j = m.pn j + 1 := va_us _ _ _
    have hmn : (m.addP j (nI x) (nI y)).mn j = va_up (m.mn j) (m.pn j) (nI x) := va_us _ _ _
    have hit : (m.addP j (nI x) (nI y)).it j = va_up (m.it j) (m.pn j) (nI y) := va_us _ _ _
    refine ⟨⟨fun p hp2 => ?_, ?_⟩, fun p hp2 => ?_⟩
    · rw [hp] at hp2
      rw [hmn]
      by_cases e : p = m.pn j
      · subst e; exact ⟨x, h1, h2, va_us _ _ _⟩
      · rw [va_un _ _ e]; exact (v4 j hj).1.1 p (by omega)
    · show q_cm ((m.addP j (nI x) (nI y)).mn j) ((m.addP j (nI x) (nI y)).pn j) ≤ 240
      rw [hp, hmn]
      show q_cm (va_up (m.mn j) (m.pn j) (nI x)) (m.pn j) + (va_up (m.mn j) (m.pn j) (nI x) (m.pn j)).toNatClampNeg ≤ 240
      rw [va_us, nI_clamp (by omega), q_cm_cong (m' := m.mn j) fun p hp => va_un _ _ (by omega)]
      exact hl
    · rw [hp] at hp2
      rw [hit]
      by_cases e : p = m.pn j
      · subst e; exact ⟨y, hy, va_us _ _ _⟩
      · rw [va_un _ _ e]; exact (v4 j hj).2 p (by omega)
  · have h0 : (m.addP k (nI x) (nI y)).pn j = m.pn j := va_un _ _ e
    exact ⟨q_okS_cong (W := m) (s := j) h0 (fun p _ => congrFun (va_un _ _ e) p) (v4 j hj).1, fun p hp => by
      rw [h0] at hp
      show ∃ x : Nat, x ≤ 500 ∧ va_up m.it k _ j p = nI x
      rw [va_un _ _ e]; exact (v4 j hj).2 p hp⟩
theorem q_sf_e {α : Type} (c k : Nat) (f : Nat → α) (j : Nat) : q_sf c k f j = f (if k ≤ j ∧ j < c - 1 then j + 1 else j) := by
  unfold q_sf; split <;> rfl
theorem q_val.rmS (v : q_val m) (k : Nat) (hc : m.c ≤ 40) : q_val (m.rmS k) := by
  obtain ⟨v1, v2, v3, v4, v5, v6, v7⟩ := v
  refine ⟨v1, v2, v3, fun j hj => ?_, v5, v6, v7⟩
  have h0 : (m.rmS k).pn j = m.pn (if k ≤ j ∧ j < m.c - 1 then j + 1 else j) := q_sf_e _ _ _ _
  have h1 : (m.rmS k).mn j = m.mn (if k ≤ j ∧ j < m.c - 1 then j + 1 else j) := q_sf_e _ _ _ _
  have h2 : (m.rmS k).it j = m.it (if k ≤ j ∧ j < m.c - 1 then j + 1 else j) := q_sf_e _ _ _ _
  have h3 := v4 (if k ≤ j ∧ j < m.c - 1 then j + 1 else j) (by split <;> omega)
  exact ⟨q_okS_cong h0 (fun p _ => by rw [h1]) h3.1, fun p hp => by rw [h0] at hp; rw [h2]; exact h3.2 p hp⟩
end QVL
/-! the same behind each change -/
/-- the same, with at most c ids given -/
def q_smc (c : Nat) (W m : q_W) : Prop := (∃ N, N ≤ c ∧ q_sim W m N) ∧ q_dd m
section QKP
variable {W m : q_W} {c : Nat}
theorem q_smc.le {c' : Nat} (s : q_smc c W m) (h : c ≤ c') : q_smc c' W m := by
  obtain ⟨⟨N, h1, h2⟩, d⟩ := s
  exact ⟨⟨N, by omega, h2⟩, d⟩
theorem q_smc.eqv {Y : q_W} (s : q_smc c W m) (e : q_eqv W Y) (hn : W.n ≤ 10) : q_smc c Y m := by
  obtain ⟨⟨N, h1, a, ⟨τ, b⟩, k⟩, d⟩ := s
  obtain ⟨e1, e2, e3, e4, e5, e6, e7, e8, e9, e10, e11⟩ := e
  obtain ⟨a1, a2, a3, a4, a5, a6, a7, a8, a9, a10, a11⟩ := a
  obtain ⟨b1, b2, b3⟩ := b
  refine ⟨⟨N, h1, ⟨e1.trans a1, e5.trans a2, e6.trans a3, e2.trans a4, fun i hi => ⟨(e3 i (by omega)).1.trans (a5 i hi).1, (e3 i (by omega)).2.trans (a5 i hi).2⟩, fun z h2 h5 => (e4 z (by omega)).1.trans (a6 z h2 h5), fun z h2 h5 => (e4 z (by omega)).2.trans (a7 z h2 h5), e8.trans a8, e9.trans a9, e10.trans a10, fun x hx => (e11 x (by omega)).trans (a11 x hx)⟩, ⟨τ, b1, fun i hi => ?_, fun i j hij hj => ?_⟩, k⟩, d⟩
  · obtain ⟨f1, f2, f3, f4⟩ := e7 i (by omega)
    obtain ⟨g1, g2, g3, g4⟩ := b2 i hi
    exact ⟨f1.trans g1, f2.trans g2, f3.trans g3, fun p hp => ⟨(f4 p (by omega)).1.trans (g4 p hp).1, (f4 p (by omega)).2.trans (g4 p hp).2⟩⟩
  · have := b3 i j hij hj
    have f := e7 i (by omega)
    have g := e7 j (by omega)
    unfold q_bf at *
    rw [f.1, f.2.1, g.1, g.2.1]; exact this
theorem q_smc.pass (s : q_smc c W m) {t : Nat} (h1 : m.t ≤ t) (ht : t ≤ 199) : q_smc c (W.sA t) (m.sA t) := by
  obtain ⟨⟨N, hN, a, ⟨τ, b⟩, k⟩, d⟩ := s
  exact ⟨⟨N, hN, ⟨rfl, a.2⟩, ⟨τ, b⟩, ⟨k.1, k.2.1, k.2.2.1, k.2.2.2.1, k.2.2.2.2.1, fun j hj => Nat.le_trans (k.2.2.2.2.2.1 j hj) h1, ht, k.2.2.2.2.2.2.2.pass t⟩⟩, d⟩
theorem q_smc.addT (s : q_smc c W m) {j x : Nat} (hj : j ≤ 199) (hx1 : 50 ≤ x) (hx : x ≤ 400) (hf : ∀ i, i < m.n → m.d i ≠ nI j) : q_smc c (W.sT (W.n + 1) (va_up W.d W.n (nI j)) (va_up W.v W.n (nI x))) (m.sT (m.n + 1) (va_up m.d m.n (nI j)) (va_up m.v m.n (nI x))) := by
  obtain ⟨⟨N, hN, a, ⟨τ, b⟩, k⟩, d⟩ := s
  obtain ⟨a1, a2, a3, a4, a5, a6⟩ := a
  refine ⟨⟨N, hN, ⟨a1, a2, a3, congrArg (· + 1) a4, fun i hi => ?_, a6⟩, ⟨τ, b⟩, ⟨k.1, k.2.1, k.2.2.1, k.2.2.2.1, k.2.2.2.2.1, k.2.2.2.2.2.1, k.2.2.2.2.2.2.1, k.2.2.2.2.2.2.2.addT hj hx1 hx⟩⟩, fun i hi l hl e => ?_⟩
  · have hi : i < m.n + 1 := hi
    show va_up W.d W.n (nI j) i = va_up m.d m.n (nI j) i ∧ va_up W.v W.n (nI x) i = va_up m.v m.n (nI x) i
    rw [a4]
    by_cases e : i = m.n
    · rw [e, va_us, va_us, va_us, va_us]; exact ⟨rfl, rfl⟩
    · rw [va_un _ _ e, va_un _ _ e, va_un _ _ e, va_un _ _ e]; exact a5 i (by omega)
  · have hi : i < m.n + 1 := hi
    have hl : l < m.n + 1 := hl
    have e : va_up m.d m.n (nI j) i = va_up m.d m.n (nI j) l := e
    by_cases ei : i = m.n
    · by_cases el : l = m.n
      · omega
      · rw [ei, va_us, va_un _ _ el] at e
        exact absurd e.symm (hf l (by omega))
    · by_cases el : l = m.n
      · rw [el, va_us, va_un _ _ ei] at e
        exact absurd e (hf i (by omega))
      · rw [va_un _ _ ei, va_un _ _ el] at e
        exact d i (by omega) l (by omega) e
theorem q_smc.remT (s : q_smc c W m) {i : Nat} (hi : i < m.n) : q_smc c (W.sT (W.n - 1) (va_up W.d i (W.d (W.n - 1))) (va_up W.v i (W.v (W.n - 1)))) (m.sT (m.n - 1) (va_up m.d i (m.d (m.n - 1))) (va_up m.v i (m.v (m.n - 1)))) := by
  obtain ⟨⟨N, hN, a, ⟨τ, b⟩, k⟩, d⟩ := s
  obtain ⟨a1, a2, a3, a4, a5, a6⟩ := a
  refine ⟨⟨N, hN, ⟨a1, a2, a3, congrArg (· - 1) a4, fun j hj => ?_, a6⟩, ⟨τ, b⟩, ⟨k.1, k.2.1, k.2.2.1, k.2.2.2.1, k.2.2.2.2.1, k.2.2.2.2.2.1, k.2.2.2.2.2.2.1, k.2.2.2.2.2.2.2.remT hi⟩⟩, fun j hj l hl e => ?_⟩
  · have hj : j < m.n - 1 := hj
    show va_up W.d i (W.d (W.n - 1)) j = va_up m.d i (m.d (m.n - 1)) j ∧ va_up W.v i (W.v (W.n - 1)) j = va_up m.v i (m.v (m.n - 1)) j
    rw [a4]
    by_cases e : j = i
    · rw [e, va_us, va_us, va_us, va_us]; exact a5 _ (by omega)
    · rw [va_un _ _ e, va_un _ _ e, va_un _ _ e, va_un _ _ e]; exact a5 j (by omega)
  · have hj : j < m.n - 1 := hj
    have hl : l < m.n - 1 := hl
    have e : va_up m.d i (m.d (m.n - 1)) j = va_up m.d i (m.d (m.n - 1)) l := e
    by_cases ei : j = i
    · by_cases el : l = i
      · omega
      · rw [ei, va_us, va_un _ _ el] at e
        have := d _ (by omega) l (by omega) e; omega
    · by_cases el : l = i
      · rw [el, va_us, va_un _ _ ei] at e
        have := d j (by omega) _ (by omega) e; omega
      · rw [va_un _ _ ei, va_un _ _ el] at e
        exact d j (by omega) l (by omega) e
theorem q_smc.bnd (s : q_smc c W m) {z x : Nat} (h1 : 1 ≤ x) (h2 : x ≤ 300) : q_smc c (W.sZ (va_up W.bd z (nI x)) W.wt) (m.sZ (va_up m.bd z (nI x)) m.wt) := by
  obtain ⟨⟨N, hN, a, ⟨τ, b⟩, k⟩, d⟩ := s
  obtain ⟨a1, a2, a3, a4, a5, a6, a7⟩ := a
  refine ⟨⟨N, hN, ⟨a1, a2, a3, a4, a5, fun y h2 h5 => ?_, a7⟩, ⟨τ, b⟩, ⟨k.1, k.2.1, k.2.2.1, k.2.2.2.1, k.2.2.2.2.1, k.2.2.2.2.2.1, k.2.2.2.2.2.2.1, k.2.2.2.2.2.2.2.bnd h1 h2⟩⟩, d⟩
  show va_up W.bd z (nI x) y = va_up m.bd z (nI x) y
  by_cases e : y = z
  · rw [e, va_us, va_us]
  · rw [va_un _ _ e, va_un _ _ e]; exact a6 y h2 h5
theorem q_smc.wgt (s : q_smc c W m) {z x : Nat} (h2 : x ≤ 100) : q_smc c (W.sZ W.bd (va_up W.wt z (nI x))) (m.sZ m.bd (va_up m.wt z (nI x))) := by
  obtain ⟨⟨N, hN, a, ⟨τ, b⟩, k⟩, d⟩ := s
  obtain ⟨a1, a2, a3, a4, a5, a6, a7, a8⟩ := a
  refine ⟨⟨N, hN, ⟨a1, a2, a3, a4, a5, a6, fun y h2 h5 => ?_, a8⟩, ⟨τ, b⟩, ⟨k.1, k.2.1, k.2.2.1, k.2.2.2.1, k.2.2.2.2.1, k.2.2.2.2.2.1, k.2.2.2.2.2.2.1, k.2.2.2.2.2.2.2.wgt h2⟩⟩, d⟩
  show va_up W.wt z (nI x) y = va_up m.wt z (nI x) y
  by_cases e : y = z
  · rw [e, va_us, va_us]
  · rw [va_un _ _ e, va_un _ _ e]; exact a7 y h2 h5
theorem q_smc.plan (s : q_smc c W m) : q_smc c (W.sP 1 W.t 0 W.tg) (m.sP 1 m.t 0 m.tg) := by
  obtain ⟨⟨N, hN, a, ⟨τ, b⟩, k⟩, d⟩ := s
  obtain ⟨a1, a2, a3, a4, a5, a6, a7, a8⟩ := a
  exact ⟨⟨N, hN, ⟨a1, a2, a3, a4, a5, a6, a7, rfl, a1, rfl, fun e he => absurd he (Nat.not_lt_zero e)⟩, ⟨τ, b⟩, ⟨k.1, k.2.1, k.2.2.1, k.2.2.2.1, k.2.2.2.2.1, k.2.2.2.2.2.1, k.2.2.2.2.2.2.1, k.2.2.2.2.2.2.2.plan _ _⟩⟩, d⟩
theorem q_smc.targ (s : q_smc c W m) {x : Nat} (hx : x ≤ 20000) (hpe : m.pe ≠ 0) : q_smc c (W.sP W.pe W.pf (W.pc + 1) (va_up W.tg W.pc (nI x))) (m.sP m.pe m.pf (m.pc + 1) (va_up m.tg m.pc (nI x))) := by
  obtain ⟨⟨N, hN, a, ⟨τ, b⟩, k⟩, d⟩ := s
  obtain ⟨a1, a2, a3, a4, a5, a6, a7, a8, a9, a10, a11⟩ := a
  refine ⟨⟨N, hN, ⟨a1, a2, a3, a4, a5, a6, a7, a8, a9, congrArg (· + 1) a10, fun e he => ?_⟩, ⟨τ, b⟩, ⟨k.1, k.2.1, k.2.2.1, k.2.2.2.1, k.2.2.2.2.1, k.2.2.2.2.2.1, k.2.2.2.2.2.2.1, k.2.2.2.2.2.2.2.targ hx hpe⟩⟩, d⟩
  have he : e < m.pc + 1 := he
  show va_up W.tg W.pc (nI x) e = va_up m.tg m.pc (nI x) e
  rw [a10]
  by_cases e2 : e = m.pc
  · rw [e2, va_us, va_us]
  · rw [va_un _ _ e2, va_un _ _ e2]; exact a11 e (by omega)
theorem q_smc.addS (s : q_smc c W m) (o : ∀ a, a < 40 → ∀ b, b < 40 → W.σ a = W.σ b → a = b) {d r : Nat} (hc : m.c < 40) (hd : d ≤ m.t) (sd : q_sd (W.addS d) W.c r) (hcc : c < 2 ^ 30) : q_smc (c + 1) ((W.addS d).sσ (q_mv W.σ W.c r)) (m.adS d) := by
  obtain ⟨⟨N, hN, a, ⟨τ, b⟩, k⟩, dd⟩ := s
  obtain ⟨a1, a2, a3, a4⟩ := a
  obtain ⟨k1, k2, k3, k4, k5, k6, k7, k8⟩ := k
  have ids : ∀ j, j < (m.adS d).c → ∀ l, l < (m.adS d).c → (m.adS d).id j = (m.adS d).id l → j = l := by
    intro j hj l hl e
    have hj : j < m.c + 1 := hj
    have hl : l < m.c + 1 := hl
    have e : va_up m.id m.c m.nx j = va_up m.id m.c m.nx l := e
    by_cases ej : j = m.c
    · by_cases el : l = m.c
      · omega
      · rw [ej, va_us, va_un _ _ el] at e
        obtain ⟨x, h1, h2⟩ := k4 l (by omega)
        rw [k3, h2] at e
        have := (nI_eq (by omega) (by omega)).mp e; omega
    · by_cases el : l = m.c
      · rw [el, va_us, va_un _ _ ej] at e
        obtain ⟨x, h1, h2⟩ := k4 j (by omega)
        rw [k3, h2] at e
        have := (nI_eq (by omega) (by omega)).mp e; omega
      · rw [va_un _ _ ej, va_un _ _ el] at e
        exact k5 j (by omega) l (by omega) e
  have bj : q_bij (fun i => if i < m.c then τ i else i) (m.adS d).c := by
    refine ⟨fun i hi => ?_, fun i hi j hj e => ?_⟩
    · have hi : i < m.c + 1 := hi
      show (if i < m.c then τ i else i) < m.c + 1
      split
      · have := b.1.1 i (by assumption); omega
      · omega
    · have hi : i < m.c + 1 := hi
      have hj : j < m.c + 1 := hj
      dsimp only at e
      by_cases h1 : i < m.c
      · by_cases h2 : j < m.c
        · rw [if_pos h1, if_pos h2] at e; exact b.1.2 i h1 j h2 e
        · rw [if_pos h1, if_neg h2] at e; have := b.1.1 i h1; omega
      · by_cases h2 : j < m.c
        · rw [if_neg h1, if_pos h2] at e; have := b.1.1 j h2; omega
        · omega
  have ss : ∀ i, i < (m.adS d).c → q_ss1 (W.addS d) ((W.addS d).σ i) (m.adS d) (if i < m.c then τ i else i) := by
    intro i hi
    have hi : i < m.c + 1 := hi
    by_cases h1 : i < m.c
    · rw [if_pos h1]
      have h2 : W.σ i ≠ W.σ W.c := fun e => by have := o i (by omega) W.c (by omega) e; omega
      have h3 : τ i ≠ m.c := by have := b.1.1 i h1; omega
      obtain ⟨g1, g2, g3, g4⟩ := b.2.1 i h1
      refine ⟨?_, ?_, ?_, ?_⟩
      · show va_up W.id (W.σ W.c) W.nx (W.σ i) = va_up m.id m.c m.nx (τ i)
        rw [va_un _ _ h2, va_un _ _ h3]; exact g1
      · show va_up W.dy (W.σ W.c) d (W.σ i) = va_up m.dy m.c d (τ i)
        rw [va_un _ _ h2, va_un _ _ h3]; exact g2
      · show va_up W.pn (W.σ W.c) 0 (W.σ i) = va_up m.pn m.c 0 (τ i)
        rw [va_un _ _ h2, va_un _ _ h3]; exact g3
      · intro p hp
        have hp : p < va_up m.pn m.c 0 (τ i) := hp
        rw [va_un _ _ h3] at hp
        exact g4 p hp
    · rw [if_neg h1]
      have e : i = m.c := by omega
      subst e
      refine ⟨?_, ?_, ?_, ?_⟩
      · show va_up W.id (W.σ W.c) W.nx (W.σ m.c) = va_up m.id m.c m.nx m.c
        rw [← a2, va_us, va_us]; exact a3
      · show va_up W.dy (W.σ W.c) d (W.σ m.c) = va_up m.dy m.c d m.c
        rw [← a2, va_us, va_us]
      · show va_up W.pn (W.σ W.c) 0 (W.σ m.c) = va_up m.pn m.c 0 m.c
        rw [← a2, va_us, va_us]
      · intro p hp
        have hp : p < va_up m.pn m.c 0 m.c := hp
        rw [va_us] at hp
        exact absurd hp (Nat.not_lt_zero p)
  have so : ∀ i j, i < j → j < (W.addS d).c → i ≠ W.c → j ≠ W.c → q_bf (W.addS d) ((W.addS d).σ i) ((W.addS d).σ j) := by
    intro i j hij hj hi2 hj2
    have hj : j < W.c + 1 := hj
    have h := b.2.2 i j hij (by omega)
    have h2 : W.σ i ≠ W.σ W.c := fun e => by have := o i (by omega) W.c (by omega) e; omega
    have h3 : W.σ j ≠ W.σ W.c := fun e => by have := o j (by omega) W.c (by omega) e; omega
    show va_up W.dy (W.σ W.c) d (W.σ i) < va_up W.dy (W.σ W.c) d (W.σ j) ∨ (va_up W.dy (W.σ W.c) d (W.σ i) = va_up W.dy (W.σ W.c) d (W.σ j) ∧ va_up W.id (W.σ W.c) W.nx (W.σ i) < va_up W.id (W.σ W.c) W.nx (W.σ j))
    rw [va_un _ _ h2, va_un _ _ h3, va_un _ _ h2, va_un _ _ h3]; exact h
  refine ⟨⟨N + 1, by omega, ⟨a1, congrArg (· + 1) a2, congrArg (· + nI 1) a3, a4⟩, ⟨_, q_si1_mv (X := W.addS d) (show W.c < W.c + 1 by omega) (congrArg (· + 1) a2) bj ss sd so ids⟩, ⟨k1, show m.c + 1 ≤ 40 by omega, ?_, fun j hj => ?_, ids, fun j hj => ?_, k7, k8.adS d⟩⟩, dd⟩
  · show m.nx + nI 1 = _
    rw [k3, nI_add]
  · have hj : j < m.c + 1 := hj
    show ∃ x, x < N + 1 ∧ va_up m.id m.c m.nx j = nI x
    by_cases e : j = m.c
    · rw [e, va_us]; exact ⟨N, by omega, k3⟩
    · rw [va_un _ _ e]
      obtain ⟨x, h1, h2⟩ := k4 j (by omega)
      exact ⟨x, by omega, h2⟩
  · have hj : j < m.c + 1 := hj
    show va_up m.dy m.c d j ≤ m.t
    by_cases e : j = m.c
    · rw [e, va_us]; exact hd
    · rw [va_un _ _ e]; exact k6 j (by omega)
theorem q_smc.movS (s : q_smc c W m) (o : ∀ a, a < 40 → ∀ b, b < 40 → W.σ a = W.σ b → a = b) {p r d : Nat} {τ : Nat → Nat} (hp : p < m.c) (b : q_si1 W m τ) (hd : d ≤ m.t) (sd : q_sd (W.movS (W.σ p) d) p r) : q_smc c ((W.movS (W.σ p) d).sσ (q_mv W.σ p r)) (m.movS (τ p) d) := by
  obtain ⟨⟨N, hN, a, -, k⟩, dd⟩ := s
  obtain ⟨k1, k2, k3, k4, k5, k6, k7, k8⟩ := k
  have ec := a.2.1
  have ss : ∀ i, i < m.c → q_ss1 (W.movS (W.σ p) d) (W.σ i) (m.movS (τ p) d) (τ i) := by
    intro i hi
    obtain ⟨g1, g2, g3, g4⟩ := b.2.1 i hi
    refine ⟨g1, ?_, g3, g4⟩
    show va_up W.dy (W.σ p) d (W.σ i) = va_up m.dy (τ p) d (τ i)
    by_cases e : i = p
    · rw [e, va_us, va_us]
    · rw [va_un _ _ fun h => e (o i (by omega) p (by omega) h), va_un _ _ fun h => e (b.1.2 i hi p hp h)]; exact g2
  have so : ∀ i j, i < j → j < W.c → i ≠ p → j ≠ p → q_bf (W.movS (W.σ p) d) (W.σ i) (W.σ j) := by
    intro i j hij hj hi2 hj2
    have h := b.2.2 i j hij (by omega)
    have h2 : W.σ i ≠ W.σ p := fun e => by have := o i (by omega) p (by omega) e; omega
    have h3 : W.σ j ≠ W.σ p := fun e => by have := o j (by omega) p (by omega) e; omega
    show va_up W.dy (W.σ p) d (W.σ i) < va_up W.dy (W.σ p) d (W.σ j) ∨ (va_up W.dy (W.σ p) d (W.σ i) = va_up W.dy (W.σ p) d (W.σ j) ∧ W.id (W.σ i) < W.id (W.σ j))
    rw [va_un _ _ h2, va_un _ _ h3]; exact h
  refine ⟨⟨N, hN, a, ⟨_, q_si1_mv (X := W.movS (W.σ p) d) (show p < W.c by omega) ec b.1 ss sd so k5⟩, ⟨k1, k2, k3, k4, k5, fun j hj => ?_, k7, k8.movS _ _⟩⟩, dd⟩
  show va_up m.dy (τ p) d j ≤ m.t
  by_cases e : j = τ p
  · rw [e, va_us]; exact hd
  · rw [va_un _ _ e]; exact k6 j hj
theorem q_smc.rmS (s : q_smc c W m) {p : Nat} {τ : Nat → Nat} (hp : p < m.c) (b : q_si1 W m τ) : q_smc c ((W.sσ (q_mv W.σ p (W.c - 1))).sc (W.c - 1)) (m.rmS (τ p)) := by
  obtain ⟨⟨N, hN, a, -, k⟩, dd⟩ := s
  obtain ⟨a1, a2, a3⟩ := a
  obtain ⟨k1, k2, k3, k4, k5, k6, k7, k8⟩ := k
  have hk := b.1.1 p hp
  have sf : ∀ {α : Type} (f : Nat → α) (y : Nat), y ≠ τ p → y < m.c → q_sf m.c (τ p) f (if y < τ p then y else y - 1) = f y := fun f y h1 h2 => by
    rw [q_sf_e]
    congr 1
    split <;> split <;> omega
  have roe : ∀ i, i < m.c - 1 → q_ro p (W.c - 1) i ≠ p ∧ q_ro p (W.c - 1) i < m.c ∧ τ (q_ro p (W.c - 1) i) ≠ τ p ∧ τ (q_ro p (W.c - 1) i) < m.c := fun i hi => by
    have := q_ro_c p (W.c - 1) i
    have h1 : q_ro p (W.c - 1) i ≠ p := by omega
    have h2 : q_ro p (W.c - 1) i < m.c := by omega
    exact ⟨h1, h2, fun e => h1 (b.1.2 _ h2 p hp e), b.1.1 _ h2⟩
  have ex : ∀ j, j < m.c - 1 → ∃ y, y < m.c ∧ y ≠ τ p ∧ j = if y < τ p then y else y - 1 := fun j hj => by
    by_cases h : j < τ p
    · exact ⟨j, by omega, by omega, by rw [if_pos h]⟩
    · exact ⟨j + 1, by omega, by omega, by rw [if_neg (by omega)]; omega⟩
  refine ⟨⟨N, hN, ⟨a1, congrArg (· - 1) a2, a3⟩, ⟨fun i => if τ (q_ro p (W.c - 1) i) < τ p then τ (q_ro p (W.c - 1) i) else τ (q_ro p (W.c - 1) i) - 1, ⟨fun i hi => ?_, fun i hi j hj e => ?_⟩, fun i hi => ?_, fun i j hij hj => ?_⟩, ⟨k1, show m.c - 1 ≤ 40 by omega, k3, fun j hj => ?_, fun j hj l hl e => ?_, fun j hj => ?_, k7, k8.rmS _ k2⟩⟩, dd⟩
  · have hi : i < m.c - 1 := hi
    have h1 := roe i hi
    exact (show ∀ x y n : Nat, x ≠ y → x < n → y < n → (if x < y then x else x - 1) < n - 1 by intro x y n a b c; split <;> omega) _ _ _ h1.2.2.1 h1.2.2.2 hk
  · have hi : i < m.c - 1 := hi
    have hj : j < m.c - 1 := hj
    have h1 := roe i hi
    have h2 := roe j hj
    dsimp only at e
    have e2 : τ (q_ro p (W.c - 1) i) = τ (q_ro p (W.c - 1) j) := by
      split at e <;> split at e <;> omega
    have e3 := b.1.2 _ h1.2.1 _ h2.2.1 e2
    have := q_ro_c p (W.c - 1) i
    have := q_ro_c p (W.c - 1) j
    omega
  · have hi : i < m.c - 1 := hi
    have h1 := roe i hi
    obtain ⟨g1, g2, g3, g4⟩ := b.2.1 _ h1.2.1
    have es : ((W.sσ (q_mv W.σ p (W.c - 1))).sc (W.c - 1)).σ i = W.σ (q_ro p (W.c - 1) i) := q_ro_mv _ _ _ _
    rw [es]
    refine ⟨g1.trans (sf m.id _ h1.2.2.1 h1.2.2.2).symm, g2.trans (sf m.dy _ h1.2.2.1 h1.2.2.2).symm, g3.trans (sf m.pn _ h1.2.2.1 h1.2.2.2).symm, fun q hq => ?_⟩
    have hq : q < q_sf m.c (τ p) m.pn (if τ (q_ro p (W.c - 1) i) < τ p then τ (q_ro p (W.c - 1) i) else τ (q_ro p (W.c - 1) i) - 1) := hq
    rw [sf m.pn _ h1.2.2.1 h1.2.2.2] at hq
    exact ⟨(g4 q hq).1.trans (congrFun (sf m.mn _ h1.2.2.1 h1.2.2.2) q).symm, (g4 q hq).2.trans (congrFun (sf m.it _ h1.2.2.1 h1.2.2.2) q).symm⟩
  · have hj : j < m.c - 1 := hj
    have h1 := roe i (by omega)
    have h2 := roe j hj
    show q_bf W (q_mv W.σ p (W.c - 1) i) (q_mv W.σ p (W.c - 1) j)
    rw [q_ro_mv, q_ro_mv]
    refine b.2.2 _ _ ?_ h2.2.1
    have := q_ro_c p (W.c - 1) i
    have := q_ro_c p (W.c - 1) j
    omega
  · obtain ⟨y, h1, h2, rfl⟩ := ex j hj
    show ∃ x, x < N ∧ q_sf m.c (τ p) m.id _ = nI x
    rw [sf m.id y h2 h1]; exact k4 y h1
  · obtain ⟨y, h1, h2, rfl⟩ := ex j hj
    obtain ⟨u, h3, h4, rfl⟩ := ex l hl
    have e : q_sf m.c (τ p) m.id _ = q_sf m.c (τ p) m.id _ := e
    rw [sf m.id y h2 h1, sf m.id u h4 h3] at e
    rw [k5 y h1 u h3 e]
  · obtain ⟨y, h1, h2, rfl⟩ := ex j hj
    show q_sf m.c (τ p) m.dy _ ≤ m.t
    rw [sf m.dy y h2 h1]; exact k6 y h1
theorem q_smc.clrP (s : q_smc c W m) (o : ∀ a, a < 40 → ∀ b, b < 40 → W.σ a = W.σ b → a = b) {p : Nat} {τ : Nat → Nat} (hp : p < m.c) (b : q_si1 W m τ) : q_smc c (W.clrP (W.σ p)) (m.clrP (τ p)) := by
  obtain ⟨⟨N, hN, a, -, k⟩, dd⟩ := s
  obtain ⟨k1, k2, k3, k4, k5, k6, k7, k8⟩ := k
  have ec := a.2.1
  refine ⟨⟨N, hN, a, ⟨τ, b.1, fun i hi => ?_, b.2.2⟩, ⟨k1, k2, k3, k4, k5, k6, k7, k8.clrP _⟩⟩, dd⟩
  have hi : i < m.c := hi
  obtain ⟨g1, g2, g3, g4⟩ := b.2.1 i hi
  by_cases e : i = p
  · subst e
    refine ⟨g1, g2, ?_, fun q hq => ?_⟩
    · show va_up W.pn (W.σ i) 0 (W.σ i) = va_up m.pn (τ i) 0 (τ i)
      rw [va_us, va_us]
    · have hq : q < va_up m.pn (τ i) 0 (τ i) := hq
      rw [va_us] at hq; exact absurd hq (Nat.not_lt_zero q)
  · have h2 : W.σ i ≠ W.σ p := fun h => e (o i (by omega) p (by omega) h)
    have h3 : τ i ≠ τ p := fun h => e (b.1.2 i hi p hp h)
    refine ⟨g1, g2, ?_, fun q hq => ?_⟩
    · show va_up W.pn (W.σ p) 0 (W.σ i) = va_up m.pn (τ p) 0 (τ i)
      rw [va_un _ _ h2, va_un _ _ h3]; exact g3
    · have hq : q < va_up m.pn (τ p) 0 (τ i) := hq
      rw [va_un _ _ h3] at hq; exact g4 q hq
theorem q_smc.addP (s : q_smc c W m) (o : ∀ a, a < 40 → ∀ b, b < 40 → W.σ a = W.σ b → a = b) {p x y : Nat} {τ : Nat → Nat} (hp : p < m.c) (b : q_si1 W m τ) (h1 : 1 ≤ x) (h2 : x ≤ 120) (hl : m.ml (τ p) + x ≤ 240) (hy : y ≤ 500) : q_smc c (W.addP (W.σ p) (nI x) (nI y)) (m.addP (τ p) (nI x) (nI y)) := by
  obtain ⟨⟨N, hN, a, -, k⟩, dd⟩ := s
  obtain ⟨k1, k2, k3, k4, k5, k6, k7, k8⟩ := k
  have ec := a.2.1
  refine ⟨⟨N, hN, a, ⟨τ, b.1, fun i hi => ?_, b.2.2⟩, ⟨k1, k2, k3, k4, k5, k6, k7, k8.addP h1 h2 hl hy⟩⟩, dd⟩
  have hi : i < m.c := hi
  obtain ⟨g1, g2, g3, g4⟩ := b.2.1 i hi
  by_cases e : i = p
  · subst e
    refine ⟨g1, g2, ?_, fun q hq => ?_⟩
    · show va_up W.pn (W.σ i) (W.pn (W.σ i) + 1) (W.σ i) = va_up m.pn (τ i) (m.pn (τ i) + 1) (τ i)
      rw [va_us, va_us, g3]
    · have hq : q < va_up m.pn (τ i) (m.pn (τ i) + 1) (τ i) := hq
      rw [va_us] at hq
      show va_up W.mn (W.σ i) (va_up (W.mn (W.σ i)) (W.pn (W.σ i)) (nI x)) (W.σ i) q = va_up m.mn (τ i) (va_up (m.mn (τ i)) (m.pn (τ i)) (nI x)) (τ i) q ∧ va_up W.it (W.σ i) (va_up (W.it (W.σ i)) (W.pn (W.σ i)) (nI y)) (W.σ i) q = va_up m.it (τ i) (va_up (m.it (τ i)) (m.pn (τ i)) (nI y)) (τ i) q
      rw [va_us, va_us, va_us, va_us, g3]
      by_cases eq : q = m.pn (τ i)
      · rw [eq, va_us, va_us, va_us, va_us]; exact ⟨rfl, rfl⟩
      · rw [va_un _ _ eq, va_un _ _ eq, va_un _ _ eq, va_un _ _ eq]; exact g4 q (by omega)
  · have h2 : W.σ i ≠ W.σ p := fun h => e (o i (by omega) p (by omega) h)
    have h3 : τ i ≠ τ p := fun h => e (b.1.2 i hi p hp h)
    refine ⟨g1, g2, ?_, fun q hq => ?_⟩
    · show va_up W.pn (W.σ p) _ (W.σ i) = va_up m.pn (τ p) _ (τ i)
      rw [va_un _ _ h2, va_un _ _ h3]; exact g3
    · have hq : q < va_up m.pn (τ p) (m.pn (τ p) + 1) (τ i) := hq
      rw [va_un _ _ h3] at hq
      show va_up W.mn (W.σ p) _ (W.σ i) q = va_up m.mn (τ p) _ (τ i) q ∧ va_up W.it (W.σ p) _ (W.σ i) q = va_up m.it (τ p) _ (τ i) q
      rw [va_un _ _ h2, va_un _ _ h3, va_un _ _ h2, va_un _ _ h3]; exact g4 q hq
end QKP
