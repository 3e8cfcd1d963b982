/-! COPYING SESSIONS AND STATES -/
/-- the sessions of a block -/
def q_vS (B : Nat) (I : Nat → Nat → Int32) (R : Nat → Nat → Option Nat) (W : q_W) : Prop :=
  I (B + 7) 1 = nI W.c ∧ W.c ≤ 40 ∧ I (B + 7) 2 = W.nx ∧ (∀ i, i < 40 → R (B + 8) i = some (B + 9 + 3 * W.σ i) ∧ W.σ i < 40) ∧
  (∀ s, s < 40 → I (B + 9 + 3 * s) 0 = W.id s ∧ I (B + 9 + 3 * s) 1 = nI (W.dy s) ∧ W.dy s ≤ 199 ∧ I (B + 9 + 3 * s) 2 = nI (W.pn s) ∧ W.pn s ≤ 8 ∧ I (B + 10 + 3 * s) = W.mn s ∧ I (B + 11 + 3 * s) = W.it s)
theorem q_vB.ss {B : Nat} {I : Nat → Nat → Int32} {R : Nat → Nat → Option Nat} {W : q_W} (V : q_vB B I R W) : q_vS B I R W := ⟨V.2.2.2.2.2.2.2.2.1, V.2.2.2.2.2.2.2.2.2.1, V.2.2.2.2.2.2.2.2.2.2.1, V.2.2.2.2.2.2.2.2.2.2.2.1, V.2.2.2.2.2.2.2.2.2.2.2.2.1⟩
theorem q_vS.cong {B : Nat} {I I' : Nat → Nat → Int32} {R R' : Nat → Nat → Option Nat} {W : q_W} (V : q_vS B I R W) (hI : ∀ p, B + 7 ≤ p → p < B + 129 → I' p = I p) (hR : R' = R) : q_vS B I' R' W := by
  obtain ⟨h1, h2, h3, h4, h5⟩ := V
  subst hR
  refine ⟨by rw [hI _ (by omega) (by omega)]; exact h1, h2, by rw [hI _ (by omega) (by omega)]; exact h3, h4, fun s hs => ?_⟩
  rw [hI (B + 9 + 3 * s) (by omega) (by omega), hI (B + 10 + 3 * s) (by omega) (by omega), hI (B + 11 + 3 * s) (by omega) (by omega)]
  exact h5 s hs
/-- one session's cells -/
def q_se (B : Nat) (I : Nat → Nat → Int32) (r : Nat) (W : q_W) (s : Nat) : Prop :=
  I (B + 9 + 3 * r) 0 = W.id s ∧ I (B + 9 + 3 * r) 1 = nI (W.dy s) ∧ I (B + 9 + 3 * r) 2 = nI (W.pn s) ∧ ∀ p, p < W.pn s → I (B + 10 + 3 * r) p = W.mn s p ∧ I (B + 11 + 3 * r) p = W.it s p
/-- g: h with the first i sessions of A copied to B -/
def q_cs (h g : q_Hp) (B : Nat) (W W' : q_W) (i : Nat) : Prop :=
  g.R = h.R ∧ g.J = h.J ∧ g.E = h.E ∧ g.n = h.n ∧ (∀ p, p < B + 9 ∨ B + 129 ≤ p → g.I p = h.I p) ∧ (∀ k, k < i → q_se B g.I (W'.σ k) W (W.σ k)) ∧
  (∀ s, s < 40 → (∀ k, k < i → W'.σ k ≠ s) → g.I (B + 9 + 3 * s) = h.I (B + 9 + 3 * s) ∧ g.I (B + 10 + 3 * s) = h.I (B + 10 + 3 * s) ∧ g.I (B + 11 + 3 * s) = h.I (B + 11 + 3 * s))
theorem q_cs.zero (h : q_Hp) (B : Nat) (W W' : q_W) : q_cs h h B W W' 0 := ⟨rfl, rfl, rfl, rfl, fun _ _ => rfl, fun k hk => absurd hk (Nat.not_lt_zero k), fun _ _ _ => ⟨rfl, rfl, rfl⟩⟩
/-- the heap behind the copy of one session -/
def q_scp (g : q_Hp) (A B s r pn : Nat) : q_Hp := ((((g.setI (B + 9 + 3 * r) 0 (g.I (A + 9 + 3 * s) 0)).setI (B + 9 + 3 * r) 1 (g.I (A + 9 + 3 * s) 1)).setI (B + 9 + 3 * r) 2 (nI pn)).rowI (B + 10 + 3 * r) (q_cpy (g.I (A + 10 + 3 * s)) (g.I (B + 10 + 3 * r)) pn)).rowI (B + 11 + 3 * r) (q_cpy (g.I (A + 11 + 3 * s)) (g.I (B + 11 + 3 * r)) pn)
theorem q_scp_0 (g : q_Hp) (A B s r pn : Nat) : (q_scp g A B s r pn).I (B + 9 + 3 * r) = va_up (va_up (va_up (g.I (B + 9 + 3 * r)) 0 (g.I (A + 9 + 3 * s) 0)) 1 (g.I (A + 9 + 3 * s) 1)) 2 (nI pn) := by
  unfold q_scp
  rw [q_rIn _ _ (by omega), q_rIn _ _ (by omega), q_sI, q_sI, q_sI]
theorem q_scp_1 (g : q_Hp) (A B s r pn : Nat) : (q_scp g A B s r pn).I (B + 10 + 3 * r) = q_cpy (g.I (A + 10 + 3 * s)) (g.I (B + 10 + 3 * r)) pn := by
  unfold q_scp
  rw [q_rIn _ _ (by omega), q_rI]
theorem q_scp_2 (g : q_Hp) (A B s r pn : Nat) : (q_scp g A B s r pn).I (B + 11 + 3 * r) = q_cpy (g.I (A + 11 + 3 * s)) (g.I (B + 11 + 3 * r)) pn := by
  unfold q_scp
  rw [q_rI]
theorem q_scp_n (g : q_Hp) (A B s r pn : Nat) {p : Nat} (h0 : p ≠ B + 9 + 3 * r) (h1 : p ≠ B + 10 + 3 * r) (h2 : p ≠ B + 11 + 3 * r) : (q_scp g A B s r pn).I p = g.I p := by
  unfold q_scp
  rw [q_rIn _ _ h2, q_rIn _ _ h1, q_sIn _ _ _ h0, q_sIn _ _ _ h0, q_sIn _ _ _ h0]
theorem q_cs.step {h g : q_Hp} {A B : Nat} {W W' : q_W} {i : Nat} (hap : q_ap A B) (VA : q_vS A h.I h.R W) (inj : ∀ a, a < 40 → ∀ b, b < 40 → W'.σ a = W'.σ b → a = b) (s40 : ∀ i, i < 40 → W'.σ i < 40) (hi : i < W.c) (c : q_cs h g B W W' i) : q_cs h (q_scp g A B (W.σ i) (W'.σ i) (W.pn (W.σ i))) B W W' (i + 1) := by
  obtain ⟨c1, c2, c3, c4, c5, c6, c7⟩ := c
  have hc := VA.2.1
  have hsi := (VA.2.2.2.1 i (by omega)).2
  have hri := s40 i (by omega)
  have hA := VA.2.2.2.2 _ hsi
  unfold q_ap at hap
  have gA : ∀ p, A ≤ p → p < A + 131 → g.I p = h.I p := fun p h1 h2 => c5 p (by omega)
  refine ⟨c1, c2, c3, c4, fun p hp => ?_, fun k hk => ?_, fun s hs hn => ?_⟩
  · rw [q_scp_n _ _ _ _ _ _ (by omega) (by omega) (by omega)]; exact c5 p hp
  · by_cases e : k = i
    · subst e
      refine ⟨?_, ?_, ?_, fun p hp => ⟨?_, ?_⟩⟩
      · rw [q_scp_0, va_un _ _ (by decide), va_un _ _ (by decide), va_us, gA _ (by omega) (by omega)]; exact hA.1
      · rw [q_scp_0, va_un _ _ (by decide), va_us, gA _ (by omega) (by omega)]; exact hA.2.1
      · rw [q_scp_0, va_us]
      · rw [q_scp_1, q_cpy_lt _ _ hp, gA _ (by omega) (by omega)]; exact congrFun hA.2.2.2.2.2.1 p
      · rw [q_scp_2, q_cpy_lt _ _ hp, gA _ (by omega) (by omega)]; exact congrFun hA.2.2.2.2.2.2 p
    · have hne : W'.σ k ≠ W'.σ i := fun e2 => e (inj k (by omega) i (by omega) e2)
      have h6 := c6 k (by omega)
      unfold q_se at h6 ⊢
      rw [q_scp_n _ _ _ _ _ _ (by omega) (by omega) (by omega), q_scp_n _ _ _ _ _ _ (p := B + 10 + 3 * W'.σ k) (by omega) (by omega) (by omega), q_scp_n _ _ _ _ _ _ (p := B + 11 + 3 * W'.σ k) (by omega) (by omega) (by omega)]
      exact h6
  · have h1 := hn i (by omega)
    have h7 := c7 s hs fun k hk => hn k (by omega)
    rw [q_scp_n _ _ _ _ _ _ (by omega) (by omega) (by omega), q_scp_n _ _ _ _ _ _ (p := B + 10 + 3 * s) (by omega) (by omega) (by omega), q_scp_n _ _ _ _ _ _ (p := B + 11 + 3 * s) (by omega) (by omega) (by omega)]
    exact h7
/-- the same content as far as it is used -/
def q_eqv (W X : q_W) : Prop :=
  X.t = W.t ∧ X.n = W.n ∧ (∀ k, k < 10 → X.d k = W.d k ∧ X.v k = W.v k) ∧ (∀ k, k < 6 → X.bd k = W.bd k ∧ X.wt k = W.wt k) ∧ X.c = W.c ∧ X.nx = W.nx ∧
  (∀ i, i < W.c → X.id (X.σ i) = W.id (W.σ i) ∧ X.dy (X.σ i) = W.dy (W.σ i) ∧ X.pn (X.σ i) = W.pn (W.σ i) ∧ ∀ p, p < W.pn (W.σ i) → X.mn (X.σ i) p = W.mn (W.σ i) p ∧ X.it (X.σ i) p = W.it (W.σ i) p) ∧
  X.pe = W.pe ∧ X.pf = W.pf ∧ X.pc = W.pc ∧ ∀ e, e < W.pc → X.tg e = W.tg e
/-- what holds of every State ever made -/
def q_ok0 (W : q_W) : Prop := (∀ s, s < 40 → W.okS s) ∧ ∀ a, a < 40 → ∀ b, b < 40 → W.σ a = W.σ b → a = b
theorem q_cm_cong {m m' : Nat → Int32} {n : Nat} (h : ∀ p, p < n → m p = m' p) : q_cm m n = q_cm m' n := by
  induction n with
  | zero => rfl
  | succ n ih =>
    show q_cm m n + _ = q_cm m' n + _
    rw [ih fun p hp => h p (by omega), h n (by omega)]
theorem q_okS_cong {W X : q_W} {s r : Nat} (hp : X.pn r = W.pn s) (hm : ∀ p, p < W.pn s → X.mn r p = W.mn s p) (h : W.okS s) : X.okS r := by
  obtain ⟨h1, h2⟩ := h
  refine ⟨fun p hp2 => ?_, ?_⟩
  · rw [hp] at hp2
    rw [hm p hp2]; exact h1 p hp2
  · show q_cm (X.mn r) (X.pn r) ≤ 240
    rw [hp, q_cm_cong hm]; exact h2
/-- what a copy of the State at A to B leaves -/
def q_cpd (h h' : q_Hp) (B : Nat) (W W' : q_W) : Prop :=
  h'.R = h.R ∧ h'.J = h.J ∧ h'.E = h.E ∧ h'.n = h.n ∧ (∀ p, p < B ∨ B + 131 ≤ p → h'.I p = h.I p) ∧ ∃ X, q_vB B h'.I h'.R X ∧ q_eqv W X ∧ q_ok0 X
theorem q_copied {h g : q_Hp} {A B : Nat} {W W' : q_W} (hap : q_ap A B) (VA : q_vB A h.I h.R W) (VB : q_vB B h.I h.R W') (oA : q_ok0 W) (oB : q_ok0 W') {h1 h2 h3 h4 h5 : q_Hp}
    (e1 : h1 = h.setI B 0 (nI W.t)) (e2 : h2 = ((h1.rowI (B + 2) (q_cpy (h1.I (A + 2)) (h1.I (B + 2)) 10)).rowI (B + 3) (q_cpy (h1.I (A + 3)) (h1.I (B + 3)) 10)).setI (B + 1) 2 (h1.I (A + 1) 2))
    (e3 : h3 = (h2.rowI (B + 5) (q_cpy (h2.I (A + 5)) (h2.I (B + 5)) 6)).rowI (B + 6) (q_cpy (h2.I (A + 6)) (h2.I (B + 6)) 6)) (cs : q_cs h3 g B W W' W.c)
    (e4 : h4 = (g.setI (B + 7) 1 (nI W.c)).setI (B + 7) 2 W.nx)
    (e5 : h5 = (((h4.setI (B + 129) 0 (nI W.pe)).setI (B + 129) 1 (h4.I (A + 129) 1)).setI (B + 129) 2 (nI W.pc)).rowI (B + 130) (q_cpy (h4.I (A + 130)) (h4.I (B + 130)) W.pc)) : q_cpd h h5 B W W' := by
  unfold q_ap at hap
  obtain ⟨c1, c2, c3, c4, c5, c6, c7⟩ := cs
  have f5 : ∀ p, p ≠ B + 129 → p ≠ B + 130 → h5.I p = h4.I p := fun p a b => by rw [e5, q_rIn _ _ b, q_sIn _ _ _ a, q_sIn _ _ _ a, q_sIn _ _ _ a]
  have f4 : ∀ p, p ≠ B + 7 → h4.I p = g.I p := fun p a => by rw [e4, q_sIn _ _ _ a, q_sIn _ _ _ a]
  have f3 : ∀ p, p ≠ B + 5 → p ≠ B + 6 → h3.I p = h2.I p := fun p a b => by rw [e3, q_rIn _ _ b, q_rIn _ _ a]
  have f2 : ∀ p, p ≠ B + 1 → p ≠ B + 2 → p ≠ B + 3 → h2.I p = h1.I p := fun p a b c => by rw [e2, q_sIn _ _ _ a, q_rIn _ _ c, q_rIn _ _ b]
  have f1 : ∀ p, p ≠ B → h1.I p = h.I p := fun p a => by rw [e1, q_sIn _ _ _ a]
  have r3 : h3.R = h.R := by rw [e3, e2, e1]; rfl
  have hR : h5.R = h.R := by rw [e5, e4]; exact c1.trans r3
  have out : ∀ p, p < B ∨ B + 131 ≤ p → h5.I p = h.I p := fun p hp => by
    rw [f5 p (by omega) (by omega), f4 p (by omega), c5 p (by omega), f3 p (by omega) (by omega), f2 p (by omega) (by omega) (by omega), f1 p (by omega)]
  have hIA : ∀ p, A ≤ p → p < A + 131 → h1.I p = h.I p ∧ h2.I p = h.I p ∧ h4.I p = h.I p := fun p a b => by
    have q1 := f1 p (by omega)
    have q2 := f2 p (by omega) (by omega) (by omega)
    have q3 := f3 p (by omega) (by omega)
    have q4 := c5 p (by omega)
    have q5 := f4 p (by omega)
    exact ⟨q1, by rw [q2, q1], by rw [q5, q4, q3, q2, q1]⟩
  obtain ⟨a1, a2, a3, a4, a5, a6, a7, a8, a9, a10, a11, a12, a13, a14, a15, a16, a17, a18, a19, a20⟩ := id VA
  obtain ⟨b1, b2, b3, b4, b5, b6, b7, b8, b9, b10, b11, b12, b13, b14, b15, b16, b17, b18, b19, b20⟩ := id VB
  have sess : ∀ p, B + 9 ≤ p → p < B + 129 → h5.I p = g.I p := fun p a b => by rw [f5 p (by omega) (by omega), f4 p (by omega)]
  have base : ∀ p, B + 9 ≤ p → p < B + 129 → h3.I p = h.I p := fun p a b => by rw [f3 p (by omega) (by omega), f2 p (by omega) (by omega) (by omega), f1 p (by omega)]
  have key : ∀ s, s < 40 → (∃ i, i < W.c ∧ W'.σ i = s ∧ q_se B h5.I s W (W.σ i)) ∨ (h5.I (B + 9 + 3 * s) 0 = W'.id s ∧ h5.I (B + 9 + 3 * s) 1 = nI (W'.dy s) ∧ h5.I (B + 9 + 3 * s) 2 = nI (W'.pn s) ∧ h5.I (B + 10 + 3 * s) = W'.mn s ∧ h5.I (B + 11 + 3 * s) = W'.it s) := by
    intro s hs
    by_cases hex : ∃ i, i < W.c ∧ W'.σ i = s
    · obtain ⟨i, hi, e⟩ := hex
      subst e
      refine Or.inl ⟨i, hi, rfl, ?_⟩
      have := c6 i hi
      unfold q_se at this ⊢
      rw [sess _ (by omega) (by omega), sess (B + 10 + 3 * W'.σ i) (by omega) (by omega), sess (B + 11 + 3 * W'.σ i) (by omega) (by omega)]
      exact this
    · have h7 := c7 s hs fun k hk e => hex ⟨k, hk, e⟩
      have hb := b13 s hs
      rw [sess _ (by omega) (by omega), sess (B + 10 + 3 * s) (by omega) (by omega), sess (B + 11 + 3 * s) (by omega) (by omega), h7.1, h7.2.1, h7.2.2, base _ (by omega) (by omega), base (B + 10 + 3 * s) (by omega) (by omega), base (B + 11 + 3 * s) (by omega) (by omega)]
      exact Or.inr ⟨hb.1, hb.2.1, hb.2.2.2.1, hb.2.2.2.2.2.1, hb.2.2.2.2.2.2⟩
  refine ⟨hR, by rw [e5, e4]; show g.J = _; rw [c2, e3, e2, e1]; rfl, by rw [e5, e4]; show g.E = _; rw [c3, e3, e2, e1]; rfl, by rw [e5, e4]; show g.n = _; rw [c4, e3, e2, e1]; rfl, out, ?_⟩
  refine ⟨(W.t, (W.n, h5.I (B + 2), h5.I (B + 3)), (h5.I (B + 5), h5.I (B + 6)), (W.c, W.nx, W'.σ, (fun s => h5.I (B + 9 + 3 * s) 0), (fun s => (h5.I (B + 9 + 3 * s) 1).toNatClampNeg), (fun s => (h5.I (B + 9 + 3 * s) 2).toNatClampNeg), (fun s => h5.I (B + 10 + 3 * s)), fun s => h5.I (B + 11 + 3 * s)), (W.pe, W.pf, W.pc, h5.I (B + 130))), ?_, ?_, ?_, oB.2⟩
  · refine ⟨?_, a2, ?_, a4, rfl, rfl, rfl, rfl, ?_, a10, ?_, ?_, ?_, ?_, a15, ?_, a17, ?_, a19, rfl⟩
    · rw [f5 B (by omega) (by omega), f4 B (by omega), c5 B (by omega), f3 B (by omega) (by omega), f2 B (by omega) (by omega) (by omega), e1, q_sI, va_us]; rfl
    · rw [f5 _ (by omega) (by omega), f4 _ (by omega), c5 _ (by omega), f3 _ (by omega) (by omega), e2, q_sI, va_us, (hIA _ (by omega) (by omega)).1]; exact a3
    · rw [f5 _ (by omega) (by omega), e4, q_sI, va_un _ _ (by decide), q_sI, va_us]; rfl
    · rw [f5 _ (by omega) (by omega), e4, q_sI, va_us]; rfl
    · intro i hi
      rw [hR]
      exact b12 i hi
    · intro s hs
      rcases key s hs with ⟨i, hi, e, k1, k2, k3, k4⟩ | ⟨k1, k2, k3, k4, k5⟩
      · have hsi := (a12 i (by omega)).2
        have ha := a13 _ hsi
        refine ⟨rfl, ?_, ?_, ?_, ?_, rfl, rfl⟩
        · show _ = nI (_ : Int32).toNatClampNeg
          rw [k2, nI_clamp (by omega)]
        · show (_ : Int32).toNatClampNeg ≤ 199
          rw [k2, nI_clamp (by omega)]; omega
        · show _ = nI (_ : Int32).toNatClampNeg
          rw [k3, nI_clamp (by omega)]
        · show (_ : Int32).toNatClampNeg ≤ 8
          rw [k3, nI_clamp (by omega)]; omega
      · have hb := b13 s hs
        refine ⟨rfl, ?_, ?_, ?_, ?_, rfl, rfl⟩
        · show _ = nI (_ : Int32).toNatClampNeg
          rw [k2, nI_clamp (by omega)]
        · show (_ : Int32).toNatClampNeg ≤ 199
          rw [k2, nI_clamp (by omega)]; omega
        · show _ = nI (_ : Int32).toNatClampNeg
          rw [k3, nI_clamp (by omega)]
        · show (_ : Int32).toNatClampNeg ≤ 8
          rw [k3, nI_clamp (by omega)]; omega
    · rw [e5, q_rIn _ _ (by omega), q_sI, va_un _ _ (by decide), q_sI, va_un _ _ (by decide), q_sI, va_us]; rfl
    · rw [e5, q_rIn _ _ (by omega), q_sI, va_un _ _ (by decide), q_sI, va_us, (hIA _ (by omega) (by omega)).2.2]; exact a16
    · rw [e5, q_rIn _ _ (by omega), q_sI, va_us]; rfl
  · refine ⟨rfl, rfl, fun k hk => ⟨?_, ?_⟩, fun k hk => ⟨?_, ?_⟩, rfl, rfl, fun i hi => ?_, rfl, rfl, rfl, fun e he => ?_⟩
    · show h5.I (B + 2) k = _
      rw [f5 _ (by omega) (by omega), f4 _ (by omega), c5 _ (by omega), f3 _ (by omega) (by omega), e2, q_sIn _ _ _ (by omega), q_rIn _ _ (by omega), q_rI, q_cpy_lt _ _ hk, (hIA _ (by omega) (by omega)).1]; exact congrFun a5 k
    · show h5.I (B + 3) k = _
      rw [f5 _ (by omega) (by omega), f4 _ (by omega), c5 _ (by omega), f3 _ (by omega) (by omega), e2, q_sIn _ _ _ (by omega), q_rI, q_cpy_lt _ _ hk, (hIA _ (by omega) (by omega)).1]; exact congrFun a6 k
    · show h5.I (B + 5) k = _
      rw [f5 _ (by omega) (by omega), f4 _ (by omega), c5 _ (by omega), e3, q_rIn _ _ (by omega), q_rI, q_cpy_lt _ _ hk, (hIA _ (by omega) (by omega)).2.1]; exact congrFun a7 k
    · show h5.I (B + 6) k = _
      rw [f5 _ (by omega) (by omega), f4 _ (by omega), c5 _ (by omega), e3, q_rI, q_cpy_lt _ _ hk, (hIA _ (by omega) (by omega)).2.1]; exact congrFun a8 k
    · have hsi := (a12 i (by omega)).2
      have hri := (b12 i (by omega)).2
      rcases key (W'.σ i) hri with ⟨i2, hi2, e, k1, k2, k3, k4⟩ | hbad
      · have e2 := oB.2 i2 (by omega) i (by omega) e
        subst e2
        have ha := a13 _ hsi
        refine ⟨k1, ?_, ?_, k4⟩
        · show (h5.I (B + 9 + 3 * W'.σ i2) 1).toNatClampNeg = _
          rw [k2, nI_clamp (by omega)]
        · show (h5.I (B + 9 + 3 * W'.σ i2) 2).toNatClampNeg = _
          rw [k3, nI_clamp (by omega)]
      · have := c6 i hi
        unfold q_se at this
        rw [← sess _ (by omega) (by omega), ← sess (B + 10 + 3 * W'.σ i) (by omega) (by omega), ← sess (B + 11 + 3 * W'.σ i) (by omega) (by omega)] at this
        obtain ⟨k1, k2, k3, k4⟩ := this
        have ha := a13 _ hsi
        refine ⟨k1, ?_, ?_, k4⟩
        · show (h5.I (B + 9 + 3 * W'.σ i) 1).toNatClampNeg = _
          rw [k2, nI_clamp (by omega)]
        · show (h5.I (B + 9 + 3 * W'.σ i) 2).toNatClampNeg = _
          rw [k3, nI_clamp (by omega)]
    · show h5.I (B + 130) e = _
      rw [e5, q_rI, q_cpy_lt _ _ he, (hIA _ (by omega) (by omega)).2.2]; exact congrFun a20 e
  · intro s hs
    rcases key s hs with ⟨i, hi, e, k1, k2, k3, k4⟩ | ⟨k1, k2, k3, k4, k5⟩
    · have hsi := (a12 i (by omega)).2
      have ha := a13 _ hsi
      exact q_okS_cong (W := W) (s := W.σ i) (show (_ : Int32).toNatClampNeg = _ by rw [k3, nI_clamp (by omega)]) (fun p hp => (k4 p hp).1) (oA.1 _ hsi)
    · have hb := b13 s hs
      exact q_okS_cong (W := W') (s := s) (show (_ : Int32).toNatClampNeg = _ by rw [k3, nI_clamp (by omega)]) (fun p hp => congrFun k4 p) (oB.1 s hs)
theorem g_X4_copyFrom {Φ : q_Fx} {h : q_Hp} (K : q_Lk Φ h.R h.n) {A B : Nat} (hAk : q_bk A) (hBk : q_bk B) (hap : q_ap A B) {W W' : q_W} (VA : q_vS A h.I h.R W) (lB : ∀ i, i < 40 → h.R (B + 8) i = some (B + 9 + 3 * W'.σ i)) (sB : ∀ i, i < 40 → W'.σ i < 40) (inj : ∀ a, a < 40 → ∀ b, b < 40 → W'.σ a = W'.σ b → a = b) : q_Ct Φ false yX4_copyFrom cX4_copyFrom mX4_copyFrom [.ref (B + 7), .ref (A + 7)] h (q_ex (fun v h' => v = none ∧ ∃ g, q_cs h g B W W' W.c ∧ h' = (g.setI (B + 7) 1 (nI W.c)).setI (B + 7) 2 W.nx)) := by
  refine q_enter K.st rfl rfl (by decide) rfl (Nat.le_of_ble_eq_true rfl) (L := [_, _, none]) rfl ?_
  have hap0 := hap
  have hA := hAk
  have hB := hBk
  unfold q_ap at hap
  have hc := VA.2.1
  refine q_iconst (v := nI 0) dX4_copyFrom_0 (by decide) ?_
  refine q_istore_n (L' := [_, _, _]) dX4_copyFrom_1 rfl (by decide) rfl ?_
  refine q_loop (ι := Nat × q_Hp) (μ := fun x => W.c - x.1) (P := fun x => x.1 ≤ W.c ∧ q_cs h x.2 B W W' x.1) (Lf := fun x => [some (.ref (B + 7)), some (.ref (A + 7)), some (.int (nI (x.1)))]) (hf := fun x => x.2) (fun x hi2 ih2 => ?_) (0, h) (⟨Nat.zero_le _, q_cs.zero h B W W'⟩) (q_sub_s rfl (q_sub_s rfl (q_sub_i rfl q_sub_0))) rfl
  skip
  obtain ⟨hi, hcs⟩ := hi2
  have K : q_Lk Φ x.2.R x.2.n := by rw [hcs.1, hcs.2.2.2.1]; exact K
  refine q_iload_n dX4_copyFrom_2 rfl ?_
  refine q_aload_n dX4_copyFrom_3 rfl ?_
  refine fIX4_17 dX4_copyFrom_4 (q_tb hA 7 4 (by decide) rfl) (q_b1 hA _) (K.le (q_bn hA 7 (by decide))) ?_
  refine q_tv (show _ = (nI (W.c)) from ((congrFun (hcs.2.2.2.2.1 _ (by omega)) _).trans VA.1)) ?_
  refine q_icmp_geN (by omega) (by omega) (tgt := 31) dX4_copyFrom_7 rfl (fun c1 => ?_) (fun c2 => ?_)
  · refine q_aload_n dX4_copyFrom_31 rfl ?_
    refine q_aload_n dX4_copyFrom_32 rfl ?_
    refine fIX4_17 dX4_copyFrom_33 (q_tb hA 7 4 (by decide) rfl) (q_b1 hA _) (K.le (q_bn hA 7 (by decide))) ?_
    refine q_tv (show _ = (nI (W.c)) from ((congrFun (hcs.2.2.2.2.1 _ (by omega)) _).trans VA.1)) ?_
    refine pIX4_17 dX4_copyFrom_36 (q_tb hB 7 4 (by decide) rfl) (q_b1 hB _) (K.le (q_bn hB 7 (by decide))) ?_
    refine q_aload_n dX4_copyFrom_39 rfl ?_
    refine q_aload_n dX4_copyFrom_40 rfl ?_
    refine fIX4_21 dX4_copyFrom_41 (q_tb hA 7 4 (by decide) rfl) (q_b1 hA _) (K.le (q_bn hA 7 (by decide))) ?_
    refine q_tv (show _ = W.nx from ((congrFun (q_sIn _ _ _ (by omega)) _).trans ((congrFun (hcs.2.2.2.2.1 _ (by omega)) _).trans VA.2.2.1))) ?_
    refine pIX4_21 dX4_copyFrom_44 (q_tb hB 7 4 (by decide) rfl) (q_b1 hB _) (K.le (q_bn hB 7 (by decide))) ?_
    refine q_vret dX4_copyFrom_47 rfl (Or.inl rfl) ?_
    have e : x.1 = W.c := by omega
    exact ⟨_, rfl, rfl, x.2, by rw [← e]; exact hcs, rfl⟩
  · refine q_aload_n dX4_copyFrom_10 rfl ?_
    refine fRX4_11 (o := some (B + 8)) dX4_copyFrom_11 (q_tb hB 7 4 (by decide) rfl) (q_b1 hB _) (K.le (q_bn hB 7 (by decide))) (K.lk (q_lkb hB 7 0 8 (by decide) rfl)) ?_
    refine q_rfS ?_
    refine q_iload_n dX4_copyFrom_14 rfl ?_
    refine q_aaldN (len := 40) (o := some (B + 9 + 3 * W'.σ (x.1))) (q_n13 hB) (q_n16 hB) dX4_copyFrom_15 (q_b1 hB _) (K.le (q_bn hB 8 (by decide))) (q_lb hB 8 40 (by decide) rfl) (by omega) (by decide) (by rw [hcs.1]; exact lB _ (by omega)) ?_
    refine q_rfS ?_
    refine q_aload_n dX4_copyFrom_16 rfl ?_
    refine fRX4_11 (o := some (A + 8)) dX4_copyFrom_17 (q_tb hA 7 4 (by decide) rfl) (q_b1 hA _) (K.le (q_bn hA 7 (by decide))) (K.lk (q_lkb hA 7 0 8 (by decide) rfl)) ?_
    refine q_rfS ?_
    refine q_iload_n dX4_copyFrom_20 rfl ?_
    refine q_aaldN (len := 40) (o := some (A + 9 + 3 * W.σ (x.1))) (q_n13 hA) (q_n16 hA) dX4_copyFrom_21 (q_b1 hA _) (K.le (q_bn hA 8 (by decide))) (q_lb hA 8 40 (by decide) rfl) (by omega) (by decide) (by rw [hcs.1]; exact (VA.2.2.2.1 _ (by omega)).1) ?_
    refine q_rfS ?_
    refine q_vD (kc := 0) (ks := 0) (g_X3_copyFrom (h := x.2) K hAk hBk hap0 (s := W.σ x.1) (r := W'.σ x.1) (pn := W.pn (W.σ x.1)) (VA.2.2.2.1 _ (by omega)).2 (sB _ (by omega)) ((congrFun (hcs.2.2.2.2.1 _ (by have := (VA.2.2.2.1 x.1 (by omega)).2; omega)) _).trans (VA.2.2.2.2 _ (VA.2.2.2.1 _ (by omega)).2).2.2.2.1) (VA.2.2.2.2 _ (VA.2.2.2.1 _ (by omega)).2).2.2.2.2.1) wX3_copyFrom kX4_25 iX3_copyFrom eX3_copyFrom (q_tbs hB (sB _ (by omega))) rfl (by omega) (K.le (q_bns hB (sB _ (by omega)))) (by decide) rfl rfl (Nat.le_of_ble_eq_true rfl) dX4_copyFrom_22 rfl rfl ?_
    refine q_iincN (n := 1) (L' := [_, _, _]) (by decide) dX4_copyFrom_25 rfl rfl (by decide) rfl ?_
    refine q_goto (tgt := 2) dX4_copyFrom_28 rfl ?_
    exact q_to (ih2 (x.1 + 1, q_scp x.2 A B (W.σ x.1) (W'.σ x.1) (W.pn (W.σ x.1))) (⟨by show x.1 + 1 ≤ W.c; omega, hcs.step hap0 VA inj sB (by omega)⟩) (by show W.c - (x.1 + 1) < W.c - x.1; omega)) (q_sub_s rfl (q_sub_s rfl (q_sub_i rfl q_sub_0))) rfl
theorem g_X5_copyFrom {Φ : q_Fx} {h : q_Hp} (K : q_Lk Φ h.R h.n) {A B : Nat} (hAk : q_bk A) (hBk : q_bk B) (hap : q_ap A B) {W W' : q_W} (VA : q_vB A h.I h.R W) (VB : q_vB B h.I h.R W') (oA : q_ok0 W) (oB : q_ok0 W') : q_Ct Φ false yX5_copyFrom cX5_copyFrom mX5_copyFrom [.ref B, .ref A] h (q_ex (fun v h' => v = none ∧ q_cpd h h' B W W')) := by
  refine q_enter K.st rfl rfl (by decide) rfl (Nat.le_of_ble_eq_true rfl) (L := [_, _]) rfl ?_
  have hap0 := hap
  have hA := hAk
  have hB := hBk
  unfold q_ap at hap
  refine q_aload_n dX5_copyFrom_0 rfl ?_
  refine q_aload_n dX5_copyFrom_1 rfl ?_
  refine fIX5_7 dX5_copyFrom_2 (q_tb hA 0 5 (by decide) rfl) (q_b1 hA 0) (K.le (q_bn hA 0 (by decide))) ?_
  refine q_tv (show _ = (nI (W.t)) from VA.1) ?_
  refine pIX5_7 dX5_copyFrom_5 (q_tb hB 0 5 (by decide) rfl) (q_b1 hB 0) (K.le (q_bn hB 0 (by decide))) ?_
  obtain ⟨h1, e1⟩ : ∃ x, x = h.setI B 0 (nI W.t) := ⟨_, rfl⟩
  rw [← e1]
  have K : q_Lk Φ h1.R h1.n := by rw [e1]; exact K
  refine q_aload_n dX5_copyFrom_8 rfl ?_
  refine fRX5_16 (o := some (B + 1)) dX5_copyFrom_9 (q_tb hB 0 5 (by decide) rfl) (q_b1 hB 0) (K.le (q_bn hB 0 (by decide))) (K.lk (q_lkb hB 0 1 1 (by decide) rfl)) ?_
  refine q_rfS ?_
  refine q_aload_n dX5_copyFrom_12 rfl ?_
  refine fRX5_16 (o := some (A + 1)) dX5_copyFrom_13 (q_tb hA 0 5 (by decide) rfl) (q_b1 hA 0) (K.le (q_bn hA 0 (by decide))) (K.lk (q_lkb hA 0 1 1 (by decide) rfl)) ?_
  refine q_rfS ?_
  refine q_vD (kc := 0) (ks := 0) (g_X6_copyFrom (h := h1) K hAk hBk hap0) wX6_copyFrom kX5_41 iX6_copyFrom eX6_copyFrom (q_tb hB 1 6 (by decide) rfl) rfl (q_b1 hB _) (K.le (q_bn hB 1 (by decide))) (by decide) rfl rfl (Nat.le_of_ble_eq_true rfl) dX5_copyFrom_16 rfl rfl ?_
  obtain ⟨h2, e2⟩ : ∃ x, x = ((h1.rowI (B + 2) (q_cpy (h1.I (A + 2)) (h1.I (B + 2)) 10)).rowI (B + 3) (q_cpy (h1.I (A + 3)) (h1.I (B + 3)) 10)).setI (B + 1) 2 (h1.I (A + 1) 2) := ⟨_, rfl⟩
  rw [← e2]
  have K : q_Lk Φ h2.R h2.n := by rw [e2]; exact K
  refine q_aload_n dX5_copyFrom_19 rfl ?_
  refine fRX5_23 (o := some (B + 4)) dX5_copyFrom_20 (q_tb hB 0 5 (by decide) rfl) (q_b1 hB 0) (K.le (q_bn hB 0 (by decide))) (K.lk (q_lkb hB 0 2 4 (by decide) rfl)) ?_
  refine q_rfS ?_
  refine q_aload_n dX5_copyFrom_23 rfl ?_
  refine fRX5_23 (o := some (A + 4)) dX5_copyFrom_24 (q_tb hA 0 5 (by decide) rfl) (q_b1 hA 0) (K.le (q_bn hA 0 (by decide))) (K.lk (q_lkb hA 0 2 4 (by decide) rfl)) ?_
  refine q_rfS ?_
  refine q_vD (kc := 0) (ks := 0) (g_X8_copyFrom (h := h2) K hAk hBk hap0) wX8_copyFrom kX5_45 iX8_copyFrom eX8_copyFrom (q_tb hB 4 8 (by decide) rfl) rfl (q_b1 hB _) (K.le (q_bn hB 4 (by decide))) (by decide) rfl rfl (Nat.le_of_ble_eq_true rfl) dX5_copyFrom_27 rfl rfl ?_
  obtain ⟨h3, e3⟩ : ∃ x, x = (h2.rowI (B + 5) (q_cpy (h2.I (A + 5)) (h2.I (B + 5)) 6)).rowI (B + 6) (q_cpy (h2.I (A + 6)) (h2.I (B + 6)) 6) := ⟨_, rfl⟩
  rw [← e3]
  have K : q_Lk Φ h3.R h3.n := by rw [e3]; exact K
  refine q_aload_n dX5_copyFrom_30 rfl ?_
  refine fRX5_30 (o := some (B + 7)) dX5_copyFrom_31 (q_tb hB 0 5 (by decide) rfl) (q_b1 hB 0) (K.le (q_bn hB 0 (by decide))) (K.lk (q_lkb hB 0 3 7 (by decide) rfl)) ?_
  refine q_rfS ?_
  refine q_aload_n dX5_copyFrom_34 rfl ?_
  refine fRX5_30 (o := some (A + 7)) dX5_copyFrom_35 (q_tb hA 0 5 (by decide) rfl) (q_b1 hA 0) (K.le (q_bn hA 0 (by decide))) (K.lk (q_lkb hA 0 3 7 (by decide) rfl)) ?_
  refine q_rfS ?_
  have hR3 : h3.R = h.R := by rw [e3, e2, e1]; rfl
  have hI3 : ∀ p, A ≤ p → p < A + 131 → h3.I p = h.I p := fun p a b => by rw [e3, q_rIn _ _ (by omega), q_rIn _ _ (by omega), e2, q_sIn _ _ _ (by omega), q_rIn _ _ (by omega), q_rIn _ _ (by omega), e1, q_sIn _ _ _ (by omega)]
  have hVS3 : q_vS A h3.I h3.R W := VA.ss.cong (fun p a b => hI3 p (by omega) (by omega)) hR3
  refine q_vR (kc := 0) (ks := 0) (g_X4_copyFrom (h := h3) K hAk hBk hap0 (W := W) (W' := W') hVS3 (by rw [hR3]; exact fun i hi => (VB.ss.2.2.2.1 i hi).1) (fun i hi => (VB.ss.2.2.2.1 i hi).2) oB.2) wX4_copyFrom kX5_48 iX4_copyFrom eX4_copyFrom (q_tb hB 7 4 (by decide) rfl) rfl (q_b1 hB _) (K.le (q_bn hB 7 (by decide))) (by decide) rfl rfl (Nat.le_of_ble_eq_true rfl) dX5_copyFrom_38 rfl rfl ?_
  rintro v h' ⟨rfl, g, cs, e4'⟩
  obtain ⟨h4, e4⟩ : ∃ x, x = h' := ⟨_, rfl⟩
  rw [← e4]
  rw [← e4] at e4'
  have K : q_Lk Φ h4.R h4.n := by rw [e4']; show q_Lk Φ g.R g.n; rw [cs.1, cs.2.2.2.1]; exact K
  have hI4 : h4.I (A + 129) = h.I (A + 129) := by rw [e4', q_sIn _ _ _ (by omega), q_sIn _ _ _ (by omega), cs.2.2.2.2.1 _ (by omega), hI3 _ (by omega) (by omega)]
  refine q_aload_n dX5_copyFrom_41 rfl ?_
  refine fRX5_37 (o := some (B + 129)) dX5_copyFrom_42 (q_tb hB 0 5 (by decide) rfl) (q_b1 hB 0) (K.le (q_bn hB 0 (by decide))) (K.lk (q_lkb hB 0 4 129 (by decide) rfl)) ?_
  refine q_rfS ?_
  refine q_aload_n dX5_copyFrom_45 rfl ?_
  refine fRX5_37 (o := some (A + 129)) dX5_copyFrom_46 (q_tb hA 0 5 (by decide) rfl) (q_b1 hA 0) (K.le (q_bn hA 0 (by decide))) (K.lk (q_lkb hA 0 4 129 (by decide) rfl)) ?_
  refine q_rfS ?_
  refine q_vD (kc := 0) (ks := 0) (g_X2_copyFrom (h := h4) K hAk hBk hap0 (pe := W.pe) (pc := W.pc) (by rw [hI4]; exact VA.2.2.2.2.2.2.2.2.2.2.2.2.2.1) VA.2.2.2.2.2.2.2.2.2.2.2.2.2.2.1 (by rw [hI4]; exact VA.2.2.2.2.2.2.2.2.2.2.2.2.2.2.2.2.2.1) VA.2.2.2.2.2.2.2.2.2.2.2.2.2.2.2.2.2.2.1) wX2_copyFrom kX5_51 iX2_copyFrom eX2_copyFrom (q_tb hB 129 2 (by decide) rfl) rfl (q_b1 hB _) (K.le (q_bn hB 129 (by decide))) (by decide) rfl rfl (Nat.le_of_ble_eq_true rfl) dX5_copyFrom_49 rfl rfl ?_
  refine q_vret dX5_copyFrom_52 rfl (Or.inl rfl) ?_
  exact ⟨_, rfl, rfl, q_copied hap0 VA VB oA oB e1 e2 e3 cs e4' rfl⟩
