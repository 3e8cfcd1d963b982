/-! THE REFERENCE'S FACE: CHANGES -/
def q_hA (r : Nat → Int32) (t : Nat) : Prop := r 0 = nI t ∧ t ≤ 199
def q_hT (r : Nat → Int32) (n : Nat) (d v : Nat → Int32) : Prop := r 3 = nI n ∧ n ≤ 10 ∧ ∀ k, k < 10 → r (20 + 2 * k) = d k ∧ r (21 + 2 * k) = v k
def q_hZ (r : Nat → Int32) (bd wt : Nat → Int32) : Prop := ∀ z, z < 6 → r (8 + z) = bd z ∧ r (14 + z) = wt z
def q_hP (r : Nat → Int32) (pe pf pc : Nat) (tg : Nat → Int32) : Prop := r 4 = nI pe ∧ pe ≤ 1 ∧ r 5 = nI pf ∧ pf ≤ 199 ∧ r 6 = nI pc ∧ pc ≤ 28 ∧ ∀ e, e < 28 → r (40 + e) = tg e
def q_hS (r : Nat → Int32) (c : Nat) (nx : Int32) (id : Nat → Int32) (dy pn : Nat → Nat) (mn it : Nat → Nat → Int32) : Prop :=
  r 1 = nx ∧ r 2 = nI c ∧ c ≤ 40 ∧ ∀ k, k < 40 → r (70 + 19 * k) = id k ∧ r (71 + 19 * k) = nI (dy k) ∧ dy k ≤ 199 ∧ r (72 + 19 * k) = nI (pn k) ∧ pn k ≤ 8 ∧ ∀ p, p < 8 → r (73 + 19 * k + p) = mn k p ∧ r (81 + 19 * k + p) = it k p
theorem q_rw.mk {r : Nat → Int32} {t n c pe pf pc : Nat} {d v bd wt id tg : Nat → Int32} {nx : Int32} {σ dy pn : Nat → Nat} {mn it : Nat → Nat → Int32} (a : q_hA r t) (b : q_hT r n d v) (z : q_hZ r bd wt) (s : q_hS r c nx id dy pn mn it) (p : q_hP r pe pf pc tg) :
    q_rw r (t, (n, d, v), (bd, wt), (c, nx, σ, id, dy, pn, mn, it), (pe, pf, pc, tg)) :=
  ⟨a.1, a.2, s.1, s.2.1, s.2.2.1, b.1, b.2.1, p.1, p.2.1, p.2.2.1, p.2.2.2.1, p.2.2.2.2.1, p.2.2.2.2.2.1, z, b.2.2, p.2.2.2.2.2.2, s.2.2.2⟩
theorem q_rw.hA {r : Nat → Int32} {m : q_W} (M : q_rw r m) : q_hA r m.t := ⟨M.t, M.t9⟩
theorem q_rw.hT {r : Nat → Int32} {m : q_W} (M : q_rw r m) : q_hT r m.n m.d m.v := ⟨M.n, M.n10, fun _ hk => ⟨M.d hk, M.v hk⟩⟩
theorem q_rw.hZ {r : Nat → Int32} {m : q_W} (M : q_rw r m) : q_hZ r m.bd m.wt := fun _ hz => ⟨M.bd hz, M.wt hz⟩
theorem q_rw.hP {r : Nat → Int32} {m : q_W} (M : q_rw r m) : q_hP r m.pe m.pf m.pc m.tg := ⟨M.pe, M.pe1, M.pf, M.pf9, M.pc, M.pc28, fun _ he => M.tg he⟩
theorem q_rw.hS {r : Nat → Int32} {m : q_W} (M : q_rw r m) : q_hS r m.c m.nx m.id m.dy m.pn m.mn m.it := ⟨M.nx, M.c, M.c40, fun _ hk => ⟨M.id hk, M.dy hk, M.dy9 hk, M.pn hk, M.pn8 hk, fun _ hp => ⟨M.mn hk hp, M.it hk hp⟩⟩⟩
theorem q_hA.cong {r r' : Nat → Int32} {t : Nat} (g : q_hA r t) (e : r' 0 = r 0) : q_hA r' t := ⟨e.trans g.1, g.2⟩
theorem q_hT.cong {r r' : Nat → Int32} {n : Nat} {d v : Nat → Int32} (g : q_hT r n d v) (e : ∀ k, k = 3 ∨ (20 ≤ k ∧ k < 40) → r' k = r k) : q_hT r' n d v := ⟨(e 3 (by omega)).trans g.1, g.2.1, fun k hk => ⟨(e _ (by omega)).trans (g.2.2 k hk).1, (e _ (by omega)).trans (g.2.2 k hk).2⟩⟩
theorem q_hZ.cong {r r' : Nat → Int32} {b w : Nat → Int32} (g : q_hZ r b w) (e : ∀ k, 8 ≤ k ∧ k < 20 → r' k = r k) : q_hZ r' b w := fun z hz => ⟨(e _ (by omega)).trans (g z hz).1, (e _ (by omega)).trans (g z hz).2⟩
theorem q_hP.cong {r r' : Nat → Int32} {pe pf pc : Nat} {tg : Nat → Int32} (g : q_hP r pe pf pc tg) (e : ∀ k, (4 ≤ k ∧ k < 7) ∨ (40 ≤ k ∧ k < 68) → r' k = r k) : q_hP r' pe pf pc tg := ⟨(e _ (by omega)).trans g.1, g.2.1, (e _ (by omega)).trans g.2.2.1, g.2.2.2.1, (e _ (by omega)).trans g.2.2.2.2.1, g.2.2.2.2.2.1, fun x hx => (e _ (by omega)).trans (g.2.2.2.2.2.2 x hx)⟩
theorem q_hS.cong {r r' : Nat → Int32} {c : Nat} {nx : Int32} {id : Nat → Int32} {dy pn : Nat → Nat} {mn it : Nat → Nat → Int32} (g : q_hS r c nx id dy pn mn it) (e : ∀ k, k = 1 ∨ k = 2 ∨ (70 ≤ k ∧ k < 830) → r' k = r k) : q_hS r' c nx id dy pn mn it :=
  ⟨(e _ (by omega)).trans g.1, (e _ (by omega)).trans g.2.1, g.2.2.1, fun k hk => by
    obtain ⟨a1, a2, a3, a4, a5, a6⟩ := g.2.2.2 k hk
    exact ⟨(e _ (by omega)).trans a1, (e _ (by omega)).trans a2, a3, (e _ (by omega)).trans a4, a5, fun p hp => ⟨(e _ (by omega)).trans (a6 p hp).1, (e _ (by omega)).trans (a6 p hp).2⟩⟩⟩
theorem q_rw.pass {r : Nat → Int32} {m : q_W} (M : q_rw r m) {t : Nat} (ht : t ≤ 199) : q_rw (va_up r 0 (nI t)) (m.sA t) :=
  q_rw.mk ⟨va_us _ _ _, ht⟩ (M.hT.cong fun k hk => va_un _ _ (by omega)) (M.hZ.cong fun k hk => va_un _ _ (by omega)) (M.hS.cong fun k hk => va_un _ _ (by omega)) (M.hP.cong fun k hk => va_un _ _ (by omega))
theorem q_rw.addT {r : Nat → Int32} {m : q_W} (M : q_rw r m) {x y : Int32} (hn : m.n < 10) : q_rw (va_up (va_up (va_up r (20 + 2 * m.n) x) (20 + 2 * m.n + 1) y) 3 (nI (m.n + 1))) (m.sT (m.n + 1) (va_up m.d m.n x) (va_up m.v m.n y)) := by
  have u : ∀ k, k ≠ 3 → k ≠ 20 + 2 * m.n → k ≠ 20 + 2 * m.n + 1 → va_up (va_up (va_up r (20 + 2 * m.n) x) (20 + 2 * m.n + 1) y) 3 (nI (m.n + 1)) k = r k := fun k a b c => by rw [va_un _ _ a, va_un _ _ c, va_un _ _ b]
  refine q_rw.mk (M.hA.cong (u _ (by omega) (by omega) (by omega))) ⟨va_us _ _ _, by omega, fun k hk => ?_⟩ (M.hZ.cong fun k hk => u _ (by omega) (by omega) (by omega)) (M.hS.cong fun k hk => u _ (by omega) (by omega) (by omega)) (M.hP.cong fun k hk => u _ (by omega) (by omega) (by omega))
  by_cases e : k = m.n
  · subst e
    refine ⟨?_, ?_⟩
    · rw [va_un _ _ (by omega), va_un _ _ (by omega), va_us, va_us]
    · rw [va_un _ _ (by omega), show 21 + 2 * m.n = 20 + 2 * m.n + 1 by omega, va_us, va_us]
  · rw [va_un _ _ e, va_un _ _ e]
    exact ⟨(u _ (by omega) (by omega) (by omega)).trans (M.d hk), (u _ (by omega) (by omega) (by omega)).trans (M.v hk)⟩
theorem q_rw.remT {r : Nat → Int32} {m : q_W} (M : q_rw r m) {i : Nat} (hi : i < m.n) : q_rw (va_up (va_up (va_up r 3 (nI (m.n - 1))) (20 + 2 * i) (m.d (m.n - 1))) (20 + 2 * i + 1) (m.v (m.n - 1))) (m.sT (m.n - 1) (va_up m.d i (m.d (m.n - 1))) (va_up m.v i (m.v (m.n - 1)))) := by
  have hn := M.n10
  have u : ∀ k, k ≠ 3 → k ≠ 20 + 2 * i → k ≠ 20 + 2 * i + 1 → va_up (va_up (va_up r 3 (nI (m.n - 1))) (20 + 2 * i) (m.d (m.n - 1))) (20 + 2 * i + 1) (m.v (m.n - 1)) k = r k := fun k a b c => by rw [va_un _ _ c, va_un _ _ b, va_un _ _ a]
  refine q_rw.mk (M.hA.cong (u _ (by omega) (by omega) (by omega))) ⟨by rw [va_un _ _ (by omega), va_un _ _ (by omega), va_us], by omega, fun k hk => ?_⟩ (M.hZ.cong fun k hk => u _ (by omega) (by omega) (by omega)) (M.hS.cong fun k hk => u _ (by omega) (by omega) (by omega)) (M.hP.cong fun k hk => u _ (by omega) (by omega) (by omega))
  by_cases e : k = i
  · subst e
    refine ⟨?_, ?_⟩
    · rw [va_un _ _ (by omega), va_us, va_us]
    · rw [show 21 + 2 * k = 20 + 2 * k + 1 by omega, va_us, va_us]
  · rw [va_un _ _ e, va_un _ _ e]
    exact ⟨(u _ (by omega) (by omega) (by omega)).trans (M.d hk), (u _ (by omega) (by omega) (by omega)).trans (M.v hk)⟩
theorem q_rw.bnd {r : Nat → Int32} {m : q_W} (M : q_rw r m) {z : Nat} {x : Int32} (hz : z < 6) : q_rw (va_up r (8 + z) x) (m.sZ (va_up m.bd z x) m.wt) :=
  q_rw.mk (M.hA.cong (va_un _ _ (by omega))) (M.hT.cong fun k hk => va_un _ _ (by omega)) (fun y hy => ⟨by
    by_cases e : y = z
    · subst e; rw [va_us, va_us]
    · rw [va_un _ _ e, va_un _ _ (by omega)]; exact M.bd hy, by rw [va_un _ _ (by omega)]; exact M.wt hy⟩) (M.hS.cong fun k hk => va_un _ _ (by omega)) (M.hP.cong fun k hk => va_un _ _ (by omega))
theorem q_rw.wgt {r : Nat → Int32} {m : q_W} (M : q_rw r m) {z : Nat} {x : Int32} (hz : z < 6) : q_rw (va_up r (14 + z) x) (m.sZ m.bd (va_up m.wt z x)) :=
  q_rw.mk (M.hA.cong (va_un _ _ (by omega))) (M.hT.cong fun k hk => va_un _ _ (by omega)) (fun y hy => ⟨by rw [va_un _ _ (by omega)]; exact M.bd hy, by
    by_cases e : y = z
    · subst e; rw [va_us, va_us]
    · rw [va_un _ _ e, va_un _ _ (by omega)]; exact M.wt hy⟩) (M.hS.cong fun k hk => va_un _ _ (by omega)) (M.hP.cong fun k hk => va_un _ _ (by omega))
theorem q_rw.plan {r : Nat → Int32} {m : q_W} (M : q_rw r m) : q_rw (va_up (va_up (va_up r 4 (nI 1)) 5 (nI m.t)) 6 (nI 0)) (m.sP 1 m.t 0 m.tg) := by
  have u : ∀ k, k ≠ 4 → k ≠ 5 → k ≠ 6 → va_up (va_up (va_up r 4 (nI 1)) 5 (nI m.t)) 6 (nI 0) k = r k := fun k a b c => by rw [va_un _ _ c, va_un _ _ b, va_un _ _ a]
  exact q_rw.mk (M.hA.cong (u _ (by omega) (by omega) (by omega))) (M.hT.cong fun k hk => u _ (by omega) (by omega) (by omega)) (M.hZ.cong fun k hk => u _ (by omega) (by omega) (by omega)) (M.hS.cong fun k hk => u _ (by omega) (by omega) (by omega)) ⟨by rw [va_un _ _ (by omega), va_un _ _ (by omega), va_us], by omega, by rw [va_un _ _ (by omega), va_us], M.t9, va_us _ _ _, by omega, fun e he => (u _ (by omega) (by omega) (by omega)).trans (M.tg he)⟩
theorem q_rw.targ {r : Nat → Int32} {m : q_W} (M : q_rw r m) {x : Int32} (hp : m.pc < 28) : q_rw (va_up (va_up r (40 + m.pc) x) 6 (nI (m.pc + 1))) (m.sP m.pe m.pf (m.pc + 1) (va_up m.tg m.pc x)) := by
  have u : ∀ k, k ≠ 6 → k ≠ 40 + m.pc → va_up (va_up r (40 + m.pc) x) 6 (nI (m.pc + 1)) k = r k := fun k a b => by rw [va_un _ _ a, va_un _ _ b]
  refine q_rw.mk (M.hA.cong (u _ (by omega) (by omega))) (M.hT.cong fun k hk => u _ (by omega) (by omega)) (M.hZ.cong fun k hk => u _ (by omega) (by omega)) (M.hS.cong fun k hk => u _ (by omega) (by omega)) ⟨(u _ (by omega) (by omega)).trans M.pe, M.pe1, (u _ (by omega) (by omega)).trans M.pf, M.pf9, va_us _ _ _, by omega, fun e he => ?_⟩
  by_cases e2 : e = m.pc
  · subst e2; rw [va_un _ _ (by omega), va_us, va_us]
  · rw [va_un _ _ e2]; exact (u _ (by omega) (by omega)).trans (M.tg he)
def q_W.adS (m : q_W) (d : Nat) : q_W := m.sS (m.c + 1) (m.nx + nI 1) m.σ (va_up m.id m.c m.nx) (va_up m.dy m.c d) (va_up m.pn m.c 0) m.mn m.it
theorem q_rw.adS {r : Nat → Int32} {m : q_W} (M : q_rw r m) {d : Nat} (hc : m.c < 40) (hd : d ≤ 199) : q_rw (va_up (va_up (va_up (va_up (va_up r (70 + 19 * m.c) m.nx) (70 + 19 * m.c + 1) (nI d)) (70 + 19 * m.c + 2) (nI 0)) 2 (nI (m.c + 1))) 1 (m.nx + nI 1)) (m.adS d) := by
  have u : ∀ k, k ≠ 1 → k ≠ 2 → k ≠ 70 + 19 * m.c → k ≠ 70 + 19 * m.c + 1 → k ≠ 70 + 19 * m.c + 2 → va_up (va_up (va_up (va_up (va_up r (70 + 19 * m.c) m.nx) (70 + 19 * m.c + 1) (nI d)) (70 + 19 * m.c + 2) (nI 0)) 2 (nI (m.c + 1))) 1 (m.nx + nI 1) k = r k := fun k a b c d e => by rw [va_un _ _ a, va_un _ _ b, va_un _ _ e, va_un _ _ d, va_un _ _ c]
  refine q_rw.mk (M.hA.cong (u _ (by omega) (by omega) (by omega) (by omega) (by omega))) (M.hT.cong fun k hk => u _ (by omega) (by omega) (by omega) (by omega) (by omega)) (M.hZ.cong fun k hk => u _ (by omega) (by omega) (by omega) (by omega) (by omega)) ⟨va_us _ _ _, by rw [va_un _ _ (by omega), va_us], by omega, fun k hk => ?_⟩ (M.hP.cong fun k hk => u _ (by omega) (by omega) (by omega) (by omega) (by omega))
  by_cases e : k = m.c
  · subst e
    refine ⟨?_, ?_, by rw [va_us]; exact hd, ?_, by rw [va_us]; omega, fun p hp => ⟨(u _ (by omega) (by omega) (by omega) (by omega) (by omega)).trans (M.mn hk hp), (u _ (by omega) (by omega) (by omega) (by omega) (by omega)).trans (M.it hk hp)⟩⟩
    · rw [va_un _ _ (by omega), va_un _ _ (by omega), va_un _ _ (by omega), va_un _ _ (by omega), va_us, va_us]
    · rw [va_un _ _ (by omega), va_un _ _ (by omega), va_un _ _ (by omega), show 71 + 19 * m.c = 70 + 19 * m.c + 1 by omega, va_us, va_us]
    · rw [va_un _ _ (by omega), va_un _ _ (by omega), show 72 + 19 * m.c = 70 + 19 * m.c + 2 by omega, va_us, va_us]
  · rw [va_un _ _ e, va_un _ _ e, va_un _ _ e]
    exact ⟨(u _ (by omega) (by omega) (by omega) (by omega) (by omega)).trans (M.id hk), (u _ (by omega) (by omega) (by omega) (by omega) (by omega)).trans (M.dy hk), M.dy9 hk, (u _ (by omega) (by omega) (by omega) (by omega) (by omega)).trans (M.pn hk), M.pn8 hk, fun p hp => ⟨(u _ (by omega) (by omega) (by omega) (by omega) (by omega)).trans (M.mn hk hp), (u _ (by omega) (by omega) (by omega) (by omega) (by omega)).trans (M.it hk hp)⟩⟩
theorem q_rw.adP {r : Nat → Int32} {m : q_W} (M : q_rw r m) {k : Nat} {x y : Int32} (hk : k < 40) (hp : m.pn k < 8) : q_rw (va_up (va_up (va_up r (70 + 19 * k + 3 + m.pn k) x) (70 + 19 * k + 3 + 8 + m.pn k) y) (70 + 19 * k + 2) (nI (m.pn k + 1))) (m.addP k x y) := by
  have u : ∀ q, q ≠ 70 + 19 * k + 3 + m.pn k → q ≠ 70 + 19 * k + 3 + 8 + m.pn k → q ≠ 70 + 19 * k + 2 → va_up (va_up (va_up r (70 + 19 * k + 3 + m.pn k) x) (70 + 19 * k + 3 + 8 + m.pn k) y) (70 + 19 * k + 2) (nI (m.pn k + 1)) q = r q := fun q a b c => by rw [va_un _ _ c, va_un _ _ b, va_un _ _ a]
  refine q_rw.mk (M.hA.cong (u _ (by omega) (by omega) (by omega))) (M.hT.cong fun k hk => u _ (by omega) (by omega) (by omega)) (M.hZ.cong fun k hk => u _ (by omega) (by omega) (by omega)) ⟨(u _ (by omega) (by omega) (by omega)).trans M.nx, (u _ (by omega) (by omega) (by omega)).trans M.c, M.c40, fun j hj => ?_⟩ (M.hP.cong fun k hk => u _ (by omega) (by omega) (by omega))
  have hpj := M.pn8 hj
  by_cases e : j = k
  · subst e
    rw [va_us, va_us, va_us]
    refine ⟨(u _ (by omega) (by omega) (by omega)).trans (M.id hj), (u _ (by omega) (by omega) (by omega)).trans (M.dy hj), M.dy9 hj, ?_, by omega, fun p hp2 => ?_⟩
    · rw [show 72 + 19 * j = 70 + 19 * j + 2 by omega, va_us]
    · by_cases ep : p = m.pn j
      · subst ep
        refine ⟨?_, ?_⟩
        · rw [va_un _ _ (by omega), va_un _ _ (by omega), show 73 + 19 * j + m.pn j = 70 + 19 * j + 3 + m.pn j by omega, va_us, va_us]
        · rw [va_un _ _ (by omega), show 81 + 19 * j + m.pn j = 70 + 19 * j + 3 + 8 + m.pn j by omega, va_us, va_us]
      · rw [va_un _ _ ep, va_un _ _ ep]
        exact ⟨(u _ (by omega) (by omega) (by omega)).trans (M.mn hj hp2), (u _ (by omega) (by omega) (by omega)).trans (M.it hj hp2)⟩
  · rw [va_un _ _ e, va_un _ _ e, va_un _ _ e]
    exact ⟨(u _ (by omega) (by omega) (by omega)).trans (M.id hj), (u _ (by omega) (by omega) (by omega)).trans (M.dy hj), M.dy9 hj, (u _ (by omega) (by omega) (by omega)).trans (M.pn hj), hpj, fun p hp2 => ⟨(u _ (by omega) (by omega) (by omega)).trans (M.mn hj hp2), (u _ (by omega) (by omega) (by omega)).trans (M.it hj hp2)⟩⟩
theorem q_rw.clr {r : Nat → Int32} {m : q_W} (M : q_rw r m) {k : Nat} (hk : k < 40) : q_rw (va_up r (70 + 19 * k + 2) (nI 0)) (m.clrP k) := by
  refine q_rw.mk (M.hA.cong (va_un _ _ (by omega))) (M.hT.cong fun k hk => va_un _ _ (by omega)) (M.hZ.cong fun k hk => va_un _ _ (by omega)) ⟨(va_un _ _ (by omega)).trans M.nx, (va_un _ _ (by omega)).trans M.c, M.c40, fun j hj => ?_⟩ (M.hP.cong fun k hk => va_un _ _ (by omega))
  by_cases e : j = k
  · subst e
    refine ⟨(va_un _ _ (by omega)).trans (M.id hj), (va_un _ _ (by omega)).trans (M.dy hj), M.dy9 hj, ?_, by rw [va_us]; omega, fun p hp => ⟨(va_un _ _ (by omega)).trans (M.mn hj hp), (va_un _ _ (by omega)).trans (M.it hj hp)⟩⟩
    rw [show 72 + 19 * j = 70 + 19 * j + 2 by omega, va_us, va_us]
  · rw [va_un _ _ e]
    exact ⟨(va_un _ _ (by omega)).trans (M.id hj), (va_un _ _ (by omega)).trans (M.dy hj), M.dy9 hj, (va_un _ _ (by omega)).trans (M.pn hj), M.pn8 hj, fun p hp => ⟨(va_un _ _ (by omega)).trans (M.mn hj hp), (va_un _ _ (by omega)).trans (M.it hj hp)⟩⟩
theorem q_rw.mov {r : Nat → Int32} {m : q_W} (M : q_rw r m) {k d : Nat} (hk : k < 40) (hd : d ≤ 199) : q_rw (va_up r (70 + 19 * k + 1) (nI d)) (m.movS k d) := by
  refine q_rw.mk (M.hA.cong (va_un _ _ (by omega))) (M.hT.cong fun k hk => va_un _ _ (by omega)) (M.hZ.cong fun k hk => va_un _ _ (by omega)) ⟨(va_un _ _ (by omega)).trans M.nx, (va_un _ _ (by omega)).trans M.c, M.c40, fun j hj => ?_⟩ (M.hP.cong fun k hk => va_un _ _ (by omega))
  by_cases e : j = k
  · subst e
    refine ⟨(va_un _ _ (by omega)).trans (M.id hj), ?_, by rw [va_us]; exact hd, (va_un _ _ (by omega)).trans (M.pn hj), M.pn8 hj, fun p hp => ⟨(va_un _ _ (by omega)).trans (M.mn hj hp), (va_un _ _ (by omega)).trans (M.it hj hp)⟩⟩
    rw [show 71 + 19 * j = 70 + 19 * j + 1 by omega, va_us, va_us]
  · rw [va_un _ _ e]
    exact ⟨(va_un _ _ (by omega)).trans (M.id hj), (va_un _ _ (by omega)).trans (M.dy hj), M.dy9 hj, (va_un _ _ (by omega)).trans (M.pn hj), M.pn8 hj, fun p hp => ⟨(va_un _ _ (by omega)).trans (M.mn hj hp), (va_un _ _ (by omega)).trans (M.it hj hp)⟩⟩
/-- cells from a on taken from 19 further -/
def q_sh (r : Nat → Int32) (a x : Nat) : Nat → Int32 := fun j => if a ≤ j ∧ j < x then r (j + 19) else r j
theorem q_sh_0 (r : Nat → Int32) (a : Nat) : q_sh r a a = r := funext fun j => if_neg (by omega)
theorem q_sh_s (r : Nat → Int32) (a x : Nat) (hx : a ≤ x) : va_up (q_sh r a x) x (r (x + 19)) = q_sh r a (x + 1) := by
  funext j; unfold va_up q_sh
  by_cases e : j = x
  · subst e; rw [if_pos rfl, if_pos (by omega)]
  · rw [if_neg e]
    show (if a ≤ j ∧ j < x then _ else _) = _
    by_cases e2 : a ≤ j ∧ j < x
    · rw [if_pos e2, if_pos (show a ≤ j ∧ j < x + 1 by omega)]
    · rw [if_neg e2, if_neg (show ¬ (a ≤ j ∧ j < x + 1) by omega)]
def q_sf {α : Type} (c k : Nat) (f : Nat → α) : Nat → α := fun j => if k ≤ j ∧ j < c - 1 then f (j + 1) else f j
def q_W.rmS (m : q_W) (k : Nat) : q_W := m.sS (m.c - 1) m.nx m.σ (q_sf m.c k m.id) (q_sf m.c k m.dy) (q_sf m.c k m.pn) (q_sf m.c k m.mn) (q_sf m.c k m.it)
theorem q_rw.rem {r : Nat → Int32} {m : q_W} (M : q_rw r m) {k : Nat} (hk : k < m.c) : q_rw (va_up (q_sh r (70 + 19 * k) (70 + 19 * (m.c - 1))) 2 (nI (m.c - 1))) (m.rmS k) := by
  have hc := M.c40
  have u : ∀ q, q < 70 → q ≠ 2 → va_up (q_sh r (70 + 19 * k) (70 + 19 * (m.c - 1))) 2 (nI (m.c - 1)) q = r q := fun q a b => by rw [va_un _ _ b]; exact if_neg (by omega)
  refine q_rw.mk (M.hA.cong (u _ (by omega) (by omega))) (M.hT.cong fun k hk => u _ (by omega) (by omega)) (M.hZ.cong fun k hk => u _ (by omega) (by omega)) ⟨(u _ (by omega) (by omega)).trans M.nx, va_us _ _ _, by omega, fun j hj => ?_⟩ (M.hP.cong fun k hk => u _ (by omega) (by omega))
  have w : ∀ q, 70 ≤ q → va_up (q_sh r (70 + 19 * k) (70 + 19 * (m.c - 1))) 2 (nI (m.c - 1)) q = q_sh r (70 + 19 * k) (70 + 19 * (m.c - 1)) q := fun q a => va_un _ _ (by omega)
  by_cases e : k ≤ j ∧ j < m.c - 1
  · have y : ∀ q, 70 + 19 * j ≤ q → q < 70 + 19 * (j + 1) → va_up (q_sh r (70 + 19 * k) (70 + 19 * (m.c - 1))) 2 (nI (m.c - 1)) q = r (q + 19) := fun q a b => (w q (by omega)).trans (if_pos (by omega))
    have hj1 : j + 1 < 40 := by omega
    unfold q_sf
    rw [if_pos e, if_pos e, if_pos e, if_pos e, if_pos e]
    refine ⟨?_, ?_, M.dy9 hj1, ?_, M.pn8 hj1, fun p hp => ⟨?_, ?_⟩⟩
    · rw [y _ (by omega) (by omega), show 70 + 19 * j + 19 = 70 + 19 * (j + 1) by omega]; exact M.id hj1
    · rw [y _ (by omega) (by omega), show 71 + 19 * j + 19 = 71 + 19 * (j + 1) by omega]; exact M.dy hj1
    · rw [y _ (by omega) (by omega), show 72 + 19 * j + 19 = 72 + 19 * (j + 1) by omega]; exact M.pn hj1
    · rw [y _ (by omega) (by omega), show 73 + 19 * j + p + 19 = 73 + 19 * (j + 1) + p by omega]; exact M.mn hj1 hp
    · rw [y _ (by omega) (by omega), show 81 + 19 * j + p + 19 = 81 + 19 * (j + 1) + p by omega]; exact M.it hj1 hp
  · have y : ∀ q, 70 + 19 * j ≤ q → q < 70 + 19 * (j + 1) → va_up (q_sh r (70 + 19 * k) (70 + 19 * (m.c - 1))) 2 (nI (m.c - 1)) q = r q := fun q a b => (w q (by omega)).trans (if_neg (by omega))
    unfold q_sf
    rw [if_neg e, if_neg e, if_neg e, if_neg e, if_neg e]
    exact ⟨(y _ (by omega) (by omega)).trans (M.id hj), (y _ (by omega) (by omega)).trans (M.dy hj), M.dy9 hj, (y _ (by omega) (by omega)).trans (M.pn hj), M.pn8 hj, fun p hp => ⟨(y _ (by omega) (by omega)).trans (M.mn hj hp), (y _ (by omega) (by omega)).trans (M.it hj hp)⟩⟩
theorem q_mr.r62 {h : q_Hp} {m m' : q_W} {P : q_P} (C : q_mr h m P) {r : Nat → Int32} (M : q_rI' r m') : q_mr (h.rowI 1062 r) m' P := by
  obtain ⟨c1, c2, c3, c4, c5, c6⟩ := C
  refine ⟨c1, by rw [q_rI]; exact M, by rw [q_rIn _ _ (by omega)]; exact c3, fun j hj => by rw [q_rIn _ _ (by omega)]; exact c4 j hj, by rw [q_rIn _ _ (by omega)]; exact c5, by rw [q_rIn _ _ (by omega)]; exact c6⟩
def q_P.back (P : q_P) : q_P := ((P.un - 1, (P.tp + 6 - 1) % 6, P.wr, P.sv), P.ob, P.sn, P.ln)
def q_P.savd (P : q_P) (m : q_W) : q_P := ((P.un, P.tp, P.wr, 1), P.ob, m, P.ln)
def q_P.rest (P : q_P) : q_P := ((0, P.tp, P.wr, P.sv), P.ob, P.sn, P.ln)
theorem q_mr.back {h : q_Hp} {m : q_W} {P : q_P} (C : q_mr h m P) : q_mr (((h.rowI 1062 (q_cpy (h.I (1064 + P.tp)) (h.I 1062) 830)).setI 1061 7 (nI ((P.tp + 6 - 1) % 6))).setI 1061 6 (nI (P.un - 1))) (P.ob P.tp) P.back := by
  obtain ⟨c1, c2, ⟨u1, u2, u3, u4, u5, u6, u7, u8⟩, c4, c5, c6⟩ := C
  have n : ∀ p, p ≠ 1061 → p ≠ 1062 → (((h.rowI 1062 (q_cpy (h.I (1064 + P.tp)) (h.I 1062) 830)).setI 1061 7 (nI ((P.tp + 6 - 1) % 6))).setI 1061 6 (nI (P.un - 1))).I p = h.I p := fun p a b => by rw [q_sIn _ _ _ a, q_sIn _ _ _ a, q_rIn _ _ b]
  refine ⟨c1, ⟨?_, (c4 _ u4).2⟩, ⟨?_, by show P.un - 1 ≤ 6; omega, ?_, Nat.mod_lt _ (by decide), ?_, u6, ?_, u8⟩, fun j hj => by rw [n _ (by omega) (by omega)]; exact c4 j hj, by rw [n _ (by omega) (by omega)]; exact c5, by rw [n _ (by omega) (by omega)]; exact c6⟩
  · rw [q_sIn _ _ _ (by omega), q_sIn _ _ _ (by omega), q_rI]; exact (c4 _ u4).1.cong fun k hk => q_cpy_lt _ _ hk
  · rw [q_sI, va_us]; rfl
  · rw [q_sI, va_un _ _ (by decide), q_sI, va_us]; rfl
  · rw [q_sI, va_un _ _ (by decide), q_sI, va_un _ _ (by decide), q_rIn _ _ (by omega)]; exact u5
  · rw [q_sI, va_un _ _ (by decide), q_sI, va_un _ _ (by decide), q_rIn _ _ (by omega)]; exact u7
theorem q_mr.savd {h : q_Hp} {m : q_W} {P : q_P} (C : q_mr h m P) : q_mr ((h.rowI 1070 (q_cpy (h.I 1062) (h.I 1070) 830)).setI 1061 13 (nI 1)) m (P.savd m) := by
  obtain ⟨c1, c2, ⟨u1, u2, u3, u4, u5, u6, u7, u8⟩, c4, c5, c6⟩ := C
  have n : ∀ p, p ≠ 1061 → p ≠ 1070 → ((h.rowI 1070 (q_cpy (h.I 1062) (h.I 1070) 830)).setI 1061 13 (nI 1)).I p = h.I p := fun p a b => by rw [q_sIn _ _ _ a, q_rIn _ _ b]
  refine ⟨c1, by rw [n _ (by omega) (by omega)]; exact c2, ⟨?_, u2, ?_, u4, ?_, u6, ?_, Nat.le_refl _⟩, fun j hj => by rw [n _ (by omega) (by omega)]; exact c4 j hj, ⟨?_, c2.2⟩, by rw [n _ (by omega) (by omega)]; exact c6⟩
  · rw [q_sI, va_un _ _ (by decide), q_rIn _ _ (by omega)]; exact u1
  · rw [q_sI, va_un _ _ (by decide), q_rIn _ _ (by omega)]; exact u3
  · rw [q_sI, va_un _ _ (by decide), q_rIn _ _ (by omega)]; exact u5
  · rw [q_sI, va_us]; rfl
  · rw [q_sIn _ _ _ (by omega), q_rI]; exact c2.1.cong fun k hk => q_cpy_lt _ _ hk
theorem q_mr.rest {h : q_Hp} {m : q_W} {P : q_P} (C : q_mr h m P) : q_mr ((h.rowI 1062 (q_cpy (h.I 1070) (h.I 1062) 830)).setI 1061 6 (nI 0)) P.sn P.rest := by
  obtain ⟨c1, c2, ⟨u1, u2, u3, u4, u5, u6, u7, u8⟩, c4, c5, c6⟩ := C
  have n : ∀ p, p ≠ 1061 → p ≠ 1062 → ((h.rowI 1062 (q_cpy (h.I 1070) (h.I 1062) 830)).setI 1061 6 (nI 0)).I p = h.I p := fun p a b => by rw [q_sIn _ _ _ a, q_rIn _ _ b]
  refine ⟨c1, ⟨?_, c5.2⟩, ⟨?_, Nat.zero_le _, ?_, u4, ?_, u6, ?_, u8⟩, fun j hj => by rw [n _ (by omega) (by omega)]; exact c4 j hj, by rw [n _ (by omega) (by omega)]; exact c5, by rw [n _ (by omega) (by omega)]; exact c6⟩
  · rw [q_sIn _ _ _ (by omega), q_rI]; exact c5.1.cong fun k hk => q_cpy_lt _ _ hk
  · rw [q_sI, va_us]; rfl
  · rw [q_sI, va_un _ _ (by decide), q_rIn _ _ (by omega)]; exact u3
  · rw [q_sI, va_un _ _ (by decide), q_rIn _ _ (by omega)]; exact u5
  · rw [q_sI, va_un _ _ (by decide), q_rIn _ _ (by omega)]; exact u7
