/-! ONE CALL, BOTH SIDES -/
def q_inv (c : Nat) (h : q_Hp) (W : q_W) (O : q_O) (m : q_W) (P : q_P) : Prop := q_clX h W O ∧ q_mr h m P ∧ q_smc c W m ∧ q_hs c O P
def q_next (c : Nat) (h : q_Hp) : Prop := ∃ W O m P, q_inv c h W O m P
/-- the reference stands behind the class's call -/
def q_f1 (h h1 : q_Hp) : Prop := (∀ p, 1061 ≤ p → h1.I p = h.I p) ∧ (∀ p, p ≠ 10 → h1.R p = h.R p) ∧ h1.n = h.n
theorem q_f1.of {h h1 : q_Hp} (F : q_fr h h1) : q_f1 h h1 := ⟨F.1, F.2.1, F.2.2.2.2⟩
theorem q_f1.Lk {Φ : q_Fx} {h h1 : q_Hp} (F : q_f1 h h1) (K : q_Lk Φ h.R h.n) : q_Lk Φ h1.R h1.n := q_Lk.fr (h' := (h1.I, h1.R, h.J, h.E, h1.n)) K ⟨F.1, F.2.1, rfl, rfl, F.2.2⟩
theorem q_f1.mr {h h1 : q_Hp} {m : q_W} {P : q_P} (F : q_f1 h h1) (M : q_mr h m P) : q_mr h1 m P := by
  obtain ⟨c1, c2, c3, c4, c5, c6⟩ := M
  refine ⟨by rw [F.2.1 _ (by omega)]; exact c1, by rw [F.1 _ (by omega)]; exact c2, by rw [F.1 _ (by omega)]; exact c3, fun j hj => by rw [F.1 _ (by omega)]; exact c4 j hj, by rw [F.1 _ (by omega)]; exact c5, by rw [F.1 _ (by omega)]; exact c6⟩
theorem q_f1.setJ {h h1 : q_Hp} {x : Int64} (F : q_f1 h h1) : q_f1 h (h1.setJ 1074 0 x) := F
def q_half (c : Nat) (h1 : q_Hp) (m : q_W) (P : q_P) : Prop := ∃ W O, q_clX h1 W O ∧ q_smc c W m ∧ q_hs c O P
theorem q_vw.gm {h h1 : q_Hp} {W : q_W} (F : q_gm h h1) (V : q_vw h W) : q_vw h1 W := q_vB.cong V (fun p _ _ => F.1 p (by omega)) (by rw [F.2.1])
theorem q_clX.gm {h h1 : q_Hp} {W : q_W} {O : q_O} (F : q_gm h h1) (C : q_clX h W O) : q_clX h1 W O := by
  obtain ⟨⟨c1, c2, c3⟩, k, T⟩ := C
  exact ⟨⟨c1.gm F, c2, c3.cong (fun p hp => F.1 p (by omega)) fun p _ => by rw [F.2.1]⟩, k, T.cong (F.1 _ (by omega)) (F.1 _ (by omega)) (F.1 _ (by omega))⟩
theorem q_half.gm {c : Nat} {h h1 : q_Hp} {m : q_W} {P : q_P} (F : q_gm h h1) (C : q_half c h m P) : q_half c h1 m P := by
  obtain ⟨W, O, h1, h2⟩ := C
  exact ⟨W, O, h1.gm F, h2⟩
theorem q_half.next {c : Nat} {h1 : q_Hp} {m : q_W} {P : q_P} (C : q_half c h1 m P) (M : q_mr h1 m P) : q_next c h1 := by
  obtain ⟨W, O, h1, h2, h3⟩ := C
  exact ⟨W, O, m, P, h1, M, h2, h3⟩
def q_cls (c : Nat) (h : q_Hp) (m : q_W) (P : q_P) (k : Nat → Prop) (val : Int32) (m' : q_W) (P' : q_P) : Except String (Option Value) → q_Hp → Prop := fun r h1 => ∃ a : Nat, r = .ok (some (.int (nI a))) ∧ a ≤ 3 ∧ k a ∧ q_f1 h h1 ∧ (a ≠ 0 → q_half c h1 m P) ∧ (a = 0 → h1.J 1074 0 = val.toInt64 ∧ q_half c h1 m' P')
def q_cl0 (c : Nat) (h : q_Hp) (val : Int32) (m' : q_W) (P' : q_P) (v : Option Value) (h1 : q_Hp) : Prop := v = some (.int val) ∧ q_f1 h h1 ∧ q_half c h1 m' P'
theorem q_kd1 {c : Prop} {a b : Nat} (h1 : q_k1 c a) (h2 : q_k1 c b) : a = b := by
  rcases h1 with ⟨h1, rfl⟩ | ⟨h1, rfl⟩ <;> rcases h2 with ⟨h2, rfl⟩ | ⟨h2, rfl⟩ <;> first | rfl | exact absurd h1 h2 | exact absurd h2 h1
theorem q_kd2 {c d : Prop} {a b : Nat} (h1 : q_k2 c d a) (h2 : q_k2 c d b) : a = b := by
  rcases h1 with ⟨h1, rfl⟩ | ⟨h1, h3, rfl⟩ | ⟨h1, h3, rfl⟩ <;> rcases h2 with ⟨h2, rfl⟩ | ⟨h2, h4, rfl⟩ | ⟨h2, h4, rfl⟩ <;> first | rfl | exact absurd h1 h2 | exact absurd h2 h1 | exact absurd h3 h4 | exact absurd h4 h3
theorem q_kd3 {c d e : Prop} {a b : Nat} (h1 : q_k3 c d e a) (h2 : q_k3 c d e b) : a = b := by
  rcases h1 with ⟨h1, rfl⟩ | ⟨h1, h3, rfl⟩ | ⟨h1, h3, h5, rfl⟩ | ⟨h1, h3, h5, rfl⟩ <;> rcases h2 with ⟨h2, rfl⟩ | ⟨h2, h4, rfl⟩ | ⟨h2, h4, h6, rfl⟩ | ⟨h2, h4, h6, rfl⟩ <;> first | rfl | exact absurd h1 h2 | exact absurd h2 h1 | exact absurd h3 h4 | exact absurd h4 h3 | exact absurd h5 h6 | exact absurd h6 h5
/-- both have answered -/
theorem q_joint {c : Nat} {h h1 h2 : q_Hp} {m m' : q_W} {P P' : q_P} {k : Nat → Prop} {val : Int32} {a : Nat} {v : Option Value} (kd : ∀ {a b}, k a → k b → a = b) (ha : k a) (hn : a ≠ 0 → q_half c h1 m P) (hz : a = 0 → h1.J 1074 0 = val.toInt64 ∧ q_half c h1 m' P') (hp : q_pr h1 m P k val m' P' v h2) :
    ∃ b : Int32, v = some (.int b) ∧ h2.I 1061 12 = nI a ∧ (a = 0 → h2.J 1074 0 = b.toInt64) ∧ q_gm h1 h2 ∧ q_next c h2 := by
  obtain ⟨a', b, k', rfl, e12, g, n1, n2⟩ := hp
  have := kd ha k'
  subst this
  refine ⟨b, rfl, e12, fun e => ?_, g, ?_⟩
  · rw [g.2.2.1, (hz e).1, (n2 e).1]
  · by_cases e : a = 0
    · exact ((hz e).2.gm g).next (n2 e).2
    · exact ((hn e).gm g).next (n1 e)
theorem q_joint0 {c : Nat} {h h1 h2 : q_Hp} {m m' : q_W} {P P' : q_P} {val : Int32} {v : Option Value} (hh : q_half c h1 m' P') (hp : q_pr h1 m P q_k0 val m' P' v h2) : v = some (.int val) ∧ q_gm h1 h2 ∧ q_next c h2 := by
  obtain ⟨a', b, k', rfl, e12, g, n1, n2⟩ := hp
  obtain ⟨rfl, M⟩ := n2 k'
  exact ⟨rfl, g, (hh.gm g).next M⟩
section QJ
variable {h h1 : q_Hp} {W m m' : q_W} {O : q_O} {P P' : q_P} {c : Nat} {c1 c2 c3 d1 d2 d3 : Prop} {val : Int32} {Pp : Option Value → q_Hp → Prop} {r : Except String (Option Value)}
theorem q_half.rd (s : q_smc c W m) (H : q_hs c O P) (R : q_rd h h1 W O) : q_half (c + 1) h1 m P := ⟨W, O, R.1, s.le (Nat.le_succ c), H.le (Nat.le_succ c)⟩
theorem q_half.setJ {x : Int64} (g : q_half c h1 m P) : q_half c (h1.setJ 1074 0 x) m P := g
theorem q_Jset {x : Int64} : (h1.setJ 1074 0 x).J 1074 0 = x := by
  show q_up h1.J 1074 0 x 1074 0 = x
  rw [q_up_same, va_us]
theorem j_1 (s : q_smc c W m) (H : q_hs c O P) (e1 : c1 ↔ d1) (G : ¬ d1 → ∀ x h', Pp (some (.int x)) h' → x = val ∧ q_fr h h' ∧ q_half (c + 1) h' m' P') (hp : q_l1 h W O c1 Pp r h1) : q_cls (c + 1) h m P (q_k1 d1) val m' P' r h1 := by
  obtain ⟨a, rfl, ⟨n1, rfl, R⟩ | ⟨n1, rfl, x, h2, hp, rfl⟩⟩ := hp
  · exact ⟨1, rfl, by omega, Or.inl ⟨e1.mp n1, rfl⟩, q_f1.of R.2, fun _ => q_half.rd s H R, fun e => absurd e (by decide)⟩
  · have m1 := fun q => n1 (e1.mpr q)
    obtain ⟨rfl, F, g⟩ := G m1 x h2 hp
    exact ⟨0, rfl, by omega, Or.inr ⟨m1, rfl⟩, (q_f1.of F).setJ, fun e => absurd rfl e, fun _ => ⟨q_Jset, g⟩⟩
theorem j_2 (s : q_smc c W m) (H : q_hs c O P) (e1 : c1 ↔ d1) (e2 : ¬ d1 → (c2 ↔ d2)) (G : ¬ d1 → ¬ d2 → ∀ x h', Pp (some (.int x)) h' → x = val ∧ q_fr h h' ∧ q_half (c + 1) h' m' P') (hp : q_l2 h W O c1 c2 Pp r h1) : q_cls (c + 1) h m P (q_k2 d1 d2) val m' P' r h1 := by
  obtain ⟨a, rfl, ⟨n1, rfl, R⟩ | ⟨n1, n2, rfl, R⟩ | ⟨n1, n2, rfl, x, h2, hp, rfl⟩⟩ := hp
  · exact ⟨1, rfl, by omega, Or.inl ⟨e1.mp n1, rfl⟩, q_f1.of R.2, fun _ => q_half.rd s H R, fun e => absurd e (by decide)⟩
  · have m1 := fun q => n1 (e1.mpr q)
    exact ⟨2, rfl, by omega, Or.inr (Or.inl ⟨m1, (e2 m1).mp n2, rfl⟩), q_f1.of R.2, fun _ => q_half.rd s H R, fun e => absurd e (by decide)⟩
  · have m1 := fun q => n1 (e1.mpr q)
    have m2 := fun q => n2 ((e2 m1).mpr q)
    obtain ⟨rfl, F, g⟩ := G m1 m2 x h2 hp
    exact ⟨0, rfl, by omega, Or.inr (Or.inr ⟨m1, m2, rfl⟩), (q_f1.of F).setJ, fun e => absurd rfl e, fun _ => ⟨q_Jset, g⟩⟩
theorem j_3 (s : q_smc c W m) (H : q_hs c O P) (e1 : c1 ↔ d1) (e2 : ¬ d1 → (c2 ↔ d2)) (e3 : ¬ d1 → ¬ d2 → (c3 ↔ d3)) (G : ¬ d1 → ¬ d2 → ¬ d3 → ∀ x h', Pp (some (.int x)) h' → x = val ∧ q_fr h h' ∧ q_half (c + 1) h' m' P') (hp : q_l3 h W O c1 c2 c3 Pp r h1) : q_cls (c + 1) h m P (q_k3 d1 d2 d3) val m' P' r h1 := by
  obtain ⟨a, rfl, ⟨n1, rfl, R⟩ | ⟨n1, n2, rfl, R⟩ | ⟨n1, n2, n3, rfl, R⟩ | ⟨n1, n2, n3, rfl, x, h2, hp, rfl⟩⟩ := hp
  · exact ⟨1, rfl, by omega, Or.inl ⟨e1.mp n1, rfl⟩, q_f1.of R.2, fun _ => q_half.rd s H R, fun e => absurd e (by decide)⟩
  · have m1 := fun q => n1 (e1.mpr q)
    exact ⟨2, rfl, by omega, Or.inr (Or.inl ⟨m1, (e2 m1).mp n2, rfl⟩), q_f1.of R.2, fun _ => q_half.rd s H R, fun e => absurd e (by decide)⟩
  · have m1 := fun q => n1 (e1.mpr q)
    have m2 := fun q => n2 ((e2 m1).mpr q)
    exact ⟨3, rfl, by omega, Or.inr (Or.inr (Or.inl ⟨m1, m2, (e3 m1 m2).mp n3, rfl⟩)), q_f1.of R.2, fun _ => q_half.rd s H R, fun e => absurd e (by decide)⟩
  · have m1 := fun q => n1 (e1.mpr q)
    have m2 := fun q => n2 ((e2 m1).mpr q)
    have m3 := fun q => n3 ((e3 m1 m2).mpr q)
    obtain ⟨rfl, F, g⟩ := G m1 m2 m3 x h2 hp
    exact ⟨0, rfl, by omega, Or.inr (Or.inr (Or.inr ⟨m1, m2, m3, rfl⟩)), (q_f1.of F).setJ, fun e => absurd rfl e, fun _ => ⟨q_Jset, g⟩⟩
end QJ
theorem q_idx {n : Nat} {p : Int32} (hn : n < 2 ^ 30) : (p < 0 ∨ nI n ≤ p) ↔ ¬ (nI 0 ≤ p ∧ p ≤ nI n - nI 1) := by
  have h1 : (nI n - nI 1).toInt = (n : Int) - 1 := by
    have := pk_sub_toInt (a := n) (b := 1) hn (by omega)
    simpa using this
  have h0 : (nI 0).toInt = 0 := by decide
  have z0 : (0 : Int32).toInt = 0 := by decide
  rw [Int32.lt_iff_toInt_lt, Int32.le_iff_toInt_le, Int32.le_iff_toInt_le, Int32.le_iff_toInt_le, h1, h0, z0, nI_toInt (by omega)]
  omega
theorem q_idx_in {n : Nat} {p : Int32} (hn : n < 2 ^ 30) (h : ¬ ¬ (nI 0 ≤ p ∧ p ≤ nI n - nI 1)) : p.toNatClampNeg < n := by
  have h2 : ¬ (p < 0 ∨ nI n ≤ p) := fun e => h ((q_idx hn).mp e)
  have h3 : ¬ p < 0 := fun e => h2 (Or.inl e)
  obtain ⟨j, hj, rfl⟩ := nI_of h3
  rw [nI_clamp hj]
  have := (nI_leI (a := n) (b := j) (by omega) hj)
  exact Nat.lt_of_not_le fun e => h2 (Or.inr (this.mpr e))
theorem j_thresholdOn {h h1 : q_Hp} {W m : q_W} {O : q_O} {P : q_P} {c N : Nat} {τ : Nat → Nat} {u0 : Int32} (C : q_clX h W O) (M : q_mr h m P) (s : q_smc c W m) (a : q_si0 W m) (b : q_si1 W m τ) (k : q_si2 m N) (dd : q_dd m) (H : q_hs c O P) (hcc : c ≤ 600) {r : Except String (Option Value)} (hp : (q_l1 h W O (¬ (nI 0 ≤ u0 ∧ u0 ≤ nI 199)) (fun v h' => v = some (.int (W.th u0)) ∧ q_rd h h' W O)) r h1) : q_cls (c + 1) h m P (q_k1 (¬ (nI 0 ≤ u0 ∧ u0 ≤ nI 199))) (m.th u0) (m) (P) r h1 := by
  have et := a.1
  have ec := a.2.1
  have enx := a.2.2.1
  have en := a.2.2.2.1
  have etd := a.2.2.2.2.1
  have ebd := a.2.2.2.2.2.1
  have ewt := a.2.2.2.2.2.2.1
  have epe := a.2.2.2.2.2.2.2.1
  have epf := a.2.2.2.2.2.2.2.2.1
  have epc := a.2.2.2.2.2.2.2.2.2.1
  have etg := a.2.2.2.2.2.2.2.2.2.2
  have v := k.2.2.2.2.2.2.2
  have ht := k.2.2.2.2.2.2.1
  have hc := k.2.1
  have hn10 := C.1.1.n10
  have o := C.1.2.1.2
  have htp := M.2.2.1.2.2.2.1
  have hun := M.2.2.1.2.1
  have hpe1 := M.2.1.1.pe1
  have hpf9 := M.2.1.1.pf9
  have hp28 := M.2.1.1.pc28
  refine j_1 s H Iff.rfl (fun n1 x0 h2 hp => ?_) hp
  obtain ⟨e, rd⟩ := hp
  cases e
  refine ⟨?_, rd.2, q_half.rd s H rd⟩
  exact q_th_eq a _
theorem j_boundOf {h h1 : q_Hp} {W m : q_W} {O : q_O} {P : q_P} {c N : Nat} {τ : Nat → Nat} {u0 : Int32} (C : q_clX h W O) (M : q_mr h m P) (s : q_smc c W m) (a : q_si0 W m) (b : q_si1 W m τ) (k : q_si2 m N) (dd : q_dd m) (H : q_hs c O P) (hcc : c ≤ 600) {r : Except String (Option Value)} (hp : (q_l1 h W O (¬ (nI 2 ≤ u0 ∧ u0 ≤ nI 5)) (fun v h' => v = some (.int (W.bd u0.toNatClampNeg)) ∧ q_rd h h' W O)) r h1) : q_cls (c + 1) h m P (q_k1 (¬ (nI 2 ≤ u0 ∧ u0 ≤ nI 5))) (m.bd u0.toNatClampNeg) (m) (P) r h1 := by
  have et := a.1
  have ec := a.2.1
  have enx := a.2.2.1
  have en := a.2.2.2.1
  have etd := a.2.2.2.2.1
  have ebd := a.2.2.2.2.2.1
  have ewt := a.2.2.2.2.2.2.1
  have epe := a.2.2.2.2.2.2.2.1
  have epf := a.2.2.2.2.2.2.2.2.1
  have epc := a.2.2.2.2.2.2.2.2.2.1
  have etg := a.2.2.2.2.2.2.2.2.2.2
  have v := k.2.2.2.2.2.2.2
  have ht := k.2.2.2.2.2.2.1
  have hc := k.2.1
  have hn10 := C.1.1.n10
  have o := C.1.2.1.2
  have htp := M.2.2.1.2.2.2.1
  have hun := M.2.2.1.2.1
  have hpe1 := M.2.1.1.pe1
  have hpf9 := M.2.1.1.pf9
  have hp28 := M.2.1.1.pc28
  refine j_1 s H Iff.rfl (fun n1 x0 h2 hp => ?_) hp
  obtain ⟨e, rd⟩ := hp
  cases e
  refine ⟨?_, rd.2, q_half.rd s H rd⟩
  obtain ⟨j, j1, j2, rfl⟩ := q_rng n1 (by omega) (by omega)
  rw [nI_clamp (by omega)]; exact ebd j j1 j2
theorem j_weightOf {h h1 : q_Hp} {W m : q_W} {O : q_O} {P : q_P} {c N : Nat} {τ : Nat → Nat} {u0 : Int32} (C : q_clX h W O) (M : q_mr h m P) (s : q_smc c W m) (a : q_si0 W m) (b : q_si1 W m τ) (k : q_si2 m N) (dd : q_dd m) (H : q_hs c O P) (hcc : c ≤ 600) {r : Except String (Option Value)} (hp : (q_l1 h W O (¬ (nI 1 ≤ u0 ∧ u0 ≤ nI 5)) (fun v h' => v = some (.int (W.wt u0.toNatClampNeg)) ∧ q_rd h h' W O)) r h1) : q_cls (c + 1) h m P (q_k1 (¬ (nI 1 ≤ u0 ∧ u0 ≤ nI 5))) (m.wt u0.toNatClampNeg) (m) (P) r h1 := by
  have et := a.1
  have ec := a.2.1
  have enx := a.2.2.1
  have en := a.2.2.2.1
  have etd := a.2.2.2.2.1
  have ebd := a.2.2.2.2.2.1
  have ewt := a.2.2.2.2.2.2.1
  have epe := a.2.2.2.2.2.2.2.1
  have epf := a.2.2.2.2.2.2.2.2.1
  have epc := a.2.2.2.2.2.2.2.2.2.1
  have etg := a.2.2.2.2.2.2.2.2.2.2
  have v := k.2.2.2.2.2.2.2
  have ht := k.2.2.2.2.2.2.1
  have hc := k.2.1
  have hn10 := C.1.1.n10
  have o := C.1.2.1.2
  have htp := M.2.2.1.2.2.2.1
  have hun := M.2.2.1.2.1
  have hpe1 := M.2.1.1.pe1
  have hpf9 := M.2.1.1.pf9
  have hp28 := M.2.1.1.pc28
  refine j_1 s H Iff.rfl (fun n1 x0 h2 hp => ?_) hp
  obtain ⟨e, rd⟩ := hp
  cases e
  refine ⟨?_, rd.2, q_half.rd s H rd⟩
  obtain ⟨j, j1, j2, rfl⟩ := q_rng n1 (by omega) (by omega)
  rw [nI_clamp (by omega)]; exact ewt j j1 j2
theorem j_zoneOf {h h1 : q_Hp} {W m : q_W} {O : q_O} {P : q_P} {c N : Nat} {τ : Nat → Nat} {u0 u1 : Int32} (C : q_clX h W O) (M : q_mr h m P) (s : q_smc c W m) (a : q_si0 W m) (b : q_si1 W m τ) (k : q_si2 m N) (dd : q_dd m) (H : q_hs c O P) (hcc : c ≤ 600) {r : Except String (Option Value)} (hp : (q_l1 h W O (¬ (nI 0 ≤ u0 ∧ u0 ≤ nI 199) ∨ ¬ (nI 0 ≤ u1 ∧ u1 ≤ nI 500)) (fun v h' => v = some (.int (nI (q_zn W.bd u1 (W.th u0)))) ∧ q_rd h h' W O)) r h1) : q_cls (c + 1) h m P (q_k1 (¬ (nI 0 ≤ u0 ∧ u0 ≤ nI 199) ∨ ¬ (nI 0 ≤ u1 ∧ u1 ≤ nI 500))) (nI (q_zn m.bd u1 (m.th u0))) (m) (P) r h1 := by
  have et := a.1
  have ec := a.2.1
  have enx := a.2.2.1
  have en := a.2.2.2.1
  have etd := a.2.2.2.2.1
  have ebd := a.2.2.2.2.2.1
  have ewt := a.2.2.2.2.2.2.1
  have epe := a.2.2.2.2.2.2.2.1
  have epf := a.2.2.2.2.2.2.2.2.1
  have epc := a.2.2.2.2.2.2.2.2.2.1
  have etg := a.2.2.2.2.2.2.2.2.2.2
  have v := k.2.2.2.2.2.2.2
  have ht := k.2.2.2.2.2.2.1
  have hc := k.2.1
  have hn10 := C.1.1.n10
  have o := C.1.2.1.2
  have htp := M.2.2.1.2.2.2.1
  have hun := M.2.2.1.2.1
  have hpe1 := M.2.1.1.pe1
  have hpf9 := M.2.1.1.pf9
  have hp28 := M.2.1.1.pc28
  refine j_1 s H Iff.rfl (fun n1 x0 h2 hp => ?_) hp
  obtain ⟨e, rd⟩ := hp
  cases e
  refine ⟨?_, rd.2, q_half.rd s H rd⟩
  rw [q_th_eq a, q_zn_eq a]
theorem j_sessionAt {h h1 : q_Hp} {W m : q_W} {O : q_O} {P : q_P} {c N : Nat} {τ : Nat → Nat} {u0 : Int32} (C : q_clX h W O) (M : q_mr h m P) (s : q_smc c W m) (a : q_si0 W m) (b : q_si1 W m τ) (k : q_si2 m N) (dd : q_dd m) (H : q_hs c O P) (hcc : c ≤ 600) {r : Except String (Option Value)} (hp : (q_l1 h W O (u0 < 0 ∨ nI W.c ≤ u0) (fun v h' => v = some (.int (W.id (W.σ u0.toNatClampNeg))) ∧ q_rd h h' W O)) r h1) : q_cls (c + 1) h m P (q_k1 (¬ (nI 0 ≤ u0 ∧ u0 ≤ nI m.c - nI 1))) (m.id (τ u0.toNatClampNeg)) (m) (P) r h1 := by
  have et := a.1
  have ec := a.2.1
  have enx := a.2.2.1
  have en := a.2.2.2.1
  have etd := a.2.2.2.2.1
  have ebd := a.2.2.2.2.2.1
  have ewt := a.2.2.2.2.2.2.1
  have epe := a.2.2.2.2.2.2.2.1
  have epf := a.2.2.2.2.2.2.2.2.1
  have epc := a.2.2.2.2.2.2.2.2.2.1
  have etg := a.2.2.2.2.2.2.2.2.2.2
  have v := k.2.2.2.2.2.2.2
  have ht := k.2.2.2.2.2.2.1
  have hc := k.2.1
  have hn10 := C.1.1.n10
  have o := C.1.2.1.2
  have htp := M.2.2.1.2.2.2.1
  have hun := M.2.2.1.2.1
  have hpe1 := M.2.1.1.pe1
  have hpf9 := M.2.1.1.pf9
  have hp28 := M.2.1.1.pc28
  refine j_1 s H (by rw [ec]; exact q_idx (by omega)) (fun n1 x0 h2 hp => ?_) hp
  obtain ⟨e, rd⟩ := hp
  cases e
  refine ⟨?_, rd.2, q_half.rd s H rd⟩
  have hi := q_idx_in (n := m.c) (by omega) n1
  exact (b.2.1 _ hi).1
theorem j_dayOf {h h1 : q_Hp} {W m : q_W} {O : q_O} {P : q_P} {c N : Nat} {τ : Nat → Nat} {u0 : Int32} (C : q_clX h W O) (M : q_mr h m P) (s : q_smc c W m) (a : q_si0 W m) (b : q_si1 W m τ) (k : q_si2 m N) (dd : q_dd m) (H : q_hs c O P) (hcc : c ≤ 600) {r : Except String (Option Value)} (hp : (q_l1 h W O (W.no u0) (fun v h' => v = some (.int (nI (W.dy (W.σ (W.at_ u0))))) ∧ q_rd h h' W O)) r h1) : q_cls (c + 1) h m P (q_k1 (m.mno u0)) (nI (m.dy (m.mat u0))) (m) (P) r h1 := by
  have et := a.1
  have ec := a.2.1
  have enx := a.2.2.1
  have en := a.2.2.2.1
  have etd := a.2.2.2.2.1
  have ebd := a.2.2.2.2.2.1
  have ewt := a.2.2.2.2.2.2.1
  have epe := a.2.2.2.2.2.2.2.1
  have epf := a.2.2.2.2.2.2.2.2.1
  have epc := a.2.2.2.2.2.2.2.2.2.1
  have etg := a.2.2.2.2.2.2.2.2.2.2
  have v := k.2.2.2.2.2.2.2
  have ht := k.2.2.2.2.2.2.1
  have hc := k.2.1
  have hn10 := C.1.1.n10
  have o := C.1.2.1.2
  have htp := M.2.2.1.2.2.2.1
  have hun := M.2.2.1.2.1
  have hpe1 := M.2.1.1.pe1
  have hpf9 := M.2.1.1.pf9
  have hp28 := M.2.1.1.pc28
  refine j_1 s H (q_no_eq a b k u0) (fun n1 x0 h2 hp => ?_) hp
  obtain ⟨e, rd⟩ := hp
  cases e
  refine ⟨?_, rd.2, q_half.rd s H rd⟩
  obtain ⟨g1, g2⟩ := q_at_eq a b k (fun h => n1 ((q_no_eq a b k u0).mp h))
  rw [← g2]; exact congrArg nI (b.2.1 _ g1).2.1
theorem j_minutesOf {h h1 : q_Hp} {W m : q_W} {O : q_O} {P : q_P} {c N : Nat} {τ : Nat → Nat} {u0 : Int32} (C : q_clX h W O) (M : q_mr h m P) (s : q_smc c W m) (a : q_si0 W m) (b : q_si1 W m τ) (k : q_si2 m N) (dd : q_dd m) (H : q_hs c O P) (hcc : c ≤ 600) {r : Except String (Option Value)} (hp : (q_l1 h W O (W.no u0) (fun v h' => v = some (.int (W.len (W.σ (W.at_ u0)))) ∧ q_rd h h' W O)) r h1) : q_cls (c + 1) h m P (q_k1 (m.mno u0)) (m.len (m.mat u0)) (m) (P) r h1 := by
  have et := a.1
  have ec := a.2.1
  have enx := a.2.2.1
  have en := a.2.2.2.1
  have etd := a.2.2.2.2.1
  have ebd := a.2.2.2.2.2.1
  have ewt := a.2.2.2.2.2.2.1
  have epe := a.2.2.2.2.2.2.2.1
  have epf := a.2.2.2.2.2.2.2.2.1
  have epc := a.2.2.2.2.2.2.2.2.2.1
  have etg := a.2.2.2.2.2.2.2.2.2.2
  have v := k.2.2.2.2.2.2.2
  have ht := k.2.2.2.2.2.2.1
  have hc := k.2.1
  have hn10 := C.1.1.n10
  have o := C.1.2.1.2
  have htp := M.2.2.1.2.2.2.1
  have hun := M.2.2.1.2.1
  have hpe1 := M.2.1.1.pe1
  have hpf9 := M.2.1.1.pf9
  have hp28 := M.2.1.1.pc28
  refine j_1 s H (q_no_eq a b k u0) (fun n1 x0 h2 hp => ?_) hp
  obtain ⟨e, rd⟩ := hp
  cases e
  refine ⟨?_, rd.2, q_half.rd s H rd⟩
  obtain ⟨g1, g2⟩ := q_at_eq a b k (fun h => n1 ((q_no_eq a b k u0).mp h))
  rw [← g2]; exact q_len_eq (b.2.1 _ g1)
theorem j_loadOf {h h1 : q_Hp} {W m : q_W} {O : q_O} {P : q_P} {c N : Nat} {τ : Nat → Nat} {u0 : Int32} (C : q_clX h W O) (M : q_mr h m P) (s : q_smc c W m) (a : q_si0 W m) (b : q_si1 W m τ) (k : q_si2 m N) (dd : q_dd m) (H : q_hs c O P) (hcc : c ≤ 600) {r : Except String (Option Value)} (hp : (q_l1 h W O (W.no u0) (fun v h' => v = some (.int (W.ld (W.σ (W.at_ u0)))) ∧ q_rd h h' W O)) r h1) : q_cls (c + 1) h m P (q_k1 (m.mno u0)) (m.ld (m.mat u0)) (m) (P) r h1 := by
  have et := a.1
  have ec := a.2.1
  have enx := a.2.2.1
  have en := a.2.2.2.1
  have etd := a.2.2.2.2.1
  have ebd := a.2.2.2.2.2.1
  have ewt := a.2.2.2.2.2.2.1
  have epe := a.2.2.2.2.2.2.2.1
  have epf := a.2.2.2.2.2.2.2.2.1
  have epc := a.2.2.2.2.2.2.2.2.2.1
  have etg := a.2.2.2.2.2.2.2.2.2.2
  have v := k.2.2.2.2.2.2.2
  have ht := k.2.2.2.2.2.2.1
  have hc := k.2.1
  have hn10 := C.1.1.n10
  have o := C.1.2.1.2
  have htp := M.2.2.1.2.2.2.1
  have hun := M.2.2.1.2.1
  have hpe1 := M.2.1.1.pe1
  have hpf9 := M.2.1.1.pf9
  have hp28 := M.2.1.1.pc28
  refine j_1 s H (q_no_eq a b k u0) (fun n1 x0 h2 hp => ?_) hp
  obtain ⟨e, rd⟩ := hp
  cases e
  refine ⟨?_, rd.2, q_half.rd s H rd⟩
  obtain ⟨g1, g2⟩ := q_at_eq a b k (fun h => n1 ((q_no_eq a b k u0).mp h))
  rw [← g2]; exact q_ld_eq a (b.2.1 _ g1)
theorem j_minutesInZone {h h1 : q_Hp} {W m : q_W} {O : q_O} {P : q_P} {c N : Nat} {τ : Nat → Nat} {u0 u1 : Int32} (C : q_clX h W O) (M : q_mr h m P) (s : q_smc c W m) (a : q_si0 W m) (b : q_si1 W m τ) (k : q_si2 m N) (dd : q_dd m) (H : q_hs c O P) (hcc : c ≤ 600) {r : Except String (Option Value)} (hp : (q_l2 h W O (W.no u0) (¬ (nI 1 ≤ u1 ∧ u1 ≤ nI 5)) (fun v h' => v = some (.int (q_az (fun _ => nI 0) (W.z (W.σ (W.at_ u0))) (W.mn (W.σ (W.at_ u0))) (W.pn (W.σ (W.at_ u0))) u1.toNatClampNeg)) ∧ q_rd h h' W O)) r h1) : q_cls (c + 1) h m P (q_k2 (m.mno u0) (¬ (nI 1 ≤ u1 ∧ u1 ≤ nI 5))) (q_az (fun _ => nI 0) (m.z (m.mat u0)) (m.mn (m.mat u0)) (m.pn (m.mat u0)) u1.toNatClampNeg) (m) (P) r h1 := by
  have et := a.1
  have ec := a.2.1
  have enx := a.2.2.1
  have en := a.2.2.2.1
  have etd := a.2.2.2.2.1
  have ebd := a.2.2.2.2.2.1
  have ewt := a.2.2.2.2.2.2.1
  have epe := a.2.2.2.2.2.2.2.1
  have epf := a.2.2.2.2.2.2.2.2.1
  have epc := a.2.2.2.2.2.2.2.2.2.1
  have etg := a.2.2.2.2.2.2.2.2.2.2
  have v := k.2.2.2.2.2.2.2
  have ht := k.2.2.2.2.2.2.1
  have hc := k.2.1
  have hn10 := C.1.1.n10
  have o := C.1.2.1.2
  have htp := M.2.2.1.2.2.2.1
  have hun := M.2.2.1.2.1
  have hpe1 := M.2.1.1.pe1
  have hpf9 := M.2.1.1.pf9
  have hp28 := M.2.1.1.pc28
  refine j_2 s H (q_no_eq a b k u0) (fun n1 => Iff.rfl) (fun n1 n2 x0 h2 hp => ?_) hp
  obtain ⟨e, rd⟩ := hp
  cases e
  refine ⟨?_, rd.2, q_half.rd s H rd⟩
  obtain ⟨g1, g2⟩ := q_at_eq a b k (fun h => n1 ((q_no_eq a b k u0).mp h))
  rw [← g2, q_az_sum, q_az_sum]; exact congrArg (nI 0 + ·) (q_zc_eq a (b.2.1 _ g1) _)
theorem j_loadOn {h h1 : q_Hp} {W m : q_W} {O : q_O} {P : q_P} {c N : Nat} {τ : Nat → Nat} {u0 : Int32} (C : q_clX h W O) (M : q_mr h m P) (s : q_smc c W m) (a : q_si0 W m) (b : q_si1 W m τ) (k : q_si2 m N) (dd : q_dd m) (H : q_hs c O P) (hcc : c ≤ 600) {r : Except String (Option Value)} (hp : (q_l1 h W O (¬ (nI 0 ≤ u0 ∧ u0 ≤ nI W.t)) (fun v h' => v = some (.int (W.D u0.toNatClampNeg)) ∧ q_rd h h' W O)) r h1) : q_cls (c + 1) h m P (q_k1 (¬ (nI 0 ≤ u0 ∧ u0 ≤ nI m.t))) (m.D u0.toNatClampNeg) (m) (P) r h1 := by
  have et := a.1
  have ec := a.2.1
  have enx := a.2.2.1
  have en := a.2.2.2.1
  have etd := a.2.2.2.2.1
  have ebd := a.2.2.2.2.2.1
  have ewt := a.2.2.2.2.2.2.1
  have epe := a.2.2.2.2.2.2.2.1
  have epf := a.2.2.2.2.2.2.2.2.1
  have epc := a.2.2.2.2.2.2.2.2.2.1
  have etg := a.2.2.2.2.2.2.2.2.2.2
  have v := k.2.2.2.2.2.2.2
  have ht := k.2.2.2.2.2.2.1
  have hc := k.2.1
  have hn10 := C.1.1.n10
  have o := C.1.2.1.2
  have htp := M.2.2.1.2.2.2.1
  have hun := M.2.2.1.2.1
  have hpe1 := M.2.1.1.pe1
  have hpf9 := M.2.1.1.pf9
  have hp28 := M.2.1.1.pc28
  refine j_1 s H (by rw [et]) (fun n1 x0 h2 hp => ?_) hp
  obtain ⟨e, rd⟩ := hp
  cases e
  refine ⟨?_, rd.2, q_half.rd s H rd⟩
  obtain ⟨j, j1, j2, rfl⟩ := q_rng n1 (by omega) (by omega)
  rw [nI_clamp (by omega)]; exact q_D_eq a b k (by omega)
theorem j_fitnessOn {h h1 : q_Hp} {W m : q_W} {O : q_O} {P : q_P} {c N : Nat} {τ : Nat → Nat} {u0 : Int32} (C : q_clX h W O) (M : q_mr h m P) (s : q_smc c W m) (a : q_si0 W m) (b : q_si1 W m τ) (k : q_si2 m N) (dd : q_dd m) (H : q_hs c O P) (hcc : c ≤ 600) {r : Except String (Option Value)} (hp : (q_l1 h W O (¬ (nI 0 ≤ u0 ∧ u0 ≤ nI W.t)) (fun v h' => v = some (.int (q_dec (nI 42) W.D (u0.toNatClampNeg + 1))) ∧ q_rd h h' W O)) r h1) : q_cls (c + 1) h m P (q_k1 (¬ (nI 0 ≤ u0 ∧ u0 ≤ nI m.t))) (q_dec (nI 42) m.D2 (u0.toNatClampNeg + 1)) (m) (P) r h1 := by
  have et := a.1
  have ec := a.2.1
  have enx := a.2.2.1
  have en := a.2.2.2.1
  have etd := a.2.2.2.2.1
  have ebd := a.2.2.2.2.2.1
  have ewt := a.2.2.2.2.2.2.1
  have epe := a.2.2.2.2.2.2.2.1
  have epf := a.2.2.2.2.2.2.2.2.1
  have epc := a.2.2.2.2.2.2.2.2.2.1
  have etg := a.2.2.2.2.2.2.2.2.2.2
  have v := k.2.2.2.2.2.2.2
  have ht := k.2.2.2.2.2.2.1
  have hc := k.2.1
  have hn10 := C.1.1.n10
  have o := C.1.2.1.2
  have htp := M.2.2.1.2.2.2.1
  have hun := M.2.2.1.2.1
  have hpe1 := M.2.1.1.pe1
  have hpf9 := M.2.1.1.pf9
  have hp28 := M.2.1.1.pc28
  refine j_1 s H (by rw [et]) (fun n1 x0 h2 hp => ?_) hp
  obtain ⟨e, rd⟩ := hp
  cases e
  refine ⟨?_, rd.2, q_half.rd s H rd⟩
  obtain ⟨j, j1, j2, rfl⟩ := q_rng n1 (by omega) (by omega)
  rw [nI_clamp (by omega)]; exact q_dec_eq a b k _ _ (by omega)
theorem j_fitnessFromStart {h h1 : q_Hp} {W m : q_W} {O : q_O} {P : q_P} {c N : Nat} {τ : Nat → Nat} {u0 : Int32} (C : q_clX h W O) (M : q_mr h m P) (s : q_smc c W m) (a : q_si0 W m) (b : q_si1 W m τ) (k : q_si2 m N) (dd : q_dd m) (H : q_hs c O P) (hcc : c ≤ 600) {r : Except String (Option Value)} (hp : (q_l1 h W O (¬ (nI 0 ≤ u0 ∧ u0 ≤ nI W.t)) (fun v h' => v = some (.int (q_dec (nI 42) W.D (u0.toNatClampNeg + 1))) ∧ q_rd h h' W O)) r h1) : q_cls (c + 1) h m P (q_k1 (¬ (nI 0 ≤ u0 ∧ u0 ≤ nI m.t))) (q_dec (nI 42) m.D2 (u0.toNatClampNeg + 1)) (m) (P) r h1 := by
  have et := a.1
  have ec := a.2.1
  have enx := a.2.2.1
  have en := a.2.2.2.1
  have etd := a.2.2.2.2.1
  have ebd := a.2.2.2.2.2.1
  have ewt := a.2.2.2.2.2.2.1
  have epe := a.2.2.2.2.2.2.2.1
  have epf := a.2.2.2.2.2.2.2.2.1
  have epc := a.2.2.2.2.2.2.2.2.2.1
  have etg := a.2.2.2.2.2.2.2.2.2.2
  have v := k.2.2.2.2.2.2.2
  have ht := k.2.2.2.2.2.2.1
  have hc := k.2.1
  have hn10 := C.1.1.n10
  have o := C.1.2.1.2
  have htp := M.2.2.1.2.2.2.1
  have hun := M.2.2.1.2.1
  have hpe1 := M.2.1.1.pe1
  have hpf9 := M.2.1.1.pf9
  have hp28 := M.2.1.1.pc28
  refine j_1 s H (by rw [et]) (fun n1 x0 h2 hp => ?_) hp
  obtain ⟨e, rd⟩ := hp
  cases e
  refine ⟨?_, rd.2, q_half.rd s H rd⟩
  obtain ⟨j, j1, j2, rfl⟩ := q_rng n1 (by omega) (by omega)
  rw [nI_clamp (by omega)]; exact q_dec_eq a b k _ _ (by omega)
theorem j_fatigueOn {h h1 : q_Hp} {W m : q_W} {O : q_O} {P : q_P} {c N : Nat} {τ : Nat → Nat} {u0 : Int32} (C : q_clX h W O) (M : q_mr h m P) (s : q_smc c W m) (a : q_si0 W m) (b : q_si1 W m τ) (k : q_si2 m N) (dd : q_dd m) (H : q_hs c O P) (hcc : c ≤ 600) {r : Except String (Option Value)} (hp : (q_l1 h W O (¬ (nI 0 ≤ u0 ∧ u0 ≤ nI W.t)) (fun v h' => v = some (.int (q_dec (nI 7) W.D (u0.toNatClampNeg + 1))) ∧ q_rd h h' W O)) r h1) : q_cls (c + 1) h m P (q_k1 (¬ (nI 0 ≤ u0 ∧ u0 ≤ nI m.t))) (q_dec (nI 7) m.D2 (u0.toNatClampNeg + 1)) (m) (P) r h1 := by
  have et := a.1
  have ec := a.2.1
  have enx := a.2.2.1
  have en := a.2.2.2.1
  have etd := a.2.2.2.2.1
  have ebd := a.2.2.2.2.2.1
  have ewt := a.2.2.2.2.2.2.1
  have epe := a.2.2.2.2.2.2.2.1
  have epf := a.2.2.2.2.2.2.2.2.1
  have epc := a.2.2.2.2.2.2.2.2.2.1
  have etg := a.2.2.2.2.2.2.2.2.2.2
  have v := k.2.2.2.2.2.2.2
  have ht := k.2.2.2.2.2.2.1
  have hc := k.2.1
  have hn10 := C.1.1.n10
  have o := C.1.2.1.2
  have htp := M.2.2.1.2.2.2.1
  have hun := M.2.2.1.2.1
  have hpe1 := M.2.1.1.pe1
  have hpf9 := M.2.1.1.pf9
  have hp28 := M.2.1.1.pc28
  refine j_1 s H (by rw [et]) (fun n1 x0 h2 hp => ?_) hp
  obtain ⟨e, rd⟩ := hp
  cases e
  refine ⟨?_, rd.2, q_half.rd s H rd⟩
  obtain ⟨j, j1, j2, rfl⟩ := q_rng n1 (by omega) (by omega)
  rw [nI_clamp (by omega)]; exact q_dec_eq a b k _ _ (by omega)
theorem j_fatigueFromStart {h h1 : q_Hp} {W m : q_W} {O : q_O} {P : q_P} {c N : Nat} {τ : Nat → Nat} {u0 : Int32} (C : q_clX h W O) (M : q_mr h m P) (s : q_smc c W m) (a : q_si0 W m) (b : q_si1 W m τ) (k : q_si2 m N) (dd : q_dd m) (H : q_hs c O P) (hcc : c ≤ 600) {r : Except String (Option Value)} (hp : (q_l1 h W O (¬ (nI 0 ≤ u0 ∧ u0 ≤ nI W.t)) (fun v h' => v = some (.int (q_dec (nI 7) W.D (u0.toNatClampNeg + 1))) ∧ q_rd h h' W O)) r h1) : q_cls (c + 1) h m P (q_k1 (¬ (nI 0 ≤ u0 ∧ u0 ≤ nI m.t))) (q_dec (nI 7) m.D2 (u0.toNatClampNeg + 1)) (m) (P) r h1 := by
  have et := a.1
  have ec := a.2.1
  have enx := a.2.2.1
  have en := a.2.2.2.1
  have etd := a.2.2.2.2.1
  have ebd := a.2.2.2.2.2.1
  have ewt := a.2.2.2.2.2.2.1
  have epe := a.2.2.2.2.2.2.2.1
  have epf := a.2.2.2.2.2.2.2.2.1
  have epc := a.2.2.2.2.2.2.2.2.2.1
  have etg := a.2.2.2.2.2.2.2.2.2.2
  have v := k.2.2.2.2.2.2.2
  have ht := k.2.2.2.2.2.2.1
  have hc := k.2.1
  have hn10 := C.1.1.n10
  have o := C.1.2.1.2
  have htp := M.2.2.1.2.2.2.1
  have hun := M.2.2.1.2.1
  have hpe1 := M.2.1.1.pe1
  have hpf9 := M.2.1.1.pf9
  have hp28 := M.2.1.1.pc28
  refine j_1 s H (by rw [et]) (fun n1 x0 h2 hp => ?_) hp
  obtain ⟨e, rd⟩ := hp
  cases e
  refine ⟨?_, rd.2, q_half.rd s H rd⟩
  obtain ⟨j, j1, j2, rfl⟩ := q_rng n1 (by omega) (by omega)
  rw [nI_clamp (by omega)]; exact q_dec_eq a b k _ _ (by omega)
theorem j_formOn {h h1 : q_Hp} {W m : q_W} {O : q_O} {P : q_P} {c N : Nat} {τ : Nat → Nat} {u0 : Int32} (C : q_clX h W O) (M : q_mr h m P) (s : q_smc c W m) (a : q_si0 W m) (b : q_si1 W m τ) (k : q_si2 m N) (dd : q_dd m) (H : q_hs c O P) (hcc : c ≤ 600) {r : Except String (Option Value)} (hp : (q_l1 h W O (¬ (nI 0 ≤ u0 ∧ u0 ≤ nI W.t)) (fun v h' => v = some (.int (W.fm u0.toNatClampNeg)) ∧ q_rd h h' W O)) r h1) : q_cls (c + 1) h m P (q_k1 (¬ (nI 0 ≤ u0 ∧ u0 ≤ nI m.t))) (m.f2 u0.toNatClampNeg) (m) (P) r h1 := by
  have et := a.1
  have ec := a.2.1
  have enx := a.2.2.1
  have en := a.2.2.2.1
  have etd := a.2.2.2.2.1
  have ebd := a.2.2.2.2.2.1
  have ewt := a.2.2.2.2.2.2.1
  have epe := a.2.2.2.2.2.2.2.1
  have epf := a.2.2.2.2.2.2.2.2.1
  have epc := a.2.2.2.2.2.2.2.2.2.1
  have etg := a.2.2.2.2.2.2.2.2.2.2
  have v := k.2.2.2.2.2.2.2
  have ht := k.2.2.2.2.2.2.1
  have hc := k.2.1
  have hn10 := C.1.1.n10
  have o := C.1.2.1.2
  have htp := M.2.2.1.2.2.2.1
  have hun := M.2.2.1.2.1
  have hpe1 := M.2.1.1.pe1
  have hpf9 := M.2.1.1.pf9
  have hp28 := M.2.1.1.pc28
  refine j_1 s H (by rw [et]) (fun n1 x0 h2 hp => ?_) hp
  obtain ⟨e, rd⟩ := hp
  cases e
  refine ⟨?_, rd.2, q_half.rd s H rd⟩
  obtain ⟨j, j1, j2, rfl⟩ := q_rng n1 (by omega) (by omega)
  rw [nI_clamp (by omega)]; exact q_fm_eq a b k (by omega)
theorem j_daysToForm {h h1 : q_Hp} {W m : q_W} {O : q_O} {P : q_P} {c N : Nat} {τ : Nat → Nat} {u0 : Int32} (C : q_clX h W O) (M : q_mr h m P) (s : q_smc c W m) (a : q_si0 W m) (b : q_si1 W m τ) (k : q_si2 m N) (dd : q_dd m) (H : q_hs c O P) (hcc : c ≤ 600) {r : Except String (Option Value)} (hp : (q_l2 h W O (¬ (-100000 ≤ u0 ∧ u0 ≤ nI 100000)) (q_ps (fun n => decide (u0 ≤ W.G n)) 201 < 0) (fun v h' => v = some (.int (q_ps (fun n => decide (u0 ≤ W.G n)) 201)) ∧ q_rd h h' W O)) r h1) : q_cls (c + 1) h m P (q_k2 (¬ (-100000 ≤ u0 ∧ u0 ≤ nI 100000)) (q_fd (fun n => decide (u0 ≤ m.f2 (m.t + n))) 201 < 0)) (q_fd (fun n => decide (u0 ≤ m.f2 (m.t + n))) 201) (m) (P) r h1 := by
  have et := a.1
  have ec := a.2.1
  have enx := a.2.2.1
  have en := a.2.2.2.1
  have etd := a.2.2.2.2.1
  have ebd := a.2.2.2.2.2.1
  have ewt := a.2.2.2.2.2.2.1
  have epe := a.2.2.2.2.2.2.2.1
  have epf := a.2.2.2.2.2.2.2.2.1
  have epc := a.2.2.2.2.2.2.2.2.2.1
  have etg := a.2.2.2.2.2.2.2.2.2.2
  have v := k.2.2.2.2.2.2.2
  have ht := k.2.2.2.2.2.2.1
  have hc := k.2.1
  have hn10 := C.1.1.n10
  have o := C.1.2.1.2
  have htp := M.2.2.1.2.2.2.1
  have hun := M.2.2.1.2.1
  have hpe1 := M.2.1.1.pe1
  have hpf9 := M.2.1.1.pf9
  have hp28 := M.2.1.1.pc28
  refine j_2 s H Iff.rfl (fun n1 => (by rw [q_dtf a b k])) (fun n1 n2 x0 h2 hp => ?_) hp
  obtain ⟨e, rd⟩ := hp
  cases e
  refine ⟨?_, rd.2, q_half.rd s H rd⟩
  exact q_dtf a b k _
theorem j_bestDays {h h1 : q_Hp} {W m : q_W} {O : q_O} {P : q_P} {c N : Nat} {τ : Nat → Nat} {u0 : Int32} (C : q_clX h W O) (M : q_mr h m P) (s : q_smc c W m) (a : q_si0 W m) (b : q_si1 W m τ) (k : q_si2 m N) (dd : q_dd m) (H : q_hs c O P) (hcc : c ≤ 600) {r : Except String (Option Value)} (hp : (q_l2 h W O (¬ (nI 1 ≤ u0 ∧ u0 ≤ nI 60)) (nI W.t < u0 - nI 1) (fun v h' => v = some (.int (q_sum (fun k => W.D ((q_br (fun a => q_sum (fun k => W.D (a + k)) u0.toNatClampNeg) (W.t + 1 - u0.toNatClampNeg)) + k)) u0.toNatClampNeg)) ∧ q_rd h h' W O)) r h1) : q_cls (c + 1) h m P (q_k2 (¬ (nI 1 ≤ u0 ∧ u0 ≤ nI 60)) (nI m.t < u0 - nI 1)) (q_sum (fun k => m.D ((q_br (fun a => q_sum (fun k => m.D (a + k)) u0.toNatClampNeg) (m.t + 1 - u0.toNatClampNeg)) + k)) u0.toNatClampNeg) (m) (P) r h1 := by
  have et := a.1
  have ec := a.2.1
  have enx := a.2.2.1
  have en := a.2.2.2.1
  have etd := a.2.2.2.2.1
  have ebd := a.2.2.2.2.2.1
  have ewt := a.2.2.2.2.2.2.1
  have epe := a.2.2.2.2.2.2.2.1
  have epf := a.2.2.2.2.2.2.2.2.1
  have epc := a.2.2.2.2.2.2.2.2.2.1
  have etg := a.2.2.2.2.2.2.2.2.2.2
  have v := k.2.2.2.2.2.2.2
  have ht := k.2.2.2.2.2.2.1
  have hc := k.2.1
  have hn10 := C.1.1.n10
  have o := C.1.2.1.2
  have htp := M.2.2.1.2.2.2.1
  have hun := M.2.2.1.2.1
  have hpe1 := M.2.1.1.pe1
  have hpf9 := M.2.1.1.pf9
  have hp28 := M.2.1.1.pc28
  refine j_2 s H Iff.rfl (fun n1 => (by rw [et])) (fun n1 n2 x0 h2 hp => ?_) hp
  obtain ⟨e, rd⟩ := hp
  cases e
  refine ⟨?_, rd.2, q_half.rd s H rd⟩
  obtain ⟨j, j1, j2, rfl⟩ := q_rng n1 (by omega) (by omega)
  have jt := q_rowt n2 j1 (by omega) (by omega)
  rw [nI_clamp (by omega)]
  rw [q_bds a b k jt]; exact q_rows a b k (by have := q_br_le (fun a => q_sum (fun k => m.D (a + k)) j) (m.t + 1 - j); omega)
theorem j_bestDaysByTrying {h h1 : q_Hp} {W m : q_W} {O : q_O} {P : q_P} {c N : Nat} {τ : Nat → Nat} {u0 : Int32} (C : q_clX h W O) (M : q_mr h m P) (s : q_smc c W m) (a : q_si0 W m) (b : q_si1 W m τ) (k : q_si2 m N) (dd : q_dd m) (H : q_hs c O P) (hcc : c ≤ 600) {r : Except String (Option Value)} (hp : (q_l2 h W O (¬ (nI 1 ≤ u0 ∧ u0 ≤ nI 60)) (nI W.t < u0 - nI 1) (fun v h' => v = some (.int (q_mz (fun a => q_sum (fun k => W.D (a + k)) u0.toNatClampNeg) (W.t + 2 - u0.toNatClampNeg))) ∧ q_rd h h' W O)) r h1) : q_cls (c + 1) h m P (q_k2 (¬ (nI 1 ≤ u0 ∧ u0 ≤ nI 60)) (nI m.t < u0 - nI 1)) (q_sum (fun k => m.D ((q_br (fun a => q_sum (fun k => m.D (a + k)) u0.toNatClampNeg) (m.t + 1 - u0.toNatClampNeg)) + k)) u0.toNatClampNeg) (m) (P) r h1 := by
  have et := a.1
  have ec := a.2.1
  have enx := a.2.2.1
  have en := a.2.2.2.1
  have etd := a.2.2.2.2.1
  have ebd := a.2.2.2.2.2.1
  have ewt := a.2.2.2.2.2.2.1
  have epe := a.2.2.2.2.2.2.2.1
  have epf := a.2.2.2.2.2.2.2.2.1
  have epc := a.2.2.2.2.2.2.2.2.2.1
  have etg := a.2.2.2.2.2.2.2.2.2.2
  have v := k.2.2.2.2.2.2.2
  have ht := k.2.2.2.2.2.2.1
  have hc := k.2.1
  have hn10 := C.1.1.n10
  have o := C.1.2.1.2
  have htp := M.2.2.1.2.2.2.1
  have hun := M.2.2.1.2.1
  have hpe1 := M.2.1.1.pe1
  have hpf9 := M.2.1.1.pf9
  have hp28 := M.2.1.1.pc28
  refine j_2 s H Iff.rfl (fun n1 => (by rw [et])) (fun n1 n2 x0 h2 hp => ?_) hp
  obtain ⟨e, rd⟩ := hp
  cases e
  refine ⟨?_, rd.2, q_half.rd s H rd⟩
  obtain ⟨j, j1, j2, rfl⟩ := q_rng n1 (by omega) (by omega)
  have jt := q_rowt n2 j1 (by omega) (by omega)
  rw [nI_clamp (by omega)]
  exact q_bdt a b k j1 j2 jt
theorem j_bestDaysStart {h h1 : q_Hp} {W m : q_W} {O : q_O} {P : q_P} {c N : Nat} {τ : Nat → Nat} {u0 : Int32} (C : q_clX h W O) (M : q_mr h m P) (s : q_smc c W m) (a : q_si0 W m) (b : q_si1 W m τ) (k : q_si2 m N) (dd : q_dd m) (H : q_hs c O P) (hcc : c ≤ 600) {r : Except String (Option Value)} (hp : (q_l2 h W O (¬ (nI 1 ≤ u0 ∧ u0 ≤ nI 60)) (nI W.t < u0 - nI 1) (fun v h' => v = some (.int (nI (q_br (fun a => q_sum (fun k => W.D (a + k)) u0.toNatClampNeg) (W.t + 1 - u0.toNatClampNeg)))) ∧ q_rd h h' W O)) r h1) : q_cls (c + 1) h m P (q_k2 (¬ (nI 1 ≤ u0 ∧ u0 ≤ nI 60)) (nI m.t < u0 - nI 1)) (nI (q_br (fun a => q_sum (fun k => m.D (a + k)) u0.toNatClampNeg) (m.t + 1 - u0.toNatClampNeg))) (m) (P) r h1 := by
  have et := a.1
  have ec := a.2.1
  have enx := a.2.2.1
  have en := a.2.2.2.1
  have etd := a.2.2.2.2.1
  have ebd := a.2.2.2.2.2.1
  have ewt := a.2.2.2.2.2.2.1
  have epe := a.2.2.2.2.2.2.2.1
  have epf := a.2.2.2.2.2.2.2.2.1
  have epc := a.2.2.2.2.2.2.2.2.2.1
  have etg := a.2.2.2.2.2.2.2.2.2.2
  have v := k.2.2.2.2.2.2.2
  have ht := k.2.2.2.2.2.2.1
  have hc := k.2.1
  have hn10 := C.1.1.n10
  have o := C.1.2.1.2
  have htp := M.2.2.1.2.2.2.1
  have hun := M.2.2.1.2.1
  have hpe1 := M.2.1.1.pe1
  have hpf9 := M.2.1.1.pf9
  have hp28 := M.2.1.1.pc28
  refine j_2 s H Iff.rfl (fun n1 => (by rw [et])) (fun n1 n2 x0 h2 hp => ?_) hp
  obtain ⟨e, rd⟩ := hp
  cases e
  refine ⟨?_, rd.2, q_half.rd s H rd⟩
  obtain ⟨j, j1, j2, rfl⟩ := q_rng n1 (by omega) (by omega)
  have jt := q_rowt n2 j1 (by omega) (by omega)
  rw [nI_clamp (by omega)]
  exact congrArg nI (q_bds a b k jt)
theorem j_bestEffort {h h1 : q_Hp} {W m : q_W} {O : q_O} {P : q_P} {c N : Nat} {τ : Nat → Nat} {u0 : Int32} (C : q_clX h W O) (M : q_mr h m P) (s : q_smc c W m) (a : q_si0 W m) (b : q_si1 W m τ) (k : q_si2 m N) (dd : q_dd m) (H : q_hs c O P) (hcc : c ≤ 600) {r : Except String (Option Value)} (hp : (q_l2 h W O (¬ (nI 1 ≤ u0 ∧ u0 ≤ nI 240)) (q_any (fun i => decide (u0 ≤ W.len (W.σ i))) W.c = false) (fun v h' => v = some (.int (W.ef (W.σ (W.bp u0.toNatClampNeg)) u0.toNatClampNeg)) ∧ q_rd h h' W O)) r h1) : q_cls (c + 1) h m P (q_k2 (¬ (nI 1 ≤ u0 ∧ u0 ≤ nI 240)) (q_on (q_sg (fun k => m.ef k u0.toNatClampNeg) τ m.c) < 0)) (m.ef ((q_sg (fun k => m.ef k u0.toNatClampNeg) τ m.c).getD 0) u0.toNatClampNeg) (m) (P) r h1 := by
  have et := a.1
  have ec := a.2.1
  have enx := a.2.2.1
  have en := a.2.2.2.1
  have etd := a.2.2.2.2.1
  have ebd := a.2.2.2.2.2.1
  have ewt := a.2.2.2.2.2.2.1
  have epe := a.2.2.2.2.2.2.2.1
  have epf := a.2.2.2.2.2.2.2.2.1
  have epc := a.2.2.2.2.2.2.2.2.2.1
  have etg := a.2.2.2.2.2.2.2.2.2.2
  have v := k.2.2.2.2.2.2.2
  have ht := k.2.2.2.2.2.2.1
  have hc := k.2.1
  have hn10 := C.1.1.n10
  have o := C.1.2.1.2
  have htp := M.2.2.1.2.2.2.1
  have hun := M.2.2.1.2.1
  have hpe1 := M.2.1.1.pe1
  have hpf9 := M.2.1.1.pf9
  have hp28 := M.2.1.1.pc28
  refine j_2 s H Iff.rfl (fun n1 => (by
      obtain ⟨j, j1, j2, rfl⟩ := q_rng n1 (by omega) (by omega)
      rw [nI_clamp (by omega)]
      rcases q_eff a b k j1 j2 with ⟨e1, e2⟩ | ⟨e1, e2, _⟩
      · exact ⟨fun _ => e2, fun _ => e1⟩
      · exact ⟨fun h => absurd h e1, fun h => absurd h e2⟩)) (fun n1 n2 x0 h2 hp => ?_) hp
  obtain ⟨e, rd⟩ := hp
  cases e
  refine ⟨?_, rd.2, q_half.rd s H rd⟩
  obtain ⟨j, j1, j2, rfl⟩ := q_rng n1 (by omega) (by omega)
  rw [nI_clamp (by omega)] at n2 ⊢
  rcases q_eff a b k j1 j2 with ⟨_, e2⟩ | ⟨_, _, e3, e4, e5⟩
  · exact absurd e2 n2
  · rw [e4]; exact q_ef_eq (b.2.1 _ e3) _
theorem j_bestEffortByTrying {h h1 : q_Hp} {W m : q_W} {O : q_O} {P : q_P} {c N : Nat} {τ : Nat → Nat} {u0 : Int32} (C : q_clX h W O) (M : q_mr h m P) (s : q_smc c W m) (a : q_si0 W m) (b : q_si1 W m τ) (k : q_si2 m N) (dd : q_dd m) (H : q_hs c O P) (hcc : c ≤ 600) {r : Except String (Option Value)} (hp : (q_l2 h W O (¬ (nI 1 ≤ u0 ∧ u0 ≤ nI 240)) (q_any (fun i => decide (u0 ≤ W.len (W.σ i))) W.c = false) (fun v h' => v = some (.int (q_mz (fun i => W.et (W.σ i) u0.toNatClampNeg) W.c)) ∧ q_rd h h' W O)) r h1) : q_cls (c + 1) h m P (q_k2 (¬ (nI 1 ≤ u0 ∧ u0 ≤ nI 240)) (q_on (q_sg (fun k => m.ef k u0.toNatClampNeg) τ m.c) < 0)) (m.ef ((q_sg (fun k => m.ef k u0.toNatClampNeg) τ m.c).getD 0) u0.toNatClampNeg) (m) (P) r h1 := by
  have et := a.1
  have ec := a.2.1
  have enx := a.2.2.1
  have en := a.2.2.2.1
  have etd := a.2.2.2.2.1
  have ebd := a.2.2.2.2.2.1
  have ewt := a.2.2.2.2.2.2.1
  have epe := a.2.2.2.2.2.2.2.1
  have epf := a.2.2.2.2.2.2.2.2.1
  have epc := a.2.2.2.2.2.2.2.2.2.1
  have etg := a.2.2.2.2.2.2.2.2.2.2
  have v := k.2.2.2.2.2.2.2
  have ht := k.2.2.2.2.2.2.1
  have hc := k.2.1
  have hn10 := C.1.1.n10
  have o := C.1.2.1.2
  have htp := M.2.2.1.2.2.2.1
  have hun := M.2.2.1.2.1
  have hpe1 := M.2.1.1.pe1
  have hpf9 := M.2.1.1.pf9
  have hp28 := M.2.1.1.pc28
  refine j_2 s H Iff.rfl (fun n1 => (by
      obtain ⟨j, j1, j2, rfl⟩ := q_rng n1 (by omega) (by omega)
      rw [nI_clamp (by omega)]
      rcases q_eff a b k j1 j2 with ⟨e1, e2⟩ | ⟨e1, e2, _⟩
      · exact ⟨fun _ => e2, fun _ => e1⟩
      · exact ⟨fun h => absurd h e1, fun h => absurd h e2⟩)) (fun n1 n2 x0 h2 hp => ?_) hp
  obtain ⟨e, rd⟩ := hp
  cases e
  refine ⟨?_, rd.2, q_half.rd s H rd⟩
  obtain ⟨j, j1, j2, rfl⟩ := q_rng n1 (by omega) (by omega)
  rw [nI_clamp (by omega)] at n2 ⊢
  rcases q_eff a b k j1 j2 with ⟨_, e2⟩ | ⟨_, _, e3, e4, e5⟩
  · exact absurd e2 n2
  · rw [e4]; exact e5
theorem j_bestEffortSession {h h1 : q_Hp} {W m : q_W} {O : q_O} {P : q_P} {c N : Nat} {τ : Nat → Nat} {u0 : Int32} (C : q_clX h W O) (M : q_mr h m P) (s : q_smc c W m) (a : q_si0 W m) (b : q_si1 W m τ) (k : q_si2 m N) (dd : q_dd m) (H : q_hs c O P) (hcc : c ≤ 600) {r : Except String (Option Value)} (hp : (q_l2 h W O (¬ (nI 1 ≤ u0 ∧ u0 ≤ nI 240)) (q_any (fun i => decide (u0 ≤ W.len (W.σ i))) W.c = false) (fun v h' => v = some (.int (W.id (W.σ (W.bp u0.toNatClampNeg)))) ∧ q_rd h h' W O)) r h1) : q_cls (c + 1) h m P (q_k2 (¬ (nI 1 ≤ u0 ∧ u0 ≤ nI 240)) (q_on (q_sg (fun k => m.ef k u0.toNatClampNeg) τ m.c) < 0)) (m.id ((q_sg (fun k => m.ef k u0.toNatClampNeg) τ m.c).getD 0)) (m) (P) r h1 := by
  have et := a.1
  have ec := a.2.1
  have enx := a.2.2.1
  have en := a.2.2.2.1
  have etd := a.2.2.2.2.1
  have ebd := a.2.2.2.2.2.1
  have ewt := a.2.2.2.2.2.2.1
  have epe := a.2.2.2.2.2.2.2.1
  have epf := a.2.2.2.2.2.2.2.2.1
  have epc := a.2.2.2.2.2.2.2.2.2.1
  have etg := a.2.2.2.2.2.2.2.2.2.2
  have v := k.2.2.2.2.2.2.2
  have ht := k.2.2.2.2.2.2.1
  have hc := k.2.1
  have hn10 := C.1.1.n10
  have o := C.1.2.1.2
  have htp := M.2.2.1.2.2.2.1
  have hun := M.2.2.1.2.1
  have hpe1 := M.2.1.1.pe1
  have hpf9 := M.2.1.1.pf9
  have hp28 := M.2.1.1.pc28
  refine j_2 s H Iff.rfl (fun n1 => (by
      obtain ⟨j, j1, j2, rfl⟩ := q_rng n1 (by omega) (by omega)
      rw [nI_clamp (by omega)]
      rcases q_eff a b k j1 j2 with ⟨e1, e2⟩ | ⟨e1, e2, _⟩
      · exact ⟨fun _ => e2, fun _ => e1⟩
      · exact ⟨fun h => absurd h e1, fun h => absurd h e2⟩)) (fun n1 n2 x0 h2 hp => ?_) hp
  obtain ⟨e, rd⟩ := hp
  cases e
  refine ⟨?_, rd.2, q_half.rd s H rd⟩
  obtain ⟨j, j1, j2, rfl⟩ := q_rng n1 (by omega) (by omega)
  rw [nI_clamp (by omega)] at n2 ⊢
  rcases q_eff a b k j1 j2 with ⟨_, e2⟩ | ⟨_, _, e3, e4, e5⟩
  · exact absurd e2 n2
  · rw [e4]; exact (b.2.1 _ e3).1
theorem j_targetAt {h h1 : q_Hp} {W m : q_W} {O : q_O} {P : q_P} {c N : Nat} {τ : Nat → Nat} {u0 : Int32} (C : q_clX h W O) (M : q_mr h m P) (s : q_smc c W m) (a : q_si0 W m) (b : q_si1 W m τ) (k : q_si2 m N) (dd : q_dd m) (H : q_hs c O P) (hcc : c ≤ 600) {r : Except String (Option Value)} (hp : (q_l1 h W O (u0 < 0 ∨ nI W.pc ≤ u0) (fun v h' => v = some (.int (W.tg u0.toNatClampNeg)) ∧ q_rd h h' W O)) r h1) : q_cls (c + 1) h m P (q_k1 (m.pe = 0 ∨ ¬ (nI 0 ≤ u0 ∧ u0 ≤ nI m.pc - nI 1))) (m.tg u0.toNatClampNeg) (m) (P) r h1 := by
  have et := a.1
  have ec := a.2.1
  have enx := a.2.2.1
  have en := a.2.2.2.1
  have etd := a.2.2.2.2.1
  have ebd := a.2.2.2.2.2.1
  have ewt := a.2.2.2.2.2.2.1
  have epe := a.2.2.2.2.2.2.2.1
  have epf := a.2.2.2.2.2.2.2.2.1
  have epc := a.2.2.2.2.2.2.2.2.2.1
  have etg := a.2.2.2.2.2.2.2.2.2.2
  have v := k.2.2.2.2.2.2.2
  have ht := k.2.2.2.2.2.2.1
  have hc := k.2.1
  have hn10 := C.1.1.n10
  have o := C.1.2.1.2
  have htp := M.2.2.1.2.2.2.1
  have hun := M.2.2.1.2.1
  have hpe1 := M.2.1.1.pe1
  have hpf9 := M.2.1.1.pf9
  have hp28 := M.2.1.1.pc28
  refine j_1 s H (by
      rw [epc, q_idx (n := m.pc) (by omega)]
      constructor
      · exact Or.inr
      · rintro (h | h)
        · rw [v.2.2.2.2.2.2 h, ← q_idx (by omega)]
          by_cases e : u0 < 0
          · exact Or.inl e
          · exact Or.inr (Int32.not_lt.mp e)
        · exact h) (fun n1 x0 h2 hp => ?_) hp
  obtain ⟨e, rd⟩ := hp
  cases e
  refine ⟨?_, rd.2, q_half.rd s H rd⟩
  have n3 := fun h => n1 (Or.inr h)
  have hi := q_idx_in (n := m.pc) (by omega) n3
  exact etg _ hi
theorem j_dueEntry {h h1 : q_Hp} {W m : q_W} {O : q_O} {P : q_P} {c N : Nat} {τ : Nat → Nat} (C : q_clX h W O) (M : q_mr h m P) (s : q_smc c W m) (a : q_si0 W m) (b : q_si1 W m τ) (k : q_si2 m N) (dd : q_dd m) (H : q_hs c O P) (hcc : c ≤ 600) {r : Except String (Option Value)} (hp : (q_l1 h W O (W.pc ≤ W.due) (fun v h' => v = some (.int (nI W.due)) ∧ q_rd h h' W O)) r h1) : q_cls (c + 1) h m P (q_k1 (¬ (m.pe = 1 ∧ m.due < m.pc))) (nI m.due) (m) (P) r h1 := by
  have et := a.1
  have ec := a.2.1
  have enx := a.2.2.1
  have en := a.2.2.2.1
  have etd := a.2.2.2.2.1
  have ebd := a.2.2.2.2.2.1
  have ewt := a.2.2.2.2.2.2.1
  have epe := a.2.2.2.2.2.2.2.1
  have epf := a.2.2.2.2.2.2.2.2.1
  have epc := a.2.2.2.2.2.2.2.2.2.1
  have etg := a.2.2.2.2.2.2.2.2.2.2
  have v := k.2.2.2.2.2.2.2
  have ht := k.2.2.2.2.2.2.1
  have hc := k.2.1
  have hn10 := C.1.1.n10
  have o := C.1.2.1.2
  have htp := M.2.2.1.2.2.2.1
  have hun := M.2.2.1.2.1
  have hpe1 := M.2.1.1.pe1
  have hpf9 := M.2.1.1.pf9
  have hp28 := M.2.1.1.pc28
  refine j_1 s H (by
      rw [epc, (q_due_eq a b k hpf9).1]
      constructor
      · intro h1 h2; omega
      · intro h1
        by_cases e : m.pe = 1
        · exact Nat.le_of_not_lt fun h2 => h1 ⟨e, h2⟩
        · rw [v.2.2.2.2.2.2 (by omega)]; exact Nat.zero_le _) (fun n1 x0 h2 hp => ?_) hp
  obtain ⟨e, rd⟩ := hp
  cases e
  refine ⟨?_, rd.2, q_half.rd s H rd⟩
  rw [(q_due_eq a b k hpf9).1]
theorem j_planEnd {h h1 : q_Hp} {W m : q_W} {O : q_O} {P : q_P} {c N : Nat} {τ : Nat → Nat} (C : q_clX h W O) (M : q_mr h m P) (s : q_smc c W m) (a : q_si0 W m) (b : q_si1 W m τ) (k : q_si2 m N) (dd : q_dd m) (H : q_hs c O P) (hcc : c ≤ 600) {r : Except String (Option Value)} (hp : (q_l1 h W O (W.pc ≤ W.due) (fun v h' => v = some (.int (nI W.t + ((nI W.pc - nI 1) - nI W.due))) ∧ q_rd h h' W O)) r h1) : q_cls (c + 1) h m P (q_k1 (¬ (m.pe = 1 ∧ m.due < m.pc))) (nI (m.t + m.pc) - nI 1 - nI m.due) (m) (P) r h1 := by
  have et := a.1
  have ec := a.2.1
  have enx := a.2.2.1
  have en := a.2.2.2.1
  have etd := a.2.2.2.2.1
  have ebd := a.2.2.2.2.2.1
  have ewt := a.2.2.2.2.2.2.1
  have epe := a.2.2.2.2.2.2.2.1
  have epf := a.2.2.2.2.2.2.2.2.1
  have epc := a.2.2.2.2.2.2.2.2.2.1
  have etg := a.2.2.2.2.2.2.2.2.2.2
  have v := k.2.2.2.2.2.2.2
  have ht := k.2.2.2.2.2.2.1
  have hc := k.2.1
  have hn10 := C.1.1.n10
  have o := C.1.2.1.2
  have htp := M.2.2.1.2.2.2.1
  have hun := M.2.2.1.2.1
  have hpe1 := M.2.1.1.pe1
  have hpf9 := M.2.1.1.pf9
  have hp28 := M.2.1.1.pc28
  refine j_1 s H (by
      rw [epc, (q_due_eq a b k hpf9).1]
      constructor
      · intro h1 h2; omega
      · intro h1
        by_cases e : m.pe = 1
        · exact Nat.le_of_not_lt fun h2 => h1 ⟨e, h2⟩
        · rw [v.2.2.2.2.2.2 (by omega)]; exact Nat.zero_le _) (fun n1 x0 h2 hp => ?_) hp
  obtain ⟨e, rd⟩ := hp
  cases e
  refine ⟨?_, rd.2, q_half.rd s H rd⟩
  rw [(q_due_eq a b k hpf9).1, et, epc, ← nI_add, Int32.sub_eq_add_neg, Int32.sub_eq_add_neg, Int32.sub_eq_add_neg, Int32.sub_eq_add_neg]; ac_rfl
theorem j_lineAt {h h1 : q_Hp} {W m : q_W} {O : q_O} {P : q_P} {c N : Nat} {τ : Nat → Nat} {u0 : Int32} (C : q_clX h W O) (M : q_mr h m P) (s : q_smc c W m) (a : q_si0 W m) (b : q_si1 W m τ) (k : q_si2 m N) (dd : q_dd m) (H : q_hs c O P) (hcc : c ≤ 600) {r : Except String (Option Value)} (hp : (q_l1 h W O (u0 < 0 ∨ nI O.ll ≤ u0) (fun v h' => v = some (.int (O.ln u0.toNatClampNeg)) ∧ q_rd h h' W O)) r h1) : q_cls (c + 1) h m P (q_k1 (¬ (nI 0 ≤ u0 ∧ u0 ≤ nI P.wr - nI 1))) (P.ln u0.toNatClampNeg) (m) (P) r h1 := by
  have et := a.1
  have ec := a.2.1
  have enx := a.2.2.1
  have en := a.2.2.2.1
  have etd := a.2.2.2.2.1
  have ebd := a.2.2.2.2.2.1
  have ewt := a.2.2.2.2.2.2.1
  have epe := a.2.2.2.2.2.2.2.1
  have epf := a.2.2.2.2.2.2.2.2.1
  have epc := a.2.2.2.2.2.2.2.2.2.1
  have etg := a.2.2.2.2.2.2.2.2.2.2
  have v := k.2.2.2.2.2.2.2
  have ht := k.2.2.2.2.2.2.1
  have hc := k.2.1
  have hn10 := C.1.1.n10
  have o := C.1.2.1.2
  have htp := M.2.2.1.2.2.2.1
  have hun := M.2.2.1.2.1
  have hpe1 := M.2.1.1.pe1
  have hpf9 := M.2.1.1.pf9
  have hp28 := M.2.1.1.pc28
  refine j_1 s H (by rw [H.2.2.2.2.2.1]; exact q_idx (by have := M.2.2.1.2.2.2.2.2.1; omega)) (fun n1 x0 h2 hp => ?_) hp
  obtain ⟨e, rd⟩ := hp
  cases e
  refine ⟨?_, rd.2, q_half.rd s H rd⟩
  have hi := q_idx_in (n := P.wr) (by have := M.2.2.1.2.2.2.2.2.1; omega) n1
  exact (H.2.2.2.2.2.2 _ hi).1
theorem j_pass {h h1 : q_Hp} {W m : q_W} {O : q_O} {P : q_P} {c N : Nat} {τ : Nat → Nat} {u0 : Int32} (C : q_clX h W O) (M : q_mr h m P) (s : q_smc c W m) (a : q_si0 W m) (b : q_si1 W m τ) (k : q_si2 m N) (dd : q_dd m) (H : q_hs c O P) (hcc : c ≤ 600) {r : Except String (Option Value)} (hp : (q_l2 h W O (¬ (nI 1 ≤ u0 ∧ u0 ≤ nI 30)) (nI 200 ≤ nI W.t + u0) (fun v h' => v = some (.int (nI (W.t + u0.toNatClampNeg))) ∧ ∃ Y, q_eqv W Y ∧ q_ok0 Y ∧ q_mu h h' (W.sA (W.t + u0.toNatClampNeg)) (O.kept Y) 200)) r h1) : q_cls (c + 1) h m P (q_k2 (¬ (nI 1 ≤ u0 ∧ u0 ≤ nI 30)) (nI 199 < nI m.t + u0)) (nI (m.t + u0.toNatClampNeg)) (m.sA (m.t + u0.toNatClampNeg)) (P.kept m) r h1 := by
  have et := a.1
  have ec := a.2.1
  have enx := a.2.2.1
  have en := a.2.2.2.1
  have etd := a.2.2.2.2.1
  have ebd := a.2.2.2.2.2.1
  have ewt := a.2.2.2.2.2.2.1
  have epe := a.2.2.2.2.2.2.2.1
  have epf := a.2.2.2.2.2.2.2.2.1
  have epc := a.2.2.2.2.2.2.2.2.2.1
  have etg := a.2.2.2.2.2.2.2.2.2.2
  have v := k.2.2.2.2.2.2.2
  have ht := k.2.2.2.2.2.2.1
  have hc := k.2.1
  have hn10 := C.1.1.n10
  have o := C.1.2.1.2
  have htp := M.2.2.1.2.2.2.1
  have hun := M.2.2.1.2.1
  have hpe1 := M.2.1.1.pe1
  have hpf9 := M.2.1.1.pf9
  have hp28 := M.2.1.1.pc28
  refine j_2 s H Iff.rfl (fun n1 => (by
      obtain ⟨j, j1, j2, rfl⟩ := q_rng n1 (by omega) (by omega)
      rw [et, nI_add, nI_leI (by omega) (by omega), nI_ltI (by omega) (by omega)]
      omega)) (fun n1 n2 x0 h2 hp => ?_) hp
  obtain ⟨j, j1, j2, rfl⟩ := q_rng n1 (by omega) (by omega)
  rw [nI_add, nI_ltI (by omega) (by omega)] at n2
  obtain ⟨e, Y, y1, y2, mu⟩ := hp; cases e
  rw [nI_clamp (by omega)] at mu ⊢
  refine ⟨by rw [et], mu.2.1, _, _, q_mu.cl C mu (Or.inr (Nat.le_add_right _ _)) (fun _ _ hy2 => by rw [q_W.D_sum _ hy2, q_W.D_sum _ hy2]; rfl), ?_, (H.le (Nat.le_succ c)).kept htp hun ((s.le (Nat.le_succ c)).eqv y1 hn10)⟩
  rw [et]; exact (s.le (Nat.le_succ c)).pass (Nat.le_add_right _ _) (by omega)
theorem j_addTest {h h1 : q_Hp} {W m : q_W} {O : q_O} {P : q_P} {c N : Nat} {τ : Nat → Nat} {u0 u1 : Int32} (C : q_clX h W O) (M : q_mr h m P) (s : q_smc c W m) (a : q_si0 W m) (b : q_si1 W m τ) (k : q_si2 m N) (dd : q_dd m) (H : q_hs c O P) (hcc : c ≤ 600) {r : Except String (Option Value)} (hp : (q_l2 h W O (¬ (nI 0 ≤ u0 ∧ u0 ≤ nI W.t) ∨ ¬ (nI 50 ≤ u1 ∧ u1 ≤ nI 400)) (W.n = 10 ∨ 0 ≤ q_ps (fun i => decide (W.d i = u0)) W.n) (fun v h' => v = some (.int (nI (q_cn (fun i => decide ((W.sT (W.n + 1) (va_up W.d W.n u0) (va_up W.v W.n u1)).ld (W.σ i) ≠ W.ld (W.σ i))) W.c))) ∧ ∃ Y, q_eqv W Y ∧ q_ok0 Y ∧ q_mu h h' (W.sT (W.n + 1) (va_up W.d W.n u0) (va_up W.v W.n u1)) (O.kept Y) u0.toNatClampNeg)) r h1) : q_cls (c + 1) h m P (q_k2 (¬ (nI 0 ≤ u0 ∧ u0 ≤ nI m.t) ∨ ¬ (nI 50 ≤ u1 ∧ u1 ≤ nI 400)) (m.n = 10 ∨ 0 ≤ q_pl (fun i => decide (m.d i = u0)) m.n)) (nI (q_cn (fun k => decide (m.ld k ≠ (m.sT (m.n + 1) (va_up m.d m.n u0) (va_up m.v m.n u1)).ld k)) m.c)) ((m.sT (m.n + 1) (va_up m.d m.n u0) (va_up m.v m.n u1))) (P.kept m) r h1 := by
  have et := a.1
  have ec := a.2.1
  have enx := a.2.2.1
  have en := a.2.2.2.1
  have etd := a.2.2.2.2.1
  have ebd := a.2.2.2.2.2.1
  have ewt := a.2.2.2.2.2.2.1
  have epe := a.2.2.2.2.2.2.2.1
  have epf := a.2.2.2.2.2.2.2.2.1
  have epc := a.2.2.2.2.2.2.2.2.2.1
  have etg := a.2.2.2.2.2.2.2.2.2.2
  have v := k.2.2.2.2.2.2.2
  have ht := k.2.2.2.2.2.2.1
  have hc := k.2.1
  have hn10 := C.1.1.n10
  have o := C.1.2.1.2
  have htp := M.2.2.1.2.2.2.1
  have hun := M.2.2.1.2.1
  have hpe1 := M.2.1.1.pe1
  have hpf9 := M.2.1.1.pf9
  have hp28 := M.2.1.1.pc28
  refine j_2 s H (by rw [et]) (fun n1 => (by rw [q_tst a dd, en])) (fun n1 n2 x0 h2 hp => ?_) hp
  have n11 := fun e => n1 (Or.inl e)
  have n12 := fun e => n1 (Or.inr e)
  obtain ⟨j, j1, j2, rfl⟩ := q_rng n11 (by omega) (by omega)
  obtain ⟨x, x1, x2, rfl⟩ := q_rng n12 (by omega) (by omega)
  have hf : ∀ i, i < m.n → m.d i ≠ nI j := fun i hi => of_decide_eq_false ((q_pl_neg (by omega)).mp (Int32.not_le.mp fun e => n2 (Or.inr e)) i hi)
  have hn9 : m.n < 10 := by have := M.2.1.1.n10; have : m.n ≠ 10 := (fun e => n2 (Or.inl e)); omega
  obtain ⟨e, Y, y1, y2, mu⟩ := hp; cases e
  have S := (s.le (Nat.le_succ c)).addT (j := j) (x := x) (by omega) x1 x2 hf
  refine ⟨?_, mu.2.1, _, _, q_mu.cl C mu (Or.inr (Nat.le_refl _)) (fun y hy hy2 => ?_), S, (H.le (Nat.le_succ c)).kept htp hun ((s.le (Nat.le_succ c)).eqv y1 hn10)⟩
  · obtain ⟨⟨_, _, a', _, _⟩, _⟩ := S
    refine q_cnt b ec fun i hi => ?_
    rw [q_ld_eq a' (k := τ i) (b.2.1 i hi), q_ld_eq a (b.2.1 i hi)]; exact decide_eq_decide.mpr ne_comm
  · rw [S.D hy2, s.D hy2]; rw [nI_clamp (by omega)] at hy; exact q_D_addT k.1 hy2 (by omega) hy
theorem j_removeTest {h h1 : q_Hp} {W m : q_W} {O : q_O} {P : q_P} {c N : Nat} {τ : Nat → Nat} {u0 : Int32} (C : q_clX h W O) (M : q_mr h m P) (s : q_smc c W m) (a : q_si0 W m) (b : q_si1 W m τ) (k : q_si2 m N) (dd : q_dd m) (H : q_hs c O P) (hcc : c ≤ 600) {r : Except String (Option Value)} (hp : (q_l1 h W O (q_ps (fun i => decide (W.d i = u0)) W.n < 0) (fun v h' => v = some (.int (W.v (q_ps (fun i => decide (W.d i = u0)) W.n).toNatClampNeg)) ∧ ∃ Y, q_eqv W Y ∧ q_ok0 Y ∧ q_mu h h' (W.sT (W.n - 1) (va_up W.d (q_ps (fun i => decide (W.d i = u0)) W.n).toNatClampNeg (W.d (W.n - 1))) (va_up W.v (q_ps (fun i => decide (W.d i = u0)) W.n).toNatClampNeg (W.v (W.n - 1)))) (O.kept Y) u0.toNatClampNeg)) r h1) : q_cls (c + 1) h m P (q_k1 (q_pl (fun i => decide (m.d i = u0)) m.n < 0)) (m.v (q_pl (fun i => decide (m.d i = u0)) m.n).toNatClampNeg) (m.sT (m.n - 1) (va_up m.d (q_pl (fun i => decide (m.d i = u0)) m.n).toNatClampNeg (m.d (m.n - 1))) (va_up m.v (q_pl (fun i => decide (m.d i = u0)) m.n).toNatClampNeg (m.v (m.n - 1)))) (P.kept m) r h1 := by
  have et := a.1
  have ec := a.2.1
  have enx := a.2.2.1
  have en := a.2.2.2.1
  have etd := a.2.2.2.2.1
  have ebd := a.2.2.2.2.2.1
  have ewt := a.2.2.2.2.2.2.1
  have epe := a.2.2.2.2.2.2.2.1
  have epf := a.2.2.2.2.2.2.2.2.1
  have epc := a.2.2.2.2.2.2.2.2.2.1
  have etg := a.2.2.2.2.2.2.2.2.2.2
  have v := k.2.2.2.2.2.2.2
  have ht := k.2.2.2.2.2.2.1
  have hc := k.2.1
  have hn10 := C.1.1.n10
  have o := C.1.2.1.2
  have htp := M.2.2.1.2.2.2.1
  have hun := M.2.2.1.2.1
  have hpe1 := M.2.1.1.pe1
  have hpf9 := M.2.1.1.pf9
  have hp28 := M.2.1.1.pc28
  refine j_1 s H (by rw [q_tst a dd]) (fun n1 x0 h2 hp => ?_) hp
  obtain ⟨i, i1, i2, i3⟩ := q_pli n1 (by have := M.2.1.1.n10; omega)
  obtain ⟨e, Y, y1, y2, mu⟩ := hp; cases e
  have hn9 := M.2.1.1.n10
  rw [q_tst a dd, i3, nI_clamp (by omega)] at mu ⊢
  obtain ⟨jj, jj1, jj2⟩ := v.2.2.2.2.1 i i1
  have hu : u0 = nI jj := by rw [← jj2]; exact (of_decide_eq_true i2).symm
  have S := (s.le (Nat.le_succ c)).remT i1
  refine ⟨(etd i i1).2, mu.2.1, _, _, q_mu.cl C mu (Or.inr (Nat.le_refl _)) (fun y hy hy2 => ?_), S, (H.le (Nat.le_succ c)).kept htp hun ((s.le (Nat.le_succ c)).eqv y1 hn10)⟩
  rw [S.D hy2, s.D hy2]; rw [hu, nI_clamp (by omega)] at hy; exact q_D_remT k.1 dd hy2 jj1 i1 jj2 hy
theorem j_setBound {h h1 : q_Hp} {W m : q_W} {O : q_O} {P : q_P} {c N : Nat} {τ : Nat → Nat} {u0 u1 : Int32} (C : q_clX h W O) (M : q_mr h m P) (s : q_smc c W m) (a : q_si0 W m) (b : q_si1 W m τ) (k : q_si2 m N) (dd : q_dd m) (H : q_hs c O P) (hcc : c ≤ 600) {r : Except String (Option Value)} (hp : (q_l2 h W O (¬ (nI 2 ≤ u0 ∧ u0 ≤ nI 5) ∨ ¬ (nI 1 ≤ u1 ∧ u1 ≤ nI 300)) (¬ ((u0.toNatClampNeg = 2 ∨ W.bd (u0.toNatClampNeg - 1) < u1) ∧ (u0.toNatClampNeg = 5 ∨ u1 < W.bd (u0.toNatClampNeg + 1)))) (fun v h' => v = some (.int (W.bd u0.toNatClampNeg)) ∧ ∃ Y, q_eqv W Y ∧ q_ok0 Y ∧ q_mu h h' (W.sZ (va_up W.bd u0.toNatClampNeg u1) W.wt) (O.kept Y) 0)) r h1) : q_cls (c + 1) h m P (q_k2 (¬ (nI 2 ≤ u0 ∧ u0 ≤ nI 5) ∨ ¬ (nI 1 ≤ u1 ∧ u1 ≤ nI 300)) ((2 < u0.toNatClampNeg ∧ u1 ≤ m.bd (u0.toNatClampNeg - 1)) ∨ (u0.toNatClampNeg < 5 ∧ m.bd (u0.toNatClampNeg + 1) ≤ u1))) (m.bd u0.toNatClampNeg) (m.sZ (va_up m.bd u0.toNatClampNeg u1) m.wt) (P.kept m) r h1 := by
  have et := a.1
  have ec := a.2.1
  have enx := a.2.2.1
  have en := a.2.2.2.1
  have etd := a.2.2.2.2.1
  have ebd := a.2.2.2.2.2.1
  have ewt := a.2.2.2.2.2.2.1
  have epe := a.2.2.2.2.2.2.2.1
  have epf := a.2.2.2.2.2.2.2.2.1
  have epc := a.2.2.2.2.2.2.2.2.2.1
  have etg := a.2.2.2.2.2.2.2.2.2.2
  have v := k.2.2.2.2.2.2.2
  have ht := k.2.2.2.2.2.2.1
  have hc := k.2.1
  have hn10 := C.1.1.n10
  have o := C.1.2.1.2
  have htp := M.2.2.1.2.2.2.1
  have hun := M.2.2.1.2.1
  have hpe1 := M.2.1.1.pe1
  have hpf9 := M.2.1.1.pf9
  have hp28 := M.2.1.1.pc28
  refine j_2 s H Iff.rfl (fun n1 => (by
      obtain ⟨j, j1, j2, rfl⟩ := q_rng (fun e => n1 (Or.inl e)) (by omega) (by omega)
      rw [nI_clamp (by omega)]
      have hb1 : 2 < j → W.bd (j - 1) = m.bd (j - 1) := fun e => ebd _ (by omega) (by omega)
      have hb2 : j < 5 → W.bd (j + 1) = m.bd (j + 1) := fun e => ebd _ (by omega) (by omega)
      constructor
      · intro h
        refine Classical.byContradiction fun g => h ⟨?_, ?_⟩
        · by_cases e : j = 2
          · exact Or.inl e
          · refine Or.inr ?_
            rw [hb1 (by omega)]
            exact Int32.not_le.mp fun e2 => g (Or.inl ⟨by omega, e2⟩)
        · by_cases e : j = 5
          · exact Or.inl e
          · refine Or.inr ?_
            rw [hb2 (by omega)]
            exact Int32.not_le.mp fun e2 => g (Or.inr ⟨by omega, e2⟩)
      · rintro (⟨x1, x2⟩ | ⟨x1, x2⟩) ⟨y1, y2⟩
        · rcases y1 with y | y
          · omega
          · rw [hb1 x1] at y; exact absurd x2 (Int32.not_le.mpr y)
        · rcases y2 with y | y
          · omega
          · rw [hb2 x1] at y; exact absurd x2 (Int32.not_le.mpr y))) (fun n1 n2 x0 h2 hp => ?_) hp
  have n11 := fun e => n1 (Or.inl e)
  have n12 := fun e => n1 (Or.inr e)
  obtain ⟨j, j1, j2, rfl⟩ := q_rng n11 (by omega) (by omega)
  obtain ⟨x, x1, x2, rfl⟩ := q_rng n12 (by omega) (by omega)
  obtain ⟨e, Y, y1, y2, mu⟩ := hp; cases e
  rw [nI_clamp (by omega)] at mu ⊢
  exact ⟨ebd j j1 j2, mu.2.1, _, _, q_mu.cl C mu (Or.inl rfl) (fun y hy _ => absurd hy (Nat.not_lt_zero y)), (s.le (Nat.le_succ c)).bnd x1 x2, (H.le (Nat.le_succ c)).kept htp hun ((s.le (Nat.le_succ c)).eqv y1 hn10)⟩
theorem j_setWeight {h h1 : q_Hp} {W m : q_W} {O : q_O} {P : q_P} {c N : Nat} {τ : Nat → Nat} {u0 u1 : Int32} (C : q_clX h W O) (M : q_mr h m P) (s : q_smc c W m) (a : q_si0 W m) (b : q_si1 W m τ) (k : q_si2 m N) (dd : q_dd m) (H : q_hs c O P) (hcc : c ≤ 600) {r : Except String (Option Value)} (hp : (q_l1 h W O (¬ (nI 1 ≤ u0 ∧ u0 ≤ nI 5) ∨ ¬ (nI 0 ≤ u1 ∧ u1 ≤ nI 100)) (fun v h' => v = some (.int (W.wt u0.toNatClampNeg)) ∧ ∃ Y, q_eqv W Y ∧ q_ok0 Y ∧ q_mu h h' (W.sZ W.bd (va_up W.wt u0.toNatClampNeg u1)) (O.kept Y) 0)) r h1) : q_cls (c + 1) h m P (q_k1 (¬ (nI 1 ≤ u0 ∧ u0 ≤ nI 5) ∨ ¬ (nI 0 ≤ u1 ∧ u1 ≤ nI 100))) (m.wt u0.toNatClampNeg) (m.sZ m.bd (va_up m.wt u0.toNatClampNeg u1)) (P.kept m) r h1 := by
  have et := a.1
  have ec := a.2.1
  have enx := a.2.2.1
  have en := a.2.2.2.1
  have etd := a.2.2.2.2.1
  have ebd := a.2.2.2.2.2.1
  have ewt := a.2.2.2.2.2.2.1
  have epe := a.2.2.2.2.2.2.2.1
  have epf := a.2.2.2.2.2.2.2.2.1
  have epc := a.2.2.2.2.2.2.2.2.2.1
  have etg := a.2.2.2.2.2.2.2.2.2.2
  have v := k.2.2.2.2.2.2.2
  have ht := k.2.2.2.2.2.2.1
  have hc := k.2.1
  have hn10 := C.1.1.n10
  have o := C.1.2.1.2
  have htp := M.2.2.1.2.2.2.1
  have hun := M.2.2.1.2.1
  have hpe1 := M.2.1.1.pe1
  have hpf9 := M.2.1.1.pf9
  have hp28 := M.2.1.1.pc28
  refine j_1 s H Iff.rfl (fun n1 x0 h2 hp => ?_) hp
  have n11 := fun e => n1 (Or.inl e)
  have n12 := fun e => n1 (Or.inr e)
  obtain ⟨j, j1, j2, rfl⟩ := q_rng n11 (by omega) (by omega)
  obtain ⟨x, x1, x2, rfl⟩ := q_rng n12 (by omega) (by omega)
  obtain ⟨e, Y, y1, y2, mu⟩ := hp; cases e
  rw [nI_clamp (by omega)] at mu ⊢
  exact ⟨ewt j j1 j2, mu.2.1, _, _, q_mu.cl C mu (Or.inl rfl) (fun y hy _ => absurd hy (Nat.not_lt_zero y)), (s.le (Nat.le_succ c)).wgt x2, (H.le (Nat.le_succ c)).kept htp hun ((s.le (Nat.le_succ c)).eqv y1 hn10)⟩
theorem j_addSession {h h1 : q_Hp} {W m : q_W} {O : q_O} {P : q_P} {c N : Nat} {τ : Nat → Nat} {u0 : Int32} (C : q_clX h W O) (M : q_mr h m P) (s : q_smc c W m) (a : q_si0 W m) (b : q_si1 W m τ) (k : q_si2 m N) (dd : q_dd m) (H : q_hs c O P) (hcc : c ≤ 600) {r : Except String (Option Value)} (hp : (q_l2 h W O (¬ (nI 0 ≤ u0 ∧ u0 ≤ nI W.t)) (W.c = 40) (fun v h' => v = some (.int W.nx) ∧ ∃ Y r, q_eqv W Y ∧ q_ok0 Y ∧ q_sd (W.addS u0.toNatClampNeg) W.c r ∧ q_mu h h' ((W.addS u0.toNatClampNeg).sσ (q_mv W.σ W.c r)) (O.kept Y) 200)) r h1) : q_cls (c + 1) h m P (q_k2 (¬ (nI 0 ≤ u0 ∧ u0 ≤ nI m.t)) (m.c = 40)) m.nx (m.adS u0.toNatClampNeg) (P.kept m) r h1 := by
  have et := a.1
  have ec := a.2.1
  have enx := a.2.2.1
  have en := a.2.2.2.1
  have etd := a.2.2.2.2.1
  have ebd := a.2.2.2.2.2.1
  have ewt := a.2.2.2.2.2.2.1
  have epe := a.2.2.2.2.2.2.2.1
  have epf := a.2.2.2.2.2.2.2.2.1
  have epc := a.2.2.2.2.2.2.2.2.2.1
  have etg := a.2.2.2.2.2.2.2.2.2.2
  have v := k.2.2.2.2.2.2.2
  have ht := k.2.2.2.2.2.2.1
  have hc := k.2.1
  have hn10 := C.1.1.n10
  have o := C.1.2.1.2
  have htp := M.2.2.1.2.2.2.1
  have hun := M.2.2.1.2.1
  have hpe1 := M.2.1.1.pe1
  have hpf9 := M.2.1.1.pf9
  have hp28 := M.2.1.1.pc28
  refine j_2 s H (by rw [et]) (fun n1 => (by rw [ec])) (fun n1 n2 x0 h2 hp => ?_) hp
  obtain ⟨j, j1, j2, rfl⟩ := q_rng n1 (by omega) (by omega)
  obtain ⟨e, Y, r, y1, y2, sd, mu⟩ := hp; cases e
  rw [nI_clamp (by omega)] at sd mu ⊢
  have S := s.addS o (d := j) (r := r) (by omega) (by omega) sd (by omega)
  refine ⟨enx, mu.2.1, _, _, q_mu.cl C mu (Or.inr (Nat.le_refl _)) (fun y hy hy2 => ?_), S, (H.le (Nat.le_succ c)).kept htp hun ((s.le (Nat.le_succ c)).eqv y1 hn10)⟩
  rw [S.D hy2, s.D hy2]; exact q_D_adS k.1 hy2
theorem j_addPart {h h1 : q_Hp} {W m : q_W} {O : q_O} {P : q_P} {c N : Nat} {τ : Nat → Nat} {u0 u1 u2 : Int32} (C : q_clX h W O) (M : q_mr h m P) (s : q_smc c W m) (a : q_si0 W m) (b : q_si1 W m τ) (k : q_si2 m N) (dd : q_dd m) (H : q_hs c O P) (hcc : c ≤ 600) {r : Except String (Option Value)} (hp : (q_l3 h W O (W.no u0) (¬ (nI 1 ≤ u1 ∧ u1 ≤ nI 120) ∨ ¬ (nI 0 ≤ u2 ∧ u2 ≤ nI 500)) (W.pn (W.σ (W.at_ u0)) = 8 ∨ nI 240 < W.len (W.σ (W.at_ u0)) + u1) (fun v h' => v = some (.int (nI (W.pn (W.σ (W.at_ u0)) + 1))) ∧ ∃ Y, q_eqv W Y ∧ q_ok0 Y ∧ q_mu h h' (W.addP (W.σ (W.at_ u0)) u1 u2) (O.kept Y) (W.dy (W.σ (W.at_ u0))))) r h1) : q_cls (c + 1) h m P (q_k3 (m.mno u0) (¬ (nI 1 ≤ u1 ∧ u1 ≤ nI 120) ∨ ¬ (nI 0 ≤ u2 ∧ u2 ≤ nI 500)) (m.pn (m.mat u0) = 8 ∨ nI 240 < m.len (m.mat u0) + u1)) (nI (m.pn (m.mat u0) + 1)) (m.addP (m.mat u0) u1 u2) (P.kept m) r h1 := by
  have et := a.1
  have ec := a.2.1
  have enx := a.2.2.1
  have en := a.2.2.2.1
  have etd := a.2.2.2.2.1
  have ebd := a.2.2.2.2.2.1
  have ewt := a.2.2.2.2.2.2.1
  have epe := a.2.2.2.2.2.2.2.1
  have epf := a.2.2.2.2.2.2.2.2.1
  have epc := a.2.2.2.2.2.2.2.2.2.1
  have etg := a.2.2.2.2.2.2.2.2.2.2
  have v := k.2.2.2.2.2.2.2
  have ht := k.2.2.2.2.2.2.1
  have hc := k.2.1
  have hn10 := C.1.1.n10
  have o := C.1.2.1.2
  have htp := M.2.2.1.2.2.2.1
  have hun := M.2.2.1.2.1
  have hpe1 := M.2.1.1.pe1
  have hpf9 := M.2.1.1.pf9
  have hp28 := M.2.1.1.pc28
  refine j_3 s H (q_no_eq a b k u0) (fun n1 => Iff.rfl) (fun n1 n2 => (by
      obtain ⟨g1, g2⟩ := q_at_eq a b k (fun h => n1 ((q_no_eq a b k u0).mp h))
      rw [← g2, (b.2.1 _ g1).2.2.1, q_len_eq (b.2.1 _ g1)])) (fun n1 n2 n3 x0 h2 hp => ?_) hp
  obtain ⟨g1, g2⟩ := q_at_eq a b k (fun h => n1 ((q_no_eq a b k u0).mp h))
  have n21 := fun e => n2 (Or.inl e)
  have n22 := fun e => n2 (Or.inr e)
  obtain ⟨j, j1, j2, rfl⟩ := q_rng n21 (by omega) (by omega)
  obtain ⟨x, x1, x2, rfl⟩ := q_rng n22 (by omega) (by omega)
  obtain ⟨e, Y, y1, y2, mu⟩ := hp; cases e
  rw [← g2] at n3 ⊢
  have gb := b.1.1 _ g1
  have hok := (v.2.2.2.1 (τ (W.at_ u0)) (by omega)).1
  have hm0 : m.ml (τ (W.at_ u0)) ≤ 240 := hok.2
  have hml : m.ml (τ (W.at_ u0)) + j ≤ 240 := by
    have h9 := Int32.not_lt.mp fun e => n3 (Or.inr e)
    rw [q_W.len_ml hok, nI_add, nI_leI (by omega) (by omega)] at h9
    exact h9
  have S := (s.le (Nat.le_succ c)).addP o g1 b j1 j2 hml x2
  refine ⟨by rw [(b.2.1 _ g1).2.2.1], mu.2.1, _, _, q_mu.cl C mu (Or.inr (Nat.le_refl _)) (fun y hy hy2 => ?_), S, (H.le (Nat.le_succ c)).kept htp hun ((s.le (Nat.le_succ c)).eqv y1 hn10)⟩
  rw [S.D hy2, s.D hy2]; rw [(b.2.1 _ g1).2.1] at hy; exact q_D_addP k.1 hy2 hy
theorem j_clearParts {h h1 : q_Hp} {W m : q_W} {O : q_O} {P : q_P} {c N : Nat} {τ : Nat → Nat} {u0 : Int32} (C : q_clX h W O) (M : q_mr h m P) (s : q_smc c W m) (a : q_si0 W m) (b : q_si1 W m τ) (k : q_si2 m N) (dd : q_dd m) (H : q_hs c O P) (hcc : c ≤ 600) {r : Except String (Option Value)} (hp : (q_l1 h W O (W.no u0) (fun v h' => v = some (.int (nI (W.pn (W.σ (W.at_ u0))))) ∧ ∃ Y, q_eqv W Y ∧ q_ok0 Y ∧ q_mu h h' (W.clrP (W.σ (W.at_ u0))) (O.kept Y) (W.dy (W.σ (W.at_ u0))))) r h1) : q_cls (c + 1) h m P (q_k1 (m.mno u0)) (nI (m.pn (m.mat u0))) (m.clrP (m.mat u0)) (P.kept m) r h1 := by
  have et := a.1
  have ec := a.2.1
  have enx := a.2.2.1
  have en := a.2.2.2.1
  have etd := a.2.2.2.2.1
  have ebd := a.2.2.2.2.2.1
  have ewt := a.2.2.2.2.2.2.1
  have epe := a.2.2.2.2.2.2.2.1
  have epf := a.2.2.2.2.2.2.2.2.1
  have epc := a.2.2.2.2.2.2.2.2.2.1
  have etg := a.2.2.2.2.2.2.2.2.2.2
  have v := k.2.2.2.2.2.2.2
  have ht := k.2.2.2.2.2.2.1
  have hc := k.2.1
  have hn10 := C.1.1.n10
  have o := C.1.2.1.2
  have htp := M.2.2.1.2.2.2.1
  have hun := M.2.2.1.2.1
  have hpe1 := M.2.1.1.pe1
  have hpf9 := M.2.1.1.pf9
  have hp28 := M.2.1.1.pc28
  refine j_1 s H (q_no_eq a b k u0) (fun n1 x0 h2 hp => ?_) hp
  obtain ⟨g1, g2⟩ := q_at_eq a b k (fun h => n1 ((q_no_eq a b k u0).mp h))
  obtain ⟨e, Y, y1, y2, mu⟩ := hp; cases e
  rw [← g2]
  have S := (s.le (Nat.le_succ c)).clrP o g1 b
  refine ⟨by rw [(b.2.1 _ g1).2.2.1], mu.2.1, _, _, q_mu.cl C mu (Or.inr (Nat.le_refl _)) (fun y hy hy2 => ?_), S, (H.le (Nat.le_succ c)).kept htp hun ((s.le (Nat.le_succ c)).eqv y1 hn10)⟩
  rw [S.D hy2, s.D hy2]; rw [(b.2.1 _ g1).2.1] at hy; exact q_D_clrP k.1 hy2 hy
theorem j_moveSession {h h1 : q_Hp} {W m : q_W} {O : q_O} {P : q_P} {c N : Nat} {τ : Nat → Nat} {u0 u1 : Int32} (C : q_clX h W O) (M : q_mr h m P) (s : q_smc c W m) (a : q_si0 W m) (b : q_si1 W m τ) (k : q_si2 m N) (dd : q_dd m) (H : q_hs c O P) (hcc : c ≤ 600) {r : Except String (Option Value)} (hp : (q_l2 h W O (W.no u0) (¬ (nI 0 ≤ u1 ∧ u1 ≤ nI W.t)) (fun v h' => v = some (.int (nI (W.dy (W.σ (W.at_ u0))))) ∧ ∃ Y r, q_eqv W Y ∧ q_ok0 Y ∧ q_sd (W.movS (W.σ (W.at_ u0)) u1.toNatClampNeg) (W.at_ u0) r ∧ q_mu h h' ((W.movS (W.σ (W.at_ u0)) u1.toNatClampNeg).sσ (q_mv W.σ (W.at_ u0) r)) (O.kept Y) (min (W.dy (W.σ (W.at_ u0))) u1.toNatClampNeg))) r h1) : q_cls (c + 1) h m P (q_k2 (m.mno u0) (¬ (nI 0 ≤ u1 ∧ u1 ≤ nI m.t))) (nI (m.dy (m.mat u0))) (m.movS (m.mat u0) u1.toNatClampNeg) (P.kept m) r h1 := by
  have et := a.1
  have ec := a.2.1
  have enx := a.2.2.1
  have en := a.2.2.2.1
  have etd := a.2.2.2.2.1
  have ebd := a.2.2.2.2.2.1
  have ewt := a.2.2.2.2.2.2.1
  have epe := a.2.2.2.2.2.2.2.1
  have epf := a.2.2.2.2.2.2.2.2.1
  have epc := a.2.2.2.2.2.2.2.2.2.1
  have etg := a.2.2.2.2.2.2.2.2.2.2
  have v := k.2.2.2.2.2.2.2
  have ht := k.2.2.2.2.2.2.1
  have hc := k.2.1
  have hn10 := C.1.1.n10
  have o := C.1.2.1.2
  have htp := M.2.2.1.2.2.2.1
  have hun := M.2.2.1.2.1
  have hpe1 := M.2.1.1.pe1
  have hpf9 := M.2.1.1.pf9
  have hp28 := M.2.1.1.pc28
  refine j_2 s H (q_no_eq a b k u0) (fun n1 => (by rw [et])) (fun n1 n2 x0 h2 hp => ?_) hp
  obtain ⟨g1, g2⟩ := q_at_eq a b k (fun h => n1 ((q_no_eq a b k u0).mp h))
  obtain ⟨j, j1, j2, rfl⟩ := q_rng n2 (by omega) (by omega)
  obtain ⟨e, Y, r, y1, y2, sd, mu⟩ := hp; cases e
  rw [nI_clamp (by omega)] at sd mu ⊢
  rw [← g2]
  have S := (s.le (Nat.le_succ c)).movS o g1 b (d := j) (by omega) sd
  refine ⟨by rw [(b.2.1 _ g1).2.1], mu.2.1, _, _, q_mu.cl C mu (Or.inr (Nat.le_refl _)) (fun y hy hy2 => ?_), S, (H.le (Nat.le_succ c)).kept htp hun ((s.le (Nat.le_succ c)).eqv y1 hn10)⟩
  rw [S.D hy2, s.D hy2]; rw [(b.2.1 _ g1).2.1] at hy; exact q_D_movS k.1 hy2 (by omega) (by omega)
theorem j_removeSession {h h1 : q_Hp} {W m : q_W} {O : q_O} {P : q_P} {c N : Nat} {τ : Nat → Nat} {u0 : Int32} (C : q_clX h W O) (M : q_mr h m P) (s : q_smc c W m) (a : q_si0 W m) (b : q_si1 W m τ) (k : q_si2 m N) (dd : q_dd m) (H : q_hs c O P) (hcc : c ≤ 600) {r : Except String (Option Value)} (hp : (q_l1 h W O (W.no u0) (fun v h' => v = some (.int (nI (W.c - 1))) ∧ ∃ Y, q_eqv W Y ∧ q_ok0 Y ∧ q_mu h h' ((W.sσ (q_mv W.σ (W.at_ u0) (W.c - 1))).sc (W.c - 1)) (O.kept Y) (W.dy (W.σ (W.at_ u0))))) r h1) : q_cls (c + 1) h m P (q_k1 (m.mno u0)) (nI (m.c - 1)) (m.rmS (m.mat u0)) (P.kept m) r h1 := by
  have et := a.1
  have ec := a.2.1
  have enx := a.2.2.1
  have en := a.2.2.2.1
  have etd := a.2.2.2.2.1
  have ebd := a.2.2.2.2.2.1
  have ewt := a.2.2.2.2.2.2.1
  have epe := a.2.2.2.2.2.2.2.1
  have epf := a.2.2.2.2.2.2.2.2.1
  have epc := a.2.2.2.2.2.2.2.2.2.1
  have etg := a.2.2.2.2.2.2.2.2.2.2
  have v := k.2.2.2.2.2.2.2
  have ht := k.2.2.2.2.2.2.1
  have hc := k.2.1
  have hn10 := C.1.1.n10
  have o := C.1.2.1.2
  have htp := M.2.2.1.2.2.2.1
  have hun := M.2.2.1.2.1
  have hpe1 := M.2.1.1.pe1
  have hpf9 := M.2.1.1.pf9
  have hp28 := M.2.1.1.pc28
  refine j_1 s H (q_no_eq a b k u0) (fun n1 x0 h2 hp => ?_) hp
  obtain ⟨g1, g2⟩ := q_at_eq a b k (fun h => n1 ((q_no_eq a b k u0).mp h))
  obtain ⟨e, Y, y1, y2, mu⟩ := hp; cases e
  rw [← g2]
  have S := (s.le (Nat.le_succ c)).rmS g1 b
  refine ⟨by rw [ec], mu.2.1, _, _, q_mu.cl C mu (Or.inr (Nat.le_refl _)) (fun y hy hy2 => ?_), S, (H.le (Nat.le_succ c)).kept htp hun ((s.le (Nat.le_succ c)).eqv y1 hn10)⟩
  rw [S.D hy2, s.D hy2]; rw [(b.2.1 _ g1).2.1] at hy; exact q_D_rmS k.1 hy2 (b.1.1 _ g1) hy
theorem j_addTarget {h h1 : q_Hp} {W m : q_W} {O : q_O} {P : q_P} {c N : Nat} {τ : Nat → Nat} {u0 : Int32} (C : q_clX h W O) (M : q_mr h m P) (s : q_smc c W m) (a : q_si0 W m) (b : q_si1 W m τ) (k : q_si2 m N) (dd : q_dd m) (H : q_hs c O P) (hcc : c ≤ 600) {r : Except String (Option Value)} (hp : (q_l2 h W O (¬ (nI 0 ≤ u0 ∧ u0 ≤ nI 20000)) (W.pe = 0 ∨ ¬ W.pf = W.t ∨ W.pc = 28) (fun v h' => v = some (.int (nI (W.pc + 1))) ∧ ∃ Y, q_eqv W Y ∧ q_ok0 Y ∧ q_mu h h' (W.sP W.pe W.pf (W.pc + 1) (va_up W.tg W.pc u0)) (O.kept Y) 200)) r h1) : q_cls (c + 1) h m P (q_k2 (¬ (nI 0 ≤ u0 ∧ u0 ≤ nI 20000)) (m.pe = 0 ∨ ¬ m.pf = m.t ∨ m.pc = 28)) (nI (m.pc + 1)) (m.sP m.pe m.pf (m.pc + 1) (va_up m.tg m.pc u0)) (P.kept m) r h1 := by
  have et := a.1
  have ec := a.2.1
  have enx := a.2.2.1
  have en := a.2.2.2.1
  have etd := a.2.2.2.2.1
  have ebd := a.2.2.2.2.2.1
  have ewt := a.2.2.2.2.2.2.1
  have epe := a.2.2.2.2.2.2.2.1
  have epf := a.2.2.2.2.2.2.2.2.1
  have epc := a.2.2.2.2.2.2.2.2.2.1
  have etg := a.2.2.2.2.2.2.2.2.2.2
  have v := k.2.2.2.2.2.2.2
  have ht := k.2.2.2.2.2.2.1
  have hc := k.2.1
  have hn10 := C.1.1.n10
  have o := C.1.2.1.2
  have htp := M.2.2.1.2.2.2.1
  have hun := M.2.2.1.2.1
  have hpe1 := M.2.1.1.pe1
  have hpf9 := M.2.1.1.pf9
  have hp28 := M.2.1.1.pc28
  refine j_2 s H Iff.rfl (fun n1 => (by rw [epe, epf, et, epc])) (fun n1 n2 x0 h2 hp => ?_) hp
  obtain ⟨j, j1, j2, rfl⟩ := q_rng n1 (by omega) (by omega)
  obtain ⟨e, Y, y1, y2, mu⟩ := hp; cases e
  exact ⟨by rw [epc], mu.2.1, _, _, q_mu.cl C mu (Or.inr (Nat.le_refl _)) (fun _ _ hy2 => by rw [q_W.D_sum _ hy2, q_W.D_sum _ hy2]; rfl), (s.le (Nat.le_succ c)).targ j2 (fun e => n2 (Or.inl e)), (H.le (Nat.le_succ c)).kept htp hun ((s.le (Nat.le_succ c)).eqv y1 hn10)⟩
theorem j_undo {h h1 : q_Hp} {W m : q_W} {O : q_O} {P : q_P} {c N : Nat} {τ : Nat → Nat} (C : q_clX h W O) (M : q_mr h m P) (s : q_smc c W m) (a : q_si0 W m) (b : q_si1 W m τ) (k : q_si2 m N) (dd : q_dd m) (H : q_hs c O P) (hcc : c ≤ 600) {r : Except String (Option Value)} (hp : (q_l1 h W O (O.cn = 0) (fun v h' => v = some (.int (nI (O.cn - 1))) ∧ ∃ Y, q_eqv (O.OB ((O.nx + 6 - 1) % 6)) Y ∧ q_mu h h' Y O.back 0)) r h1) : q_cls (c + 1) h m P (q_k1 (P.un = 0)) (nI (P.un - 1)) (P.ob P.tp) (P.back) r h1 := by
  have et := a.1
  have ec := a.2.1
  have enx := a.2.2.1
  have en := a.2.2.2.1
  have etd := a.2.2.2.2.1
  have ebd := a.2.2.2.2.2.1
  have ewt := a.2.2.2.2.2.2.1
  have epe := a.2.2.2.2.2.2.2.1
  have epf := a.2.2.2.2.2.2.2.2.1
  have epc := a.2.2.2.2.2.2.2.2.2.1
  have etg := a.2.2.2.2.2.2.2.2.2.2
  have v := k.2.2.2.2.2.2.2
  have ht := k.2.2.2.2.2.2.1
  have hc := k.2.1
  have hn10 := C.1.1.n10
  have o := C.1.2.1.2
  have htp := M.2.2.1.2.2.2.1
  have hun := M.2.2.1.2.1
  have hpe1 := M.2.1.1.pe1
  have hpf9 := M.2.1.1.pf9
  have hp28 := M.2.1.1.pc28
  refine j_1 s H (by rw [H.2.1]) (fun n1 x0 h2 hp => ?_) hp
  obtain ⟨e, Y, y1, mu⟩ := hp; cases e
  have HB := (H.le (Nat.le_succ c)).back htp hun n1
  exact ⟨by rw [H.2.1], mu.2.1, _, _, q_mu.cl C mu (Or.inl rfl) (fun y hy _ => absurd hy (Nat.not_lt_zero y)), HB.2.eqv y1 (C.1.2.2.2.1 _ (Nat.mod_lt _ (by decide))).1.2.2.2.1, HB.1⟩
theorem j_restore {h h1 : q_Hp} {W m : q_W} {O : q_O} {P : q_P} {c N : Nat} {τ : Nat → Nat} (C : q_clX h W O) (M : q_mr h m P) (s : q_smc c W m) (a : q_si0 W m) (b : q_si1 W m τ) (k : q_si2 m N) (dd : q_dd m) (H : q_hs c O P) (hcc : c ≤ 600) {r : Except String (Option Value)} (hp : (q_l1 h W O (O.hs = 0) (fun v h' => v = some (.int (nI O.SW.c)) ∧ ∃ Y, q_eqv O.SW Y ∧ q_mu h h' Y O.rest 0)) r h1) : q_cls (c + 1) h m P (q_k1 (P.sv = 0)) (nI P.sn.c) (P.sn) (P.rest) r h1 := by
  have et := a.1
  have ec := a.2.1
  have enx := a.2.2.1
  have en := a.2.2.2.1
  have etd := a.2.2.2.2.1
  have ebd := a.2.2.2.2.2.1
  have ewt := a.2.2.2.2.2.2.1
  have epe := a.2.2.2.2.2.2.2.1
  have epf := a.2.2.2.2.2.2.2.2.1
  have epc := a.2.2.2.2.2.2.2.2.2.1
  have etg := a.2.2.2.2.2.2.2.2.2.2
  have v := k.2.2.2.2.2.2.2
  have ht := k.2.2.2.2.2.2.1
  have hc := k.2.1
  have hn10 := C.1.1.n10
  have o := C.1.2.1.2
  have htp := M.2.2.1.2.2.2.1
  have hun := M.2.2.1.2.1
  have hpe1 := M.2.1.1.pe1
  have hpf9 := M.2.1.1.pf9
  have hp28 := M.2.1.1.pc28
  refine j_1 s H (by rw [H.2.2.2.1]) (fun n1 x0 h2 hp => ?_) hp
  obtain ⟨e, Y, y1, mu⟩ := hp; cases e
  have S := H.2.2.2.2.1 (by have := M.2.2.1.2.2.2.2.2.2.2; omega)
  have S2 := (S.le (Nat.le_succ c)).eqv y1 C.1.2.2.2.2.1.2.2.1.2.2.2.1
  refine ⟨?_, mu.2.1, _, _, q_mu.cl C mu (Or.inl rfl) (fun y hy _ => absurd hy (Nat.not_lt_zero y)), S2, (H.le (Nat.le_succ c)).rest⟩
  obtain ⟨⟨_, _, a', _, _⟩, _⟩ := S
  rw [a'.2.1]
theorem j_today {h h1 : q_Hp} {W m : q_W} {O : q_O} {P : q_P} {c N : Nat} {τ : Nat → Nat} (C : q_clX h W O) (M : q_mr h m P) (s : q_smc c W m) (a : q_si0 W m) (b : q_si1 W m τ) (k : q_si2 m N) (dd : q_dd m) (H : q_hs c O P) (hcc : c ≤ 600) {v0 : Option Value} (hp : (fun v h' => v = some (.int (nI W.t)) ∧ q_rd h h' W O) v0 h1) : ∃ x, v0 = some (.int x) ∧ x = (nI m.t) ∧ q_f1 h h1 ∧ q_half (c + 1) h1 (m) (P) := by
  have et := a.1
  have ec := a.2.1
  have enx := a.2.2.1
  have en := a.2.2.2.1
  have etd := a.2.2.2.2.1
  have ebd := a.2.2.2.2.2.1
  have ewt := a.2.2.2.2.2.2.1
  have epe := a.2.2.2.2.2.2.2.1
  have epf := a.2.2.2.2.2.2.2.2.1
  have epc := a.2.2.2.2.2.2.2.2.2.1
  have etg := a.2.2.2.2.2.2.2.2.2.2
  have v := k.2.2.2.2.2.2.2
  have ht := k.2.2.2.2.2.2.1
  have hc := k.2.1
  have hn10 := C.1.1.n10
  have o := C.1.2.1.2
  have htp := M.2.2.1.2.2.2.1
  have hun := M.2.2.1.2.1
  have hpe1 := M.2.1.1.pe1
  have hpf9 := M.2.1.1.pf9
  have hp28 := M.2.1.1.pc28
  obtain ⟨rfl, rd⟩ := hp
  refine ⟨_, rfl, ?_, q_f1.of rd.2, q_half.rd s H rd⟩
  rw [et]
theorem j_testCount {h h1 : q_Hp} {W m : q_W} {O : q_O} {P : q_P} {c N : Nat} {τ : Nat → Nat} (C : q_clX h W O) (M : q_mr h m P) (s : q_smc c W m) (a : q_si0 W m) (b : q_si1 W m τ) (k : q_si2 m N) (dd : q_dd m) (H : q_hs c O P) (hcc : c ≤ 600) {v0 : Option Value} (hp : (fun v h' => v = some (.int (nI W.n)) ∧ q_rd h h' W O) v0 h1) : ∃ x, v0 = some (.int x) ∧ x = (nI m.n) ∧ q_f1 h h1 ∧ q_half (c + 1) h1 (m) (P) := by
  have et := a.1
  have ec := a.2.1
  have enx := a.2.2.1
  have en := a.2.2.2.1
  have etd := a.2.2.2.2.1
  have ebd := a.2.2.2.2.2.1
  have ewt := a.2.2.2.2.2.2.1
  have epe := a.2.2.2.2.2.2.2.1
  have epf := a.2.2.2.2.2.2.2.2.1
  have epc := a.2.2.2.2.2.2.2.2.2.1
  have etg := a.2.2.2.2.2.2.2.2.2.2
  have v := k.2.2.2.2.2.2.2
  have ht := k.2.2.2.2.2.2.1
  have hc := k.2.1
  have hn10 := C.1.1.n10
  have o := C.1.2.1.2
  have htp := M.2.2.1.2.2.2.1
  have hun := M.2.2.1.2.1
  have hpe1 := M.2.1.1.pe1
  have hpf9 := M.2.1.1.pf9
  have hp28 := M.2.1.1.pc28
  obtain ⟨rfl, rd⟩ := hp
  refine ⟨_, rfl, ?_, q_f1.of rd.2, q_half.rd s H rd⟩
  rw [en]
theorem j_sessionCount {h h1 : q_Hp} {W m : q_W} {O : q_O} {P : q_P} {c N : Nat} {τ : Nat → Nat} (C : q_clX h W O) (M : q_mr h m P) (s : q_smc c W m) (a : q_si0 W m) (b : q_si1 W m τ) (k : q_si2 m N) (dd : q_dd m) (H : q_hs c O P) (hcc : c ≤ 600) {v0 : Option Value} (hp : (fun v h' => v = some (.int (nI W.c)) ∧ q_rd h h' W O) v0 h1) : ∃ x, v0 = some (.int x) ∧ x = (nI m.c) ∧ q_f1 h h1 ∧ q_half (c + 1) h1 (m) (P) := by
  have et := a.1
  have ec := a.2.1
  have enx := a.2.2.1
  have en := a.2.2.2.1
  have etd := a.2.2.2.2.1
  have ebd := a.2.2.2.2.2.1
  have ewt := a.2.2.2.2.2.2.1
  have epe := a.2.2.2.2.2.2.2.1
  have epf := a.2.2.2.2.2.2.2.2.1
  have epc := a.2.2.2.2.2.2.2.2.2.1
  have etg := a.2.2.2.2.2.2.2.2.2.2
  have v := k.2.2.2.2.2.2.2
  have ht := k.2.2.2.2.2.2.1
  have hc := k.2.1
  have hn10 := C.1.1.n10
  have o := C.1.2.1.2
  have htp := M.2.2.1.2.2.2.1
  have hun := M.2.2.1.2.1
  have hpe1 := M.2.1.1.pe1
  have hpf9 := M.2.1.1.pf9
  have hp28 := M.2.1.1.pc28
  obtain ⟨rfl, rd⟩ := hp
  refine ⟨_, rfl, ?_, q_f1.of rd.2, q_half.rd s H rd⟩
  rw [ec]
theorem j_bestFormDay {h h1 : q_Hp} {W m : q_W} {O : q_O} {P : q_P} {c N : Nat} {τ : Nat → Nat} (C : q_clX h W O) (M : q_mr h m P) (s : q_smc c W m) (a : q_si0 W m) (b : q_si1 W m τ) (k : q_si2 m N) (dd : q_dd m) (H : q_hs c O P) (hcc : c ≤ 600) {v0 : Option Value} (hp : (fun v h' => v = some (.int (nI (q_br W.fm W.t))) ∧ q_rd h h' W O) v0 h1) : ∃ x, v0 = some (.int x) ∧ x = (nI (q_br m.f2 m.t)) ∧ q_f1 h h1 ∧ q_half (c + 1) h1 (m) (P) := by
  have et := a.1
  have ec := a.2.1
  have enx := a.2.2.1
  have en := a.2.2.2.1
  have etd := a.2.2.2.2.1
  have ebd := a.2.2.2.2.2.1
  have ewt := a.2.2.2.2.2.2.1
  have epe := a.2.2.2.2.2.2.2.1
  have epf := a.2.2.2.2.2.2.2.2.1
  have epc := a.2.2.2.2.2.2.2.2.2.1
  have etg := a.2.2.2.2.2.2.2.2.2.2
  have v := k.2.2.2.2.2.2.2
  have ht := k.2.2.2.2.2.2.1
  have hc := k.2.1
  have hn10 := C.1.1.n10
  have o := C.1.2.1.2
  have htp := M.2.2.1.2.2.2.1
  have hun := M.2.2.1.2.1
  have hpe1 := M.2.1.1.pe1
  have hpf9 := M.2.1.1.pf9
  have hp28 := M.2.1.1.pc28
  obtain ⟨rfl, rd⟩ := hp
  refine ⟨_, rfl, ?_, q_f1.of rd.2, q_half.rd s H rd⟩
  rw [q_bfd a b k]
theorem j_missedDays {h h1 : q_Hp} {W m : q_W} {O : q_O} {P : q_P} {c N : Nat} {τ : Nat → Nat} (C : q_clX h W O) (M : q_mr h m P) (s : q_smc c W m) (a : q_si0 W m) (b : q_si1 W m τ) (k : q_si2 m N) (dd : q_dd m) (H : q_hs c O P) (hcc : c ≤ 600) {v0 : Option Value} (hp : (fun v h' => v = some (.int (nI W.mis)) ∧ q_rd h h' W O) v0 h1) : ∃ x, v0 = some (.int x) ∧ x = (nI m.mis) ∧ q_f1 h h1 ∧ q_half (c + 1) h1 (m) (P) := by
  have et := a.1
  have ec := a.2.1
  have enx := a.2.2.1
  have en := a.2.2.2.1
  have etd := a.2.2.2.2.1
  have ebd := a.2.2.2.2.2.1
  have ewt := a.2.2.2.2.2.2.1
  have epe := a.2.2.2.2.2.2.2.1
  have epf := a.2.2.2.2.2.2.2.2.1
  have epc := a.2.2.2.2.2.2.2.2.2.1
  have etg := a.2.2.2.2.2.2.2.2.2.2
  have v := k.2.2.2.2.2.2.2
  have ht := k.2.2.2.2.2.2.1
  have hc := k.2.1
  have hn10 := C.1.1.n10
  have o := C.1.2.1.2
  have htp := M.2.2.1.2.2.2.1
  have hun := M.2.2.1.2.1
  have hpe1 := M.2.1.1.pe1
  have hpf9 := M.2.1.1.pf9
  have hp28 := M.2.1.1.pc28
  obtain ⟨rfl, rd⟩ := hp
  refine ⟨_, rfl, ?_, q_f1.of rd.2, q_half.rd s H rd⟩
  rw [(q_due_eq a b k hpf9).2.1]
theorem j_droppedEntries {h h1 : q_Hp} {W m : q_W} {O : q_O} {P : q_P} {c N : Nat} {τ : Nat → Nat} (C : q_clX h W O) (M : q_mr h m P) (s : q_smc c W m) (a : q_si0 W m) (b : q_si1 W m τ) (k : q_si2 m N) (dd : q_dd m) (H : q_hs c O P) (hcc : c ≤ 600) {v0 : Option Value} (hp : (fun v h' => v = some (.int (nI W.drp)) ∧ q_rd h h' W O) v0 h1) : ∃ x, v0 = some (.int x) ∧ x = (nI m.drp) ∧ q_f1 h h1 ∧ q_half (c + 1) h1 (m) (P) := by
  have et := a.1
  have ec := a.2.1
  have enx := a.2.2.1
  have en := a.2.2.2.1
  have etd := a.2.2.2.2.1
  have ebd := a.2.2.2.2.2.1
  have ewt := a.2.2.2.2.2.2.1
  have epe := a.2.2.2.2.2.2.2.1
  have epf := a.2.2.2.2.2.2.2.2.1
  have epc := a.2.2.2.2.2.2.2.2.2.1
  have etg := a.2.2.2.2.2.2.2.2.2.2
  have v := k.2.2.2.2.2.2.2
  have ht := k.2.2.2.2.2.2.1
  have hc := k.2.1
  have hn10 := C.1.1.n10
  have o := C.1.2.1.2
  have htp := M.2.2.1.2.2.2.1
  have hun := M.2.2.1.2.1
  have hpe1 := M.2.1.1.pe1
  have hpf9 := M.2.1.1.pf9
  have hp28 := M.2.1.1.pc28
  obtain ⟨rfl, rd⟩ := hp
  refine ⟨_, rfl, ?_, q_f1.of rd.2, q_half.rd s H rd⟩
  rw [(q_due_eq a b k hpf9).2.2]
theorem j_isPlanOver {h h1 : q_Hp} {W m : q_W} {O : q_O} {P : q_P} {c N : Nat} {τ : Nat → Nat} (C : q_clX h W O) (M : q_mr h m P) (s : q_smc c W m) (a : q_si0 W m) (b : q_si1 W m τ) (k : q_si2 m N) (dd : q_dd m) (H : q_hs c O P) (hcc : c ≤ 600) {v0 : Option Value} (hp : (fun v h' => v = some (.int (q_bl (decide (W.pe = 1 ∧ W.pc ≤ W.due)))) ∧ q_rd h h' W O) v0 h1) : ∃ x, v0 = some (.int x) ∧ x = (q_bl (decide (¬ (m.pe = 1 ∧ m.due < m.pc) ∧ m.pe = 1))) ∧ q_f1 h h1 ∧ q_half (c + 1) h1 (m) (P) := by
  have et := a.1
  have ec := a.2.1
  have enx := a.2.2.1
  have en := a.2.2.2.1
  have etd := a.2.2.2.2.1
  have ebd := a.2.2.2.2.2.1
  have ewt := a.2.2.2.2.2.2.1
  have epe := a.2.2.2.2.2.2.2.1
  have epf := a.2.2.2.2.2.2.2.2.1
  have epc := a.2.2.2.2.2.2.2.2.2.1
  have etg := a.2.2.2.2.2.2.2.2.2.2
  have v := k.2.2.2.2.2.2.2
  have ht := k.2.2.2.2.2.2.1
  have hc := k.2.1
  have hn10 := C.1.1.n10
  have o := C.1.2.1.2
  have htp := M.2.2.1.2.2.2.1
  have hun := M.2.2.1.2.1
  have hpe1 := M.2.1.1.pe1
  have hpf9 := M.2.1.1.pf9
  have hp28 := M.2.1.1.pc28
  obtain ⟨rfl, rd⟩ := hp
  refine ⟨_, rfl, ?_, q_f1.of rd.2, q_half.rd s H rd⟩
  rw [(q_due_eq a b k hpf9).1, epe, epc]
  exact congrArg q_bl (decide_eq_decide.mpr ⟨fun e => ⟨fun e2 => by omega, e.1⟩, fun e => ⟨e.2, Nat.le_of_not_lt fun e2 => e.1 ⟨e.2, e2⟩⟩⟩)
theorem j_startPlan {h h1 : q_Hp} {W m : q_W} {O : q_O} {P : q_P} {c N : Nat} {τ : Nat → Nat} (C : q_clX h W O) (M : q_mr h m P) (s : q_smc c W m) (a : q_si0 W m) (b : q_si1 W m τ) (k : q_si2 m N) (dd : q_dd m) (H : q_hs c O P) (hcc : c ≤ 600) {v0 : Option Value} (hp : (fun v h' => v = some (.int (nI W.pc)) ∧ ∃ Y, q_eqv W Y ∧ q_ok0 Y ∧ q_mu h h' (W.sP 1 W.t 0 W.tg) (O.kept Y) 200) v0 h1) : ∃ x, v0 = some (.int x) ∧ x = (if m.pe = 1 then nI m.pc else nI 0) ∧ q_f1 h h1 ∧ q_half (c + 1) h1 (m.sP 1 m.t 0 m.tg) (P.kept m) := by
  have et := a.1
  have ec := a.2.1
  have enx := a.2.2.1
  have en := a.2.2.2.1
  have etd := a.2.2.2.2.1
  have ebd := a.2.2.2.2.2.1
  have ewt := a.2.2.2.2.2.2.1
  have epe := a.2.2.2.2.2.2.2.1
  have epf := a.2.2.2.2.2.2.2.2.1
  have epc := a.2.2.2.2.2.2.2.2.2.1
  have etg := a.2.2.2.2.2.2.2.2.2.2
  have v := k.2.2.2.2.2.2.2
  have ht := k.2.2.2.2.2.2.1
  have hc := k.2.1
  have hn10 := C.1.1.n10
  have o := C.1.2.1.2
  have htp := M.2.2.1.2.2.2.1
  have hun := M.2.2.1.2.1
  have hpe1 := M.2.1.1.pe1
  have hpf9 := M.2.1.1.pf9
  have hp28 := M.2.1.1.pc28
  obtain ⟨rfl, Y, y1, y2, mu⟩ := hp
  refine ⟨_, rfl, ?_, q_f1.of mu.2.1, _, _, q_mu.cl C mu (Or.inr (Nat.le_refl _)) (fun _ _ hy2 => by rw [q_W.D_sum _ hy2, q_W.D_sum _ hy2]; rfl), (s.le (Nat.le_succ c)).plan, (H.le (Nat.le_succ c)).kept htp hun ((s.le (Nat.le_succ c)).eqv y1 hn10)⟩
  rw [epc]
  split
  · rfl
  · rw [v.2.2.2.2.2.2 (by omega)]
theorem j_save {h h1 : q_Hp} {W m : q_W} {O : q_O} {P : q_P} {c N : Nat} {τ : Nat → Nat} (C : q_clX h W O) (M : q_mr h m P) (s : q_smc c W m) (a : q_si0 W m) (b : q_si1 W m τ) (k : q_si2 m N) (dd : q_dd m) (H : q_hs c O P) (hcc : c ≤ 600) {v0 : Option Value} (hp : (fun v h' => v = some (.int (nI W.c)) ∧ ∃ Y, q_eqv W Y ∧ q_ok0 Y ∧ q_mu h h' W (O.savd Y) 200) v0 h1) : ∃ x, v0 = some (.int x) ∧ x = (nI m.c) ∧ q_f1 h h1 ∧ q_half (c + 1) h1 (m) (P.savd m) := by
  have et := a.1
  have ec := a.2.1
  have enx := a.2.2.1
  have en := a.2.2.2.1
  have etd := a.2.2.2.2.1
  have ebd := a.2.2.2.2.2.1
  have ewt := a.2.2.2.2.2.2.1
  have epe := a.2.2.2.2.2.2.2.1
  have epf := a.2.2.2.2.2.2.2.2.1
  have epc := a.2.2.2.2.2.2.2.2.2.1
  have etg := a.2.2.2.2.2.2.2.2.2.2
  have v := k.2.2.2.2.2.2.2
  have ht := k.2.2.2.2.2.2.1
  have hc := k.2.1
  have hn10 := C.1.1.n10
  have o := C.1.2.1.2
  have htp := M.2.2.1.2.2.2.1
  have hun := M.2.2.1.2.1
  have hpe1 := M.2.1.1.pe1
  have hpf9 := M.2.1.1.pf9
  have hp28 := M.2.1.1.pc28
  obtain ⟨rfl, Y, y1, y2, mu⟩ := hp
  exact ⟨_, rfl, by rw [ec], q_f1.of mu.2.1, _, _, q_mu.cl C mu (Or.inr (Nat.le_refl _)) (fun _ _ _ => rfl), (s.le (Nat.le_succ c)), (H.le (Nat.le_succ c)).savd ((s.le (Nat.le_succ c)).eqv y1 hn10)⟩
