/-! THE LAW'S STATE OVER THE CLASS'S -/
theorem q_lkT_dyn {p : Nat} (h : 1061 ≤ p) (f : Nat) : q_lkT p f = none := by
  unfold q_lkT
  rw [if_neg (by omega), if_neg (by omega), if_neg (by omega), if_neg (by omega), if_neg (by omega), if_neg (by omega), if_neg (by omega), if_neg (by omega), if_neg (by omega)]
/-- the law's own rows, but a, stand; more may be made; the links of the class stand -/
def q_lf (h h1 : q_Hp) (a : Nat) : Prop := (∀ p, p ∈ h.J → 2000 ≤ p → p ≠ a → h1.I p = h.I p ∧ h1.R p = h.R p) ∧ (∃ e, h1.J = h.J ++ e) ∧ (∀ p, p < 2000 → p ≠ 10 → h1.R p = h.R p) ∧ h1.n = h.n
theorem q_lf.rf {h : q_Hp} {a : Nat} : q_lf h h a := ⟨fun _ _ _ _ => ⟨rfl, rfl⟩, ⟨[], (List.append_nil _).symm⟩, fun _ _ _ => rfl, rfl⟩
theorem q_lf.in {h h1 : q_Hp} {a p : Nat} (F : q_lf h h1 a) (hp : p ∈ h.J) : p ∈ h1.J := by
  obtain ⟨e, he⟩ := F.2.1
  rw [he]; exact List.mem_append_left _ hp
theorem q_lf.n9 {h h1 : q_Hp} {a p : Nat} (F : q_lf h h1 a) (hp : q_n9 h p) : q_n9 h1 p := ⟨F.in hp.1, hp.2⟩
theorem q_lf.tr {h h1 h2 : q_Hp} {a : Nat} (F : q_lf h h1 a) (G : q_lf h1 h2 a) : q_lf h h2 a := by
  refine ⟨fun p h9 h8 h7 => ⟨(G.1 p (F.in h9) h8 h7).1.trans (F.1 p h9 h8 h7).1, (G.1 p (F.in h9) h8 h7).2.trans (F.1 p h9 h8 h7).2⟩, ?_, fun p h9 h8 => (G.2.2.1 p h9 h8).trans (F.2.2.1 p h9 h8), G.2.2.2.trans F.2.2.2⟩
  obtain ⟨e, he⟩ := F.2.1
  obtain ⟨g, hg⟩ := G.2.1
  exact ⟨e ++ g, by rw [hg, he, List.append_assoc]⟩
theorem q_lf.set {h h1 : q_Hp} {a : Nat} (F : q_lf h h1 a) {f : Nat} {v : Int32} : q_lf h (h1.setI a f v) a := ⟨fun p h9 h8 h7 => ⟨(q_sIn _ _ _ h7).trans (F.1 p h9 h8 h7).1, (F.1 p h9 h8 h7).2⟩, F.2.1, F.2.2.1, F.2.2.2⟩
theorem q_lf.row {h h1 : q_Hp} {a : Nat} (F : q_lf h h1 a) {g : Nat → Int32} : q_lf h (h1.rowI a g) a := ⟨fun p h9 h8 h7 => ⟨(q_rIn _ _ h7).trans (F.1 p h9 h8 h7).1, (F.1 p h9 h8 h7).2⟩, F.2.1, F.2.2.1, F.2.2.2⟩
theorem q_lf.add {h : q_Hp} {a c : Nat} {g : Nat → Int32} (hc : 2000 ≤ c) (hcJ : c ∉ h.J) : q_lf h ((h.add c).rowI c g) a := by
  refine ⟨fun p h9 h8 h7 => ?_, ⟨[c], rfl⟩, fun p h9 h8 => h.add_R (by omega), rfl⟩
  have hpc : p ≠ c := fun e => hcJ (e ▸ h9)
  exact ⟨(q_rIn _ _ hpc).trans (h.add_I hpc), h.add_R hpc⟩
theorem q_lf.fr {h h1 : q_Hp} {a : Nat} (F : q_fr h h1) : q_lf h h1 a := ⟨fun p _ h8 _ => ⟨F.1 p (by omega), F.2.1 p (by omega)⟩, ⟨[], by rw [F.2.2.1, List.append_nil]⟩, fun p h9 h8 => F.2.1 p h8, F.2.2.2.2⟩
theorem q_lf.Lk {Φ : q_Fx} {h h1 : q_Hp} {a : Nat} (F : q_lf h h1 a) (K : q_Lk Φ h.R h.n) : q_Lk Φ h1.R h1.n := by
  refine ⟨K.1, F.2.2.2.trans K.2.1, fun p f t e => ?_⟩
  by_cases h1 : 1061 ≤ p
  · rw [q_lkT_dyn h1] at e; cases e
  by_cases h2 : p = 10
  · subst h2; exact absurd e (by rw [show q_lkT 10 f = none from rfl]; exact fun c => by cases c)
  rw [F.2.2.1 p (by omega) h2]
  exact K.2.2 p f t e
/-- the class's places stand -/
def q_df (h h1 : q_Hp) : Prop := (∀ p, p < 2000 → h1.I p = h.I p) ∧ ∀ p, p < 2000 → h1.R p = h.R p
theorem q_df.cl {h h1 : q_Hp} {W : q_W} {O : q_O} (F : q_df h h1) (C : q_clX h W O) : q_clX h1 W O := by
  obtain ⟨⟨c1, c2, c3⟩, k, T⟩ := C
  refine ⟨⟨q_vB.cong c1 (fun p _ hp => F.1 p (by omega)) (F.2 _ (by omega)), c2, ?_⟩, k, T.cong (F.1 _ (by omega)) (F.1 _ (by omega)) (F.1 _ (by omega))⟩
  obtain ⟨⟨a1, a2, a3, a4⟩, b, ⟨d1, d2, d3, d4⟩, g1, g2, g3⟩ := c3
  refine ⟨⟨?_, a2, ?_, a4⟩, fun j hj => ⟨(b j hj).1.cong (fun p h1 h2 => F.1 p (by omega)) (F.2 _ (by omega)), (b j hj).2⟩, ⟨?_, d2, d3.cong (fun p h1 h2 => F.1 p (by omega)) (F.2 _ (by omega)), d4⟩, ?_, g2, ?_⟩
  · rw [F.1 133 (by omega)]; exact a1
  · rw [F.1 133 (by omega)]; exact a3
  · rw [F.1 1 (by omega)]; exact d1
  · rw [F.1 1 (by omega)]; exact g1
  · rw [F.1 1052 (by omega)]; exact g3
theorem q_clX.setD {h : q_Hp} {W : q_W} {O : q_O} (C : q_clX h W O) {a f : Nat} {v : Int32} (ha : 2000 ≤ a) : q_clX (h.setI a f v) W O := q_df.cl ⟨fun p hp => q_sIn _ _ _ (by omega), fun _ _ => rfl⟩ C
theorem q_clX.rowD {h : q_Hp} {W : q_W} {O : q_O} (C : q_clX h W O) {a : Nat} {g : Nat → Int32} (ha : 2000 ≤ a) : q_clX (h.rowI a g) W O := q_df.cl ⟨fun p hp => q_rIn _ _ (by omega), fun _ _ => rfl⟩ C
theorem q_clX.addD {h : q_Hp} {W : q_W} {O : q_O} (C : q_clX h W O) {c : Nat} {g : Nat → Int32} (hc : 2000 ≤ c) : q_clX ((h.add c).rowI c g) W O := q_df.cl ⟨fun p hp => (q_rIn _ _ (by omega)).trans (h.add_I (by omega)), fun p hp => h.add_R (by omega)⟩ C
/-- the bounds increase -/
def q_inc (m : q_W) : Prop := m.bd 2 < m.bd 3 ∧ m.bd 3 < m.bd 4 ∧ m.bd 4 < m.bd 5
/-- a modification of the law's: 1; done, or refused -/
def q_pX (h : q_Hp) (a c : Nat) (m : q_W) (O : q_O) (v : Option Value) (h1 : q_Hp) : Prop := v = some (.int (nI 1)) ∧ ∃ W1 O1 m1 ρ1 u, q_clX h1 W1 O1 ∧ q_smc (c + 1) W1 m1 ∧ q_nr (h1.I a) m1 ρ1 ∧ q_bd m1 ∧ h1.I a 899 = nI u ∧ q_lf h h1 a ∧ (q_inc m → q_inc m1) ∧
  ((u = 0 ∧ m1 = m ∧ O1 = O) ∨ (u = 1 ∧ ∃ Y, q_smc (c + 1) Y m ∧ O1 = O.kept Y))
section Q58
variable {h h1 h2 h9 : q_Hp} {a c : Nat} {m m1 : q_W} {W W1 : q_W} {O : q_O} {ρ ρ1 : Nat → Nat} {Y : q_W} {v : Option Value}
theorem q_pX.no (hN : q_n9 h a) (R : q_nr (h.I a) m ρ) (B : q_bd m) (u : h.I a 899 = nI 0) (s : q_smc c W m) (rd : q_rd h h9 W O) : q_pX h a c m O (some (.int (nI 1))) h9 := by
  have e : h9.I a = h.I a := rd.2.1 a (by have := hN.2.1; omega)
  exact ⟨rfl, W, O, m, ρ, 0, rd.1, s.le (Nat.le_succ c), by rw [e]; exact R, B, by rw [e]; exact u, q_lf.fr rd.2, id, Or.inl ⟨rfl, rfl, rfl⟩⟩
theorem q_pX.pre (F : q_lf h h1 a) (P : q_pX h1 a c m O v h2) : q_pX h a c m O v h2 := by
  obtain ⟨e, W1, O1, m1, ρ1, u, p1, p2, p3, p4, p5, p6, p7⟩ := P
  exact ⟨e, W1, O1, m1, ρ1, u, p1, p2, p3, p4, p5, F.tr p6, p7⟩
theorem q_pX.yes (F : q_lf h h2 a) (N2 : q_n9 h2 a) (R2 : q_nr (h2.I a) m1 ρ1) (B2 : q_bd m1) (u2 : h2.I a 899 = nI 1) (fr : q_fr h2 h9) (C1 : q_clX h9 W1 (O.kept Y)) (S1 : q_smc (c + 1) W1 m1) (yY : q_smc (c + 1) Y m) (hi : q_inc m → q_inc m1) : q_pX h a c m O (some (.int (nI 1))) h9 := by
  have e : h9.I a = h2.I a := fr.1 a (by have := N2.2.1; omega)
  exact ⟨rfl, W1, _, m1, ρ1, 1, C1, S1, by rw [e]; exact R2, B2, by rw [e]; exact u2, F.tr (q_lf.fr fr), hi, Or.inr ⟨rfl, Y, yY, rfl⟩⟩
end Q58
