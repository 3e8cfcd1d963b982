/-! THREE CALLS OF THEIR OWN KIND -/
theorem j_writeWeek {h h1 : q_Hp} {W m : q_W} {O : q_O} {P : q_P} {c N : Nat} {τ : Nat → Nat} {u0 : Int32} (C : q_clX h W O) (M : q_mr h m P) (s : q_smc c W m) (a : q_si0 W m) (b : q_si1 W m τ) (k : q_si2 m N) (dd : q_dd m) (H : q_hs c O P) (hcc : c ≤ 600) {r : Except String (Option Value)} (hp : (q_l1 h W O (¬ (nI 0 ≤ u0 ∧ u0 ≤ nI W.t)) (fun v h' => v = some (.int (nI 13)) ∧ ∃ ln, (∀ k, k < 13 → ln k = if k % 2 = 1 then nI 32 else nI (W.sgn (u0.toNatClampNeg + k / 2))) ∧ q_mu h h' W (O.wrt ln) 200)) r h1) : ∃ a : Nat, r = .ok (some (.int (nI a))) ∧ a ≤ 3 ∧ q_k1 (¬ (nI 0 ≤ u0 ∧ u0 ≤ nI m.t)) a ∧ q_f1 h h1 ∧ (a ≠ 0 → q_half (c + 1) h1 m P) ∧ ∀ l', (∀ k, k < 13 → l' k = (fun k => if k % 2 = 1 then nI 32 else nI (m.sg2 (m.zr (u0.toNatClampNeg + k / 2)) (u0.toNatClampNeg + k / 2))) k) → a = 0 → h1.J 1074 0 = (nI 13).toInt64 ∧ q_half (c + 1) h1 m (P.wrt l') := by
  have et := a.1
  have ec := a.2.1
  have enx := a.2.2.1
  have en := a.2.2.2.1
  have etd := a.2.2.2.2.1
  have ebd := a.2.2.2.2.2.1
  have ewt := a.2.2.2.2.2.2.1
  have epe := a.2.2.2.2.2.2.2.1
  have epf := a.2.2.2.2.2.2.2.2.1
  have epc := a.2.2.2.2.2.2.2.2.2.1
  have etg := a.2.2.2.2.2.2.2.2.2.2
  have v := k.2.2.2.2.2.2.2
  have ht := k.2.2.2.2.2.2.1
  have hc := k.2.1
  have hn10 := C.1.1.n10
  have o := C.1.2.1.2
  have htp := M.2.2.1.2.2.2.1
  have hun := M.2.2.1.2.1
  have hpe1 := M.2.1.1.pe1
  have hpf9 := M.2.1.1.pf9
  have hp28 := M.2.1.1.pc28
  obtain ⟨x, rfl, ⟨n1, rfl, R⟩ | ⟨n1, rfl, x, h2, ⟨e, ln, hl, mu⟩, rfl⟩⟩ := hp
  · exact ⟨1, rfl, by omega, Or.inl ⟨by rw [← et]; exact n1, rfl⟩, q_f1.of R.2, fun _ => q_half.rd s H R, fun _ _ e => absurd e (by decide)⟩
  · cases e
    refine ⟨0, rfl, by omega, Or.inr ⟨by rw [← et]; exact n1, rfl⟩, (q_f1.of mu.2.1).setJ, fun e => absurd rfl e, fun l' hl' _ => ⟨q_Jset, q_half.setJ ⟨W, O.wrt ln, q_mu.cl C mu (Or.inr (Nat.le_refl _)) (fun _ _ _ => rfl), s.le (Nat.le_succ c), (H.le (Nat.le_succ c)).wrt fun j hj => ?_⟩⟩⟩
    rw [hl j hj, hl' j hj]
    dsimp only
    split
    · exact ⟨rfl, 32, by omega, rfl⟩
    · rw [← q_sgn_eq a b k]
      exact ⟨rfl, _, q_sgn_lt W _, rfl⟩
theorem j_wwr {h h' : q_Hp} {m : q_W} {P : q_P} {u0 : Int32} {v : Option Value} (hp : (fun v h' => ∃ (a : Nat) (b : Int32), q_k1 (¬ (nI 0 ≤ u0 ∧ u0 ≤ nI m.t)) a ∧ v = some (.int b) ∧ h'.I 1061 12 = nI a ∧ q_gm h h' ∧ (a ≠ 0 → q_mr h' m P) ∧ (a = 0 → b = nI 13 ∧ ∃ ln, (∀ k, k < 13 → ln k = if k % 2 = 1 then nI 32 else nI (m.sg2 (m.zr (u0.toNatClampNeg + k / 2)) (u0.toNatClampNeg + k / 2))) ∧ q_mr h' m (P.wrt ln))) v h') : ∃ l', (∀ k, k < 13 → l' k = (fun k => if k % 2 = 1 then nI 32 else nI (m.sg2 (m.zr (u0.toNatClampNeg + k / 2)) (u0.toNatClampNeg + k / 2))) k) ∧ q_pr h m P (q_k1 (¬ (nI 0 ≤ u0 ∧ u0 ≤ nI m.t))) (nI 13) m (P.wrt l') v h' := by
  obtain ⟨a, b, k, e, e12, g, n1, n2⟩ := hp
  by_cases ea : a = 0
  · obtain ⟨hb, ln, hl, M⟩ := n2 ea
    exact ⟨ln, hl, a, b, k, e, e12, g, n1, fun _ => ⟨hb, M⟩⟩
  · exact ⟨_, fun _ _ => rfl, a, b, k, e, e12, g, n1, fun e => absurd e ea⟩
theorem q_f1.setE {h h1 : q_Hp} {x : UInt64} (F : q_f1 h h1) : q_f1 h (h1.setE 1075 0 x) := F
theorem q_half.setE {c : Nat} {h1 : q_Hp} {m : q_W} {P : q_P} {x : UInt64} (g : q_half c h1 m P) : q_half c (h1.setE 1075 0 x) m P := g
theorem q_Eset {h1 : q_Hp} {x : UInt64} : (h1.setE 1075 0 x).E 1075 0 = x := by
  show q_up h1.E 1075 0 x 1075 0 = x
  rw [q_up_same, va_us]
theorem j_zoneShare {h h1 : q_Hp} {W m : q_W} {O : q_O} {P : q_P} {c N : Nat} {τ : Nat → Nat} {u0 : Int32} (C : q_clX h W O) (M : q_mr h m P) (s : q_smc c W m) (a : q_si0 W m) (b : q_si1 W m τ) (k : q_si2 m N) (dd : q_dd m) (H : q_hs c O P) (hcc : c ≤ 600) {r : Except String (Option Value)} (hp : (fun r h' => ∃ a : Nat, r = .ok (some (.int (nI a))) ∧ (((¬ (nI 1 ≤ u0 ∧ u0 ≤ nI 5)) ∧ a = 1 ∧ q_rd h h' W O) ∨ (¬ (¬ (nI 1 ≤ u0 ∧ u0 ≤ nI 5)) ∧ (W.all = 0) ∧ a = 2 ∧ q_rd h h' W O) ∨ (¬ (¬ (nI 1 ≤ u0 ∧ u0 ≤ nI 5)) ∧ ¬ (W.all = 0) ∧ a = 0 ∧ ∃ h1, q_rd h h1 W O ∧ h' = h1.setE 1075 0 (FP.f2d (FP.fdiv (FP.i2f (W.zs u0.toNatClampNeg)) (FP.i2f W.all)))))) r h1) : ∃ a : Nat, r = .ok (some (.int (nI a))) ∧ a ≤ 3 ∧ q_k2 (¬ (nI 1 ≤ u0 ∧ u0 ≤ nI 5)) (m.all = 0) a ∧ q_f1 h h1 ∧ q_half (c + 1) h1 m P ∧ (a = 0 → ¬ m.all = 0 ∧ h1.E 1075 0 = FP.f2d (FP.fdiv (FP.i2f (m.zs u0.toNatClampNeg)) (FP.i2f m.all))) := by
  have et := a.1
  have ec := a.2.1
  have enx := a.2.2.1
  have en := a.2.2.2.1
  have etd := a.2.2.2.2.1
  have ebd := a.2.2.2.2.2.1
  have ewt := a.2.2.2.2.2.2.1
  have epe := a.2.2.2.2.2.2.2.1
  have epf := a.2.2.2.2.2.2.2.2.1
  have epc := a.2.2.2.2.2.2.2.2.2.1
  have etg := a.2.2.2.2.2.2.2.2.2.2
  have v := k.2.2.2.2.2.2.2
  have ht := k.2.2.2.2.2.2.1
  have hc := k.2.1
  have hn10 := C.1.1.n10
  have o := C.1.2.1.2
  have htp := M.2.2.1.2.2.2.1
  have hun := M.2.2.1.2.1
  have hpe1 := M.2.1.1.pe1
  have hpf9 := M.2.1.1.pf9
  have hp28 := M.2.1.1.pc28
  obtain ⟨x, rfl, ⟨n1, rfl, R⟩ | ⟨n1, n2, rfl, R⟩ | ⟨n1, n2, rfl, h2, R, rfl⟩⟩ := hp
  · exact ⟨1, rfl, by omega, Or.inl ⟨n1, rfl⟩, q_f1.of R.2, q_half.rd s H R, fun e => absurd e (by decide)⟩
  · rw [q_all_eq a b k] at n2
    exact ⟨2, rfl, by omega, Or.inr (Or.inl ⟨n1, n2, rfl⟩), q_f1.of R.2, q_half.rd s H R, fun e => absurd e (by decide)⟩
  · rw [q_all_eq a b k] at n2
    exact ⟨0, rfl, by omega, Or.inr (Or.inr ⟨n1, n2, rfl⟩), (q_f1.of R.2).setE, (q_half.rd s H R).setE, fun _ => ⟨n2, by rw [q_Eset, q_zs_eq a b k, q_all_eq a b k]⟩⟩
theorem j_meanLoad {h h1 : q_Hp} {W m : q_W} {O : q_O} {P : q_P} {c N : Nat} {τ : Nat → Nat} (C : q_clX h W O) (M : q_mr h m P) (s : q_smc c W m) (a : q_si0 W m) (b : q_si1 W m τ) (k : q_si2 m N) (dd : q_dd m) (H : q_hs c O P) (hcc : c ≤ 600) {v0 : Option Value} (hp : (fun v h' => v = some (.double (FP.ddiv (FP.i2d (q_sum (fun k => W.D (0 + k)) (W.t + 1))) (FP.i2d (nI (W.t + 1))))) ∧ q_rd h h' W O) v0 h1) : v0 = some (.double (FP.ddiv (FP.i2d (q_sum m.D (m.t + 1))) (FP.i2d (nI (m.t + 1))))) ∧ q_f1 h h1 ∧ q_half (c + 1) h1 m P := by
  have et := a.1
  have ec := a.2.1
  have enx := a.2.2.1
  have en := a.2.2.2.1
  have etd := a.2.2.2.2.1
  have ebd := a.2.2.2.2.2.1
  have ewt := a.2.2.2.2.2.2.1
  have epe := a.2.2.2.2.2.2.2.1
  have epf := a.2.2.2.2.2.2.2.2.1
  have epc := a.2.2.2.2.2.2.2.2.2.1
  have etg := a.2.2.2.2.2.2.2.2.2.2
  have v := k.2.2.2.2.2.2.2
  have ht := k.2.2.2.2.2.2.1
  have hc := k.2.1
  have hn10 := C.1.1.n10
  have o := C.1.2.1.2
  have htp := M.2.2.1.2.2.2.1
  have hun := M.2.2.1.2.1
  have hpe1 := M.2.1.1.pe1
  have hpf9 := M.2.1.1.pf9
  have hp28 := M.2.1.1.pc28
  obtain ⟨rfl, R⟩ := hp
  exact ⟨by rw [q_all0 a b k, et], q_f1.of R.2, q_half.rd s H R⟩
