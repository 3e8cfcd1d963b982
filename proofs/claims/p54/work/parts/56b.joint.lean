/-! THE WRAPPERS OVER THE NET'S CONTENT -/
def q_hf (c : Nat) (h1 : q_Hp) (m1 : q_W) (O : q_O) (m : q_W) : Prop := ∃ W1 O1, q_clX h1 W1 O1 ∧ q_smc c W1 m1 ∧ ∃ Y, q_smc c Y m ∧ O1 = O.kept Y
def q_vr (h : q_Hp) (W : q_W) (O : q_O) (val : Int32) : Option Value → q_Hp → Prop := fun v h1 => v = some (.int val) ∧ q_rd h h1 W O
def q_vm (c : Nat) (h : q_Hp) (O : q_O) (m : q_W) (val : Int32) (m1 : q_W) : Option Value → q_Hp → Prop := fun v h1 => v = some (.int val) ∧ q_fr h h1 ∧ q_hf c h1 m1 O m
section QJ
variable {h h1 : q_Hp} {W : q_W} {O : q_O} {c1 c2 c3 d1 d2 d3 : Prop} {Pp G : Option Value → q_Hp → Prop} {r : Except String (Option Value)}
theorem j_1 (e1 : c1 ↔ d1) (g : ¬ d1 → ∀ x h', Pp (some (.int x)) h' → G (some (.int x)) h') (hp : q_l1 h W O c1 Pp r h1) : q_l1 h W O d1 G r h1 := by
  obtain ⟨x, rfl, ⟨n1, rfl, R⟩ | ⟨n1, hp⟩⟩ := hp
  · exact ⟨_, rfl, Or.inl ⟨e1.mp n1, rfl, R⟩⟩
  · have m1 := fun q => n1 (e1.mpr q)
    exact ⟨_, rfl, Or.inr ⟨m1, g m1 _ _ hp⟩⟩
theorem j_2 (e1 : c1 ↔ d1) (e2 : ¬ d1 → (c2 ↔ d2)) (g : ¬ d1 → ¬ d2 → ∀ x h', Pp (some (.int x)) h' → G (some (.int x)) h') (hp : q_l2 h W O c1 c2 Pp r h1) : q_l2 h W O d1 d2 G r h1 := by
  obtain ⟨x, rfl, ⟨n1, rfl, R⟩ | ⟨n1, n2, rfl, R⟩ | ⟨n1, n2, hp⟩⟩ := hp
  · exact ⟨_, rfl, Or.inl ⟨e1.mp n1, rfl, R⟩⟩
  · have m1 := fun q => n1 (e1.mpr q)
    exact ⟨_, rfl, Or.inr (Or.inl ⟨m1, (e2 m1).mp n2, rfl, R⟩)⟩
  · have m1 := fun q => n1 (e1.mpr q)
    have m2 := fun q => n2 ((e2 m1).mpr q)
    exact ⟨_, rfl, Or.inr (Or.inr ⟨m1, m2, g m1 m2 _ _ hp⟩)⟩
theorem j_3 (e1 : c1 ↔ d1) (e2 : ¬ d1 → (c2 ↔ d2)) (e3 : ¬ d1 → ¬ d2 → (c3 ↔ d3)) (g : ¬ d1 → ¬ d2 → ¬ d3 → ∀ x h', Pp (some (.int x)) h' → G (some (.int x)) h') (hp : q_l3 h W O c1 c2 c3 Pp r h1) : q_l3 h W O d1 d2 d3 G r h1 := by
  obtain ⟨x, rfl, ⟨n1, rfl, R⟩ | ⟨n1, n2, rfl, R⟩ | ⟨n1, n2, n3, rfl, R⟩ | ⟨n1, n2, n3, hp⟩⟩ := hp
  · exact ⟨_, rfl, Or.inl ⟨e1.mp n1, rfl, R⟩⟩
  · have m1 := fun q => n1 (e1.mpr q)
    exact ⟨_, rfl, Or.inr (Or.inl ⟨m1, (e2 m1).mp n2, rfl, R⟩)⟩
  · have m1 := fun q => n1 (e1.mpr q)
    have m2 := fun q => n2 ((e2 m1).mpr q)
    exact ⟨_, rfl, Or.inr (Or.inr (Or.inl ⟨m1, m2, (e3 m1 m2).mp n3, rfl, R⟩))⟩
  · have m1 := fun q => n1 (e1.mpr q)
    have m2 := fun q => n2 ((e2 m1).mpr q)
    have m3 := fun q => n3 ((e3 m1 m2).mpr q)
    exact ⟨_, rfl, Or.inr (Or.inr (Or.inr ⟨m1, m2, m3, g m1 m2 m3 _ _ hp⟩))⟩
end QJ
theorem q_idx {n : Nat} {p : Int32} (hn : n < 2 ^ 30) : (p < 0 ∨ nI n ≤ p) ↔ ¬ (nI 0 ≤ p ∧ p ≤ nI n - nI 1) := by
  have h1 : (nI n - nI 1).toInt = (n : Int) - 1 := by
    have := pk_sub_toInt (a := n) (b := 1) hn (by omega)
    simpa using this
  have h0 : (nI 0).toInt = 0 := by decide
  have z0 : (0 : Int32).toInt = 0 := by decide
  rw [Int32.lt_iff_toInt_lt, Int32.le_iff_toInt_le, Int32.le_iff_toInt_le, Int32.le_iff_toInt_le, h1, h0, z0, nI_toInt (by omega)]
  omega
theorem q_idx_in {n : Nat} {p : Int32} (hn : n < 2 ^ 30) (h : ¬ ¬ (nI 0 ≤ p ∧ p ≤ nI n - nI 1)) : p.toNatClampNeg < n := by
  have h2 : ¬ (p < 0 ∨ nI n ≤ p) := fun e => h ((q_idx hn).mp e)
  have h3 : ¬ p < 0 := fun e => h2 (Or.inl e)
  obtain ⟨j, hj, rfl⟩ := nI_of h3
  rw [nI_clamp hj]
  have := (nI_leI (a := n) (b := j) (by omega) hj)
  exact Nat.lt_of_not_le fun e => h2 (Or.inr (this.mpr e))
theorem j_thresholdOn {h h1 : q_Hp} {W m : q_W} {O : q_O} {c N : Nat} {τ : Nat → Nat} {u0 : Int32} (C : q_clX h W O) (B : q_bd m) (s : q_smc c W m) (a : q_si0 W m) (b : q_si1 W m τ) (k : q_si2 m N) (dd : q_dd m) (hcc : c ≤ 600) {r : Except String (Option Value)} (hp : (q_l1 h W O (¬ (nI 0 ≤ u0 ∧ u0 ≤ nI 199)) (fun v h' => v = some (.int (W.th u0)) ∧ q_rd h h' W O)) r h1) : (q_l1 h W O (¬ (nI 0 ≤ u0 ∧ u0 ≤ nI 199)) (q_vr h W O (m.th u0))) r h1 := by
  have et := a.1
  have ec := a.2.1
  have enx := a.2.2.1
  have en := a.2.2.2.1
  have etd := a.2.2.2.2.1
  have ebd := a.2.2.2.2.2.1
  have ewt := a.2.2.2.2.2.2.1
  have epe := a.2.2.2.2.2.2.2.1
  have epf := a.2.2.2.2.2.2.2.2.1
  have epc := a.2.2.2.2.2.2.2.2.2.1
  have etg := a.2.2.2.2.2.2.2.2.2.2
  have v := k.2.2.2.2.2.2.2
  have ht := k.2.2.2.2.2.2.1
  have hc := k.2.1
  have hn10 := C.1.1.n10
  have o := C.1.2.1.2
  have hpe1 := B.2.2.2.1
  have hpf9 := B.2.2.2.2.1
  have hp28 := B.2.2.2.2.2.1
  have hbn := B.2.1
  refine j_1 Iff.rfl (fun n1 x0 h2 hp => ?_) hp
  obtain ⟨e, rd⟩ := hp
  cases e
  refine ⟨congrArg (fun z => some (Value.int z)) ?_, rd⟩
  exact q_th_eq a _
theorem j_boundOf {h h1 : q_Hp} {W m : q_W} {O : q_O} {c N : Nat} {τ : Nat → Nat} {u0 : Int32} (C : q_clX h W O) (B : q_bd m) (s : q_smc c W m) (a : q_si0 W m) (b : q_si1 W m τ) (k : q_si2 m N) (dd : q_dd m) (hcc : c ≤ 600) {r : Except String (Option Value)} (hp : (q_l1 h W O (¬ (nI 2 ≤ u0 ∧ u0 ≤ nI 5)) (fun v h' => v = some (.int (W.bd u0.toNatClampNeg)) ∧ q_rd h h' W O)) r h1) : (q_l1 h W O (¬ (nI 2 ≤ u0 ∧ u0 ≤ nI 5)) (q_vr h W O (m.bd u0.toNatClampNeg))) r h1 := by
  have et := a.1
  have ec := a.2.1
  have enx := a.2.2.1
  have en := a.2.2.2.1
  have etd := a.2.2.2.2.1
  have ebd := a.2.2.2.2.2.1
  have ewt := a.2.2.2.2.2.2.1
  have epe := a.2.2.2.2.2.2.2.1
  have epf := a.2.2.2.2.2.2.2.2.1
  have epc := a.2.2.2.2.2.2.2.2.2.1
  have etg := a.2.2.2.2.2.2.2.2.2.2
  have v := k.2.2.2.2.2.2.2
  have ht := k.2.2.2.2.2.2.1
  have hc := k.2.1
  have hn10 := C.1.1.n10
  have o := C.1.2.1.2
  have hpe1 := B.2.2.2.1
  have hpf9 := B.2.2.2.2.1
  have hp28 := B.2.2.2.2.2.1
  have hbn := B.2.1
  refine j_1 Iff.rfl (fun n1 x0 h2 hp => ?_) hp
  obtain ⟨e, rd⟩ := hp
  cases e
  refine ⟨congrArg (fun z => some (Value.int z)) ?_, rd⟩
  obtain ⟨j, j1, j2, rfl⟩ := q_rng n1 (by omega) (by omega)
  rw [nI_clamp (by omega)]; exact ebd j j1 j2
theorem j_weightOf {h h1 : q_Hp} {W m : q_W} {O : q_O} {c N : Nat} {τ : Nat → Nat} {u0 : Int32} (C : q_clX h W O) (B : q_bd m) (s : q_smc c W m) (a : q_si0 W m) (b : q_si1 W m τ) (k : q_si2 m N) (dd : q_dd m) (hcc : c ≤ 600) {r : Except String (Option Value)} (hp : (q_l1 h W O (¬ (nI 1 ≤ u0 ∧ u0 ≤ nI 5)) (fun v h' => v = some (.int (W.wt u0.toNatClampNeg)) ∧ q_rd h h' W O)) r h1) : (q_l1 h W O (¬ (nI 1 ≤ u0 ∧ u0 ≤ nI 5)) (q_vr h W O (m.wt u0.toNatClampNeg))) r h1 := by
  have et := a.1
  have ec := a.2.1
  have enx := a.2.2.1
  have en := a.2.2.2.1
  have etd := a.2.2.2.2.1
  have ebd := a.2.2.2.2.2.1
  have ewt := a.2.2.2.2.2.2.1
  have epe := a.2.2.2.2.2.2.2.1
  have epf := a.2.2.2.2.2.2.2.2.1
  have epc := a.2.2.2.2.2.2.2.2.2.1
  have etg := a.2.2.2.2.2.2.2.2.2.2
  have v := k.2.2.2.2.2.2.2
  have ht := k.2.2.2.2.2.2.1
  have hc := k.2.1
  have hn10 := C.1.1.n10
  have o := C.1.2.1.2
  have hpe1 := B.2.2.2.1
  have hpf9 := B.2.2.2.2.1
  have hp28 := B.2.2.2.2.2.1
  have hbn := B.2.1
  refine j_1 Iff.rfl (fun n1 x0 h2 hp => ?_) hp
  obtain ⟨e, rd⟩ := hp
  cases e
  refine ⟨congrArg (fun z => some (Value.int z)) ?_, rd⟩
  obtain ⟨j, j1, j2, rfl⟩ := q_rng n1 (by omega) (by omega)
  rw [nI_clamp (by omega)]; exact ewt j j1 j2
theorem j_zoneOf {h h1 : q_Hp} {W m : q_W} {O : q_O} {c N : Nat} {τ : Nat → Nat} {u0 u1 : Int32} (C : q_clX h W O) (B : q_bd m) (s : q_smc c W m) (a : q_si0 W m) (b : q_si1 W m τ) (k : q_si2 m N) (dd : q_dd m) (hcc : c ≤ 600) {r : Except String (Option Value)} (hp : (q_l1 h W O (¬ (nI 0 ≤ u0 ∧ u0 ≤ nI 199) ∨ ¬ (nI 0 ≤ u1 ∧ u1 ≤ nI 500)) (fun v h' => v = some (.int (nI (q_zn W.bd u1 (W.th u0)))) ∧ q_rd h h' W O)) r h1) : (q_l1 h W O (¬ (nI 0 ≤ u0 ∧ u0 ≤ nI 199) ∨ ¬ (nI 0 ≤ u1 ∧ u1 ≤ nI 500)) (q_vr h W O (nI (q_zn m.bd u1 (m.th u0))))) r h1 := by
  have et := a.1
  have ec := a.2.1
  have enx := a.2.2.1
  have en := a.2.2.2.1
  have etd := a.2.2.2.2.1
  have ebd := a.2.2.2.2.2.1
  have ewt := a.2.2.2.2.2.2.1
  have epe := a.2.2.2.2.2.2.2.1
  have epf := a.2.2.2.2.2.2.2.2.1
  have epc := a.2.2.2.2.2.2.2.2.2.1
  have etg := a.2.2.2.2.2.2.2.2.2.2
  have v := k.2.2.2.2.2.2.2
  have ht := k.2.2.2.2.2.2.1
  have hc := k.2.1
  have hn10 := C.1.1.n10
  have o := C.1.2.1.2
  have hpe1 := B.2.2.2.1
  have hpf9 := B.2.2.2.2.1
  have hp28 := B.2.2.2.2.2.1
  have hbn := B.2.1
  refine j_1 Iff.rfl (fun n1 x0 h2 hp => ?_) hp
  obtain ⟨e, rd⟩ := hp
  cases e
  refine ⟨congrArg (fun z => some (Value.int z)) ?_, rd⟩
  rw [q_th_eq a, q_zn_eq a]
theorem j_sessionAt {h h1 : q_Hp} {W m : q_W} {O : q_O} {c N : Nat} {τ : Nat → Nat} {u0 : Int32} (C : q_clX h W O) (B : q_bd m) (s : q_smc c W m) (a : q_si0 W m) (b : q_si1 W m τ) (k : q_si2 m N) (dd : q_dd m) (hcc : c ≤ 600) {r : Except String (Option Value)} (hp : (q_l1 h W O (u0 < 0 ∨ nI W.c ≤ u0) (fun v h' => v = some (.int (W.id (W.σ u0.toNatClampNeg))) ∧ q_rd h h' W O)) r h1) : (q_l1 h W O (¬ (nI 0 ≤ u0 ∧ u0 ≤ nI m.c - nI 1)) (q_vr h W O (m.id (τ u0.toNatClampNeg)))) r h1 := by
  have et := a.1
  have ec := a.2.1
  have enx := a.2.2.1
  have en := a.2.2.2.1
  have etd := a.2.2.2.2.1
  have ebd := a.2.2.2.2.2.1
  have ewt := a.2.2.2.2.2.2.1
  have epe := a.2.2.2.2.2.2.2.1
  have epf := a.2.2.2.2.2.2.2.2.1
  have epc := a.2.2.2.2.2.2.2.2.2.1
  have etg := a.2.2.2.2.2.2.2.2.2.2
  have v := k.2.2.2.2.2.2.2
  have ht := k.2.2.2.2.2.2.1
  have hc := k.2.1
  have hn10 := C.1.1.n10
  have o := C.1.2.1.2
  have hpe1 := B.2.2.2.1
  have hpf9 := B.2.2.2.2.1
  have hp28 := B.2.2.2.2.2.1
  have hbn := B.2.1
  refine j_1 (by rw [ec]; exact q_idx (by omega)) (fun n1 x0 h2 hp => ?_) hp
  obtain ⟨e, rd⟩ := hp
  cases e
  refine ⟨congrArg (fun z => some (Value.int z)) ?_, rd⟩
  have hi := q_idx_in (n := m.c) (by omega) n1
  exact (b.2.1 _ hi).1
theorem j_dayOf {h h1 : q_Hp} {W m : q_W} {O : q_O} {c N : Nat} {τ : Nat → Nat} {u0 : Int32} (C : q_clX h W O) (B : q_bd m) (s : q_smc c W m) (a : q_si0 W m) (b : q_si1 W m τ) (k : q_si2 m N) (dd : q_dd m) (hcc : c ≤ 600) {r : Except String (Option Value)} (hp : (q_l1 h W O (W.no u0) (fun v h' => v = some (.int (nI (W.dy (W.σ (W.at_ u0))))) ∧ q_rd h h' W O)) r h1) : (q_l1 h W O (m.mno u0) (q_vr h W O (nI (m.dy (m.mat u0))))) r h1 := by
  have et := a.1
  have ec := a.2.1
  have enx := a.2.2.1
  have en := a.2.2.2.1
  have etd := a.2.2.2.2.1
  have ebd := a.2.2.2.2.2.1
  have ewt := a.2.2.2.2.2.2.1
  have epe := a.2.2.2.2.2.2.2.1
  have epf := a.2.2.2.2.2.2.2.2.1
  have epc := a.2.2.2.2.2.2.2.2.2.1
  have etg := a.2.2.2.2.2.2.2.2.2.2
  have v := k.2.2.2.2.2.2.2
  have ht := k.2.2.2.2.2.2.1
  have hc := k.2.1
  have hn10 := C.1.1.n10
  have o := C.1.2.1.2
  have hpe1 := B.2.2.2.1
  have hpf9 := B.2.2.2.2.1
  have hp28 := B.2.2.2.2.2.1
  have hbn := B.2.1
  refine j_1 (q_no_eq a b k u0) (fun n1 x0 h2 hp => ?_) hp
  obtain ⟨e, rd⟩ := hp
  cases e
  refine ⟨congrArg (fun z => some (Value.int z)) ?_, rd⟩
  obtain ⟨g1, g2⟩ := q_at_eq a b k (fun h => n1 ((q_no_eq a b k u0).mp h))
  rw [← g2]; exact congrArg nI (b.2.1 _ g1).2.1
theorem j_minutesOf {h h1 : q_Hp} {W m : q_W} {O : q_O} {c N : Nat} {τ : Nat → Nat} {u0 : Int32} (C : q_clX h W O) (B : q_bd m) (s : q_smc c W m) (a : q_si0 W m) (b : q_si1 W m τ) (k : q_si2 m N) (dd : q_dd m) (hcc : c ≤ 600) {r : Except String (Option Value)} (hp : (q_l1 h W O (W.no u0) (fun v h' => v = some (.int (W.len (W.σ (W.at_ u0)))) ∧ q_rd h h' W O)) r h1) : (q_l1 h W O (m.mno u0) (q_vr h W O (m.len (m.mat u0)))) r h1 := by
  have et := a.1
  have ec := a.2.1
  have enx := a.2.2.1
  have en := a.2.2.2.1
  have etd := a.2.2.2.2.1
  have ebd := a.2.2.2.2.2.1
  have ewt := a.2.2.2.2.2.2.1
  have epe := a.2.2.2.2.2.2.2.1
  have epf := a.2.2.2.2.2.2.2.2.1
  have epc := a.2.2.2.2.2.2.2.2.2.1
  have etg := a.2.2.2.2.2.2.2.2.2.2
  have v := k.2.2.2.2.2.2.2
  have ht := k.2.2.2.2.2.2.1
  have hc := k.2.1
  have hn10 := C.1.1.n10
  have o := C.1.2.1.2
  have hpe1 := B.2.2.2.1
  have hpf9 := B.2.2.2.2.1
  have hp28 := B.2.2.2.2.2.1
  have hbn := B.2.1
  refine j_1 (q_no_eq a b k u0) (fun n1 x0 h2 hp => ?_) hp
  obtain ⟨e, rd⟩ := hp
  cases e
  refine ⟨congrArg (fun z => some (Value.int z)) ?_, rd⟩
  obtain ⟨g1, g2⟩ := q_at_eq a b k (fun h => n1 ((q_no_eq a b k u0).mp h))
  rw [← g2]; exact q_len_eq (b.2.1 _ g1)
theorem j_loadOf {h h1 : q_Hp} {W m : q_W} {O : q_O} {c N : Nat} {τ : Nat → Nat} {u0 : Int32} (C : q_clX h W O) (B : q_bd m) (s : q_smc c W m) (a : q_si0 W m) (b : q_si1 W m τ) (k : q_si2 m N) (dd : q_dd m) (hcc : c ≤ 600) {r : Except String (Option Value)} (hp : (q_l1 h W O (W.no u0) (fun v h' => v = some (.int (W.ld (W.σ (W.at_ u0)))) ∧ q_rd h h' W O)) r h1) : (q_l1 h W O (m.mno u0) (q_vr h W O (m.ld (m.mat u0)))) r h1 := by
  have et := a.1
  have ec := a.2.1
  have enx := a.2.2.1
  have en := a.2.2.2.1
  have etd := a.2.2.2.2.1
  have ebd := a.2.2.2.2.2.1
  have ewt := a.2.2.2.2.2.2.1
  have epe := a.2.2.2.2.2.2.2.1
  have epf := a.2.2.2.2.2.2.2.2.1
  have epc := a.2.2.2.2.2.2.2.2.2.1
  have etg := a.2.2.2.2.2.2.2.2.2.2
  have v := k.2.2.2.2.2.2.2
  have ht := k.2.2.2.2.2.2.1
  have hc := k.2.1
  have hn10 := C.1.1.n10
  have o := C.1.2.1.2
  have hpe1 := B.2.2.2.1
  have hpf9 := B.2.2.2.2.1
  have hp28 := B.2.2.2.2.2.1
  have hbn := B.2.1
  refine j_1 (q_no_eq a b k u0) (fun n1 x0 h2 hp => ?_) hp
  obtain ⟨e, rd⟩ := hp
  cases e
  refine ⟨congrArg (fun z => some (Value.int z)) ?_, rd⟩
  obtain ⟨g1, g2⟩ := q_at_eq a b k (fun h => n1 ((q_no_eq a b k u0).mp h))
  rw [← g2]; exact q_ld_eq a (b.2.1 _ g1)
theorem j_minutesInZone {h h1 : q_Hp} {W m : q_W} {O : q_O} {c N : Nat} {τ : Nat → Nat} {u0 u1 : Int32} (C : q_clX h W O) (B : q_bd m) (s : q_smc c W m) (a : q_si0 W m) (b : q_si1 W m τ) (k : q_si2 m N) (dd : q_dd m) (hcc : c ≤ 600) {r : Except String (Option Value)} (hp : (q_l2 h W O (W.no u0) (¬ (nI 1 ≤ u1 ∧ u1 ≤ nI 5)) (fun v h' => v = some (.int (q_az (fun _ => nI 0) (W.z (W.σ (W.at_ u0))) (W.mn (W.σ (W.at_ u0))) (W.pn (W.σ (W.at_ u0))) u1.toNatClampNeg)) ∧ q_rd h h' W O)) r h1) : (q_l2 h W O (m.mno u0) (¬ (nI 1 ≤ u1 ∧ u1 ≤ nI 5)) (q_vr h W O (q_az (fun _ => nI 0) (m.z (m.mat u0)) (m.mn (m.mat u0)) (m.pn (m.mat u0)) u1.toNatClampNeg))) r h1 := by
  have et := a.1
  have ec := a.2.1
  have enx := a.2.2.1
  have en := a.2.2.2.1
  have etd := a.2.2.2.2.1
  have ebd := a.2.2.2.2.2.1
  have ewt := a.2.2.2.2.2.2.1
  have epe := a.2.2.2.2.2.2.2.1
  have epf := a.2.2.2.2.2.2.2.2.1
  have epc := a.2.2.2.2.2.2.2.2.2.1
  have etg := a.2.2.2.2.2.2.2.2.2.2
  have v := k.2.2.2.2.2.2.2
  have ht := k.2.2.2.2.2.2.1
  have hc := k.2.1
  have hn10 := C.1.1.n10
  have o := C.1.2.1.2
  have hpe1 := B.2.2.2.1
  have hpf9 := B.2.2.2.2.1
  have hp28 := B.2.2.2.2.2.1
  have hbn := B.2.1
  refine j_2 (q_no_eq a b k u0) (fun n1 => Iff.rfl) (fun n1 n2 x0 h2 hp => ?_) hp
  obtain ⟨e, rd⟩ := hp
  cases e
  refine ⟨congrArg (fun z => some (Value.int z)) ?_, rd⟩
  obtain ⟨g1, g2⟩ := q_at_eq a b k (fun h => n1 ((q_no_eq a b k u0).mp h))
  rw [← g2, q_az_sum, q_az_sum]; exact congrArg (nI 0 + ·) (q_zc_eq a (b.2.1 _ g1) _)
theorem j_loadOn {h h1 : q_Hp} {W m : q_W} {O : q_O} {c N : Nat} {τ : Nat → Nat} {u0 : Int32} (C : q_clX h W O) (B : q_bd m) (s : q_smc c W m) (a : q_si0 W m) (b : q_si1 W m τ) (k : q_si2 m N) (dd : q_dd m) (hcc : c ≤ 600) {r : Except String (Option Value)} (hp : (q_l1 h W O (¬ (nI 0 ≤ u0 ∧ u0 ≤ nI W.t)) (fun v h' => v = some (.int (W.D u0.toNatClampNeg)) ∧ q_rd h h' W O)) r h1) : (q_l1 h W O (¬ (nI 0 ≤ u0 ∧ u0 ≤ nI m.t)) (q_vr h W O (m.D u0.toNatClampNeg))) r h1 := by
  have et := a.1
  have ec := a.2.1
  have enx := a.2.2.1
  have en := a.2.2.2.1
  have etd := a.2.2.2.2.1
  have ebd := a.2.2.2.2.2.1
  have ewt := a.2.2.2.2.2.2.1
  have epe := a.2.2.2.2.2.2.2.1
  have epf := a.2.2.2.2.2.2.2.2.1
  have epc := a.2.2.2.2.2.2.2.2.2.1
  have etg := a.2.2.2.2.2.2.2.2.2.2
  have v := k.2.2.2.2.2.2.2
  have ht := k.2.2.2.2.2.2.1
  have hc := k.2.1
  have hn10 := C.1.1.n10
  have o := C.1.2.1.2
  have hpe1 := B.2.2.2.1
  have hpf9 := B.2.2.2.2.1
  have hp28 := B.2.2.2.2.2.1
  have hbn := B.2.1
  refine j_1 (by rw [et]) (fun n1 x0 h2 hp => ?_) hp
  obtain ⟨e, rd⟩ := hp
  cases e
  refine ⟨congrArg (fun z => some (Value.int z)) ?_, rd⟩
  obtain ⟨j, j1, j2, rfl⟩ := q_rng n1 (by omega) (by omega)
  rw [nI_clamp (by omega)]; exact q_D_eq a b k (by omega)
theorem j_targetAt {h h1 : q_Hp} {W m : q_W} {O : q_O} {c N : Nat} {τ : Nat → Nat} {u0 : Int32} (C : q_clX h W O) (B : q_bd m) (s : q_smc c W m) (a : q_si0 W m) (b : q_si1 W m τ) (k : q_si2 m N) (dd : q_dd m) (hcc : c ≤ 600) {r : Except String (Option Value)} (hp : (q_l1 h W O (u0 < 0 ∨ nI W.pc ≤ u0) (fun v h' => v = some (.int (W.tg u0.toNatClampNeg)) ∧ q_rd h h' W O)) r h1) : (q_l1 h W O (m.pe = 0 ∨ ¬ (nI 0 ≤ u0 ∧ u0 ≤ nI m.pc - nI 1)) (q_vr h W O (m.tg u0.toNatClampNeg))) r h1 := by
  have et := a.1
  have ec := a.2.1
  have enx := a.2.2.1
  have en := a.2.2.2.1
  have etd := a.2.2.2.2.1
  have ebd := a.2.2.2.2.2.1
  have ewt := a.2.2.2.2.2.2.1
  have epe := a.2.2.2.2.2.2.2.1
  have epf := a.2.2.2.2.2.2.2.2.1
  have epc := a.2.2.2.2.2.2.2.2.2.1
  have etg := a.2.2.2.2.2.2.2.2.2.2
  have v := k.2.2.2.2.2.2.2
  have ht := k.2.2.2.2.2.2.1
  have hc := k.2.1
  have hn10 := C.1.1.n10
  have o := C.1.2.1.2
  have hpe1 := B.2.2.2.1
  have hpf9 := B.2.2.2.2.1
  have hp28 := B.2.2.2.2.2.1
  have hbn := B.2.1
  refine j_1 (by
      rw [epc, q_idx (n := m.pc) (by omega)]
      constructor
      · exact Or.inr
      · rintro (h | h)
        · rw [v.2.2.2.2.2.2 h, ← q_idx (by omega)]
          by_cases e : u0 < 0
          · exact Or.inl e
          · exact Or.inr (Int32.not_lt.mp e)
        · exact h) (fun n1 x0 h2 hp => ?_) hp
  obtain ⟨e, rd⟩ := hp
  cases e
  refine ⟨congrArg (fun z => some (Value.int z)) ?_, rd⟩
  have n3 := fun h => n1 (Or.inr h)
  have hi := q_idx_in (n := m.pc) (by omega) n3
  exact etg _ hi
theorem j_dueEntry {h h1 : q_Hp} {W m : q_W} {O : q_O} {c N : Nat} {τ : Nat → Nat} (C : q_clX h W O) (B : q_bd m) (s : q_smc c W m) (a : q_si0 W m) (b : q_si1 W m τ) (k : q_si2 m N) (dd : q_dd m) (hcc : c ≤ 600) {r : Except String (Option Value)} (hp : (q_l1 h W O (W.pc ≤ W.due) (fun v h' => v = some (.int (nI W.due)) ∧ q_rd h h' W O)) r h1) : (q_l1 h W O (¬ (m.pe = 1 ∧ m.due < m.pc)) (q_vr h W O (nI m.due))) r h1 := by
  have et := a.1
  have ec := a.2.1
  have enx := a.2.2.1
  have en := a.2.2.2.1
  have etd := a.2.2.2.2.1
  have ebd := a.2.2.2.2.2.1
  have ewt := a.2.2.2.2.2.2.1
  have epe := a.2.2.2.2.2.2.2.1
  have epf := a.2.2.2.2.2.2.2.2.1
  have epc := a.2.2.2.2.2.2.2.2.2.1
  have etg := a.2.2.2.2.2.2.2.2.2.2
  have v := k.2.2.2.2.2.2.2
  have ht := k.2.2.2.2.2.2.1
  have hc := k.2.1
  have hn10 := C.1.1.n10
  have o := C.1.2.1.2
  have hpe1 := B.2.2.2.1
  have hpf9 := B.2.2.2.2.1
  have hp28 := B.2.2.2.2.2.1
  have hbn := B.2.1
  refine j_1 (by
      rw [epc, (q_due_eq a b k hpf9).1]
      constructor
      · intro h1 h2; omega
      · intro h1
        by_cases e : m.pe = 1
        · exact Nat.le_of_not_lt fun h2 => h1 ⟨e, h2⟩
        · rw [v.2.2.2.2.2.2 (by omega)]; exact Nat.zero_le _) (fun n1 x0 h2 hp => ?_) hp
  obtain ⟨e, rd⟩ := hp
  cases e
  refine ⟨congrArg (fun z => some (Value.int z)) ?_, rd⟩
  rw [(q_due_eq a b k hpf9).1]
theorem j_planEnd {h h1 : q_Hp} {W m : q_W} {O : q_O} {c N : Nat} {τ : Nat → Nat} (C : q_clX h W O) (B : q_bd m) (s : q_smc c W m) (a : q_si0 W m) (b : q_si1 W m τ) (k : q_si2 m N) (dd : q_dd m) (hcc : c ≤ 600) {r : Except String (Option Value)} (hp : (q_l1 h W O (W.pc ≤ W.due) (fun v h' => v = some (.int (nI W.t + ((nI W.pc - nI 1) - nI W.due))) ∧ q_rd h h' W O)) r h1) : (q_l1 h W O (¬ (m.pe = 1 ∧ m.due < m.pc)) (q_vr h W O (nI (m.t + m.pc) - nI 1 - nI m.due))) r h1 := by
  have et := a.1
  have ec := a.2.1
  have enx := a.2.2.1
  have en := a.2.2.2.1
  have etd := a.2.2.2.2.1
  have ebd := a.2.2.2.2.2.1
  have ewt := a.2.2.2.2.2.2.1
  have epe := a.2.2.2.2.2.2.2.1
  have epf := a.2.2.2.2.2.2.2.2.1
  have epc := a.2.2.2.2.2.2.2.2.2.1
  have etg := a.2.2.2.2.2.2.2.2.2.2
  have v := k.2.2.2.2.2.2.2
  have ht := k.2.2.2.2.2.2.1
  have hc := k.2.1
  have hn10 := C.1.1.n10
  have o := C.1.2.1.2
  have hpe1 := B.2.2.2.1
  have hpf9 := B.2.2.2.2.1
  have hp28 := B.2.2.2.2.2.1
  have hbn := B.2.1
  refine j_1 (by
      rw [epc, (q_due_eq a b k hpf9).1]
      constructor
      · intro h1 h2; omega
      · intro h1
        by_cases e : m.pe = 1
        · exact Nat.le_of_not_lt fun h2 => h1 ⟨e, h2⟩
        · rw [v.2.2.2.2.2.2 (by omega)]; exact Nat.zero_le _) (fun n1 x0 h2 hp => ?_) hp
  obtain ⟨e, rd⟩ := hp
  cases e
  refine ⟨congrArg (fun z => some (Value.int z)) ?_, rd⟩
  rw [(q_due_eq a b k hpf9).1, et, epc, ← nI_add, Int32.sub_eq_add_neg, Int32.sub_eq_add_neg, Int32.sub_eq_add_neg, Int32.sub_eq_add_neg]; ac_rfl
theorem j_pass {h h1 : q_Hp} {W m : q_W} {O : q_O} {c N : Nat} {τ : Nat → Nat} {u0 : Int32} (C : q_clX h W O) (B : q_bd m) (s : q_smc c W m) (a : q_si0 W m) (b : q_si1 W m τ) (k : q_si2 m N) (dd : q_dd m) (hcc : c ≤ 600) {r : Except String (Option Value)} (hp : (q_l2 h W O (¬ (nI 1 ≤ u0 ∧ u0 ≤ nI 30)) (nI 200 ≤ nI W.t + u0) (fun v h' => v = some (.int (nI (W.t + u0.toNatClampNeg))) ∧ ∃ Y, q_eqv W Y ∧ q_ok0 Y ∧ q_mu h h' (W.sA (W.t + u0.toNatClampNeg)) (O.kept Y) 200)) r h1) : (q_l2 h W O (¬ (nI 1 ≤ u0 ∧ u0 ≤ nI 30)) (nI 199 < nI m.t + u0) (q_vm (c + 1) h O m (nI (m.t + u0.toNatClampNeg)) (m.sA (m.t + u0.toNatClampNeg)))) r h1 := by
  have et := a.1
  have ec := a.2.1
  have enx := a.2.2.1
  have en := a.2.2.2.1
  have etd := a.2.2.2.2.1
  have ebd := a.2.2.2.2.2.1
  have ewt := a.2.2.2.2.2.2.1
  have epe := a.2.2.2.2.2.2.2.1
  have epf := a.2.2.2.2.2.2.2.2.1
  have epc := a.2.2.2.2.2.2.2.2.2.1
  have etg := a.2.2.2.2.2.2.2.2.2.2
  have v := k.2.2.2.2.2.2.2
  have ht := k.2.2.2.2.2.2.1
  have hc := k.2.1
  have hn10 := C.1.1.n10
  have o := C.1.2.1.2
  have hpe1 := B.2.2.2.1
  have hpf9 := B.2.2.2.2.1
  have hp28 := B.2.2.2.2.2.1
  have hbn := B.2.1
  refine j_2 Iff.rfl (fun n1 => (by
      obtain ⟨j, j1, j2, rfl⟩ := q_rng n1 (by omega) (by omega)
      rw [et, nI_add, nI_leI (by omega) (by omega), nI_ltI (by omega) (by omega)]
      omega)) (fun n1 n2 x0 h2 hp => ?_) hp
  obtain ⟨j, j1, j2, rfl⟩ := q_rng n1 (by omega) (by omega)
  rw [nI_add, nI_ltI (by omega) (by omega)] at n2
  obtain ⟨e, Y, y1, y2, mu⟩ := hp; cases e
  rw [nI_clamp (by omega)] at mu ⊢
  refine ⟨congrArg (fun z => some (Value.int z)) (by rw [et]), mu.2.1, _, _, q_mu.cl C mu (Or.inr (Nat.le_add_right _ _)) (fun _ _ hy2 => by rw [q_W.D_sum _ hy2, q_W.D_sum _ hy2]; rfl), ?_, ⟨_, (s.le (Nat.le_succ c)).eqv y1 hn10, rfl⟩⟩
  rw [et]; exact (s.le (Nat.le_succ c)).pass (Nat.le_add_right _ _) (by omega)
theorem j_addTest {h h1 : q_Hp} {W m : q_W} {O : q_O} {c N : Nat} {τ : Nat → Nat} {u0 u1 : Int32} (C : q_clX h W O) (B : q_bd m) (s : q_smc c W m) (a : q_si0 W m) (b : q_si1 W m τ) (k : q_si2 m N) (dd : q_dd m) (hcc : c ≤ 600) {r : Except String (Option Value)} (hp : (q_l2 h W O (¬ (nI 0 ≤ u0 ∧ u0 ≤ nI W.t) ∨ ¬ (nI 50 ≤ u1 ∧ u1 ≤ nI 400)) (W.n = 10 ∨ 0 ≤ q_ps (fun i => decide (W.d i = u0)) W.n) (fun v h' => v = some (.int (nI (q_cn (fun i => decide ((W.sT (W.n + 1) (va_up W.d W.n u0) (va_up W.v W.n u1)).ld (W.σ i) ≠ W.ld (W.σ i))) W.c))) ∧ ∃ Y, q_eqv W Y ∧ q_ok0 Y ∧ q_mu h h' (W.sT (W.n + 1) (va_up W.d W.n u0) (va_up W.v W.n u1)) (O.kept Y) u0.toNatClampNeg)) r h1) : (q_l2 h W O (¬ (nI 0 ≤ u0 ∧ u0 ≤ nI m.t) ∨ ¬ (nI 50 ≤ u1 ∧ u1 ≤ nI 400)) (m.n = 10 ∨ 0 ≤ q_pl (fun i => decide (m.d i = u0)) m.n) (q_vm (c + 1) h O m (nI (q_cn (fun k => decide (m.ld k ≠ (m.sT (m.n + 1) (va_up m.d m.n u0) (va_up m.v m.n u1)).ld k)) m.c)) ((m.sT (m.n + 1) (va_up m.d m.n u0) (va_up m.v m.n u1))))) r h1 := by
  have et := a.1
  have ec := a.2.1
  have enx := a.2.2.1
  have en := a.2.2.2.1
  have etd := a.2.2.2.2.1
  have ebd := a.2.2.2.2.2.1
  have ewt := a.2.2.2.2.2.2.1
  have epe := a.2.2.2.2.2.2.2.1
  have epf := a.2.2.2.2.2.2.2.2.1
  have epc := a.2.2.2.2.2.2.2.2.2.1
  have etg := a.2.2.2.2.2.2.2.2.2.2
  have v := k.2.2.2.2.2.2.2
  have ht := k.2.2.2.2.2.2.1
  have hc := k.2.1
  have hn10 := C.1.1.n10
  have o := C.1.2.1.2
  have hpe1 := B.2.2.2.1
  have hpf9 := B.2.2.2.2.1
  have hp28 := B.2.2.2.2.2.1
  have hbn := B.2.1
  refine j_2 (by rw [et]) (fun n1 => (by rw [q_tst a dd, en])) (fun n1 n2 x0 h2 hp => ?_) hp
  have n11 := fun e => n1 (Or.inl e)
  have n12 := fun e => n1 (Or.inr e)
  obtain ⟨j, j1, j2, rfl⟩ := q_rng n11 (by omega) (by omega)
  obtain ⟨x, x1, x2, rfl⟩ := q_rng n12 (by omega) (by omega)
  have hf : ∀ i, i < m.n → m.d i ≠ nI j := fun i hi => of_decide_eq_false ((q_pl_neg (by omega)).mp (Int32.not_le.mp fun e => n2 (Or.inr e)) i hi)
  have hn9 : m.n < 10 := by have : m.n ≠ 10 := (fun e => n2 (Or.inl e)); omega
  obtain ⟨e, Y, y1, y2, mu⟩ := hp; cases e
  have S := (s.le (Nat.le_succ c)).addT (j := j) (x := x) (by omega) x1 x2 hf
  refine ⟨congrArg (fun z => some (Value.int z)) (?_), mu.2.1, _, _, q_mu.cl C mu (Or.inr (Nat.le_refl _)) (fun y hy hy2 => ?_), S, ⟨_, (s.le (Nat.le_succ c)).eqv y1 hn10, rfl⟩⟩
  · obtain ⟨⟨_, _, a', _, _⟩, _⟩ := S
    refine q_cnt b ec fun i hi => ?_
    rw [q_ld_eq a' (k := τ i) (b.2.1 i hi), q_ld_eq a (b.2.1 i hi)]; exact decide_eq_decide.mpr ne_comm
  · rw [S.D hy2, s.D hy2]; rw [nI_clamp (by omega)] at hy; exact q_D_addT k.1 hy2 (by omega) hy
theorem j_removeTest {h h1 : q_Hp} {W m : q_W} {O : q_O} {c N : Nat} {τ : Nat → Nat} {u0 : Int32} (C : q_clX h W O) (B : q_bd m) (s : q_smc c W m) (a : q_si0 W m) (b : q_si1 W m τ) (k : q_si2 m N) (dd : q_dd m) (hcc : c ≤ 600) {r : Except String (Option Value)} (hp : (q_l1 h W O (q_ps (fun i => decide (W.d i = u0)) W.n < 0) (fun v h' => v = some (.int (W.v (q_ps (fun i => decide (W.d i = u0)) W.n).toNatClampNeg)) ∧ ∃ Y, q_eqv W Y ∧ q_ok0 Y ∧ q_mu h h' (W.sT (W.n - 1) (va_up W.d (q_ps (fun i => decide (W.d i = u0)) W.n).toNatClampNeg (W.d (W.n - 1))) (va_up W.v (q_ps (fun i => decide (W.d i = u0)) W.n).toNatClampNeg (W.v (W.n - 1)))) (O.kept Y) u0.toNatClampNeg)) r h1) : (q_l1 h W O (q_pl (fun i => decide (m.d i = u0)) m.n < 0) (q_vm (c + 1) h O m (m.v (q_pl (fun i => decide (m.d i = u0)) m.n).toNatClampNeg) (m.sT (m.n - 1) (va_up m.d (q_pl (fun i => decide (m.d i = u0)) m.n).toNatClampNeg (m.d (m.n - 1))) (va_up m.v (q_pl (fun i => decide (m.d i = u0)) m.n).toNatClampNeg (m.v (m.n - 1)))))) r h1 := by
  have et := a.1
  have ec := a.2.1
  have enx := a.2.2.1
  have en := a.2.2.2.1
  have etd := a.2.2.2.2.1
  have ebd := a.2.2.2.2.2.1
  have ewt := a.2.2.2.2.2.2.1
  have epe := a.2.2.2.2.2.2.2.1
  have epf := a.2.2.2.2.2.2.2.2.1
  have epc := a.2.2.2.2.2.2.2.2.2.1
  have etg := a.2.2.2.2.2.2.2.2.2.2
  have v := k.2.2.2.2.2.2.2
  have ht := k.2.2.2.2.2.2.1
  have hc := k.2.1
  have hn10 := C.1.1.n10
  have o := C.1.2.1.2
  have hpe1 := B.2.2.2.1
  have hpf9 := B.2.2.2.2.1
  have hp28 := B.2.2.2.2.2.1
  have hbn := B.2.1
  refine j_1 (by rw [q_tst a dd]) (fun n1 x0 h2 hp => ?_) hp
  obtain ⟨i, i1, i2, i3⟩ := q_pli n1 (by omega)
  obtain ⟨e, Y, y1, y2, mu⟩ := hp; cases e
  have hn9 := hbn
  rw [q_tst a dd, i3, nI_clamp (by omega)] at mu ⊢
  obtain ⟨jj, jj1, jj2⟩ := v.2.2.2.2.1 i i1
  have hu : u0 = nI jj := by rw [← jj2]; exact (of_decide_eq_true i2).symm
  have S := (s.le (Nat.le_succ c)).remT i1
  refine ⟨congrArg (fun z => some (Value.int z)) ((etd i i1).2), mu.2.1, _, _, q_mu.cl C mu (Or.inr (Nat.le_refl _)) (fun y hy hy2 => ?_), S, ⟨_, (s.le (Nat.le_succ c)).eqv y1 hn10, rfl⟩⟩
  rw [S.D hy2, s.D hy2]; rw [hu, nI_clamp (by omega)] at hy; exact q_D_remT k.1 dd hy2 jj1 i1 jj2 hy
theorem j_setBound {h h1 : q_Hp} {W m : q_W} {O : q_O} {c N : Nat} {τ : Nat → Nat} {u0 u1 : Int32} (C : q_clX h W O) (B : q_bd m) (s : q_smc c W m) (a : q_si0 W m) (b : q_si1 W m τ) (k : q_si2 m N) (dd : q_dd m) (hcc : c ≤ 600) {r : Except String (Option Value)} (hp : (q_l2 h W O (¬ (nI 2 ≤ u0 ∧ u0 ≤ nI 5) ∨ ¬ (nI 1 ≤ u1 ∧ u1 ≤ nI 300)) (¬ ((u0.toNatClampNeg = 2 ∨ W.bd (u0.toNatClampNeg - 1) < u1) ∧ (u0.toNatClampNeg = 5 ∨ u1 < W.bd (u0.toNatClampNeg + 1)))) (fun v h' => v = some (.int (W.bd u0.toNatClampNeg)) ∧ ∃ Y, q_eqv W Y ∧ q_ok0 Y ∧ q_mu h h' (W.sZ (va_up W.bd u0.toNatClampNeg u1) W.wt) (O.kept Y) 0)) r h1) : (q_l2 h W O (¬ (nI 2 ≤ u0 ∧ u0 ≤ nI 5) ∨ ¬ (nI 1 ≤ u1 ∧ u1 ≤ nI 300)) ((2 < u0.toNatClampNeg ∧ u1 ≤ m.bd (u0.toNatClampNeg - 1)) ∨ (u0.toNatClampNeg < 5 ∧ m.bd (u0.toNatClampNeg + 1) ≤ u1)) (q_vm (c + 1) h O m (m.bd u0.toNatClampNeg) (m.sZ (va_up m.bd u0.toNatClampNeg u1) m.wt))) r h1 := by
  have et := a.1
  have ec := a.2.1
  have enx := a.2.2.1
  have en := a.2.2.2.1
  have etd := a.2.2.2.2.1
  have ebd := a.2.2.2.2.2.1
  have ewt := a.2.2.2.2.2.2.1
  have epe := a.2.2.2.2.2.2.2.1
  have epf := a.2.2.2.2.2.2.2.2.1
  have epc := a.2.2.2.2.2.2.2.2.2.1
  have etg := a.2.2.2.2.2.2.2.2.2.2
  have v := k.2.2.2.2.2.2.2
  have ht := k.2.2.2.2.2.2.1
  have hc := k.2.1
  have hn10 := C.1.1.n10
  have o := C.1.2.1.2
  have hpe1 := B.2.2.2.1
  have hpf9 := B.2.2.2.2.1
  have hp28 := B.2.2.2.2.2.1
  have hbn := B.2.1
  refine j_2 Iff.rfl (fun n1 => (by
      obtain ⟨j, j1, j2, rfl⟩ := q_rng (fun e => n1 (Or.inl e)) (by omega) (by omega)
      rw [nI_clamp (by omega)]
      have hb1 : 2 < j → W.bd (j - 1) = m.bd (j - 1) := fun e => ebd _ (by omega) (by omega)
      have hb2 : j < 5 → W.bd (j + 1) = m.bd (j + 1) := fun e => ebd _ (by omega) (by omega)
      constructor
      · intro h
        refine Classical.byContradiction fun g => h ⟨?_, ?_⟩
        · by_cases e : j = 2
          · exact Or.inl e
          · refine Or.inr ?_
            rw [hb1 (by omega)]
            exact Int32.not_le.mp fun e2 => g (Or.inl ⟨by omega, e2⟩)
        · by_cases e : j = 5
          · exact Or.inl e
          · refine Or.inr ?_
            rw [hb2 (by omega)]
            exact Int32.not_le.mp fun e2 => g (Or.inr ⟨by omega, e2⟩)
      · rintro (⟨x1, x2⟩ | ⟨x1, x2⟩) ⟨y1, y2⟩
        · rcases y1 with y | y
          · omega
          · rw [hb1 x1] at y; exact absurd x2 (Int32.not_le.mpr y)
        · rcases y2 with y | y
          · omega
          · rw [hb2 x1] at y; exact absurd x2 (Int32.not_le.mpr y))) (fun n1 n2 x0 h2 hp => ?_) hp
  have n11 := fun e => n1 (Or.inl e)
  have n12 := fun e => n1 (Or.inr e)
  obtain ⟨j, j1, j2, rfl⟩ := q_rng n11 (by omega) (by omega)
  obtain ⟨x, x1, x2, rfl⟩ := q_rng n12 (by omega) (by omega)
  obtain ⟨e, Y, y1, y2, mu⟩ := hp; cases e
  rw [nI_clamp (by omega)] at mu ⊢
  exact ⟨congrArg (fun z => some (Value.int z)) (ebd j j1 j2), mu.2.1, _, _, q_mu.cl C mu (Or.inl rfl) (fun y hy _ => absurd hy (Nat.not_lt_zero y)), (s.le (Nat.le_succ c)).bnd x1 x2, ⟨_, (s.le (Nat.le_succ c)).eqv y1 hn10, rfl⟩⟩
theorem j_setWeight {h h1 : q_Hp} {W m : q_W} {O : q_O} {c N : Nat} {τ : Nat → Nat} {u0 u1 : Int32} (C : q_clX h W O) (B : q_bd m) (s : q_smc c W m) (a : q_si0 W m) (b : q_si1 W m τ) (k : q_si2 m N) (dd : q_dd m) (hcc : c ≤ 600) {r : Except String (Option Value)} (hp : (q_l1 h W O (¬ (nI 1 ≤ u0 ∧ u0 ≤ nI 5) ∨ ¬ (nI 0 ≤ u1 ∧ u1 ≤ nI 100)) (fun v h' => v = some (.int (W.wt u0.toNatClampNeg)) ∧ ∃ Y, q_eqv W Y ∧ q_ok0 Y ∧ q_mu h h' (W.sZ W.bd (va_up W.wt u0.toNatClampNeg u1)) (O.kept Y) 0)) r h1) : (q_l1 h W O (¬ (nI 1 ≤ u0 ∧ u0 ≤ nI 5) ∨ ¬ (nI 0 ≤ u1 ∧ u1 ≤ nI 100)) (q_vm (c + 1) h O m (m.wt u0.toNatClampNeg) (m.sZ m.bd (va_up m.wt u0.toNatClampNeg u1)))) r h1 := by
  have et := a.1
  have ec := a.2.1
  have enx := a.2.2.1
  have en := a.2.2.2.1
  have etd := a.2.2.2.2.1
  have ebd := a.2.2.2.2.2.1
  have ewt := a.2.2.2.2.2.2.1
  have epe := a.2.2.2.2.2.2.2.1
  have epf := a.2.2.2.2.2.2.2.2.1
  have epc := a.2.2.2.2.2.2.2.2.2.1
  have etg := a.2.2.2.2.2.2.2.2.2.2
  have v := k.2.2.2.2.2.2.2
  have ht := k.2.2.2.2.2.2.1
  have hc := k.2.1
  have hn10 := C.1.1.n10
  have o := C.1.2.1.2
  have hpe1 := B.2.2.2.1
  have hpf9 := B.2.2.2.2.1
  have hp28 := B.2.2.2.2.2.1
  have hbn := B.2.1
  refine j_1 Iff.rfl (fun n1 x0 h2 hp => ?_) hp
  have n11 := fun e => n1 (Or.inl e)
  have n12 := fun e => n1 (Or.inr e)
  obtain ⟨j, j1, j2, rfl⟩ := q_rng n11 (by omega) (by omega)
  obtain ⟨x, x1, x2, rfl⟩ := q_rng n12 (by omega) (by omega)
  obtain ⟨e, Y, y1, y2, mu⟩ := hp; cases e
  rw [nI_clamp (by omega)] at mu ⊢
  exact ⟨congrArg (fun z => some (Value.int z)) (ewt j j1 j2), mu.2.1, _, _, q_mu.cl C mu (Or.inl rfl) (fun y hy _ => absurd hy (Nat.not_lt_zero y)), (s.le (Nat.le_succ c)).wgt x2, ⟨_, (s.le (Nat.le_succ c)).eqv y1 hn10, rfl⟩⟩
theorem j_addSession {h h1 : q_Hp} {W m : q_W} {O : q_O} {c N : Nat} {τ : Nat → Nat} {u0 : Int32} (C : q_clX h W O) (B : q_bd m) (s : q_smc c W m) (a : q_si0 W m) (b : q_si1 W m τ) (k : q_si2 m N) (dd : q_dd m) (hcc : c ≤ 600) {r : Except String (Option Value)} (hp : (q_l2 h W O (¬ (nI 0 ≤ u0 ∧ u0 ≤ nI W.t)) (W.c = 40) (fun v h' => v = some (.int W.nx) ∧ ∃ Y r, q_eqv W Y ∧ q_ok0 Y ∧ q_sd (W.addS u0.toNatClampNeg) W.c r ∧ q_mu h h' ((W.addS u0.toNatClampNeg).sσ (q_mv W.σ W.c r)) (O.kept Y) 200)) r h1) : (q_l2 h W O (¬ (nI 0 ≤ u0 ∧ u0 ≤ nI m.t)) (m.c = 40) (q_vm (c + 1) h O m m.nx (m.adS u0.toNatClampNeg))) r h1 := by
  have et := a.1
  have ec := a.2.1
  have enx := a.2.2.1
  have en := a.2.2.2.1
  have etd := a.2.2.2.2.1
  have ebd := a.2.2.2.2.2.1
  have ewt := a.2.2.2.2.2.2.1
  have epe := a.2.2.2.2.2.2.2.1
  have epf := a.2.2.2.2.2.2.2.2.1
  have epc := a.2.2.2.2.2.2.2.2.2.1
  have etg := a.2.2.2.2.2.2.2.2.2.2
  have v := k.2.2.2.2.2.2.2
  have ht := k.2.2.2.2.2.2.1
  have hc := k.2.1
  have hn10 := C.1.1.n10
  have o := C.1.2.1.2
  have hpe1 := B.2.2.2.1
  have hpf9 := B.2.2.2.2.1
  have hp28 := B.2.2.2.2.2.1
  have hbn := B.2.1
  refine j_2 (by rw [et]) (fun n1 => (by rw [ec])) (fun n1 n2 x0 h2 hp => ?_) hp
  obtain ⟨j, j1, j2, rfl⟩ := q_rng n1 (by omega) (by omega)
  obtain ⟨e, Y, r, y1, y2, sd, mu⟩ := hp; cases e
  rw [nI_clamp (by omega)] at sd mu ⊢
  have S := s.addS o (d := j) (r := r) (by omega) (by omega) sd (by omega)
  refine ⟨congrArg (fun z => some (Value.int z)) (enx), mu.2.1, _, _, q_mu.cl C mu (Or.inr (Nat.le_refl _)) (fun y hy hy2 => ?_), S, ⟨_, (s.le (Nat.le_succ c)).eqv y1 hn10, rfl⟩⟩
  rw [S.D hy2, s.D hy2]; exact q_D_adS k.1 hy2
theorem j_addPart {h h1 : q_Hp} {W m : q_W} {O : q_O} {c N : Nat} {τ : Nat → Nat} {u0 u1 u2 : Int32} (C : q_clX h W O) (B : q_bd m) (s : q_smc c W m) (a : q_si0 W m) (b : q_si1 W m τ) (k : q_si2 m N) (dd : q_dd m) (hcc : c ≤ 600) {r : Except String (Option Value)} (hp : (q_l3 h W O (W.no u0) (¬ (nI 1 ≤ u1 ∧ u1 ≤ nI 120) ∨ ¬ (nI 0 ≤ u2 ∧ u2 ≤ nI 500)) (W.pn (W.σ (W.at_ u0)) = 8 ∨ nI 240 < W.len (W.σ (W.at_ u0)) + u1) (fun v h' => v = some (.int (nI (W.pn (W.σ (W.at_ u0)) + 1))) ∧ ∃ Y, q_eqv W Y ∧ q_ok0 Y ∧ q_mu h h' (W.addP (W.σ (W.at_ u0)) u1 u2) (O.kept Y) (W.dy (W.σ (W.at_ u0))))) r h1) : (q_l3 h W O (m.mno u0) (¬ (nI 1 ≤ u1 ∧ u1 ≤ nI 120) ∨ ¬ (nI 0 ≤ u2 ∧ u2 ≤ nI 500)) (m.pn (m.mat u0) = 8 ∨ nI 240 < m.len (m.mat u0) + u1) (q_vm (c + 1) h O m (nI (m.pn (m.mat u0) + 1)) (m.addP (m.mat u0) u1 u2))) r h1 := by
  have et := a.1
  have ec := a.2.1
  have enx := a.2.2.1
  have en := a.2.2.2.1
  have etd := a.2.2.2.2.1
  have ebd := a.2.2.2.2.2.1
  have ewt := a.2.2.2.2.2.2.1
  have epe := a.2.2.2.2.2.2.2.1
  have epf := a.2.2.2.2.2.2.2.2.1
  have epc := a.2.2.2.2.2.2.2.2.2.1
  have etg := a.2.2.2.2.2.2.2.2.2.2
  have v := k.2.2.2.2.2.2.2
  have ht := k.2.2.2.2.2.2.1
  have hc := k.2.1
  have hn10 := C.1.1.n10
  have o := C.1.2.1.2
  have hpe1 := B.2.2.2.1
  have hpf9 := B.2.2.2.2.1
  have hp28 := B.2.2.2.2.2.1
  have hbn := B.2.1
  refine j_3 (q_no_eq a b k u0) (fun n1 => Iff.rfl) (fun n1 n2 => (by
      obtain ⟨g1, g2⟩ := q_at_eq a b k (fun h => n1 ((q_no_eq a b k u0).mp h))
      rw [← g2, (b.2.1 _ g1).2.2.1, q_len_eq (b.2.1 _ g1)])) (fun n1 n2 n3 x0 h2 hp => ?_) hp
  obtain ⟨g1, g2⟩ := q_at_eq a b k (fun h => n1 ((q_no_eq a b k u0).mp h))
  have n21 := fun e => n2 (Or.inl e)
  have n22 := fun e => n2 (Or.inr e)
  obtain ⟨j, j1, j2, rfl⟩ := q_rng n21 (by omega) (by omega)
  obtain ⟨x, x1, x2, rfl⟩ := q_rng n22 (by omega) (by omega)
  obtain ⟨e, Y, y1, y2, mu⟩ := hp; cases e
  rw [← g2] at n3 ⊢
  have gb := b.1.1 _ g1
  have hok := (v.2.2.2.1 (τ (W.at_ u0)) (by omega)).1
  have hm0 : m.ml (τ (W.at_ u0)) ≤ 240 := hok.2
  have hml : m.ml (τ (W.at_ u0)) + j ≤ 240 := by
    have h9 := Int32.not_lt.mp fun e => n3 (Or.inr e)
    rw [q_W.len_ml hok, nI_add, nI_leI (by omega) (by omega)] at h9
    exact h9
  have S := (s.le (Nat.le_succ c)).addP o g1 b j1 j2 hml x2
  refine ⟨congrArg (fun z => some (Value.int z)) (by rw [(b.2.1 _ g1).2.2.1]), mu.2.1, _, _, q_mu.cl C mu (Or.inr (Nat.le_refl _)) (fun y hy hy2 => ?_), S, ⟨_, (s.le (Nat.le_succ c)).eqv y1 hn10, rfl⟩⟩
  rw [S.D hy2, s.D hy2]; rw [(b.2.1 _ g1).2.1] at hy; exact q_D_addP k.1 hy2 hy
theorem j_clearParts {h h1 : q_Hp} {W m : q_W} {O : q_O} {c N : Nat} {τ : Nat → Nat} {u0 : Int32} (C : q_clX h W O) (B : q_bd m) (s : q_smc c W m) (a : q_si0 W m) (b : q_si1 W m τ) (k : q_si2 m N) (dd : q_dd m) (hcc : c ≤ 600) {r : Except String (Option Value)} (hp : (q_l1 h W O (W.no u0) (fun v h' => v = some (.int (nI (W.pn (W.σ (W.at_ u0))))) ∧ ∃ Y, q_eqv W Y ∧ q_ok0 Y ∧ q_mu h h' (W.clrP (W.σ (W.at_ u0))) (O.kept Y) (W.dy (W.σ (W.at_ u0))))) r h1) : (q_l1 h W O (m.mno u0) (q_vm (c + 1) h O m (nI (m.pn (m.mat u0))) (m.clrP (m.mat u0)))) r h1 := by
  have et := a.1
  have ec := a.2.1
  have enx := a.2.2.1
  have en := a.2.2.2.1
  have etd := a.2.2.2.2.1
  have ebd := a.2.2.2.2.2.1
  have ewt := a.2.2.2.2.2.2.1
  have epe := a.2.2.2.2.2.2.2.1
  have epf := a.2.2.2.2.2.2.2.2.1
  have epc := a.2.2.2.2.2.2.2.2.2.1
  have etg := a.2.2.2.2.2.2.2.2.2.2
  have v := k.2.2.2.2.2.2.2
  have ht := k.2.2.2.2.2.2.1
  have hc := k.2.1
  have hn10 := C.1.1.n10
  have o := C.1.2.1.2
  have hpe1 := B.2.2.2.1
  have hpf9 := B.2.2.2.2.1
  have hp28 := B.2.2.2.2.2.1
  have hbn := B.2.1
  refine j_1 (q_no_eq a b k u0) (fun n1 x0 h2 hp => ?_) hp
  obtain ⟨g1, g2⟩ := q_at_eq a b k (fun h => n1 ((q_no_eq a b k u0).mp h))
  obtain ⟨e, Y, y1, y2, mu⟩ := hp; cases e
  rw [← g2]
  have S := (s.le (Nat.le_succ c)).clrP o g1 b
  refine ⟨congrArg (fun z => some (Value.int z)) (by rw [(b.2.1 _ g1).2.2.1]), mu.2.1, _, _, q_mu.cl C mu (Or.inr (Nat.le_refl _)) (fun y hy hy2 => ?_), S, ⟨_, (s.le (Nat.le_succ c)).eqv y1 hn10, rfl⟩⟩
  rw [S.D hy2, s.D hy2]; rw [(b.2.1 _ g1).2.1] at hy; exact q_D_clrP k.1 hy2 hy
theorem j_moveSession {h h1 : q_Hp} {W m : q_W} {O : q_O} {c N : Nat} {τ : Nat → Nat} {u0 u1 : Int32} (C : q_clX h W O) (B : q_bd m) (s : q_smc c W m) (a : q_si0 W m) (b : q_si1 W m τ) (k : q_si2 m N) (dd : q_dd m) (hcc : c ≤ 600) {r : Except String (Option Value)} (hp : (q_l2 h W O (W.no u0) (¬ (nI 0 ≤ u1 ∧ u1 ≤ nI W.t)) (fun v h' => v = some (.int (nI (W.dy (W.σ (W.at_ u0))))) ∧ ∃ Y r, q_eqv W Y ∧ q_ok0 Y ∧ q_sd (W.movS (W.σ (W.at_ u0)) u1.toNatClampNeg) (W.at_ u0) r ∧ q_mu h h' ((W.movS (W.σ (W.at_ u0)) u1.toNatClampNeg).sσ (q_mv W.σ (W.at_ u0) r)) (O.kept Y) (min (W.dy (W.σ (W.at_ u0))) u1.toNatClampNeg))) r h1) : (q_l2 h W O (m.mno u0) (¬ (nI 0 ≤ u1 ∧ u1 ≤ nI m.t)) (q_vm (c + 1) h O m (nI (m.dy (m.mat u0))) (m.movS (m.mat u0) u1.toNatClampNeg))) r h1 := by
  have et := a.1
  have ec := a.2.1
  have enx := a.2.2.1
  have en := a.2.2.2.1
  have etd := a.2.2.2.2.1
  have ebd := a.2.2.2.2.2.1
  have ewt := a.2.2.2.2.2.2.1
  have epe := a.2.2.2.2.2.2.2.1
  have epf := a.2.2.2.2.2.2.2.2.1
  have epc := a.2.2.2.2.2.2.2.2.2.1
  have etg := a.2.2.2.2.2.2.2.2.2.2
  have v := k.2.2.2.2.2.2.2
  have ht := k.2.2.2.2.2.2.1
  have hc := k.2.1
  have hn10 := C.1.1.n10
  have o := C.1.2.1.2
  have hpe1 := B.2.2.2.1
  have hpf9 := B.2.2.2.2.1
  have hp28 := B.2.2.2.2.2.1
  have hbn := B.2.1
  refine j_2 (q_no_eq a b k u0) (fun n1 => (by rw [et])) (fun n1 n2 x0 h2 hp => ?_) hp
  obtain ⟨g1, g2⟩ := q_at_eq a b k (fun h => n1 ((q_no_eq a b k u0).mp h))
  obtain ⟨j, j1, j2, rfl⟩ := q_rng n2 (by omega) (by omega)
  obtain ⟨e, Y, r, y1, y2, sd, mu⟩ := hp; cases e
  rw [nI_clamp (by omega)] at sd mu ⊢
  rw [← g2]
  have S := (s.le (Nat.le_succ c)).movS o g1 b (d := j) (by omega) sd
  refine ⟨congrArg (fun z => some (Value.int z)) (by rw [(b.2.1 _ g1).2.1]), mu.2.1, _, _, q_mu.cl C mu (Or.inr (Nat.le_refl _)) (fun y hy hy2 => ?_), S, ⟨_, (s.le (Nat.le_succ c)).eqv y1 hn10, rfl⟩⟩
  rw [S.D hy2, s.D hy2]; rw [(b.2.1 _ g1).2.1] at hy; exact q_D_movS k.1 hy2 (by omega) (by omega)
theorem j_removeSession {h h1 : q_Hp} {W m : q_W} {O : q_O} {c N : Nat} {τ : Nat → Nat} {u0 : Int32} (C : q_clX h W O) (B : q_bd m) (s : q_smc c W m) (a : q_si0 W m) (b : q_si1 W m τ) (k : q_si2 m N) (dd : q_dd m) (hcc : c ≤ 600) {r : Except String (Option Value)} (hp : (q_l1 h W O (W.no u0) (fun v h' => v = some (.int (nI (W.c - 1))) ∧ ∃ Y, q_eqv W Y ∧ q_ok0 Y ∧ q_mu h h' ((W.sσ (q_mv W.σ (W.at_ u0) (W.c - 1))).sc (W.c - 1)) (O.kept Y) (W.dy (W.σ (W.at_ u0))))) r h1) : (q_l1 h W O (m.mno u0) (q_vm (c + 1) h O m (nI (m.c - 1)) (m.rmS (m.mat u0)))) r h1 := by
  have et := a.1
  have ec := a.2.1
  have enx := a.2.2.1
  have en := a.2.2.2.1
  have etd := a.2.2.2.2.1
  have ebd := a.2.2.2.2.2.1
  have ewt := a.2.2.2.2.2.2.1
  have epe := a.2.2.2.2.2.2.2.1
  have epf := a.2.2.2.2.2.2.2.2.1
  have epc := a.2.2.2.2.2.2.2.2.2.1
  have etg := a.2.2.2.2.2.2.2.2.2.2
  have v := k.2.2.2.2.2.2.2
  have ht := k.2.2.2.2.2.2.1
  have hc := k.2.1
  have hn10 := C.1.1.n10
  have o := C.1.2.1.2
  have hpe1 := B.2.2.2.1
  have hpf9 := B.2.2.2.2.1
  have hp28 := B.2.2.2.2.2.1
  have hbn := B.2.1
  refine j_1 (q_no_eq a b k u0) (fun n1 x0 h2 hp => ?_) hp
  obtain ⟨g1, g2⟩ := q_at_eq a b k (fun h => n1 ((q_no_eq a b k u0).mp h))
  obtain ⟨e, Y, y1, y2, mu⟩ := hp; cases e
  rw [← g2]
  have S := (s.le (Nat.le_succ c)).rmS g1 b
  refine ⟨congrArg (fun z => some (Value.int z)) (by rw [ec]), mu.2.1, _, _, q_mu.cl C mu (Or.inr (Nat.le_refl _)) (fun y hy hy2 => ?_), S, ⟨_, (s.le (Nat.le_succ c)).eqv y1 hn10, rfl⟩⟩
  rw [S.D hy2, s.D hy2]; rw [(b.2.1 _ g1).2.1] at hy; exact q_D_rmS k.1 hy2 (b.1.1 _ g1) hy
theorem j_addTarget {h h1 : q_Hp} {W m : q_W} {O : q_O} {c N : Nat} {τ : Nat → Nat} {u0 : Int32} (C : q_clX h W O) (B : q_bd m) (s : q_smc c W m) (a : q_si0 W m) (b : q_si1 W m τ) (k : q_si2 m N) (dd : q_dd m) (hcc : c ≤ 600) {r : Except String (Option Value)} (hp : (q_l2 h W O (¬ (nI 0 ≤ u0 ∧ u0 ≤ nI 20000)) (W.pe = 0 ∨ ¬ W.pf = W.t ∨ W.pc = 28) (fun v h' => v = some (.int (nI (W.pc + 1))) ∧ ∃ Y, q_eqv W Y ∧ q_ok0 Y ∧ q_mu h h' (W.sP W.pe W.pf (W.pc + 1) (va_up W.tg W.pc u0)) (O.kept Y) 200)) r h1) : (q_l2 h W O (¬ (nI 0 ≤ u0 ∧ u0 ≤ nI 20000)) (m.pe = 0 ∨ ¬ m.pf = m.t ∨ m.pc = 28) (q_vm (c + 1) h O m (nI (m.pc + 1)) (m.sP m.pe m.pf (m.pc + 1) (va_up m.tg m.pc u0)))) r h1 := by
  have et := a.1
  have ec := a.2.1
  have enx := a.2.2.1
  have en := a.2.2.2.1
  have etd := a.2.2.2.2.1
  have ebd := a.2.2.2.2.2.1
  have ewt := a.2.2.2.2.2.2.1
  have epe := a.2.2.2.2.2.2.2.1
  have epf := a.2.2.2.2.2.2.2.2.1
  have epc := a.2.2.2.2.2.2.2.2.2.1
  have etg := a.2.2.2.2.2.2.2.2.2.2
  have v := k.2.2.2.2.2.2.2
  have ht := k.2.2.2.2.2.2.1
  have hc := k.2.1
  have hn10 := C.1.1.n10
  have o := C.1.2.1.2
  have hpe1 := B.2.2.2.1
  have hpf9 := B.2.2.2.2.1
  have hp28 := B.2.2.2.2.2.1
  have hbn := B.2.1
  refine j_2 Iff.rfl (fun n1 => (by rw [epe, epf, et, epc])) (fun n1 n2 x0 h2 hp => ?_) hp
  obtain ⟨j, j1, j2, rfl⟩ := q_rng n1 (by omega) (by omega)
  obtain ⟨e, Y, y1, y2, mu⟩ := hp; cases e
  exact ⟨congrArg (fun z => some (Value.int z)) (by rw [epc]), mu.2.1, _, _, q_mu.cl C mu (Or.inr (Nat.le_refl _)) (fun _ _ hy2 => by rw [q_W.D_sum _ hy2, q_W.D_sum _ hy2]; rfl), (s.le (Nat.le_succ c)).targ j2 (fun e => n2 (Or.inl e)), ⟨_, (s.le (Nat.le_succ c)).eqv y1 hn10, rfl⟩⟩
theorem j_today {h h1 : q_Hp} {W m : q_W} {O : q_O} {c N : Nat} {τ : Nat → Nat} (C : q_clX h W O) (B : q_bd m) (s : q_smc c W m) (a : q_si0 W m) (b : q_si1 W m τ) (k : q_si2 m N) (dd : q_dd m) (hcc : c ≤ 600) {v0 : Option Value} (hp : (fun v h' => v = some (.int (nI W.t)) ∧ q_rd h h' W O) v0 h1) : (q_vr h W O (nI m.t)) v0 h1 := by
  have et := a.1
  have ec := a.2.1
  have enx := a.2.2.1
  have en := a.2.2.2.1
  have etd := a.2.2.2.2.1
  have ebd := a.2.2.2.2.2.1
  have ewt := a.2.2.2.2.2.2.1
  have epe := a.2.2.2.2.2.2.2.1
  have epf := a.2.2.2.2.2.2.2.2.1
  have epc := a.2.2.2.2.2.2.2.2.2.1
  have etg := a.2.2.2.2.2.2.2.2.2.2
  have v := k.2.2.2.2.2.2.2
  have ht := k.2.2.2.2.2.2.1
  have hc := k.2.1
  have hn10 := C.1.1.n10
  have o := C.1.2.1.2
  have hpe1 := B.2.2.2.1
  have hpf9 := B.2.2.2.2.1
  have hp28 := B.2.2.2.2.2.1
  have hbn := B.2.1
  obtain ⟨rfl, rd⟩ := hp
  refine ⟨congrArg (fun z => some (Value.int z)) ?_, rd⟩
  rw [et]
theorem j_testCount {h h1 : q_Hp} {W m : q_W} {O : q_O} {c N : Nat} {τ : Nat → Nat} (C : q_clX h W O) (B : q_bd m) (s : q_smc c W m) (a : q_si0 W m) (b : q_si1 W m τ) (k : q_si2 m N) (dd : q_dd m) (hcc : c ≤ 600) {v0 : Option Value} (hp : (fun v h' => v = some (.int (nI W.n)) ∧ q_rd h h' W O) v0 h1) : (q_vr h W O (nI m.n)) v0 h1 := by
  have et := a.1
  have ec := a.2.1
  have enx := a.2.2.1
  have en := a.2.2.2.1
  have etd := a.2.2.2.2.1
  have ebd := a.2.2.2.2.2.1
  have ewt := a.2.2.2.2.2.2.1
  have epe := a.2.2.2.2.2.2.2.1
  have epf := a.2.2.2.2.2.2.2.2.1
  have epc := a.2.2.2.2.2.2.2.2.2.1
  have etg := a.2.2.2.2.2.2.2.2.2.2
  have v := k.2.2.2.2.2.2.2
  have ht := k.2.2.2.2.2.2.1
  have hc := k.2.1
  have hn10 := C.1.1.n10
  have o := C.1.2.1.2
  have hpe1 := B.2.2.2.1
  have hpf9 := B.2.2.2.2.1
  have hp28 := B.2.2.2.2.2.1
  have hbn := B.2.1
  obtain ⟨rfl, rd⟩ := hp
  refine ⟨congrArg (fun z => some (Value.int z)) ?_, rd⟩
  rw [en]
theorem j_sessionCount {h h1 : q_Hp} {W m : q_W} {O : q_O} {c N : Nat} {τ : Nat → Nat} (C : q_clX h W O) (B : q_bd m) (s : q_smc c W m) (a : q_si0 W m) (b : q_si1 W m τ) (k : q_si2 m N) (dd : q_dd m) (hcc : c ≤ 600) {v0 : Option Value} (hp : (fun v h' => v = some (.int (nI W.c)) ∧ q_rd h h' W O) v0 h1) : (q_vr h W O (nI m.c)) v0 h1 := by
  have et := a.1
  have ec := a.2.1
  have enx := a.2.2.1
  have en := a.2.2.2.1
  have etd := a.2.2.2.2.1
  have ebd := a.2.2.2.2.2.1
  have ewt := a.2.2.2.2.2.2.1
  have epe := a.2.2.2.2.2.2.2.1
  have epf := a.2.2.2.2.2.2.2.2.1
  have epc := a.2.2.2.2.2.2.2.2.2.1
  have etg := a.2.2.2.2.2.2.2.2.2.2
  have v := k.2.2.2.2.2.2.2
  have ht := k.2.2.2.2.2.2.1
  have hc := k.2.1
  have hn10 := C.1.1.n10
  have o := C.1.2.1.2
  have hpe1 := B.2.2.2.1
  have hpf9 := B.2.2.2.2.1
  have hp28 := B.2.2.2.2.2.1
  have hbn := B.2.1
  obtain ⟨rfl, rd⟩ := hp
  refine ⟨congrArg (fun z => some (Value.int z)) ?_, rd⟩
  rw [ec]
theorem j_missedDays {h h1 : q_Hp} {W m : q_W} {O : q_O} {c N : Nat} {τ : Nat → Nat} (C : q_clX h W O) (B : q_bd m) (s : q_smc c W m) (a : q_si0 W m) (b : q_si1 W m τ) (k : q_si2 m N) (dd : q_dd m) (hcc : c ≤ 600) {v0 : Option Value} (hp : (fun v h' => v = some (.int (nI W.mis)) ∧ q_rd h h' W O) v0 h1) : (q_vr h W O (nI m.mis)) v0 h1 := by
  have et := a.1
  have ec := a.2.1
  have enx := a.2.2.1
  have en := a.2.2.2.1
  have etd := a.2.2.2.2.1
  have ebd := a.2.2.2.2.2.1
  have ewt := a.2.2.2.2.2.2.1
  have epe := a.2.2.2.2.2.2.2.1
  have epf := a.2.2.2.2.2.2.2.2.1
  have epc := a.2.2.2.2.2.2.2.2.2.1
  have etg := a.2.2.2.2.2.2.2.2.2.2
  have v := k.2.2.2.2.2.2.2
  have ht := k.2.2.2.2.2.2.1
  have hc := k.2.1
  have hn10 := C.1.1.n10
  have o := C.1.2.1.2
  have hpe1 := B.2.2.2.1
  have hpf9 := B.2.2.2.2.1
  have hp28 := B.2.2.2.2.2.1
  have hbn := B.2.1
  obtain ⟨rfl, rd⟩ := hp
  refine ⟨congrArg (fun z => some (Value.int z)) ?_, rd⟩
  rw [(q_due_eq a b k hpf9).2.1]
theorem j_droppedEntries {h h1 : q_Hp} {W m : q_W} {O : q_O} {c N : Nat} {τ : Nat → Nat} (C : q_clX h W O) (B : q_bd m) (s : q_smc c W m) (a : q_si0 W m) (b : q_si1 W m τ) (k : q_si2 m N) (dd : q_dd m) (hcc : c ≤ 600) {v0 : Option Value} (hp : (fun v h' => v = some (.int (nI W.drp)) ∧ q_rd h h' W O) v0 h1) : (q_vr h W O (nI m.drp)) v0 h1 := by
  have et := a.1
  have ec := a.2.1
  have enx := a.2.2.1
  have en := a.2.2.2.1
  have etd := a.2.2.2.2.1
  have ebd := a.2.2.2.2.2.1
  have ewt := a.2.2.2.2.2.2.1
  have epe := a.2.2.2.2.2.2.2.1
  have epf := a.2.2.2.2.2.2.2.2.1
  have epc := a.2.2.2.2.2.2.2.2.2.1
  have etg := a.2.2.2.2.2.2.2.2.2.2
  have v := k.2.2.2.2.2.2.2
  have ht := k.2.2.2.2.2.2.1
  have hc := k.2.1
  have hn10 := C.1.1.n10
  have o := C.1.2.1.2
  have hpe1 := B.2.2.2.1
  have hpf9 := B.2.2.2.2.1
  have hp28 := B.2.2.2.2.2.1
  have hbn := B.2.1
  obtain ⟨rfl, rd⟩ := hp
  refine ⟨congrArg (fun z => some (Value.int z)) ?_, rd⟩
  rw [(q_due_eq a b k hpf9).2.2]
theorem j_isPlanOver {h h1 : q_Hp} {W m : q_W} {O : q_O} {c N : Nat} {τ : Nat → Nat} (C : q_clX h W O) (B : q_bd m) (s : q_smc c W m) (a : q_si0 W m) (b : q_si1 W m τ) (k : q_si2 m N) (dd : q_dd m) (hcc : c ≤ 600) {v0 : Option Value} (hp : (fun v h' => v = some (.int (q_bl (decide (W.pe = 1 ∧ W.pc ≤ W.due)))) ∧ q_rd h h' W O) v0 h1) : (q_vr h W O (q_bl (decide (¬ (m.pe = 1 ∧ m.due < m.pc) ∧ m.pe = 1)))) v0 h1 := by
  have et := a.1
  have ec := a.2.1
  have enx := a.2.2.1
  have en := a.2.2.2.1
  have etd := a.2.2.2.2.1
  have ebd := a.2.2.2.2.2.1
  have ewt := a.2.2.2.2.2.2.1
  have epe := a.2.2.2.2.2.2.2.1
  have epf := a.2.2.2.2.2.2.2.2.1
  have epc := a.2.2.2.2.2.2.2.2.2.1
  have etg := a.2.2.2.2.2.2.2.2.2.2
  have v := k.2.2.2.2.2.2.2
  have ht := k.2.2.2.2.2.2.1
  have hc := k.2.1
  have hn10 := C.1.1.n10
  have o := C.1.2.1.2
  have hpe1 := B.2.2.2.1
  have hpf9 := B.2.2.2.2.1
  have hp28 := B.2.2.2.2.2.1
  have hbn := B.2.1
  obtain ⟨rfl, rd⟩ := hp
  refine ⟨congrArg (fun z => some (Value.int z)) ?_, rd⟩
  rw [(q_due_eq a b k hpf9).1, epe, epc]
  exact congrArg q_bl (decide_eq_decide.mpr ⟨fun e => ⟨fun e2 => by omega, e.1⟩, fun e => ⟨e.2, Nat.le_of_not_lt fun e2 => e.1 ⟨e.2, e2⟩⟩⟩)
theorem j_startPlan {h h1 : q_Hp} {W m : q_W} {O : q_O} {c N : Nat} {τ : Nat → Nat} (C : q_clX h W O) (B : q_bd m) (s : q_smc c W m) (a : q_si0 W m) (b : q_si1 W m τ) (k : q_si2 m N) (dd : q_dd m) (hcc : c ≤ 600) {v0 : Option Value} (hp : (fun v h' => v = some (.int (nI W.pc)) ∧ ∃ Y, q_eqv W Y ∧ q_ok0 Y ∧ q_mu h h' (W.sP 1 W.t 0 W.tg) (O.kept Y) 200) v0 h1) : (q_vm (c + 1) h O m (if m.pe = 1 then nI m.pc else nI 0) (m.sP 1 m.t 0 m.tg)) v0 h1 := by
  have et := a.1
  have ec := a.2.1
  have enx := a.2.2.1
  have en := a.2.2.2.1
  have etd := a.2.2.2.2.1
  have ebd := a.2.2.2.2.2.1
  have ewt := a.2.2.2.2.2.2.1
  have epe := a.2.2.2.2.2.2.2.1
  have epf := a.2.2.2.2.2.2.2.2.1
  have epc := a.2.2.2.2.2.2.2.2.2.1
  have etg := a.2.2.2.2.2.2.2.2.2.2
  have v := k.2.2.2.2.2.2.2
  have ht := k.2.2.2.2.2.2.1
  have hc := k.2.1
  have hn10 := C.1.1.n10
  have o := C.1.2.1.2
  have hpe1 := B.2.2.2.1
  have hpf9 := B.2.2.2.2.1
  have hp28 := B.2.2.2.2.2.1
  have hbn := B.2.1
  obtain ⟨rfl, Y, y1, y2, mu⟩ := hp
  refine ⟨congrArg (fun z => some (Value.int z)) ?_, mu.2.1, _, _, q_mu.cl C mu (Or.inr (Nat.le_refl _)) (fun _ _ hy2 => by rw [q_W.D_sum _ hy2, q_W.D_sum _ hy2]; rfl), (s.le (Nat.le_succ c)).plan, ⟨_, (s.le (Nat.le_succ c)).eqv y1 hn10, rfl⟩⟩
  rw [epc]
  split
  · rfl
  · rw [v.2.2.2.2.2.2 (by omega)]
