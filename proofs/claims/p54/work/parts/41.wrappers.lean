/-! THE WRAPPERS -/
theorem q_ldL15 : Cond.classLink RL 15 "java/lang/IllegalArgumentException" ∈ q_W0 := by decide +kernel
theorem q_ldL18 : Cond.classLink RL 18 "java/lang/IllegalStateException" ∈ q_W0 := by decide +kernel
theorem q_ldL28 : Cond.classLink RL 28 "java/util/NoSuchElementException" ∈ q_W0 := by decide +kernel
theorem q_ldL68 : Cond.classLink RL 68 "java/lang/IndexOutOfBoundsException" ∈ q_W0 := by decide +kernel
theorem q_ldL90 : Cond.classLink RL 90 "java/lang/ArithmeticException" ∈ q_W0 := by decide +kernel
theorem kfcL_89 : Cond.constantFloat RL 89 (3378231824) ∈ q_W0 := by decide +kernel
theorem kfcL_92 : Cond.constantFloat RL 92 (3378231840) ∈ q_W0 := by decide +kernel
section QLF
variable {Φ : q_Fx} {xb : Bool} {cc : ByteArray} {own : String} {M : q_M} {Z : Program → Env → State → MethodId → Array Value → List Frame → State → Prop} {pc : Nat} {L L' : List (Option Value)} {S : List Value} {h : q_Hp} {kc ks : Nat}
theorem q_ldcf {index : Nat} {v : UInt32} (d : decode cc pc = .ok (.ldc index, 2)) (hw : Cond.constantFloat own index v ∈ q_W0) (K : q_G Φ xb cc own M Z (pc + 2) L (.float v :: S) h kc ks) : q_G Φ xb cc own M Z pc L S h kc ks := by
  intro p e s m args below meth c H locs cells slots ls ok rel hl hc hs
  exact lv_ldcf ok.1 ok.2.1 ok.2.2.2.1 (ok.2.2.2.2.1 _ hw) d (K p e s m args below meth c H locs cells slots ls ok rel hl hc hs)
end QLF
/-- the public methods' ends, as the wrappers give them on: a code where one threw -/
def q_l1 (h : q_Hp) (W : q_W) (O : q_O) (c : Prop) (P : Option Value → q_Hp → Prop) : Except String (Option Value) → q_Hp → Prop := fun r h' => ∃ x : Int32, r = .ok (some (.int x)) ∧ ((c ∧ x = -900001 ∧ q_rd h h' W O) ∨ (¬ c ∧ P (some (.int x)) h'))
def q_l2 (h : q_Hp) (W : q_W) (O : q_O) (c1 c2 : Prop) (P : Option Value → q_Hp → Prop) : Except String (Option Value) → q_Hp → Prop := fun r h' => ∃ x : Int32, r = .ok (some (.int x)) ∧ ((c1 ∧ x = -900001 ∧ q_rd h h' W O) ∨ (¬ c1 ∧ c2 ∧ x = -900002 ∧ q_rd h h' W O) ∨ (¬ c1 ∧ ¬ c2 ∧ P (some (.int x)) h'))
def q_l3 (h : q_Hp) (W : q_W) (O : q_O) (c1 c2 c3 : Prop) (P : Option Value → q_Hp → Prop) : Except String (Option Value) → q_Hp → Prop := fun r h' => ∃ x : Int32, r = .ok (some (.int x)) ∧ ((c1 ∧ x = -900001 ∧ q_rd h h' W O) ∨ (¬ c1 ∧ c2 ∧ x = -900002 ∧ q_rd h h' W O) ∨ (¬ c1 ∧ ¬ c2 ∧ c3 ∧ x = -900003 ∧ q_rd h h' W O) ∨ (¬ c1 ∧ ¬ c2 ∧ ¬ c3 ∧ P (some (.int x)) h'))
def q_l2f (h : q_Hp) (W : q_W) (O : q_O) (c1 c2 : Prop) (P : Option Value → q_Hp → Prop) : Except String (Option Value) → q_Hp → Prop := fun r h' => ∃ x : UInt32, r = .ok (some (.float x)) ∧ ((c1 ∧ x = 3378231824 ∧ q_rd h h' W O) ∨ (¬ c1 ∧ c2 ∧ x = 3378231840 ∧ q_rd h h' W O) ∨ (¬ c1 ∧ ¬ c2 ∧ P (some (.float x)) h'))
theorem g_L_pass {Φ : q_Fx} {h : q_Hp} (K : q_Lk Φ h.R h.n) {W : q_W} {O : q_O} (C : q_clX h W O) {x : Int32} : q_CtH Φ yL_pass cL_pass [(0, 5, 6, 15), (0, 5, 10, 18)] mL_pass [.ref 1, .int x] h (q_l2 h W O (¬ (nI 1 ≤ x ∧ x ≤ nI 30)) (nI 200 ≤ nI W.t + x) (fun v h' => v = some (.int (nI (W.t + x.toNatClampNeg))) ∧ ∃ Y, q_eqv W Y ∧ q_ok0 Y ∧ q_mu h h' (W.sA (W.t + x.toNatClampNeg)) (O.kept Y) 200)) := by
  refine q_enterH K.st rfl rfl rfl rfl (Nat.le_of_ble_eq_true rfl) (L := [_, _, none]) rfl ?_
  refine q_aload_n dL_pass_0 rfl ?_
  refine q_iload_n dL_pass_1 rfl ?_
  refine q_callV (kc := 0) (ks := 0) (g_X9_pass K C ) wX9_pass kL_9 iX9_pass eX9_pass rfl rfl (by decide) (K.le (by decide)) (by decide) rfl rfl (Nat.le_of_ble_eq_true rfl) dL_pass_2 (fun v' h' hq => ?_) (fun E' h' hq => ?_)
  · rcases hq with ⟨_, hq, _⟩ | ⟨_, _, hq, _⟩ | ⟨n1, n2, v, hq, hp⟩
    · exact nomatch hq
    · exact nomatch hq
    cases hq
    have hp0 := hp
    obtain ⟨rfl, hp1⟩ := hp
    refine q_iret dL_pass_5 rfl (Or.inl rfl) ?_
    exact ⟨_, rfl, (Or.inr (Or.inr ⟨n1, n2, hp0⟩))⟩
  · rcases hq with ⟨c1, hq, hp⟩ | ⟨n1, c2, hq, hp⟩ | ⟨_, _, _, hq, _⟩
    · cases hq
      refine q_catchN (name := "java/lang/IllegalArgumentException") (pre := []) (suf := [{ startPc := 0, endPc := 5, handlerPc := 10, catchType := 18 }]) (x := { startPc := 0, endPc := 5, handlerPc := 6, catchType := 15 }) (L' := [_, _, none]) rfl (fun z hz => by cases hz) (by decide) (by decide) q_ldL15 (by decide) dL_pass_6 rfl (by decide) rfl ?_
      refine q_ldc dL_pass_7 kcL_17 ?_
      refine q_iret dL_pass_9 rfl (Or.inl rfl) ?_
      exact ⟨_, rfl, (Or.inl ⟨c1, rfl, hp⟩)⟩
    · cases hq
      refine q_catchN (name := "java/lang/IllegalStateException") (pre := [{ startPc := 0, endPc := 5, handlerPc := 6, catchType := 15 }]) (suf := []) (x := { startPc := 0, endPc := 5, handlerPc := 10, catchType := 18 }) (L' := [_, _, none]) rfl (fun z hz => by
        rcases List.mem_cons.mp hz with rfl | hz
        · exact ⟨by decide, _, q_ldL15, by decide⟩
        cases hz) (by decide) (by decide) q_ldL18 (by decide) dL_pass_10 rfl (by decide) rfl ?_
      refine q_ldc dL_pass_11 kcL_20 ?_
      refine q_iret dL_pass_13 rfl (Or.inl rfl) ?_
      exact ⟨_, rfl, (Or.inr (Or.inl ⟨n1, c2, rfl, hp⟩))⟩
    · exact nomatch hq
theorem g_L_addTest {Φ : q_Fx} {h : q_Hp} (K : q_Lk Φ h.R h.n) {W : q_W} {O : q_O} (C : q_clX h W O) {d x : Int32} : q_CtH Φ yL_addTest cL_addTest [(0, 6, 7, 15), (0, 6, 11, 18)] mL_addTest [.ref 1, .int d, .int x] h (q_l2 h W O (¬ (nI 0 ≤ d ∧ d ≤ nI W.t) ∨ ¬ (nI 50 ≤ x ∧ x ≤ nI 400)) (W.n = 10 ∨ 0 ≤ q_ps (fun i => decide (W.d i = d)) W.n) (fun v h' => v = some (.int (nI (q_cn (fun i => decide ((W.sT (W.n + 1) (va_up W.d W.n d) (va_up W.v W.n x)).ld (W.σ i) ≠ W.ld (W.σ i))) W.c))) ∧ ∃ Y, q_eqv W Y ∧ q_ok0 Y ∧ q_mu h h' (W.sT (W.n + 1) (va_up W.d W.n d) (va_up W.v W.n x)) (O.kept Y) d.toNatClampNeg)) := by
  refine q_enterH K.st rfl rfl rfl rfl (Nat.le_of_ble_eq_true rfl) (L := [_, _, _, none]) rfl ?_
  refine q_aload_n dL_addTest_0 rfl ?_
  refine q_iload_n dL_addTest_1 rfl ?_
  refine q_iload_n dL_addTest_2 rfl ?_
  refine q_callV (kc := 0) (ks := 0) (g_X9_addTest K C ) wX9_addTest kL_21 iX9_addTest eX9_addTest rfl rfl (by decide) (K.le (by decide)) (by decide) rfl rfl (Nat.le_of_ble_eq_true rfl) dL_addTest_3 (fun v' h' hq => ?_) (fun E' h' hq => ?_)
  · rcases hq with ⟨_, hq, _⟩ | ⟨_, _, hq, _⟩ | ⟨n1, n2, v, hq, hp⟩
    · exact nomatch hq
    · exact nomatch hq
    cases hq
    have hp0 := hp
    obtain ⟨rfl, hp1⟩ := hp
    refine q_iret dL_addTest_6 rfl (Or.inl rfl) ?_
    exact ⟨_, rfl, (Or.inr (Or.inr ⟨n1, n2, hp0⟩))⟩
  · rcases hq with ⟨c1, hq, hp⟩ | ⟨n1, c2, hq, hp⟩ | ⟨_, _, _, hq, _⟩
    · cases hq
      refine q_catchN (name := "java/lang/IllegalArgumentException") (pre := []) (suf := [{ startPc := 0, endPc := 6, handlerPc := 11, catchType := 18 }]) (x := { startPc := 0, endPc := 6, handlerPc := 7, catchType := 15 }) (L' := [_, _, _, none]) rfl (fun z hz => by cases hz) (by decide) (by decide) q_ldL15 (by decide) dL_addTest_7 rfl (by decide) rfl ?_
      refine q_ldc dL_addTest_8 kcL_17 ?_
      refine q_iret dL_addTest_10 rfl (Or.inl rfl) ?_
      exact ⟨_, rfl, (Or.inl ⟨c1, rfl, hp⟩)⟩
    · cases hq
      refine q_catchN (name := "java/lang/IllegalStateException") (pre := [{ startPc := 0, endPc := 6, handlerPc := 7, catchType := 15 }]) (suf := []) (x := { startPc := 0, endPc := 6, handlerPc := 11, catchType := 18 }) (L' := [_, _, _, none]) rfl (fun z hz => by
        rcases List.mem_cons.mp hz with rfl | hz
        · exact ⟨by decide, _, q_ldL15, by decide⟩
        cases hz) (by decide) (by decide) q_ldL18 (by decide) dL_addTest_11 rfl (by decide) rfl ?_
      refine q_ldc dL_addTest_12 kcL_20 ?_
      refine q_iret dL_addTest_14 rfl (Or.inl rfl) ?_
      exact ⟨_, rfl, (Or.inr (Or.inl ⟨n1, c2, rfl, hp⟩))⟩
    · exact nomatch hq
theorem g_L_removeTest {Φ : q_Fx} {h : q_Hp} (K : q_Lk Φ h.R h.n) {W : q_W} {O : q_O} (C : q_clX h W O) (htd : q_td W) {x : Int32} : q_CtH Φ yL_removeTest cL_removeTest [(0, 5, 6, 28)] mL_removeTest [.ref 1, .int x] h (q_l1 h W O (q_ps (fun i => decide (W.d i = x)) W.n < 0) (fun v h' => v = some (.int (W.v (q_ps (fun i => decide (W.d i = x)) W.n).toNatClampNeg)) ∧ ∃ Y, q_eqv W Y ∧ q_ok0 Y ∧ q_mu h h' (W.sT (W.n - 1) (va_up W.d (q_ps (fun i => decide (W.d i = x)) W.n).toNatClampNeg (W.d (W.n - 1))) (va_up W.v (q_ps (fun i => decide (W.d i = x)) W.n).toNatClampNeg (W.v (W.n - 1)))) (O.kept Y) x.toNatClampNeg)) := by
  refine q_enterH K.st rfl rfl rfl rfl (Nat.le_of_ble_eq_true rfl) (L := [_, _, none]) rfl ?_
  refine q_aload_n dL_removeTest_0 rfl ?_
  refine q_iload_n dL_removeTest_1 rfl ?_
  refine q_callV (kc := 0) (ks := 0) (g_X9_removeTest K C htd) wX9_removeTest kL_25 iX9_removeTest eX9_removeTest rfl rfl (by decide) (K.le (by decide)) (by decide) rfl rfl (Nat.le_of_ble_eq_true rfl) dL_removeTest_2 (fun v' h' hq => ?_) (fun E' h' hq => ?_)
  · rcases hq with ⟨_, hq, _⟩ | ⟨n1, v, hq, hp⟩
    · exact nomatch hq
    cases hq
    have hp0 := hp
    obtain ⟨rfl, hp1⟩ := hp
    refine q_iret dL_removeTest_5 rfl (Or.inl rfl) ?_
    exact ⟨_, rfl, (Or.inr ⟨n1, hp0⟩)⟩
  · rcases hq with ⟨c1, hq, hp⟩ | ⟨_, _, hq, _⟩
    · cases hq
      refine q_catchN (name := "java/util/NoSuchElementException") (pre := []) (suf := []) (x := { startPc := 0, endPc := 5, handlerPc := 6, catchType := 28 }) (L' := [_, _, none]) rfl (fun z hz => by cases hz) (by decide) (by decide) q_ldL28 (by decide) dL_removeTest_6 rfl (by decide) rfl ?_
      refine q_ldc dL_removeTest_7 kcL_17 ?_
      refine q_iret dL_removeTest_9 rfl (Or.inl rfl) ?_
      exact ⟨_, rfl, (Or.inl ⟨c1, rfl, hp⟩)⟩
    · exact nomatch hq
theorem g_L_thresholdOn {Φ : q_Fx} {h : q_Hp} (K : q_Lk Φ h.R h.n) {W : q_W} {O : q_O} (C : q_clX h W O) {d : Int32} : q_CtH Φ yL_thresholdOn cL_thresholdOn [(0, 5, 6, 15)] mL_thresholdOn [.ref 1, .int d] h (q_l1 h W O (¬ (nI 0 ≤ d ∧ d ≤ nI 199)) (fun v h' => v = some (.int (W.th d)) ∧ q_rd h h' W O)) := by
  refine q_enterH K.st rfl rfl rfl rfl (Nat.le_of_ble_eq_true rfl) (L := [_, _, none]) rfl ?_
  refine q_aload_n dL_thresholdOn_0 rfl ?_
  refine q_iload_n dL_thresholdOn_1 rfl ?_
  refine q_callV (kc := 0) (ks := 0) (g_X9_thresholdOn K C ) wX9_thresholdOn kL_30 iX9_thresholdOn eX9_thresholdOn rfl rfl (by decide) (K.le (by decide)) (by decide) rfl rfl (Nat.le_of_ble_eq_true rfl) dL_thresholdOn_2 (fun v' h' hq => ?_) (fun E' h' hq => ?_)
  · rcases hq with ⟨_, hq, _⟩ | ⟨n1, v, hq, hp⟩
    · exact nomatch hq
    cases hq
    have hp0 := hp
    obtain ⟨rfl, hp1⟩ := hp
    refine q_iret dL_thresholdOn_5 rfl (Or.inl rfl) ?_
    exact ⟨_, rfl, (Or.inr ⟨n1, hp0⟩)⟩
  · rcases hq with ⟨c1, hq, hp⟩ | ⟨_, _, hq, _⟩
    · cases hq
      refine q_catchN (name := "java/lang/IllegalArgumentException") (pre := []) (suf := []) (x := { startPc := 0, endPc := 5, handlerPc := 6, catchType := 15 }) (L' := [_, _, none]) rfl (fun z hz => by cases hz) (by decide) (by decide) q_ldL15 (by decide) dL_thresholdOn_6 rfl (by decide) rfl ?_
      refine q_ldc dL_thresholdOn_7 kcL_17 ?_
      refine q_iret dL_thresholdOn_9 rfl (Or.inl rfl) ?_
      exact ⟨_, rfl, (Or.inl ⟨c1, rfl, hp⟩)⟩
    · exact nomatch hq
theorem g_L_setBound {Φ : q_Fx} {h : q_Hp} (K : q_Lk Φ h.R h.n) {W : q_W} {O : q_O} (C : q_clX h W O) {z x : Int32} : q_CtH Φ yL_setBound cL_setBound [(0, 6, 7, 15), (0, 6, 11, 18)] mL_setBound [.ref 1, .int z, .int x] h (q_l2 h W O (¬ (nI 2 ≤ z ∧ z ≤ nI 5) ∨ ¬ (nI 1 ≤ x ∧ x ≤ nI 300)) (¬ ((z.toNatClampNeg = 2 ∨ W.bd (z.toNatClampNeg - 1) < x) ∧ (z.toNatClampNeg = 5 ∨ x < W.bd (z.toNatClampNeg + 1)))) (fun v h' => v = some (.int (W.bd z.toNatClampNeg)) ∧ ∃ Y, q_eqv W Y ∧ q_ok0 Y ∧ q_mu h h' (W.sZ (va_up W.bd z.toNatClampNeg x) W.wt) (O.kept Y) 0)) := by
  refine q_enterH K.st rfl rfl rfl rfl (Nat.le_of_ble_eq_true rfl) (L := [_, _, _, none]) rfl ?_
  refine q_aload_n dL_setBound_0 rfl ?_
  refine q_iload_n dL_setBound_1 rfl ?_
  refine q_iload_n dL_setBound_2 rfl ?_
  refine q_callV (kc := 0) (ks := 0) (g_X9_setBound K C ) wX9_setBound kL_33 iX9_setBound eX9_setBound rfl rfl (by decide) (K.le (by decide)) (by decide) rfl rfl (Nat.le_of_ble_eq_true rfl) dL_setBound_3 (fun v' h' hq => ?_) (fun E' h' hq => ?_)
  · rcases hq with ⟨_, hq, _⟩ | ⟨_, _, hq, _⟩ | ⟨n1, n2, v, hq, hp⟩
    · exact nomatch hq
    · exact nomatch hq
    cases hq
    have hp0 := hp
    obtain ⟨rfl, hp1⟩ := hp
    refine q_iret dL_setBound_6 rfl (Or.inl rfl) ?_
    exact ⟨_, rfl, (Or.inr (Or.inr ⟨n1, n2, hp0⟩))⟩
  · rcases hq with ⟨c1, hq, hp⟩ | ⟨n1, c2, hq, hp⟩ | ⟨_, _, _, hq, _⟩
    · cases hq
      refine q_catchN (name := "java/lang/IllegalArgumentException") (pre := []) (suf := [{ startPc := 0, endPc := 6, handlerPc := 11, catchType := 18 }]) (x := { startPc := 0, endPc := 6, handlerPc := 7, catchType := 15 }) (L' := [_, _, _, none]) rfl (fun z hz => by cases hz) (by decide) (by decide) q_ldL15 (by decide) dL_setBound_7 rfl (by decide) rfl ?_
      refine q_ldc dL_setBound_8 kcL_17 ?_
      refine q_iret dL_setBound_10 rfl (Or.inl rfl) ?_
      exact ⟨_, rfl, (Or.inl ⟨c1, rfl, hp⟩)⟩
    · cases hq
      refine q_catchN (name := "java/lang/IllegalStateException") (pre := [{ startPc := 0, endPc := 6, handlerPc := 7, catchType := 15 }]) (suf := []) (x := { startPc := 0, endPc := 6, handlerPc := 11, catchType := 18 }) (L' := [_, _, _, none]) rfl (fun z hz => by
        rcases List.mem_cons.mp hz with rfl | hz
        · exact ⟨by decide, _, q_ldL15, by decide⟩
        cases hz) (by decide) (by decide) q_ldL18 (by decide) dL_setBound_11 rfl (by decide) rfl ?_
      refine q_ldc dL_setBound_12 kcL_20 ?_
      refine q_iret dL_setBound_14 rfl (Or.inl rfl) ?_
      exact ⟨_, rfl, (Or.inr (Or.inl ⟨n1, c2, rfl, hp⟩))⟩
    · exact nomatch hq
theorem g_L_boundOf {Φ : q_Fx} {h : q_Hp} (K : q_Lk Φ h.R h.n) {W : q_W} {O : q_O} (C : q_clX h W O) {z : Int32} : q_CtH Φ yL_boundOf cL_boundOf [(0, 5, 6, 15)] mL_boundOf [.ref 1, .int z] h (q_l1 h W O (¬ (nI 2 ≤ z ∧ z ≤ nI 5)) (fun v h' => v = some (.int (W.bd z.toNatClampNeg)) ∧ q_rd h h' W O)) := by
  refine q_enterH K.st rfl rfl rfl rfl (Nat.le_of_ble_eq_true rfl) (L := [_, _, none]) rfl ?_
  refine q_aload_n dL_boundOf_0 rfl ?_
  refine q_iload_n dL_boundOf_1 rfl ?_
  refine q_callV (kc := 0) (ks := 0) (g_X9_boundOf K C ) wX9_boundOf kL_36 iX9_boundOf eX9_boundOf rfl rfl (by decide) (K.le (by decide)) (by decide) rfl rfl (Nat.le_of_ble_eq_true rfl) dL_boundOf_2 (fun v' h' hq => ?_) (fun E' h' hq => ?_)
  · rcases hq with ⟨_, hq, _⟩ | ⟨n1, v, hq, hp⟩
    · exact nomatch hq
    cases hq
    have hp0 := hp
    obtain ⟨rfl, hp1⟩ := hp
    refine q_iret dL_boundOf_5 rfl (Or.inl rfl) ?_
    exact ⟨_, rfl, (Or.inr ⟨n1, hp0⟩)⟩
  · rcases hq with ⟨c1, hq, hp⟩ | ⟨_, _, hq, _⟩
    · cases hq
      refine q_catchN (name := "java/lang/IllegalArgumentException") (pre := []) (suf := []) (x := { startPc := 0, endPc := 5, handlerPc := 6, catchType := 15 }) (L' := [_, _, none]) rfl (fun z hz => by cases hz) (by decide) (by decide) q_ldL15 (by decide) dL_boundOf_6 rfl (by decide) rfl ?_
      refine q_ldc dL_boundOf_7 kcL_17 ?_
      refine q_iret dL_boundOf_9 rfl (Or.inl rfl) ?_
      exact ⟨_, rfl, (Or.inl ⟨c1, rfl, hp⟩)⟩
    · exact nomatch hq
theorem g_L_setWeight {Φ : q_Fx} {h : q_Hp} (K : q_Lk Φ h.R h.n) {W : q_W} {O : q_O} (C : q_clX h W O) {z x : Int32} : q_CtH Φ yL_setWeight cL_setWeight [(0, 6, 7, 15)] mL_setWeight [.ref 1, .int z, .int x] h (q_l1 h W O (¬ (nI 1 ≤ z ∧ z ≤ nI 5) ∨ ¬ (nI 0 ≤ x ∧ x ≤ nI 100)) (fun v h' => v = some (.int (W.wt z.toNatClampNeg)) ∧ ∃ Y, q_eqv W Y ∧ q_ok0 Y ∧ q_mu h h' (W.sZ W.bd (va_up W.wt z.toNatClampNeg x)) (O.kept Y) 0)) := by
  refine q_enterH K.st rfl rfl rfl rfl (Nat.le_of_ble_eq_true rfl) (L := [_, _, _, none]) rfl ?_
  refine q_aload_n dL_setWeight_0 rfl ?_
  refine q_iload_n dL_setWeight_1 rfl ?_
  refine q_iload_n dL_setWeight_2 rfl ?_
  refine q_callV (kc := 0) (ks := 0) (g_X9_setWeight K C ) wX9_setWeight kL_39 iX9_setWeight eX9_setWeight rfl rfl (by decide) (K.le (by decide)) (by decide) rfl rfl (Nat.le_of_ble_eq_true rfl) dL_setWeight_3 (fun v' h' hq => ?_) (fun E' h' hq => ?_)
  · rcases hq with ⟨_, hq, _⟩ | ⟨n1, v, hq, hp⟩
    · exact nomatch hq
    cases hq
    have hp0 := hp
    obtain ⟨rfl, hp1⟩ := hp
    refine q_iret dL_setWeight_6 rfl (Or.inl rfl) ?_
    exact ⟨_, rfl, (Or.inr ⟨n1, hp0⟩)⟩
  · rcases hq with ⟨c1, hq, hp⟩ | ⟨_, _, hq, _⟩
    · cases hq
      refine q_catchN (name := "java/lang/IllegalArgumentException") (pre := []) (suf := []) (x := { startPc := 0, endPc := 6, handlerPc := 7, catchType := 15 }) (L' := [_, _, _, none]) rfl (fun z hz => by cases hz) (by decide) (by decide) q_ldL15 (by decide) dL_setWeight_7 rfl (by decide) rfl ?_
      refine q_ldc dL_setWeight_8 kcL_17 ?_
      refine q_iret dL_setWeight_10 rfl (Or.inl rfl) ?_
      exact ⟨_, rfl, (Or.inl ⟨c1, rfl, hp⟩)⟩
    · exact nomatch hq
theorem g_L_weightOf {Φ : q_Fx} {h : q_Hp} (K : q_Lk Φ h.R h.n) {W : q_W} {O : q_O} (C : q_clX h W O) {z : Int32} : q_CtH Φ yL_weightOf cL_weightOf [(0, 5, 6, 15)] mL_weightOf [.ref 1, .int z] h (q_l1 h W O (¬ (nI 1 ≤ z ∧ z ≤ nI 5)) (fun v h' => v = some (.int (W.wt z.toNatClampNeg)) ∧ q_rd h h' W O)) := by
  refine q_enterH K.st rfl rfl rfl rfl (Nat.le_of_ble_eq_true rfl) (L := [_, _, none]) rfl ?_
  refine q_aload_n dL_weightOf_0 rfl ?_
  refine q_iload_n dL_weightOf_1 rfl ?_
  refine q_callV (kc := 0) (ks := 0) (g_X9_weightOf K C ) wX9_weightOf kL_42 iX9_weightOf eX9_weightOf rfl rfl (by decide) (K.le (by decide)) (by decide) rfl rfl (Nat.le_of_ble_eq_true rfl) dL_weightOf_2 (fun v' h' hq => ?_) (fun E' h' hq => ?_)
  · rcases hq with ⟨_, hq, _⟩ | ⟨n1, v, hq, hp⟩
    · exact nomatch hq
    cases hq
    have hp0 := hp
    obtain ⟨rfl, hp1⟩ := hp
    refine q_iret dL_weightOf_5 rfl (Or.inl rfl) ?_
    exact ⟨_, rfl, (Or.inr ⟨n1, hp0⟩)⟩
  · rcases hq with ⟨c1, hq, hp⟩ | ⟨_, _, hq, _⟩
    · cases hq
      refine q_catchN (name := "java/lang/IllegalArgumentException") (pre := []) (suf := []) (x := { startPc := 0, endPc := 5, handlerPc := 6, catchType := 15 }) (L' := [_, _, none]) rfl (fun z hz => by cases hz) (by decide) (by decide) q_ldL15 (by decide) dL_weightOf_6 rfl (by decide) rfl ?_
      refine q_ldc dL_weightOf_7 kcL_17 ?_
      refine q_iret dL_weightOf_9 rfl (Or.inl rfl) ?_
      exact ⟨_, rfl, (Or.inl ⟨c1, rfl, hp⟩)⟩
    · exact nomatch hq
theorem g_L_zoneOf {Φ : q_Fx} {h : q_Hp} (K : q_Lk Φ h.R h.n) {W : q_W} {O : q_O} (C : q_clX h W O) {d x : Int32} : q_CtH Φ yL_zoneOf cL_zoneOf [(0, 6, 7, 15)] mL_zoneOf [.ref 1, .int d, .int x] h (q_l1 h W O (¬ (nI 0 ≤ d ∧ d ≤ nI 199) ∨ ¬ (nI 0 ≤ x ∧ x ≤ nI 500)) (fun v h' => v = some (.int (nI (q_zn W.bd x (W.th d)))) ∧ q_rd h h' W O)) := by
  refine q_enterH K.st rfl rfl rfl rfl (Nat.le_of_ble_eq_true rfl) (L := [_, _, _, none]) rfl ?_
  refine q_aload_n dL_zoneOf_0 rfl ?_
  refine q_iload_n dL_zoneOf_1 rfl ?_
  refine q_iload_n dL_zoneOf_2 rfl ?_
  refine q_callV (kc := 0) (ks := 0) (g_X9_zoneOf K C ) wX9_zoneOf kL_45 iX9_zoneOf eX9_zoneOf rfl rfl (by decide) (K.le (by decide)) (by decide) rfl rfl (Nat.le_of_ble_eq_true rfl) dL_zoneOf_3 (fun v' h' hq => ?_) (fun E' h' hq => ?_)
  · rcases hq with ⟨_, hq, _⟩ | ⟨n1, v, hq, hp⟩
    · exact nomatch hq
    cases hq
    have hp0 := hp
    obtain ⟨rfl, hp1⟩ := hp
    refine q_iret dL_zoneOf_6 rfl (Or.inl rfl) ?_
    exact ⟨_, rfl, (Or.inr ⟨n1, hp0⟩)⟩
  · rcases hq with ⟨c1, hq, hp⟩ | ⟨_, _, hq, _⟩
    · cases hq
      refine q_catchN (name := "java/lang/IllegalArgumentException") (pre := []) (suf := []) (x := { startPc := 0, endPc := 6, handlerPc := 7, catchType := 15 }) (L' := [_, _, _, none]) rfl (fun z hz => by cases hz) (by decide) (by decide) q_ldL15 (by decide) dL_zoneOf_7 rfl (by decide) rfl ?_
      refine q_ldc dL_zoneOf_8 kcL_17 ?_
      refine q_iret dL_zoneOf_10 rfl (Or.inl rfl) ?_
      exact ⟨_, rfl, (Or.inl ⟨c1, rfl, hp⟩)⟩
    · exact nomatch hq
theorem g_L_addSession {Φ : q_Fx} {h : q_Hp} (K : q_Lk Φ h.R h.n) {W : q_W} {O : q_O} (C : q_clX h W O) {d : Int32} : q_CtH Φ yL_addSession cL_addSession [(0, 5, 6, 15), (0, 5, 10, 18)] mL_addSession [.ref 1, .int d] h (q_l2 h W O (¬ (nI 0 ≤ d ∧ d ≤ nI W.t)) (W.c = 40) (fun v h' => v = some (.int W.nx) ∧ ∃ Y r, q_eqv W Y ∧ q_ok0 Y ∧ q_sd (W.addS d.toNatClampNeg) W.c r ∧ q_mu h h' ((W.addS d.toNatClampNeg).sσ (q_mv W.σ W.c r)) (O.kept Y) 200)) := by
  refine q_enterH K.st rfl rfl rfl rfl (Nat.le_of_ble_eq_true rfl) (L := [_, _, none]) rfl ?_
  refine q_aload_n dL_addSession_0 rfl ?_
  refine q_iload_n dL_addSession_1 rfl ?_
  refine q_callV (kc := 0) (ks := 0) (g_X9_addSession K C ) wX9_addSession kL_48 iX9_addSession eX9_addSession rfl rfl (by decide) (K.le (by decide)) (by decide) rfl rfl (Nat.le_of_ble_eq_true rfl) dL_addSession_2 (fun v' h' hq => ?_) (fun E' h' hq => ?_)
  · rcases hq with ⟨_, hq, _⟩ | ⟨_, _, hq, _⟩ | ⟨n1, n2, v, hq, hp⟩
    · exact nomatch hq
    · exact nomatch hq
    cases hq
    have hp0 := hp
    obtain ⟨rfl, hp1⟩ := hp
    refine q_iret dL_addSession_5 rfl (Or.inl rfl) ?_
    exact ⟨_, rfl, (Or.inr (Or.inr ⟨n1, n2, hp0⟩))⟩
  · rcases hq with ⟨c1, hq, hp⟩ | ⟨n1, c2, hq, hp⟩ | ⟨_, _, _, hq, _⟩
    · cases hq
      refine q_catchN (name := "java/lang/IllegalArgumentException") (pre := []) (suf := [{ startPc := 0, endPc := 5, handlerPc := 10, catchType := 18 }]) (x := { startPc := 0, endPc := 5, handlerPc := 6, catchType := 15 }) (L' := [_, _, none]) rfl (fun z hz => by cases hz) (by decide) (by decide) q_ldL15 (by decide) dL_addSession_6 rfl (by decide) rfl ?_
      refine q_ldc dL_addSession_7 kcL_17 ?_
      refine q_iret dL_addSession_9 rfl (Or.inl rfl) ?_
      exact ⟨_, rfl, (Or.inl ⟨c1, rfl, hp⟩)⟩
    · cases hq
      refine q_catchN (name := "java/lang/IllegalStateException") (pre := [{ startPc := 0, endPc := 5, handlerPc := 6, catchType := 15 }]) (suf := []) (x := { startPc := 0, endPc := 5, handlerPc := 10, catchType := 18 }) (L' := [_, _, none]) rfl (fun z hz => by
        rcases List.mem_cons.mp hz with rfl | hz
        · exact ⟨by decide, _, q_ldL15, by decide⟩
        cases hz) (by decide) (by decide) q_ldL18 (by decide) dL_addSession_10 rfl (by decide) rfl ?_
      refine q_ldc dL_addSession_11 kcL_20 ?_
      refine q_iret dL_addSession_13 rfl (Or.inl rfl) ?_
      exact ⟨_, rfl, (Or.inr (Or.inl ⟨n1, c2, rfl, hp⟩))⟩
    · exact nomatch hq
theorem g_L_addPart {Φ : q_Fx} {h : q_Hp} (K : q_Lk Φ h.R h.n) {W : q_W} {O : q_O} (C : q_clX h W O) {x m y : Int32} : q_CtH Φ yL_addPart cL_addPart [(0, 7, 8, 28), (0, 7, 13, 15), (0, 7, 18, 18)] mL_addPart [.ref 1, .int x, .int m, .int y] h (q_l3 h W O (W.no x) (¬ (nI 1 ≤ m ∧ m ≤ nI 120) ∨ ¬ (nI 0 ≤ y ∧ y ≤ nI 500)) (W.pn (W.σ (W.at_ x)) = 8 ∨ nI 240 < W.len (W.σ (W.at_ x)) + m) (fun v h' => v = some (.int (nI (W.pn (W.σ (W.at_ x)) + 1))) ∧ ∃ Y, q_eqv W Y ∧ q_ok0 Y ∧ q_mu h h' (W.addP (W.σ (W.at_ x)) m y) (O.kept Y) (W.dy (W.σ (W.at_ x))))) := by
  refine q_enterH K.st rfl rfl rfl rfl (Nat.le_of_ble_eq_true rfl) (L := [_, _, _, _, none]) rfl ?_
  refine q_aload_n dL_addPart_0 rfl ?_
  refine q_iload_n dL_addPart_1 rfl ?_
  refine q_iload_n dL_addPart_2 rfl ?_
  refine q_iload_n dL_addPart_3 rfl ?_
  refine q_callV (kc := 0) (ks := 0) (g_X9_addPart K C ) wX9_addPart kL_51 iX9_addPart eX9_addPart rfl rfl (by decide) (K.le (by decide)) (by decide) rfl rfl (Nat.le_of_ble_eq_true rfl) dL_addPart_4 (fun v' h' hq => ?_) (fun E' h' hq => ?_)
  · rcases hq with ⟨_, hq, _⟩ | ⟨_, _, hq, _⟩ | ⟨_, _, _, hq, _⟩ | ⟨n1, n2, n3, v, hq, hp⟩
    · exact nomatch hq
    · exact nomatch hq
    · exact nomatch hq
    cases hq
    have hp0 := hp
    obtain ⟨rfl, hp1⟩ := hp
    refine q_iret dL_addPart_7 rfl (Or.inl rfl) ?_
    exact ⟨_, rfl, (Or.inr (Or.inr (Or.inr ⟨n1, n2, n3, hp0⟩)))⟩
  · rcases hq with ⟨c1, hq, hp⟩ | ⟨n1, c2, hq, hp⟩ | ⟨n1, n2, c3, hq, hp⟩ | ⟨_, _, _, _, hq, _⟩
    · cases hq
      refine q_catch (name := "java/util/NoSuchElementException") (pre := []) (suf := [{ startPc := 0, endPc := 7, handlerPc := 13, catchType := 15 }, { startPc := 0, endPc := 7, handlerPc := 18, catchType := 18 }]) (x := { startPc := 0, endPc := 7, handlerPc := 8, catchType := 28 }) (L' := [_, _, _, _, none]) rfl (fun z hz => by cases hz) (by decide) (by decide) q_ldL28 (by decide) dL_addPart_8 rfl (by decide) rfl ?_
      refine q_ldc dL_addPart_10 kcL_17 ?_
      refine q_iret dL_addPart_12 rfl (Or.inl rfl) ?_
      exact ⟨_, rfl, (Or.inl ⟨c1, rfl, hp⟩)⟩
    · cases hq
      refine q_catch (name := "java/lang/IllegalArgumentException") (pre := [{ startPc := 0, endPc := 7, handlerPc := 8, catchType := 28 }]) (suf := [{ startPc := 0, endPc := 7, handlerPc := 18, catchType := 18 }]) (x := { startPc := 0, endPc := 7, handlerPc := 13, catchType := 15 }) (L' := [_, _, _, _, none]) rfl (fun z hz => by
        rcases List.mem_cons.mp hz with rfl | hz
        · exact ⟨by decide, _, q_ldL28, by decide⟩
        cases hz) (by decide) (by decide) q_ldL15 (by decide) dL_addPart_13 rfl (by decide) rfl ?_
      refine q_ldc dL_addPart_15 kcL_20 ?_
      refine q_iret dL_addPart_17 rfl (Or.inl rfl) ?_
      exact ⟨_, rfl, (Or.inr (Or.inl ⟨n1, c2, rfl, hp⟩))⟩
    · cases hq
      refine q_catch (name := "java/lang/IllegalStateException") (pre := [{ startPc := 0, endPc := 7, handlerPc := 8, catchType := 28 }, { startPc := 0, endPc := 7, handlerPc := 13, catchType := 15 }]) (suf := []) (x := { startPc := 0, endPc := 7, handlerPc := 18, catchType := 18 }) (L' := [_, _, _, _, none]) rfl (fun z hz => by
        rcases List.mem_cons.mp hz with rfl | hz
        · exact ⟨by decide, _, q_ldL28, by decide⟩
        rcases List.mem_cons.mp hz with rfl | hz
        · exact ⟨by decide, _, q_ldL15, by decide⟩
        cases hz) (by decide) (by decide) q_ldL18 (by decide) dL_addPart_18 rfl (by decide) rfl ?_
      refine q_ldc dL_addPart_20 kcL_55 ?_
      refine q_iret dL_addPart_22 rfl (Or.inl rfl) ?_
      exact ⟨_, rfl, (Or.inr (Or.inr (Or.inl ⟨n1, n2, c3, rfl, hp⟩)))⟩
    · exact nomatch hq
theorem g_L_clearParts {Φ : q_Fx} {h : q_Hp} (K : q_Lk Φ h.R h.n) {W : q_W} {O : q_O} (C : q_clX h W O) {x : Int32} : q_CtH Φ yL_clearParts cL_clearParts [(0, 5, 6, 28)] mL_clearParts [.ref 1, .int x] h (q_l1 h W O (W.no x) (fun v h' => v = some (.int (nI (W.pn (W.σ (W.at_ x))))) ∧ ∃ Y, q_eqv W Y ∧ q_ok0 Y ∧ q_mu h h' (W.clrP (W.σ (W.at_ x))) (O.kept Y) (W.dy (W.σ (W.at_ x))))) := by
  refine q_enterH K.st rfl rfl rfl rfl (Nat.le_of_ble_eq_true rfl) (L := [_, _, none]) rfl ?_
  refine q_aload_n dL_clearParts_0 rfl ?_
  refine q_iload_n dL_clearParts_1 rfl ?_
  refine q_callV (kc := 0) (ks := 0) (g_X9_clearParts K C ) wX9_clearParts kL_56 iX9_clearParts eX9_clearParts rfl rfl (by decide) (K.le (by decide)) (by decide) rfl rfl (Nat.le_of_ble_eq_true rfl) dL_clearParts_2 (fun v' h' hq => ?_) (fun E' h' hq => ?_)
  · rcases hq with ⟨_, hq, _⟩ | ⟨n1, v, hq, hp⟩
    · exact nomatch hq
    cases hq
    have hp0 := hp
    obtain ⟨rfl, hp1⟩ := hp
    refine q_iret dL_clearParts_5 rfl (Or.inl rfl) ?_
    exact ⟨_, rfl, (Or.inr ⟨n1, hp0⟩)⟩
  · rcases hq with ⟨c1, hq, hp⟩ | ⟨_, _, hq, _⟩
    · cases hq
      refine q_catchN (name := "java/util/NoSuchElementException") (pre := []) (suf := []) (x := { startPc := 0, endPc := 5, handlerPc := 6, catchType := 28 }) (L' := [_, _, none]) rfl (fun z hz => by cases hz) (by decide) (by decide) q_ldL28 (by decide) dL_clearParts_6 rfl (by decide) rfl ?_
      refine q_ldc dL_clearParts_7 kcL_17 ?_
      refine q_iret dL_clearParts_9 rfl (Or.inl rfl) ?_
      exact ⟨_, rfl, (Or.inl ⟨c1, rfl, hp⟩)⟩
    · exact nomatch hq
theorem g_L_dayOf {Φ : q_Fx} {h : q_Hp} (K : q_Lk Φ h.R h.n) {W : q_W} {O : q_O} (C : q_clX h W O) {x : Int32} : q_CtH Φ yL_dayOf cL_dayOf [(0, 5, 6, 28)] mL_dayOf [.ref 1, .int x] h (q_l1 h W O (W.no x) (fun v h' => v = some (.int (nI (W.dy (W.σ (W.at_ x))))) ∧ q_rd h h' W O)) := by
  refine q_enterH K.st rfl rfl rfl rfl (Nat.le_of_ble_eq_true rfl) (L := [_, _, none]) rfl ?_
  refine q_aload_n dL_dayOf_0 rfl ?_
  refine q_iload_n dL_dayOf_1 rfl ?_
  refine q_callV (kc := 0) (ks := 0) (g_X9_dayOf K C ) wX9_dayOf kL_70 iX9_dayOf eX9_dayOf rfl rfl (by decide) (K.le (by decide)) (by decide) rfl rfl (Nat.le_of_ble_eq_true rfl) dL_dayOf_2 (fun v' h' hq => ?_) (fun E' h' hq => ?_)
  · rcases hq with ⟨_, hq, _⟩ | ⟨n1, v, hq, hp⟩
    · exact nomatch hq
    cases hq
    have hp0 := hp
    obtain ⟨rfl, hp1⟩ := hp
    refine q_iret dL_dayOf_5 rfl (Or.inl rfl) ?_
    exact ⟨_, rfl, (Or.inr ⟨n1, hp0⟩)⟩
  · rcases hq with ⟨c1, hq, hp⟩ | ⟨_, _, hq, _⟩
    · cases hq
      refine q_catchN (name := "java/util/NoSuchElementException") (pre := []) (suf := []) (x := { startPc := 0, endPc := 5, handlerPc := 6, catchType := 28 }) (L' := [_, _, none]) rfl (fun z hz => by cases hz) (by decide) (by decide) q_ldL28 (by decide) dL_dayOf_6 rfl (by decide) rfl ?_
      refine q_ldc dL_dayOf_7 kcL_17 ?_
      refine q_iret dL_dayOf_9 rfl (Or.inl rfl) ?_
      exact ⟨_, rfl, (Or.inl ⟨c1, rfl, hp⟩)⟩
    · exact nomatch hq
theorem g_L_minutesOf {Φ : q_Fx} {h : q_Hp} (K : q_Lk Φ h.R h.n) {W : q_W} {O : q_O} (C : q_clX h W O) {x : Int32} : q_CtH Φ yL_minutesOf cL_minutesOf [(0, 5, 6, 28)] mL_minutesOf [.ref 1, .int x] h (q_l1 h W O (W.no x) (fun v h' => v = some (.int (W.len (W.σ (W.at_ x)))) ∧ q_rd h h' W O)) := by
  refine q_enterH K.st rfl rfl rfl rfl (Nat.le_of_ble_eq_true rfl) (L := [_, _, none]) rfl ?_
  refine q_aload_n dL_minutesOf_0 rfl ?_
  refine q_iload_n dL_minutesOf_1 rfl ?_
  refine q_callV (kc := 0) (ks := 0) (g_X9_minutesOf K C ) wX9_minutesOf kL_73 iX9_minutesOf eX9_minutesOf rfl rfl (by decide) (K.le (by decide)) (by decide) rfl rfl (Nat.le_of_ble_eq_true rfl) dL_minutesOf_2 (fun v' h' hq => ?_) (fun E' h' hq => ?_)
  · rcases hq with ⟨_, hq, _⟩ | ⟨n1, v, hq, hp⟩
    · exact nomatch hq
    cases hq
    have hp0 := hp
    obtain ⟨rfl, hp1⟩ := hp
    refine q_iret dL_minutesOf_5 rfl (Or.inl rfl) ?_
    exact ⟨_, rfl, (Or.inr ⟨n1, hp0⟩)⟩
  · rcases hq with ⟨c1, hq, hp⟩ | ⟨_, _, hq, _⟩
    · cases hq
      refine q_catchN (name := "java/util/NoSuchElementException") (pre := []) (suf := []) (x := { startPc := 0, endPc := 5, handlerPc := 6, catchType := 28 }) (L' := [_, _, none]) rfl (fun z hz => by cases hz) (by decide) (by decide) q_ldL28 (by decide) dL_minutesOf_6 rfl (by decide) rfl ?_
      refine q_ldc dL_minutesOf_7 kcL_17 ?_
      refine q_iret dL_minutesOf_9 rfl (Or.inl rfl) ?_
      exact ⟨_, rfl, (Or.inl ⟨c1, rfl, hp⟩)⟩
    · exact nomatch hq
theorem g_L_minutesInZone {Φ : q_Fx} {h : q_Hp} (K : q_Lk Φ h.R h.n) {W : q_W} {O : q_O} (C : q_clX h W O) {x z : Int32} : q_CtH Φ yL_minutesInZone cL_minutesInZone [(0, 6, 7, 28), (0, 6, 11, 15)] mL_minutesInZone [.ref 1, .int x, .int z] h (q_l2 h W O (W.no x) (¬ (nI 1 ≤ z ∧ z ≤ nI 5)) (fun v h' => v = some (.int (q_az (fun _ => nI 0) (W.z (W.σ (W.at_ x))) (W.mn (W.σ (W.at_ x))) (W.pn (W.σ (W.at_ x))) z.toNatClampNeg)) ∧ q_rd h h' W O)) := by
  refine q_enterH K.st rfl rfl rfl rfl (Nat.le_of_ble_eq_true rfl) (L := [_, _, _, none]) rfl ?_
  refine q_aload_n dL_minutesInZone_0 rfl ?_
  refine q_iload_n dL_minutesInZone_1 rfl ?_
  refine q_iload_n dL_minutesInZone_2 rfl ?_
  refine q_callV (kc := 0) (ks := 0) (g_X9_minutesInZone K C ) wX9_minutesInZone kL_76 iX9_minutesInZone eX9_minutesInZone rfl rfl (by decide) (K.le (by decide)) (by decide) rfl rfl (Nat.le_of_ble_eq_true rfl) dL_minutesInZone_3 (fun v' h' hq => ?_) (fun E' h' hq => ?_)
  · rcases hq with ⟨_, hq, _⟩ | ⟨_, _, hq, _⟩ | ⟨n1, n2, v, hq, hp⟩
    · exact nomatch hq
    · exact nomatch hq
    cases hq
    have hp0 := hp
    obtain ⟨rfl, hp1⟩ := hp
    refine q_iret dL_minutesInZone_6 rfl (Or.inl rfl) ?_
    exact ⟨_, rfl, (Or.inr (Or.inr ⟨n1, n2, hp0⟩))⟩
  · rcases hq with ⟨c1, hq, hp⟩ | ⟨n1, c2, hq, hp⟩ | ⟨_, _, _, hq, _⟩
    · cases hq
      refine q_catchN (name := "java/util/NoSuchElementException") (pre := []) (suf := [{ startPc := 0, endPc := 6, handlerPc := 11, catchType := 15 }]) (x := { startPc := 0, endPc := 6, handlerPc := 7, catchType := 28 }) (L' := [_, _, _, none]) rfl (fun z hz => by cases hz) (by decide) (by decide) q_ldL28 (by decide) dL_minutesInZone_7 rfl (by decide) rfl ?_
      refine q_ldc dL_minutesInZone_8 kcL_17 ?_
      refine q_iret dL_minutesInZone_10 rfl (Or.inl rfl) ?_
      exact ⟨_, rfl, (Or.inl ⟨c1, rfl, hp⟩)⟩
    · cases hq
      refine q_catchN (name := "java/lang/IllegalArgumentException") (pre := [{ startPc := 0, endPc := 6, handlerPc := 7, catchType := 28 }]) (suf := []) (x := { startPc := 0, endPc := 6, handlerPc := 11, catchType := 15 }) (L' := [_, _, _, none]) rfl (fun z hz => by
        rcases List.mem_cons.mp hz with rfl | hz
        · exact ⟨by decide, _, q_ldL28, by decide⟩
        cases hz) (by decide) (by decide) q_ldL15 (by decide) dL_minutesInZone_11 rfl (by decide) rfl ?_
      refine q_ldc dL_minutesInZone_12 kcL_20 ?_
      refine q_iret dL_minutesInZone_14 rfl (Or.inl rfl) ?_
      exact ⟨_, rfl, (Or.inr (Or.inl ⟨n1, c2, rfl, hp⟩))⟩
    · exact nomatch hq
theorem g_L_loadOf {Φ : q_Fx} {h : q_Hp} (K : q_Lk Φ h.R h.n) {W : q_W} {O : q_O} (C : q_clX h W O) {x : Int32} : q_CtH Φ yL_loadOf cL_loadOf [(0, 5, 6, 28)] mL_loadOf [.ref 1, .int x] h (q_l1 h W O (W.no x) (fun v h' => v = some (.int (W.ld (W.σ (W.at_ x)))) ∧ q_rd h h' W O)) := by
  refine q_enterH K.st rfl rfl rfl rfl (Nat.le_of_ble_eq_true rfl) (L := [_, _, none]) rfl ?_
  refine q_aload_n dL_loadOf_0 rfl ?_
  refine q_iload_n dL_loadOf_1 rfl ?_
  refine q_callV (kc := 0) (ks := 0) (g_X9_loadOf K C ) wX9_loadOf kL_79 iX9_loadOf eX9_loadOf rfl rfl (by decide) (K.le (by decide)) (by decide) rfl rfl (Nat.le_of_ble_eq_true rfl) dL_loadOf_2 (fun v' h' hq => ?_) (fun E' h' hq => ?_)
  · rcases hq with ⟨_, hq, _⟩ | ⟨n1, v, hq, hp⟩
    · exact nomatch hq
    cases hq
    have hp0 := hp
    obtain ⟨rfl, hp1⟩ := hp
    refine q_iret dL_loadOf_5 rfl (Or.inl rfl) ?_
    exact ⟨_, rfl, (Or.inr ⟨n1, hp0⟩)⟩
  · rcases hq with ⟨c1, hq, hp⟩ | ⟨_, _, hq, _⟩
    · cases hq
      refine q_catchN (name := "java/util/NoSuchElementException") (pre := []) (suf := []) (x := { startPc := 0, endPc := 5, handlerPc := 6, catchType := 28 }) (L' := [_, _, none]) rfl (fun z hz => by cases hz) (by decide) (by decide) q_ldL28 (by decide) dL_loadOf_6 rfl (by decide) rfl ?_
      refine q_ldc dL_loadOf_7 kcL_17 ?_
      refine q_iret dL_loadOf_9 rfl (Or.inl rfl) ?_
      exact ⟨_, rfl, (Or.inl ⟨c1, rfl, hp⟩)⟩
    · exact nomatch hq
theorem g_L_loadOn {Φ : q_Fx} {h : q_Hp} (K : q_Lk Φ h.R h.n) {W : q_W} {O : q_O} (C : q_clX h W O) {d : Int32} : q_CtH Φ yL_loadOn cL_loadOn [(0, 5, 6, 15)] mL_loadOn [.ref 1, .int d] h (q_l1 h W O (¬ (nI 0 ≤ d ∧ d ≤ nI W.t)) (fun v h' => v = some (.int (W.D d.toNatClampNeg)) ∧ q_rd h h' W O)) := by
  refine q_enterH K.st rfl rfl rfl rfl (Nat.le_of_ble_eq_true rfl) (L := [_, _, none]) rfl ?_
  refine q_aload_n dL_loadOn_0 rfl ?_
  refine q_iload_n dL_loadOn_1 rfl ?_
  refine q_callV (kc := 0) (ks := 0) (g_X9_loadOn K C ) wX9_loadOn kL_82 iX9_loadOn eX9_loadOn rfl rfl (by decide) (K.le (by decide)) (by decide) rfl rfl (Nat.le_of_ble_eq_true rfl) dL_loadOn_2 (fun v' h' hq => ?_) (fun E' h' hq => ?_)
  · rcases hq with ⟨_, hq, _⟩ | ⟨n1, v, hq, hp⟩
    · exact nomatch hq
    cases hq
    have hp0 := hp
    obtain ⟨rfl, hp1⟩ := hp
    refine q_iret dL_loadOn_5 rfl (Or.inl rfl) ?_
    exact ⟨_, rfl, (Or.inr ⟨n1, hp0⟩)⟩
  · rcases hq with ⟨c1, hq, hp⟩ | ⟨_, _, hq, _⟩
    · cases hq
      refine q_catchN (name := "java/lang/IllegalArgumentException") (pre := []) (suf := []) (x := { startPc := 0, endPc := 5, handlerPc := 6, catchType := 15 }) (L' := [_, _, none]) rfl (fun z hz => by cases hz) (by decide) (by decide) q_ldL15 (by decide) dL_loadOn_6 rfl (by decide) rfl ?_
      refine q_ldc dL_loadOn_7 kcL_17 ?_
      refine q_iret dL_loadOn_9 rfl (Or.inl rfl) ?_
      exact ⟨_, rfl, (Or.inl ⟨c1, rfl, hp⟩)⟩
    · exact nomatch hq
theorem g_L_zoneShare {Φ : q_Fx} {h : q_Hp} (K : q_Lk Φ h.R h.n) {W : q_W} {O : q_O} (C : q_clX h W O) {z : Int32} : q_CtH Φ yL_zoneShare cL_zoneShare [(0, 5, 6, 15), (0, 5, 10, 90)] mL_zoneShare [.ref 1, .int z] h (q_l2f h W O (¬ (nI 1 ≤ z ∧ z ≤ nI 5)) (W.all = 0) (fun v h' => v = some (.float (FP.fdiv (FP.i2f (W.zs z.toNatClampNeg)) (FP.i2f W.all))) ∧ q_rd h h' W O)) := by
  refine q_enterH K.st rfl rfl rfl rfl (Nat.le_of_ble_eq_true rfl) (L := [_, _, none]) rfl ?_
  refine q_aload_n dL_zoneShare_0 rfl ?_
  refine q_iload_n dL_zoneShare_1 rfl ?_
  refine q_callV (kc := 0) (ks := 0) (g_X9_zoneShare K C ) wX9_zoneShare kL_85 iX9_zoneShare eX9_zoneShare rfl rfl (by decide) (K.le (by decide)) (by decide) rfl rfl (Nat.le_of_ble_eq_true rfl) dL_zoneShare_2 (fun v' h' hq => ?_) (fun E' h' hq => ?_)
  · rcases hq with ⟨_, hq, _⟩ | ⟨_, _, hq, _⟩ | ⟨n1, n2, v, hq, hp⟩
    · exact nomatch hq
    · exact nomatch hq
    cases hq
    have hp0 := hp
    obtain ⟨rfl, hp1⟩ := hp
    refine q_fret dL_zoneShare_5 rfl (Or.inl rfl) ?_
    exact ⟨_, rfl, (Or.inr (Or.inr ⟨n1, n2, hp0⟩))⟩
  · rcases hq with ⟨c1, hq, hp⟩ | ⟨n1, c2, hq, hp⟩ | ⟨_, _, _, hq, _⟩
    · cases hq
      refine q_catchN (name := "java/lang/IllegalArgumentException") (pre := []) (suf := [{ startPc := 0, endPc := 5, handlerPc := 10, catchType := 90 }]) (x := { startPc := 0, endPc := 5, handlerPc := 6, catchType := 15 }) (L' := [_, _, none]) rfl (fun z hz => by cases hz) (by decide) (by decide) q_ldL15 (by decide) dL_zoneShare_6 rfl (by decide) rfl ?_
      refine q_ldcf dL_zoneShare_7 kfcL_89 ?_
      refine q_fret dL_zoneShare_9 rfl (Or.inl rfl) ?_
      exact ⟨_, rfl, (Or.inl ⟨c1, rfl, hp⟩)⟩
    · cases hq
      refine q_catchN (name := "java/lang/ArithmeticException") (pre := [{ startPc := 0, endPc := 5, handlerPc := 6, catchType := 15 }]) (suf := []) (x := { startPc := 0, endPc := 5, handlerPc := 10, catchType := 90 }) (L' := [_, _, none]) rfl (fun z hz => by
        rcases List.mem_cons.mp hz with rfl | hz
        · exact ⟨by decide, _, q_ldL15, by decide⟩
        cases hz) (by decide) (by decide) q_ldL90 (by decide) dL_zoneShare_10 rfl (by decide) rfl ?_
      refine q_ldcf dL_zoneShare_11 kfcL_92 ?_
      refine q_fret dL_zoneShare_13 rfl (Or.inl rfl) ?_
      exact ⟨_, rfl, (Or.inr (Or.inl ⟨n1, c2, rfl, hp⟩))⟩
    · exact nomatch hq
theorem g_L_addTarget {Φ : q_Fx} {h : q_Hp} (K : q_Lk Φ h.R h.n) {W : q_W} {O : q_O} (C : q_clX h W O) {x : Int32} : q_CtH Φ yL_addTarget cL_addTarget [(0, 5, 6, 15), (0, 5, 10, 18)] mL_addTarget [.ref 1, .int x] h (q_l2 h W O (¬ (nI 0 ≤ x ∧ x ≤ nI 20000)) (W.pe = 0 ∨ ¬ W.pf = W.t ∨ W.pc = 28) (fun v h' => v = some (.int (nI (W.pc + 1))) ∧ ∃ Y, q_eqv W Y ∧ q_ok0 Y ∧ q_mu h h' (W.sP W.pe W.pf (W.pc + 1) (va_up W.tg W.pc x)) (O.kept Y) 200)) := by
  refine q_enterH K.st rfl rfl rfl rfl (Nat.le_of_ble_eq_true rfl) (L := [_, _, none]) rfl ?_
  refine q_aload_n dL_addTarget_0 rfl ?_
  refine q_iload_n dL_addTarget_1 rfl ?_
  refine q_callV (kc := 0) (ks := 0) (g_X9_addTarget K C ) wX9_addTarget kL_93 iX9_addTarget eX9_addTarget rfl rfl (by decide) (K.le (by decide)) (by decide) rfl rfl (Nat.le_of_ble_eq_true rfl) dL_addTarget_2 (fun v' h' hq => ?_) (fun E' h' hq => ?_)
  · rcases hq with ⟨_, hq, _⟩ | ⟨_, _, hq, _⟩ | ⟨n1, n2, v, hq, hp⟩
    · exact nomatch hq
    · exact nomatch hq
    cases hq
    have hp0 := hp
    obtain ⟨rfl, hp1⟩ := hp
    refine q_iret dL_addTarget_5 rfl (Or.inl rfl) ?_
    exact ⟨_, rfl, (Or.inr (Or.inr ⟨n1, n2, hp0⟩))⟩
  · rcases hq with ⟨c1, hq, hp⟩ | ⟨n1, c2, hq, hp⟩ | ⟨_, _, _, hq, _⟩
    · cases hq
      refine q_catchN (name := "java/lang/IllegalArgumentException") (pre := []) (suf := [{ startPc := 0, endPc := 5, handlerPc := 10, catchType := 18 }]) (x := { startPc := 0, endPc := 5, handlerPc := 6, catchType := 15 }) (L' := [_, _, none]) rfl (fun z hz => by cases hz) (by decide) (by decide) q_ldL15 (by decide) dL_addTarget_6 rfl (by decide) rfl ?_
      refine q_ldc dL_addTarget_7 kcL_17 ?_
      refine q_iret dL_addTarget_9 rfl (Or.inl rfl) ?_
      exact ⟨_, rfl, (Or.inl ⟨c1, rfl, hp⟩)⟩
    · cases hq
      refine q_catchN (name := "java/lang/IllegalStateException") (pre := [{ startPc := 0, endPc := 5, handlerPc := 6, catchType := 15 }]) (suf := []) (x := { startPc := 0, endPc := 5, handlerPc := 10, catchType := 18 }) (L' := [_, _, none]) rfl (fun z hz => by
        rcases List.mem_cons.mp hz with rfl | hz
        · exact ⟨by decide, _, q_ldL15, by decide⟩
        cases hz) (by decide) (by decide) q_ldL18 (by decide) dL_addTarget_10 rfl (by decide) rfl ?_
      refine q_ldc dL_addTarget_11 kcL_20 ?_
      refine q_iret dL_addTarget_13 rfl (Or.inl rfl) ?_
      exact ⟨_, rfl, (Or.inr (Or.inl ⟨n1, c2, rfl, hp⟩))⟩
    · exact nomatch hq
theorem g_L_targetAt {Φ : q_Fx} {h : q_Hp} (K : q_Lk Φ h.R h.n) {W : q_W} {O : q_O} (C : q_clX h W O) {p : Int32} : q_CtH Φ yL_targetAt cL_targetAt [(0, 5, 6, 68)] mL_targetAt [.ref 1, .int p] h (q_l1 h W O (p < 0 ∨ nI W.pc ≤ p) (fun v h' => v = some (.int (W.tg p.toNatClampNeg)) ∧ q_rd h h' W O)) := by
  refine q_enterH K.st rfl rfl rfl rfl (Nat.le_of_ble_eq_true rfl) (L := [_, _, none]) rfl ?_
  refine q_aload_n dL_targetAt_0 rfl ?_
  refine q_iload_n dL_targetAt_1 rfl ?_
  refine q_callV (kc := 0) (ks := 0) (g_X9_targetAt K C ) wX9_targetAt kL_96 iX9_targetAt eX9_targetAt rfl rfl (by decide) (K.le (by decide)) (by decide) rfl rfl (Nat.le_of_ble_eq_true rfl) dL_targetAt_2 (fun v' h' hq => ?_) (fun E' h' hq => ?_)
  · rcases hq with ⟨_, hq, _⟩ | ⟨n1, v, hq, hp⟩
    · exact nomatch hq
    cases hq
    have hp0 := hp
    obtain ⟨rfl, hp1⟩ := hp
    refine q_iret dL_targetAt_5 rfl (Or.inl rfl) ?_
    exact ⟨_, rfl, (Or.inr ⟨n1, hp0⟩)⟩
  · rcases hq with ⟨c1, hq, hp⟩ | ⟨_, _, hq, _⟩
    · cases hq
      refine q_catchN (name := "java/lang/IndexOutOfBoundsException") (pre := []) (suf := []) (x := { startPc := 0, endPc := 5, handlerPc := 6, catchType := 68 }) (L' := [_, _, none]) rfl (fun z hz => by cases hz) (by decide) (by decide) q_ldL68 (by decide) dL_targetAt_6 rfl (by decide) rfl ?_
      refine q_ldc dL_targetAt_7 kcL_17 ?_
      refine q_iret dL_targetAt_9 rfl (Or.inl rfl) ?_
      exact ⟨_, rfl, (Or.inl ⟨c1, rfl, hp⟩)⟩
    · exact nomatch hq
theorem g_L_dueEntry {Φ : q_Fx} {h : q_Hp} (K : q_Lk Φ h.R h.n) {W : q_W} {O : q_O} (C : q_clX h W O) : q_CtH Φ yL_dueEntry cL_dueEntry [(0, 4, 5, 28)] mL_dueEntry [.ref 1] h (q_l1 h W O (W.pc ≤ W.due) (fun v h' => v = some (.int (nI W.due)) ∧ q_rd h h' W O)) := by
  refine q_enterH K.st rfl rfl rfl rfl (Nat.le_of_ble_eq_true rfl) (L := [_, none]) rfl ?_
  refine q_aload_n dL_dueEntry_0 rfl ?_
  refine q_callV (kc := 0) (ks := 0) (g_X9_dueEntry K C ) wX9_dueEntry kL_99 iX9_dueEntry eX9_dueEntry rfl rfl (by decide) (K.le (by decide)) (by decide) rfl rfl (Nat.le_of_ble_eq_true rfl) dL_dueEntry_1 (fun v' h' hq => ?_) (fun E' h' hq => ?_)
  · rcases hq with ⟨_, hq, _⟩ | ⟨n1, v, hq, hp⟩
    · exact nomatch hq
    cases hq
    have hp0 := hp
    obtain ⟨rfl, hp1⟩ := hp
    refine q_iret dL_dueEntry_4 rfl (Or.inl rfl) ?_
    exact ⟨_, rfl, (Or.inr ⟨n1, hp0⟩)⟩
  · rcases hq with ⟨c1, hq, hp⟩ | ⟨_, _, hq, _⟩
    · cases hq
      refine q_catchN (name := "java/util/NoSuchElementException") (pre := []) (suf := []) (x := { startPc := 0, endPc := 4, handlerPc := 5, catchType := 28 }) (L' := [_, none]) rfl (fun z hz => by cases hz) (by decide) (by decide) q_ldL28 (by decide) dL_dueEntry_5 rfl (by decide) rfl ?_
      refine q_ldc dL_dueEntry_6 kcL_17 ?_
      refine q_iret dL_dueEntry_8 rfl (Or.inl rfl) ?_
      exact ⟨_, rfl, (Or.inl ⟨c1, rfl, hp⟩)⟩
    · exact nomatch hq
theorem g_L_writeWeek {Φ : q_Fx} {h : q_Hp} (K : q_Lk Φ h.R h.n) {W : q_W} {O : q_O} (C : q_clX h W O) {d : Int32} : q_CtH Φ yL_writeWeek cL_writeWeek [(0, 5, 6, 15)] mL_writeWeek [.ref 1, .int d] h (q_l1 h W O (¬ (nI 0 ≤ d ∧ d ≤ nI W.t)) (fun v h' => v = some (.int (nI 13)) ∧ ∃ ln, (∀ k, k < 13 → ln k = if k % 2 = 1 then nI 32 else nI (W.sgn (d.toNatClampNeg + k / 2))) ∧ q_mu h h' W (O.wrt ln) 200)) := by
  refine q_enterH K.st rfl rfl rfl rfl (Nat.le_of_ble_eq_true rfl) (L := [_, _, none]) rfl ?_
  refine q_aload_n dL_writeWeek_0 rfl ?_
  refine q_iload_n dL_writeWeek_1 rfl ?_
  refine q_callV (kc := 0) (ks := 0) (g_X9_writeWeek K C ) wX9_writeWeek kL_106 iX9_writeWeek eX9_writeWeek rfl rfl (by decide) (K.le (by decide)) (by decide) rfl rfl (Nat.le_of_ble_eq_true rfl) dL_writeWeek_2 (fun v' h' hq => ?_) (fun E' h' hq => ?_)
  · rcases hq with ⟨_, hq, _⟩ | ⟨n1, v, hq, hp⟩
    · exact nomatch hq
    cases hq
    have hp0 := hp
    obtain ⟨rfl, hp1⟩ := hp
    refine q_iret dL_writeWeek_5 rfl (Or.inl rfl) ?_
    exact ⟨_, rfl, (Or.inr ⟨n1, hp0⟩)⟩
  · rcases hq with ⟨c1, hq, hp⟩ | ⟨_, _, hq, _⟩
    · cases hq
      refine q_catchN (name := "java/lang/IllegalArgumentException") (pre := []) (suf := []) (x := { startPc := 0, endPc := 5, handlerPc := 6, catchType := 15 }) (L' := [_, _, none]) rfl (fun z hz => by cases hz) (by decide) (by decide) q_ldL15 (by decide) dL_writeWeek_6 rfl (by decide) rfl ?_
      refine q_ldc dL_writeWeek_7 kcL_17 ?_
      refine q_iret dL_writeWeek_9 rfl (Or.inl rfl) ?_
      exact ⟨_, rfl, (Or.inl ⟨c1, rfl, hp⟩)⟩
    · exact nomatch hq
theorem g_L_lineAt {Φ : q_Fx} {h : q_Hp} (K : q_Lk Φ h.R h.n) {W : q_W} {O : q_O} (C : q_clX h W O) {p : Int32} (hlc : ∀ j, j < O.ll → narrow .char (.int (O.ln j)) = .int (O.ln j)) : q_CtH Φ yL_lineAt cL_lineAt [(0, 5, 6, 68)] mL_lineAt [.ref 1, .int p] h (q_l1 h W O (p < 0 ∨ nI O.ll ≤ p) (fun v h' => v = some (.int (O.ln p.toNatClampNeg)) ∧ q_rd h h' W O)) := by
  refine q_enterH K.st rfl rfl rfl rfl (Nat.le_of_ble_eq_true rfl) (L := [_, _, none]) rfl ?_
  refine q_aload_n dL_lineAt_0 rfl ?_
  refine q_iload_n dL_lineAt_1 rfl ?_
  refine q_callV (kc := 0) (ks := 0) (g_X9_lineAt K C hlc) wX9_lineAt kL_109 iX9_lineAt eX9_lineAt rfl rfl (by decide) (K.le (by decide)) (by decide) rfl rfl (Nat.le_of_ble_eq_true rfl) dL_lineAt_2 (fun v' h' hq => ?_) (fun E' h' hq => ?_)
  · rcases hq with ⟨_, hq, _⟩ | ⟨n1, v, hq, hp⟩
    · exact nomatch hq
    cases hq
    have hp0 := hp
    obtain ⟨rfl, hp1⟩ := hp
    refine q_iret dL_lineAt_5 rfl (Or.inl rfl) ?_
    exact ⟨_, rfl, (Or.inr ⟨n1, hp0⟩)⟩
  · rcases hq with ⟨c1, hq, hp⟩ | ⟨_, _, hq, _⟩
    · cases hq
      refine q_catchN (name := "java/lang/IndexOutOfBoundsException") (pre := []) (suf := []) (x := { startPc := 0, endPc := 5, handlerPc := 6, catchType := 68 }) (L' := [_, _, none]) rfl (fun z hz => by cases hz) (by decide) (by decide) q_ldL68 (by decide) dL_lineAt_6 rfl (by decide) rfl ?_
      refine q_ldc dL_lineAt_7 kcL_17 ?_
      refine q_iret dL_lineAt_9 rfl (Or.inl rfl) ?_
      exact ⟨_, rfl, (Or.inl ⟨c1, rfl, hp⟩)⟩
    · exact nomatch hq
theorem g_L_undo {Φ : q_Fx} {h : q_Hp} (K : q_Lk Φ h.R h.n) {W : q_W} {O : q_O} (C : q_clX h W O) : q_CtH Φ yL_undo cL_undo [(0, 4, 5, 18)] mL_undo [.ref 1] h (q_l1 h W O (O.cn = 0) (fun v h' => v = some (.int (nI (O.cn - 1))) ∧ ∃ Y, q_eqv (O.OB ((O.nx + 6 - 1) % 6)) Y ∧ q_mu h h' Y O.back 0)) := by
  refine q_enterH K.st rfl rfl rfl rfl (Nat.le_of_ble_eq_true rfl) (L := [_, none]) rfl ?_
  refine q_aload_n dL_undo_0 rfl ?_
  refine q_callV (kc := 0) (ks := 0) (g_X9_undo K C ) wX9_undo kL_113 iX9_undo eX9_undo rfl rfl (by decide) (K.le (by decide)) (by decide) rfl rfl (Nat.le_of_ble_eq_true rfl) dL_undo_1 (fun v' h' hq => ?_) (fun E' h' hq => ?_)
  · rcases hq with ⟨_, hq, _⟩ | ⟨n1, v, hq, hp⟩
    · exact nomatch hq
    cases hq
    have hp0 := hp
    obtain ⟨rfl, hp1⟩ := hp
    refine q_iret dL_undo_4 rfl (Or.inl rfl) ?_
    exact ⟨_, rfl, (Or.inr ⟨n1, hp0⟩)⟩
  · rcases hq with ⟨c1, hq, hp⟩ | ⟨_, _, hq, _⟩
    · cases hq
      refine q_catchN (name := "java/lang/IllegalStateException") (pre := []) (suf := []) (x := { startPc := 0, endPc := 4, handlerPc := 5, catchType := 18 }) (L' := [_, none]) rfl (fun z hz => by cases hz) (by decide) (by decide) q_ldL18 (by decide) dL_undo_5 rfl (by decide) rfl ?_
      refine q_ldc dL_undo_6 kcL_17 ?_
      refine q_iret dL_undo_8 rfl (Or.inl rfl) ?_
      exact ⟨_, rfl, (Or.inl ⟨c1, rfl, hp⟩)⟩
    · exact nomatch hq
theorem g_L_restore {Φ : q_Fx} {h : q_Hp} (K : q_Lk Φ h.R h.n) {W : q_W} {O : q_O} (C : q_clX h W O) : q_CtH Φ yL_restore cL_restore [(0, 4, 5, 18)] mL_restore [.ref 1] h (q_l1 h W O (O.hs = 0) (fun v h' => v = some (.int (nI O.SW.c)) ∧ ∃ Y, q_eqv O.SW Y ∧ q_mu h h' Y O.rest 0)) := by
  refine q_enterH K.st rfl rfl rfl rfl (Nat.le_of_ble_eq_true rfl) (L := [_, none]) rfl ?_
  refine q_aload_n dL_restore_0 rfl ?_
  refine q_callV (kc := 0) (ks := 0) (g_X9_restore K C ) wX9_restore kL_116 iX9_restore eX9_restore rfl rfl (by decide) (K.le (by decide)) (by decide) rfl rfl (Nat.le_of_ble_eq_true rfl) dL_restore_1 (fun v' h' hq => ?_) (fun E' h' hq => ?_)
  · rcases hq with ⟨_, hq, _⟩ | ⟨n1, v, hq, hp⟩
    · exact nomatch hq
    cases hq
    have hp0 := hp
    obtain ⟨rfl, hp1⟩ := hp
    refine q_iret dL_restore_4 rfl (Or.inl rfl) ?_
    exact ⟨_, rfl, (Or.inr ⟨n1, hp0⟩)⟩
  · rcases hq with ⟨c1, hq, hp⟩ | ⟨_, _, hq, _⟩
    · cases hq
      refine q_catchN (name := "java/lang/IllegalStateException") (pre := []) (suf := []) (x := { startPc := 0, endPc := 4, handlerPc := 5, catchType := 18 }) (L' := [_, none]) rfl (fun z hz => by cases hz) (by decide) (by decide) q_ldL18 (by decide) dL_restore_5 rfl (by decide) rfl ?_
      refine q_ldc dL_restore_6 kcL_17 ?_
      refine q_iret dL_restore_8 rfl (Or.inl rfl) ?_
      exact ⟨_, rfl, (Or.inl ⟨c1, rfl, hp⟩)⟩
    · exact nomatch hq
theorem g_L_moveSession {Φ : q_Fx} {h : q_Hp} (K : q_Lk Φ h.R h.n) {W : q_W} {O : q_O} (C : q_clX h W O) {x d : Int32} : q_CtH Φ yL_moveSession cL_moveSession [(0, 6, 7, 28), (0, 6, 11, 15)] mL_moveSession [.ref 1, .int x, .int d] h (q_l2 h W O (W.no x) (¬ (nI 0 ≤ d ∧ d ≤ nI W.t)) (fun v h' => v = some (.int (nI (W.dy (W.σ (W.at_ x))))) ∧ ∃ Y r, q_eqv W Y ∧ q_ok0 Y ∧ q_sd (W.movS (W.σ (W.at_ x)) d.toNatClampNeg) (W.at_ x) r ∧ q_mu h h' ((W.movS (W.σ (W.at_ x)) d.toNatClampNeg).sσ (q_mv W.σ (W.at_ x) r)) (O.kept Y) (min (W.dy (W.σ (W.at_ x))) d.toNatClampNeg))) := by
  refine q_enterH K.st rfl rfl rfl rfl (Nat.le_of_ble_eq_true rfl) (L := [_, _, _, none]) rfl ?_
  refine q_aload_n dL_moveSession_0 rfl ?_
  refine q_iload_n dL_moveSession_1 rfl ?_
  refine q_iload_n dL_moveSession_2 rfl ?_
  refine q_callV (kc := 0) (ks := 0) (g_X9_moveSession K C ) wX9_moveSession kL_59 iX9_moveSession eX9_moveSession rfl rfl (by decide) (K.le (by decide)) (by decide) rfl rfl (Nat.le_of_ble_eq_true rfl) dL_moveSession_3 (fun v' h' hq => ?_) (fun E' h' hq => ?_)
  · rcases hq with ⟨_, hq, _⟩ | ⟨_, _, hq, _⟩ | ⟨n1, n2, v, hq, hp⟩
    · exact nomatch hq
    · exact nomatch hq
    cases hq
    have hp0 := hp
    obtain ⟨rfl, hp1⟩ := hp
    refine q_iret dL_moveSession_6 rfl (Or.inl rfl) ?_
    exact ⟨_, rfl, (Or.inr (Or.inr ⟨n1, n2, hp0⟩))⟩
  · rcases hq with ⟨c1, hq, hp⟩ | ⟨n1, c2, hq, hp⟩ | ⟨_, _, _, hq, _⟩
    · cases hq
      refine q_catchN (name := "java/util/NoSuchElementException") (pre := []) (suf := [{ startPc := 0, endPc := 6, handlerPc := 11, catchType := 15 }]) (x := { startPc := 0, endPc := 6, handlerPc := 7, catchType := 28 }) (L' := [_, _, _, none]) rfl (fun z hz => by cases hz) (by decide) (by decide) q_ldL28 (by decide) dL_moveSession_7 rfl (by decide) rfl ?_
      refine q_ldc dL_moveSession_8 kcL_17 ?_
      refine q_iret dL_moveSession_10 rfl (Or.inl rfl) ?_
      exact ⟨_, rfl, (Or.inl ⟨c1, rfl, hp⟩)⟩
    · cases hq
      refine q_catchN (name := "java/lang/IllegalArgumentException") (pre := [{ startPc := 0, endPc := 6, handlerPc := 7, catchType := 28 }]) (suf := []) (x := { startPc := 0, endPc := 6, handlerPc := 11, catchType := 15 }) (L' := [_, _, _, none]) rfl (fun z hz => by
        rcases List.mem_cons.mp hz with rfl | hz
        · exact ⟨by decide, _, q_ldL28, by decide⟩
        cases hz) (by decide) (by decide) q_ldL15 (by decide) dL_moveSession_11 rfl (by decide) rfl ?_
      refine q_ldc dL_moveSession_12 kcL_20 ?_
      refine q_iret dL_moveSession_14 rfl (Or.inl rfl) ?_
      exact ⟨_, rfl, (Or.inr (Or.inl ⟨n1, c2, rfl, hp⟩))⟩
    · exact nomatch hq
theorem g_L_removeSession {Φ : q_Fx} {h : q_Hp} (K : q_Lk Φ h.R h.n) {W : q_W} {O : q_O} (C : q_clX h W O) {x : Int32} : q_CtH Φ yL_removeSession cL_removeSession [(0, 5, 6, 28)] mL_removeSession [.ref 1, .int x] h (q_l1 h W O (W.no x) (fun v h' => v = some (.int (nI (W.c - 1))) ∧ ∃ Y, q_eqv W Y ∧ q_ok0 Y ∧ q_mu h h' ((W.sσ (q_mv W.σ (W.at_ x) (W.c - 1))).sc (W.c - 1)) (O.kept Y) (W.dy (W.σ (W.at_ x))))) := by
  refine q_enterH K.st rfl rfl rfl rfl (Nat.le_of_ble_eq_true rfl) (L := [_, _, none]) rfl ?_
  refine q_aload_n dL_removeSession_0 rfl ?_
  refine q_iload_n dL_removeSession_1 rfl ?_
  refine q_callV (kc := 0) (ks := 0) (g_X9_removeSession K C ) wX9_removeSession kL_62 iX9_removeSession eX9_removeSession rfl rfl (by decide) (K.le (by decide)) (by decide) rfl rfl (Nat.le_of_ble_eq_true rfl) dL_removeSession_2 (fun v' h' hq => ?_) (fun E' h' hq => ?_)
  · rcases hq with ⟨_, hq, _⟩ | ⟨n1, v, hq, hp⟩
    · exact nomatch hq
    cases hq
    have hp0 := hp
    obtain ⟨rfl, hp1⟩ := hp
    refine q_iret dL_removeSession_5 rfl (Or.inl rfl) ?_
    exact ⟨_, rfl, (Or.inr ⟨n1, hp0⟩)⟩
  · rcases hq with ⟨c1, hq, hp⟩ | ⟨_, _, hq, _⟩
    · cases hq
      refine q_catchN (name := "java/util/NoSuchElementException") (pre := []) (suf := []) (x := { startPc := 0, endPc := 5, handlerPc := 6, catchType := 28 }) (L' := [_, _, none]) rfl (fun z hz => by cases hz) (by decide) (by decide) q_ldL28 (by decide) dL_removeSession_6 rfl (by decide) rfl ?_
      refine q_ldc dL_removeSession_7 kcL_17 ?_
      refine q_iret dL_removeSession_9 rfl (Or.inl rfl) ?_
      exact ⟨_, rfl, (Or.inl ⟨c1, rfl, hp⟩)⟩
    · exact nomatch hq
theorem g_L_sessionAt {Φ : q_Fx} {h : q_Hp} (K : q_Lk Φ h.R h.n) {W : q_W} {O : q_O} (C : q_clX h W O) {p : Int32} : q_CtH Φ yL_sessionAt cL_sessionAt [(0, 5, 6, 68)] mL_sessionAt [.ref 1, .int p] h (q_l1 h W O (p < 0 ∨ nI W.c ≤ p) (fun v h' => v = some (.int (W.id (W.σ p.toNatClampNeg))) ∧ q_rd h h' W O)) := by
  refine q_enterH K.st rfl rfl rfl rfl (Nat.le_of_ble_eq_true rfl) (L := [_, _, none]) rfl ?_
  refine q_aload_n dL_sessionAt_0 rfl ?_
  refine q_iload_n dL_sessionAt_1 rfl ?_
  refine q_callV (kc := 0) (ks := 0) (g_X9_sessionAt K C ) wX9_sessionAt kL_65 iX9_sessionAt eX9_sessionAt rfl rfl (by decide) (K.le (by decide)) (by decide) rfl rfl (Nat.le_of_ble_eq_true rfl) dL_sessionAt_2 (fun v' h' hq => ?_) (fun E' h' hq => ?_)
  · rcases hq with ⟨_, hq, _⟩ | ⟨n1, v, hq, hp⟩
    · exact nomatch hq
    cases hq
    have hp0 := hp
    obtain ⟨rfl, hp1⟩ := hp
    refine q_iret dL_sessionAt_5 rfl (Or.inl rfl) ?_
    exact ⟨_, rfl, (Or.inr ⟨n1, hp0⟩)⟩
  · rcases hq with ⟨c1, hq, hp⟩ | ⟨_, _, hq, _⟩
    · cases hq
      refine q_catchN (name := "java/lang/IndexOutOfBoundsException") (pre := []) (suf := []) (x := { startPc := 0, endPc := 5, handlerPc := 6, catchType := 68 }) (L' := [_, _, none]) rfl (fun z hz => by cases hz) (by decide) (by decide) q_ldL68 (by decide) dL_sessionAt_6 rfl (by decide) rfl ?_
      refine q_ldc dL_sessionAt_7 kcL_17 ?_
      refine q_iret dL_sessionAt_9 rfl (Or.inl rfl) ?_
      exact ⟨_, rfl, (Or.inl ⟨c1, rfl, hp⟩)⟩
    · exact nomatch hq
theorem g_L_planEnd {Φ : q_Fx} {h : q_Hp} (K : q_Lk Φ h.R h.n) {W : q_W} {O : q_O} (C : q_clX h W O) : q_CtH Φ yL_planEnd cL_planEnd [(0, 4, 5, 28)] mL_planEnd [.ref 1] h (q_l1 h W O (W.pc ≤ W.due) (fun v h' => v = some (.int (nI W.t + ((nI W.pc - nI 1) - nI W.due))) ∧ q_rd h h' W O)) := by
  refine q_enterH K.st rfl rfl rfl rfl (Nat.le_of_ble_eq_true rfl) (L := [_, none]) rfl ?_
  refine q_aload_n dL_planEnd_0 rfl ?_
  refine q_callV (kc := 0) (ks := 0) (g_X9_planEnd K C ) wX9_planEnd kL_103 iX9_planEnd eX9_planEnd rfl rfl (by decide) (K.le (by decide)) (by decide) rfl rfl (Nat.le_of_ble_eq_true rfl) dL_planEnd_1 (fun v' h' hq => ?_) (fun E' h' hq => ?_)
  · rcases hq with ⟨_, hq, _⟩ | ⟨n1, v, hq, hp⟩
    · exact nomatch hq
    cases hq
    have hp0 := hp
    obtain ⟨rfl, hp1⟩ := hp
    refine q_iret dL_planEnd_4 rfl (Or.inl rfl) ?_
    exact ⟨_, rfl, (Or.inr ⟨n1, hp0⟩)⟩
  · rcases hq with ⟨c1, hq, hp⟩ | ⟨_, _, hq, _⟩
    · cases hq
      refine q_catchN (name := "java/util/NoSuchElementException") (pre := []) (suf := []) (x := { startPc := 0, endPc := 4, handlerPc := 5, catchType := 28 }) (L' := [_, none]) rfl (fun z hz => by cases hz) (by decide) (by decide) q_ldL28 (by decide) dL_planEnd_5 rfl (by decide) rfl ?_
      refine q_ldc dL_planEnd_6 kcL_17 ?_
      refine q_iret dL_planEnd_8 rfl (Or.inl rfl) ?_
      exact ⟨_, rfl, (Or.inl ⟨c1, rfl, hp⟩)⟩
    · exact nomatch hq
