/-! THE WRAPPERS -/
theorem q_f2n {a : UInt32} (h : FP.Core.fIsNaN a = false) : vf_n64 (FP.f2d a) := by
  unfold FP.f2d
  rw [if_neg (by rw [h]; decide)]
  exact q_n64 (FP.Core.f2d_out h)
def mL_pass : q_M := (4, some .int, false, tableOf [(0, 9, 12, 13), (0, 9, 15, 15)], { frames := 8, cells := 2, slots := 12, locals := 146 })
theorem g_L_pass {Φ : q_Fx} {h : q_Hp} (K : q_Lk Φ h.R h.n) {W : q_W} {O : q_O} (C : q_clX h W O) {x : Int32} : q_CtH Φ yL_pass cL_pass [(0, 9, 12, 13), (0, 9, 15, 15)] mL_pass [.ref 1, .int x, .ref 1074] h (q_l2 h W O (¬ (nI 1 ≤ x ∧ x ≤ nI 30)) (nI 200 ≤ nI W.t + x) (fun v h' => v = some (.int (nI (W.t + x.toNatClampNeg))) ∧ ∃ Y, q_eqv W Y ∧ q_ok0 Y ∧ q_mu h h' (W.sA (W.t + x.toNatClampNeg)) (O.kept Y) 200)) := by
  refine q_enterH K.st rfl rfl rfl rfl (Nat.le_of_ble_eq_true rfl) (L := [_, _, _, none]) rfl ?_
  refine q_aload_n dL_pass_0 rfl ?_
  refine q_iconst (v := nI 0) dL_pass_1 (by decide) ?_
  refine q_aload_n dL_pass_2 rfl ?_
  refine q_iload_n dL_pass_3 rfl ?_
  refine q_callV (kc := 0) (ks := 0) (g_X9_pass K C ) wX9_pass kL_7 iX9_pass eX9_pass rfl rfl (by decide) (K.le (by decide)) (by decide) rfl rfl (Nat.le_of_ble_eq_true rfl) dL_pass_4 (fun v' h' hq => ?_) (fun E' h' hq => ?_)
  · rcases hq with ⟨_, hq, _⟩ | ⟨_, _, hq, _⟩ | ⟨n1, n2, v, hq, hp⟩
    · exact nomatch hq
    · exact nomatch hq
    cases hq
    have hp0 := hp
    obtain ⟨rfl, hp1⟩ := hp
    obtain ⟨Y, y1, y2, hm⟩ := hp1
    have hn9 : h'.n = h.n := (hm.2.1).2.2.2.2
    refine q_i2l dL_pass_7 ?_
    refine q_last (i := nI 0) rfl dL_pass_8 (by decide) (by rw [hn9]; exact K.le (by decide)) (vp_in_nI (n := 0) (N := 1) (by decide) (by decide)) ?_
    refine q_goto (tgt := 18) dL_pass_9 rfl ?_
    refine q_iconst (v := nI 0) dL_pass_18 (by decide) ?_
    refine q_iret dL_pass_19 rfl (Or.inl rfl) ?_
    exact ⟨0, rfl, (Or.inr (Or.inr ⟨n1, n2, rfl, _, h', hp0, rfl⟩))⟩
  · rcases hq with ⟨c1, hq, hp⟩ | ⟨n1, c2, hq, hp⟩ | ⟨_, _, _, hq, _⟩
    · cases hq
      refine q_catchN (name := "java/lang/IllegalArgumentException") (pre := []) (suf := [{ startPc := 0, endPc := 9, handlerPc := 15, catchType := 15 }]) (x := { startPc := 0, endPc := 9, handlerPc := 12, catchType := 13 }) (L' := [_, _, _, none]) rfl (fun z hz => by cases hz) (by decide) (by decide) q_ldL13 (by decide) dL_pass_12 rfl (by decide) rfl ?_
      refine q_iconst (v := nI 1) dL_pass_13 (by decide) ?_
      refine q_iret dL_pass_14 rfl (Or.inl rfl) ?_
      exact ⟨1, rfl, (Or.inl ⟨c1, rfl, hp⟩)⟩
    · cases hq
      refine q_catchN (name := "java/lang/IllegalStateException") (pre := [{ startPc := 0, endPc := 9, handlerPc := 12, catchType := 13 }]) (suf := []) (x := { startPc := 0, endPc := 9, handlerPc := 15, catchType := 15 }) (L' := [_, _, _, none]) rfl (fun z hz => by
        rcases List.mem_cons.mp hz with rfl | hz
        · exact ⟨by decide, _, q_ldL13, by decide⟩
        cases hz) (by decide) (by decide) q_ldL15 (by decide) dL_pass_15 rfl (by decide) rfl ?_
      refine q_iconst (v := nI 2) dL_pass_16 (by decide) ?_
      refine q_iret dL_pass_17 rfl (Or.inl rfl) ?_
      exact ⟨2, rfl, (Or.inr (Or.inl ⟨n1, c2, rfl, hp⟩))⟩
    · exact nomatch hq
def mL_addTest : q_M := (5, some .int, false, tableOf [(0, 10, 13, 13), (0, 10, 17, 15)], { frames := 9, cells := 3, slots := 18, locals := 158 })
theorem g_L_addTest {Φ : q_Fx} {h : q_Hp} (K : q_Lk Φ h.R h.n) {W : q_W} {O : q_O} (C : q_clX h W O) {d x : Int32} : q_CtH Φ yL_addTest cL_addTest [(0, 10, 13, 13), (0, 10, 17, 15)] mL_addTest [.ref 1, .int d, .int x, .ref 1074] h (q_l2 h W O (¬ (nI 0 ≤ d ∧ d ≤ nI W.t) ∨ ¬ (nI 50 ≤ x ∧ x ≤ nI 400)) (W.n = 10 ∨ 0 ≤ q_ps (fun i => decide (W.d i = d)) W.n) (fun v h' => v = some (.int (nI (q_cn (fun i => decide ((W.sT (W.n + 1) (va_up W.d W.n d) (va_up W.v W.n x)).ld (W.σ i) ≠ W.ld (W.σ i))) W.c))) ∧ ∃ Y, q_eqv W Y ∧ q_ok0 Y ∧ q_mu h h' (W.sT (W.n + 1) (va_up W.d W.n d) (va_up W.v W.n x)) (O.kept Y) d.toNatClampNeg)) := by
  refine q_enterH K.st rfl rfl rfl rfl (Nat.le_of_ble_eq_true rfl) (L := [_, _, _, _, none]) rfl ?_
  refine q_aload_n dL_addTest_0 rfl ?_
  refine q_iconst (v := nI 0) dL_addTest_1 (by decide) ?_
  refine q_aload_n dL_addTest_2 rfl ?_
  refine q_iload_n dL_addTest_3 rfl ?_
  refine q_iload_n dL_addTest_4 rfl ?_
  refine q_callV (kc := 0) (ks := 0) (g_X9_addTest K C ) wX9_addTest kL_17 iX9_addTest eX9_addTest rfl rfl (by decide) (K.le (by decide)) (by decide) rfl rfl (Nat.le_of_ble_eq_true rfl) dL_addTest_5 (fun v' h' hq => ?_) (fun E' h' hq => ?_)
  · rcases hq with ⟨_, hq, _⟩ | ⟨_, _, hq, _⟩ | ⟨n1, n2, v, hq, hp⟩
    · exact nomatch hq
    · exact nomatch hq
    cases hq
    have hp0 := hp
    obtain ⟨rfl, hp1⟩ := hp
    obtain ⟨Y, y1, y2, hm⟩ := hp1
    have hn9 : h'.n = h.n := (hm.2.1).2.2.2.2
    refine q_i2l dL_addTest_8 ?_
    refine q_last (i := nI 0) rfl dL_addTest_9 (by decide) (by rw [hn9]; exact K.le (by decide)) (vp_in_nI (n := 0) (N := 1) (by decide) (by decide)) ?_
    refine q_goto (tgt := 21) dL_addTest_10 rfl ?_
    refine q_iconst (v := nI 0) dL_addTest_21 (by decide) ?_
    refine q_iret dL_addTest_22 rfl (Or.inl rfl) ?_
    exact ⟨0, rfl, (Or.inr (Or.inr ⟨n1, n2, rfl, _, h', hp0, rfl⟩))⟩
  · rcases hq with ⟨c1, hq, hp⟩ | ⟨n1, c2, hq, hp⟩ | ⟨_, _, _, hq, _⟩
    · cases hq
      refine q_catch (name := "java/lang/IllegalArgumentException") (pre := []) (suf := [{ startPc := 0, endPc := 10, handlerPc := 17, catchType := 15 }]) (x := { startPc := 0, endPc := 10, handlerPc := 13, catchType := 13 }) (L' := [_, _, _, _, none]) rfl (fun z hz => by cases hz) (by decide) (by decide) q_ldL13 (by decide) dL_addTest_13 rfl (by decide) rfl ?_
      refine q_iconst (v := nI 1) dL_addTest_15 (by decide) ?_
      refine q_iret dL_addTest_16 rfl (Or.inl rfl) ?_
      exact ⟨1, rfl, (Or.inl ⟨c1, rfl, hp⟩)⟩
    · cases hq
      refine q_catch (name := "java/lang/IllegalStateException") (pre := [{ startPc := 0, endPc := 10, handlerPc := 13, catchType := 13 }]) (suf := []) (x := { startPc := 0, endPc := 10, handlerPc := 17, catchType := 15 }) (L' := [_, _, _, _, none]) rfl (fun z hz => by
        rcases List.mem_cons.mp hz with rfl | hz
        · exact ⟨by decide, _, q_ldL13, by decide⟩
        cases hz) (by decide) (by decide) q_ldL15 (by decide) dL_addTest_17 rfl (by decide) rfl ?_
      refine q_iconst (v := nI 2) dL_addTest_19 (by decide) ?_
      refine q_iret dL_addTest_20 rfl (Or.inl rfl) ?_
      exact ⟨2, rfl, (Or.inr (Or.inl ⟨n1, c2, rfl, hp⟩))⟩
    · exact nomatch hq
def mL_removeTest : q_M := (4, some .int, false, tableOf [(0, 9, 12, 24)], { frames := 7, cells := 1, slots := 6, locals := 148 })
theorem g_L_removeTest {Φ : q_Fx} {h : q_Hp} (K : q_Lk Φ h.R h.n) {W : q_W} {O : q_O} (C : q_clX h W O) (htd : q_td W) {x : Int32} : q_CtH Φ yL_removeTest cL_removeTest [(0, 9, 12, 24)] mL_removeTest [.ref 1, .int x, .ref 1074] h (q_l1 h W O (q_ps (fun i => decide (W.d i = x)) W.n < 0) (fun v h' => v = some (.int (W.v (q_ps (fun i => decide (W.d i = x)) W.n).toNatClampNeg)) ∧ ∃ Y, q_eqv W Y ∧ q_ok0 Y ∧ q_mu h h' (W.sT (W.n - 1) (va_up W.d (q_ps (fun i => decide (W.d i = x)) W.n).toNatClampNeg (W.d (W.n - 1))) (va_up W.v (q_ps (fun i => decide (W.d i = x)) W.n).toNatClampNeg (W.v (W.n - 1)))) (O.kept Y) x.toNatClampNeg)) := by
  refine q_enterH K.st rfl rfl rfl rfl (Nat.le_of_ble_eq_true rfl) (L := [_, _, _, none]) rfl ?_
  refine q_aload_n dL_removeTest_0 rfl ?_
  refine q_iconst (v := nI 0) dL_removeTest_1 (by decide) ?_
  refine q_aload_n dL_removeTest_2 rfl ?_
  refine q_iload_n dL_removeTest_3 rfl ?_
  refine q_callV (kc := 0) (ks := 0) (g_X9_removeTest K C htd) wX9_removeTest kL_21 iX9_removeTest eX9_removeTest rfl rfl (by decide) (K.le (by decide)) (by decide) rfl rfl (Nat.le_of_ble_eq_true rfl) dL_removeTest_4 (fun v' h' hq => ?_) (fun E' h' hq => ?_)
  · rcases hq with ⟨_, hq, _⟩ | ⟨n1, v, hq, hp⟩
    · exact nomatch hq
    cases hq
    have hp0 := hp
    obtain ⟨rfl, hp1⟩ := hp
    obtain ⟨Y, y1, y2, hm⟩ := hp1
    have hn9 : h'.n = h.n := (hm.2.1).2.2.2.2
    refine q_i2l dL_removeTest_7 ?_
    refine q_last (i := nI 0) rfl dL_removeTest_8 (by decide) (by rw [hn9]; exact K.le (by decide)) (vp_in_nI (n := 0) (N := 1) (by decide) (by decide)) ?_
    refine q_goto (tgt := 15) dL_removeTest_9 rfl ?_
    refine q_iconst (v := nI 0) dL_removeTest_15 (by decide) ?_
    refine q_iret dL_removeTest_16 rfl (Or.inl rfl) ?_
    exact ⟨0, rfl, (Or.inr ⟨n1, rfl, _, h', hp0, rfl⟩)⟩
  · rcases hq with ⟨c1, hq, hp⟩ | ⟨_, _, hq, _⟩
    · cases hq
      refine q_catchN (name := "java/util/NoSuchElementException") (pre := []) (suf := []) (x := { startPc := 0, endPc := 9, handlerPc := 12, catchType := 24 }) (L' := [_, _, _, none]) rfl (fun z hz => by cases hz) (by decide) (by decide) q_ldL24 (by decide) dL_removeTest_12 rfl (by decide) rfl ?_
      refine q_iconst (v := nI 1) dL_removeTest_13 (by decide) ?_
      refine q_iret dL_removeTest_14 rfl (Or.inl rfl) ?_
      exact ⟨1, rfl, (Or.inl ⟨c1, rfl, hp⟩)⟩
    · exact nomatch hq
def mL_thresholdOn : q_M := (4, some .int, false, tableOf [(0, 9, 12, 13)], { frames := 8, cells := 1, slots := 6, locals := 135 })
theorem g_L_thresholdOn {Φ : q_Fx} {h : q_Hp} (K : q_Lk Φ h.R h.n) {W : q_W} {O : q_O} (C : q_clX h W O) {d : Int32} : q_CtH Φ yL_thresholdOn cL_thresholdOn [(0, 9, 12, 13)] mL_thresholdOn [.ref 1, .int d, .ref 1074] h (q_l1 h W O (¬ (nI 0 ≤ d ∧ d ≤ nI 199)) (fun v h' => v = some (.int (W.th d)) ∧ q_rd h h' W O)) := by
  refine q_enterH K.st rfl rfl rfl rfl (Nat.le_of_ble_eq_true rfl) (L := [_, _, _, none]) rfl ?_
  refine q_aload_n dL_thresholdOn_0 rfl ?_
  refine q_iconst (v := nI 0) dL_thresholdOn_1 (by decide) ?_
  refine q_aload_n dL_thresholdOn_2 rfl ?_
  refine q_iload_n dL_thresholdOn_3 rfl ?_
  refine q_callV (kc := 0) (ks := 0) (g_X9_thresholdOn K C ) wX9_thresholdOn kL_26 iX9_thresholdOn eX9_thresholdOn rfl rfl (by decide) (K.le (by decide)) (by decide) rfl rfl (Nat.le_of_ble_eq_true rfl) dL_thresholdOn_4 (fun v' h' hq => ?_) (fun E' h' hq => ?_)
  · rcases hq with ⟨_, hq, _⟩ | ⟨n1, v, hq, hp⟩
    · exact nomatch hq
    cases hq
    have hp0 := hp
    obtain ⟨rfl, hp1⟩ := hp
    have hm := hp1
    have hn9 : h'.n = h.n := (hm.2).2.2.2.2
    refine q_i2l dL_thresholdOn_7 ?_
    refine q_last (i := nI 0) rfl dL_thresholdOn_8 (by decide) (by rw [hn9]; exact K.le (by decide)) (vp_in_nI (n := 0) (N := 1) (by decide) (by decide)) ?_
    refine q_goto (tgt := 15) dL_thresholdOn_9 rfl ?_
    refine q_iconst (v := nI 0) dL_thresholdOn_15 (by decide) ?_
    refine q_iret dL_thresholdOn_16 rfl (Or.inl rfl) ?_
    exact ⟨0, rfl, (Or.inr ⟨n1, rfl, _, h', hp0, rfl⟩)⟩
  · rcases hq with ⟨c1, hq, hp⟩ | ⟨_, _, hq, _⟩
    · cases hq
      refine q_catchN (name := "java/lang/IllegalArgumentException") (pre := []) (suf := []) (x := { startPc := 0, endPc := 9, handlerPc := 12, catchType := 13 }) (L' := [_, _, _, none]) rfl (fun z hz => by cases hz) (by decide) (by decide) q_ldL13 (by decide) dL_thresholdOn_12 rfl (by decide) rfl ?_
      refine q_iconst (v := nI 1) dL_thresholdOn_13 (by decide) ?_
      refine q_iret dL_thresholdOn_14 rfl (Or.inl rfl) ?_
      exact ⟨1, rfl, (Or.inl ⟨c1, rfl, hp⟩)⟩
    · exact nomatch hq
def mL_setBound : q_M := (5, some .int, false, tableOf [(0, 10, 13, 13), (0, 10, 17, 15)], { frames := 8, cells := 3, slots := 18, locals := 148 })
theorem g_L_setBound {Φ : q_Fx} {h : q_Hp} (K : q_Lk Φ h.R h.n) {W : q_W} {O : q_O} (C : q_clX h W O) {z x : Int32} : q_CtH Φ yL_setBound cL_setBound [(0, 10, 13, 13), (0, 10, 17, 15)] mL_setBound [.ref 1, .int z, .int x, .ref 1074] h (q_l2 h W O (¬ (nI 2 ≤ z ∧ z ≤ nI 5) ∨ ¬ (nI 1 ≤ x ∧ x ≤ nI 300)) (¬ ((z.toNatClampNeg = 2 ∨ W.bd (z.toNatClampNeg - 1) < x) ∧ (z.toNatClampNeg = 5 ∨ x < W.bd (z.toNatClampNeg + 1)))) (fun v h' => v = some (.int (W.bd z.toNatClampNeg)) ∧ ∃ Y, q_eqv W Y ∧ q_ok0 Y ∧ q_mu h h' (W.sZ (va_up W.bd z.toNatClampNeg x) W.wt) (O.kept Y) 0)) := by
  refine q_enterH K.st rfl rfl rfl rfl (Nat.le_of_ble_eq_true rfl) (L := [_, _, _, _, none]) rfl ?_
  refine q_aload_n dL_setBound_0 rfl ?_
  refine q_iconst (v := nI 0) dL_setBound_1 (by decide) ?_
  refine q_aload_n dL_setBound_2 rfl ?_
  refine q_iload_n dL_setBound_3 rfl ?_
  refine q_iload_n dL_setBound_4 rfl ?_
  refine q_callV (kc := 0) (ks := 0) (g_X9_setBound K C ) wX9_setBound kL_29 iX9_setBound eX9_setBound rfl rfl (by decide) (K.le (by decide)) (by decide) rfl rfl (Nat.le_of_ble_eq_true rfl) dL_setBound_5 (fun v' h' hq => ?_) (fun E' h' hq => ?_)
  · rcases hq with ⟨_, hq, _⟩ | ⟨_, _, hq, _⟩ | ⟨n1, n2, v, hq, hp⟩
    · exact nomatch hq
    · exact nomatch hq
    cases hq
    have hp0 := hp
    obtain ⟨rfl, hp1⟩ := hp
    obtain ⟨Y, y1, y2, hm⟩ := hp1
    have hn9 : h'.n = h.n := (hm.2.1).2.2.2.2
    refine q_i2l dL_setBound_8 ?_
    refine q_last (i := nI 0) rfl dL_setBound_9 (by decide) (by rw [hn9]; exact K.le (by decide)) (vp_in_nI (n := 0) (N := 1) (by decide) (by decide)) ?_
    refine q_goto (tgt := 21) dL_setBound_10 rfl ?_
    refine q_iconst (v := nI 0) dL_setBound_21 (by decide) ?_
    refine q_iret dL_setBound_22 rfl (Or.inl rfl) ?_
    exact ⟨0, rfl, (Or.inr (Or.inr ⟨n1, n2, rfl, _, h', hp0, rfl⟩))⟩
  · rcases hq with ⟨c1, hq, hp⟩ | ⟨n1, c2, hq, hp⟩ | ⟨_, _, _, hq, _⟩
    · cases hq
      refine q_catch (name := "java/lang/IllegalArgumentException") (pre := []) (suf := [{ startPc := 0, endPc := 10, handlerPc := 17, catchType := 15 }]) (x := { startPc := 0, endPc := 10, handlerPc := 13, catchType := 13 }) (L' := [_, _, _, _, none]) rfl (fun z hz => by cases hz) (by decide) (by decide) q_ldL13 (by decide) dL_setBound_13 rfl (by decide) rfl ?_
      refine q_iconst (v := nI 1) dL_setBound_15 (by decide) ?_
      refine q_iret dL_setBound_16 rfl (Or.inl rfl) ?_
      exact ⟨1, rfl, (Or.inl ⟨c1, rfl, hp⟩)⟩
    · cases hq
      refine q_catch (name := "java/lang/IllegalStateException") (pre := [{ startPc := 0, endPc := 10, handlerPc := 13, catchType := 13 }]) (suf := []) (x := { startPc := 0, endPc := 10, handlerPc := 17, catchType := 15 }) (L' := [_, _, _, _, none]) rfl (fun z hz => by
        rcases List.mem_cons.mp hz with rfl | hz
        · exact ⟨by decide, _, q_ldL13, by decide⟩
        cases hz) (by decide) (by decide) q_ldL15 (by decide) dL_setBound_17 rfl (by decide) rfl ?_
      refine q_iconst (v := nI 2) dL_setBound_19 (by decide) ?_
      refine q_iret dL_setBound_20 rfl (Or.inl rfl) ?_
      exact ⟨2, rfl, (Or.inr (Or.inl ⟨n1, c2, rfl, hp⟩))⟩
    · exact nomatch hq
def mL_boundOf : q_M := (4, some .int, false, tableOf [(0, 9, 12, 13)], { frames := 8, cells := 1, slots := 6, locals := 135 })
theorem g_L_boundOf {Φ : q_Fx} {h : q_Hp} (K : q_Lk Φ h.R h.n) {W : q_W} {O : q_O} (C : q_clX h W O) {z : Int32} : q_CtH Φ yL_boundOf cL_boundOf [(0, 9, 12, 13)] mL_boundOf [.ref 1, .int z, .ref 1074] h (q_l1 h W O (¬ (nI 2 ≤ z ∧ z ≤ nI 5)) (fun v h' => v = some (.int (W.bd z.toNatClampNeg)) ∧ q_rd h h' W O)) := by
  refine q_enterH K.st rfl rfl rfl rfl (Nat.le_of_ble_eq_true rfl) (L := [_, _, _, none]) rfl ?_
  refine q_aload_n dL_boundOf_0 rfl ?_
  refine q_iconst (v := nI 0) dL_boundOf_1 (by decide) ?_
  refine q_aload_n dL_boundOf_2 rfl ?_
  refine q_iload_n dL_boundOf_3 rfl ?_
  refine q_callV (kc := 0) (ks := 0) (g_X9_boundOf K C ) wX9_boundOf kL_32 iX9_boundOf eX9_boundOf rfl rfl (by decide) (K.le (by decide)) (by decide) rfl rfl (Nat.le_of_ble_eq_true rfl) dL_boundOf_4 (fun v' h' hq => ?_) (fun E' h' hq => ?_)
  · rcases hq with ⟨_, hq, _⟩ | ⟨n1, v, hq, hp⟩
    · exact nomatch hq
    cases hq
    have hp0 := hp
    obtain ⟨rfl, hp1⟩ := hp
    have hm := hp1
    have hn9 : h'.n = h.n := (hm.2).2.2.2.2
    refine q_i2l dL_boundOf_7 ?_
    refine q_last (i := nI 0) rfl dL_boundOf_8 (by decide) (by rw [hn9]; exact K.le (by decide)) (vp_in_nI (n := 0) (N := 1) (by decide) (by decide)) ?_
    refine q_goto (tgt := 15) dL_boundOf_9 rfl ?_
    refine q_iconst (v := nI 0) dL_boundOf_15 (by decide) ?_
    refine q_iret dL_boundOf_16 rfl (Or.inl rfl) ?_
    exact ⟨0, rfl, (Or.inr ⟨n1, rfl, _, h', hp0, rfl⟩)⟩
  · rcases hq with ⟨c1, hq, hp⟩ | ⟨_, _, hq, _⟩
    · cases hq
      refine q_catchN (name := "java/lang/IllegalArgumentException") (pre := []) (suf := []) (x := { startPc := 0, endPc := 9, handlerPc := 12, catchType := 13 }) (L' := [_, _, _, none]) rfl (fun z hz => by cases hz) (by decide) (by decide) q_ldL13 (by decide) dL_boundOf_12 rfl (by decide) rfl ?_
      refine q_iconst (v := nI 1) dL_boundOf_13 (by decide) ?_
      refine q_iret dL_boundOf_14 rfl (Or.inl rfl) ?_
      exact ⟨1, rfl, (Or.inl ⟨c1, rfl, hp⟩)⟩
    · exact nomatch hq
def mL_setWeight : q_M := (5, some .int, false, tableOf [(0, 10, 13, 13)], { frames := 9, cells := 2, slots := 12, locals := 157 })
theorem g_L_setWeight {Φ : q_Fx} {h : q_Hp} (K : q_Lk Φ h.R h.n) {W : q_W} {O : q_O} (C : q_clX h W O) {z x : Int32} : q_CtH Φ yL_setWeight cL_setWeight [(0, 10, 13, 13)] mL_setWeight [.ref 1, .int z, .int x, .ref 1074] h (q_l1 h W O (¬ (nI 1 ≤ z ∧ z ≤ nI 5) ∨ ¬ (nI 0 ≤ x ∧ x ≤ nI 100)) (fun v h' => v = some (.int (W.wt z.toNatClampNeg)) ∧ ∃ Y, q_eqv W Y ∧ q_ok0 Y ∧ q_mu h h' (W.sZ W.bd (va_up W.wt z.toNatClampNeg x)) (O.kept Y) 0)) := by
  refine q_enterH K.st rfl rfl rfl rfl (Nat.le_of_ble_eq_true rfl) (L := [_, _, _, _, none]) rfl ?_
  refine q_aload_n dL_setWeight_0 rfl ?_
  refine q_iconst (v := nI 0) dL_setWeight_1 (by decide) ?_
  refine q_aload_n dL_setWeight_2 rfl ?_
  refine q_iload_n dL_setWeight_3 rfl ?_
  refine q_iload_n dL_setWeight_4 rfl ?_
  refine q_callV (kc := 0) (ks := 0) (g_X9_setWeight K C ) wX9_setWeight kL_35 iX9_setWeight eX9_setWeight rfl rfl (by decide) (K.le (by decide)) (by decide) rfl rfl (Nat.le_of_ble_eq_true rfl) dL_setWeight_5 (fun v' h' hq => ?_) (fun E' h' hq => ?_)
  · rcases hq with ⟨_, hq, _⟩ | ⟨n1, v, hq, hp⟩
    · exact nomatch hq
    cases hq
    have hp0 := hp
    obtain ⟨rfl, hp1⟩ := hp
    obtain ⟨Y, y1, y2, hm⟩ := hp1
    have hn9 : h'.n = h.n := (hm.2.1).2.2.2.2
    refine q_i2l dL_setWeight_8 ?_
    refine q_last (i := nI 0) rfl dL_setWeight_9 (by decide) (by rw [hn9]; exact K.le (by decide)) (vp_in_nI (n := 0) (N := 1) (by decide) (by decide)) ?_
    refine q_goto (tgt := 17) dL_setWeight_10 rfl ?_
    refine q_iconst (v := nI 0) dL_setWeight_17 (by decide) ?_
    refine q_iret dL_setWeight_18 rfl (Or.inl rfl) ?_
    exact ⟨0, rfl, (Or.inr ⟨n1, rfl, _, h', hp0, rfl⟩)⟩
  · rcases hq with ⟨c1, hq, hp⟩ | ⟨_, _, hq, _⟩
    · cases hq
      refine q_catch (name := "java/lang/IllegalArgumentException") (pre := []) (suf := []) (x := { startPc := 0, endPc := 10, handlerPc := 13, catchType := 13 }) (L' := [_, _, _, _, none]) rfl (fun z hz => by cases hz) (by decide) (by decide) q_ldL13 (by decide) dL_setWeight_13 rfl (by decide) rfl ?_
      refine q_iconst (v := nI 1) dL_setWeight_15 (by decide) ?_
      refine q_iret dL_setWeight_16 rfl (Or.inl rfl) ?_
      exact ⟨1, rfl, (Or.inl ⟨c1, rfl, hp⟩)⟩
    · exact nomatch hq
def mL_weightOf : q_M := (4, some .int, false, tableOf [(0, 9, 12, 13)], { frames := 9, cells := 1, slots := 6, locals := 155 })
theorem g_L_weightOf {Φ : q_Fx} {h : q_Hp} (K : q_Lk Φ h.R h.n) {W : q_W} {O : q_O} (C : q_clX h W O) {z : Int32} : q_CtH Φ yL_weightOf cL_weightOf [(0, 9, 12, 13)] mL_weightOf [.ref 1, .int z, .ref 1074] h (q_l1 h W O (¬ (nI 1 ≤ z ∧ z ≤ nI 5)) (fun v h' => v = some (.int (W.wt z.toNatClampNeg)) ∧ q_rd h h' W O)) := by
  refine q_enterH K.st rfl rfl rfl rfl (Nat.le_of_ble_eq_true rfl) (L := [_, _, _, none]) rfl ?_
  refine q_aload_n dL_weightOf_0 rfl ?_
  refine q_iconst (v := nI 0) dL_weightOf_1 (by decide) ?_
  refine q_aload_n dL_weightOf_2 rfl ?_
  refine q_iload_n dL_weightOf_3 rfl ?_
  refine q_callV (kc := 0) (ks := 0) (g_X9_weightOf K C ) wX9_weightOf kL_38 iX9_weightOf eX9_weightOf rfl rfl (by decide) (K.le (by decide)) (by decide) rfl rfl (Nat.le_of_ble_eq_true rfl) dL_weightOf_4 (fun v' h' hq => ?_) (fun E' h' hq => ?_)
  · rcases hq with ⟨_, hq, _⟩ | ⟨n1, v, hq, hp⟩
    · exact nomatch hq
    cases hq
    have hp0 := hp
    obtain ⟨rfl, hp1⟩ := hp
    have hm := hp1
    have hn9 : h'.n = h.n := (hm.2).2.2.2.2
    refine q_i2l dL_weightOf_7 ?_
    refine q_last (i := nI 0) rfl dL_weightOf_8 (by decide) (by rw [hn9]; exact K.le (by decide)) (vp_in_nI (n := 0) (N := 1) (by decide) (by decide)) ?_
    refine q_goto (tgt := 15) dL_weightOf_9 rfl ?_
    refine q_iconst (v := nI 0) dL_weightOf_15 (by decide) ?_
    refine q_iret dL_weightOf_16 rfl (Or.inl rfl) ?_
    exact ⟨0, rfl, (Or.inr ⟨n1, rfl, _, h', hp0, rfl⟩)⟩
  · rcases hq with ⟨c1, hq, hp⟩ | ⟨_, _, hq, _⟩
    · cases hq
      refine q_catchN (name := "java/lang/IllegalArgumentException") (pre := []) (suf := []) (x := { startPc := 0, endPc := 9, handlerPc := 12, catchType := 13 }) (L' := [_, _, _, none]) rfl (fun z hz => by cases hz) (by decide) (by decide) q_ldL13 (by decide) dL_weightOf_12 rfl (by decide) rfl ?_
      refine q_iconst (v := nI 1) dL_weightOf_13 (by decide) ?_
      refine q_iret dL_weightOf_14 rfl (Or.inl rfl) ?_
      exact ⟨1, rfl, (Or.inl ⟨c1, rfl, hp⟩)⟩
    · exact nomatch hq
def mL_zoneOf : q_M := (5, some .int, false, tableOf [(0, 10, 13, 13)], { frames := 8, cells := 2, slots := 12, locals := 136 })
theorem g_L_zoneOf {Φ : q_Fx} {h : q_Hp} (K : q_Lk Φ h.R h.n) {W : q_W} {O : q_O} (C : q_clX h W O) {d x : Int32} : q_CtH Φ yL_zoneOf cL_zoneOf [(0, 10, 13, 13)] mL_zoneOf [.ref 1, .int d, .int x, .ref 1074] h (q_l1 h W O (¬ (nI 0 ≤ d ∧ d ≤ nI 199) ∨ ¬ (nI 0 ≤ x ∧ x ≤ nI 500)) (fun v h' => v = some (.int (nI (q_zn W.bd x (W.th d)))) ∧ q_rd h h' W O)) := by
  refine q_enterH K.st rfl rfl rfl rfl (Nat.le_of_ble_eq_true rfl) (L := [_, _, _, _, none]) rfl ?_
  refine q_aload_n dL_zoneOf_0 rfl ?_
  refine q_iconst (v := nI 0) dL_zoneOf_1 (by decide) ?_
  refine q_aload_n dL_zoneOf_2 rfl ?_
  refine q_iload_n dL_zoneOf_3 rfl ?_
  refine q_iload_n dL_zoneOf_4 rfl ?_
  refine q_callV (kc := 0) (ks := 0) (g_X9_zoneOf K C ) wX9_zoneOf kL_41 iX9_zoneOf eX9_zoneOf rfl rfl (by decide) (K.le (by decide)) (by decide) rfl rfl (Nat.le_of_ble_eq_true rfl) dL_zoneOf_5 (fun v' h' hq => ?_) (fun E' h' hq => ?_)
  · rcases hq with ⟨_, hq, _⟩ | ⟨n1, v, hq, hp⟩
    · exact nomatch hq
    cases hq
    have hp0 := hp
    obtain ⟨rfl, hp1⟩ := hp
    have hm := hp1
    have hn9 : h'.n = h.n := (hm.2).2.2.2.2
    refine q_i2l dL_zoneOf_8 ?_
    refine q_last (i := nI 0) rfl dL_zoneOf_9 (by decide) (by rw [hn9]; exact K.le (by decide)) (vp_in_nI (n := 0) (N := 1) (by decide) (by decide)) ?_
    refine q_goto (tgt := 17) dL_zoneOf_10 rfl ?_
    refine q_iconst (v := nI 0) dL_zoneOf_17 (by decide) ?_
    refine q_iret dL_zoneOf_18 rfl (Or.inl rfl) ?_
    exact ⟨0, rfl, (Or.inr ⟨n1, rfl, _, h', hp0, rfl⟩)⟩
  · rcases hq with ⟨c1, hq, hp⟩ | ⟨_, _, hq, _⟩
    · cases hq
      refine q_catch (name := "java/lang/IllegalArgumentException") (pre := []) (suf := []) (x := { startPc := 0, endPc := 10, handlerPc := 13, catchType := 13 }) (L' := [_, _, _, _, none]) rfl (fun z hz => by cases hz) (by decide) (by decide) q_ldL13 (by decide) dL_zoneOf_13 rfl (by decide) rfl ?_
      refine q_iconst (v := nI 1) dL_zoneOf_15 (by decide) ?_
      refine q_iret dL_zoneOf_16 rfl (Or.inl rfl) ?_
      exact ⟨1, rfl, (Or.inl ⟨c1, rfl, hp⟩)⟩
    · exact nomatch hq
def mL_addSession : q_M := (4, some .int, false, tableOf [(0, 9, 12, 13), (0, 9, 15, 15)], { frames := 9, cells := 2, slots := 12, locals := 156 })
theorem g_L_addSession {Φ : q_Fx} {h : q_Hp} (K : q_Lk Φ h.R h.n) {W : q_W} {O : q_O} (C : q_clX h W O) {d : Int32} : q_CtH Φ yL_addSession cL_addSession [(0, 9, 12, 13), (0, 9, 15, 15)] mL_addSession [.ref 1, .int d, .ref 1074] h (q_l2 h W O (¬ (nI 0 ≤ d ∧ d ≤ nI W.t)) (W.c = 40) (fun v h' => v = some (.int W.nx) ∧ ∃ Y r, q_eqv W Y ∧ q_ok0 Y ∧ q_sd (W.addS d.toNatClampNeg) W.c r ∧ q_mu h h' ((W.addS d.toNatClampNeg).sσ (q_mv W.σ W.c r)) (O.kept Y) 200)) := by
  refine q_enterH K.st rfl rfl rfl rfl (Nat.le_of_ble_eq_true rfl) (L := [_, _, _, none]) rfl ?_
  refine q_aload_n dL_addSession_0 rfl ?_
  refine q_iconst (v := nI 0) dL_addSession_1 (by decide) ?_
  refine q_aload_n dL_addSession_2 rfl ?_
  refine q_iload_n dL_addSession_3 rfl ?_
  refine q_callV (kc := 0) (ks := 0) (g_X9_addSession K C ) wX9_addSession kL_44 iX9_addSession eX9_addSession rfl rfl (by decide) (K.le (by decide)) (by decide) rfl rfl (Nat.le_of_ble_eq_true rfl) dL_addSession_4 (fun v' h' hq => ?_) (fun E' h' hq => ?_)
  · rcases hq with ⟨_, hq, _⟩ | ⟨_, _, hq, _⟩ | ⟨n1, n2, v, hq, hp⟩
    · exact nomatch hq
    · exact nomatch hq
    cases hq
    have hp0 := hp
    obtain ⟨rfl, hp1⟩ := hp
    obtain ⟨Y, r, y1, y2, sd, hm⟩ := hp1
    have hn9 : h'.n = h.n := (hm.2.1).2.2.2.2
    refine q_i2l dL_addSession_7 ?_
    refine q_last (i := nI 0) rfl dL_addSession_8 (by decide) (by rw [hn9]; exact K.le (by decide)) (vp_in_nI (n := 0) (N := 1) (by decide) (by decide)) ?_
    refine q_goto (tgt := 18) dL_addSession_9 rfl ?_
    refine q_iconst (v := nI 0) dL_addSession_18 (by decide) ?_
    refine q_iret dL_addSession_19 rfl (Or.inl rfl) ?_
    exact ⟨0, rfl, (Or.inr (Or.inr ⟨n1, n2, rfl, _, h', hp0, rfl⟩))⟩
  · rcases hq with ⟨c1, hq, hp⟩ | ⟨n1, c2, hq, hp⟩ | ⟨_, _, _, hq, _⟩
    · cases hq
      refine q_catchN (name := "java/lang/IllegalArgumentException") (pre := []) (suf := [{ startPc := 0, endPc := 9, handlerPc := 15, catchType := 15 }]) (x := { startPc := 0, endPc := 9, handlerPc := 12, catchType := 13 }) (L' := [_, _, _, none]) rfl (fun z hz => by cases hz) (by decide) (by decide) q_ldL13 (by decide) dL_addSession_12 rfl (by decide) rfl ?_
      refine q_iconst (v := nI 1) dL_addSession_13 (by decide) ?_
      refine q_iret dL_addSession_14 rfl (Or.inl rfl) ?_
      exact ⟨1, rfl, (Or.inl ⟨c1, rfl, hp⟩)⟩
    · cases hq
      refine q_catchN (name := "java/lang/IllegalStateException") (pre := [{ startPc := 0, endPc := 9, handlerPc := 12, catchType := 13 }]) (suf := []) (x := { startPc := 0, endPc := 9, handlerPc := 15, catchType := 15 }) (L' := [_, _, _, none]) rfl (fun z hz => by
        rcases List.mem_cons.mp hz with rfl | hz
        · exact ⟨by decide, _, q_ldL13, by decide⟩
        cases hz) (by decide) (by decide) q_ldL15 (by decide) dL_addSession_15 rfl (by decide) rfl ?_
      refine q_iconst (v := nI 2) dL_addSession_16 (by decide) ?_
      refine q_iret dL_addSession_17 rfl (Or.inl rfl) ?_
      exact ⟨2, rfl, (Or.inr (Or.inl ⟨n1, c2, rfl, hp⟩))⟩
    · exact nomatch hq
def mL_addPart : q_M := (6, some .int, false, tableOf [(0, 12, 15, 24), (0, 12, 19, 13), (0, 12, 23, 15)], { frames := 9, cells := 4, slots := 24, locals := 159 })
theorem g_L_addPart {Φ : q_Fx} {h : q_Hp} (K : q_Lk Φ h.R h.n) {W : q_W} {O : q_O} (C : q_clX h W O) {x m y : Int32} : q_CtH Φ yL_addPart cL_addPart [(0, 12, 15, 24), (0, 12, 19, 13), (0, 12, 23, 15)] mL_addPart [.ref 1, .int x, .int m, .int y, .ref 1074] h (q_l3 h W O (W.no x) (¬ (nI 1 ≤ m ∧ m ≤ nI 120) ∨ ¬ (nI 0 ≤ y ∧ y ≤ nI 500)) (W.pn (W.σ (W.at_ x)) = 8 ∨ nI 240 < W.len (W.σ (W.at_ x)) + m) (fun v h' => v = some (.int (nI (W.pn (W.σ (W.at_ x)) + 1))) ∧ ∃ Y, q_eqv W Y ∧ q_ok0 Y ∧ q_mu h h' (W.addP (W.σ (W.at_ x)) m y) (O.kept Y) (W.dy (W.σ (W.at_ x))))) := by
  refine q_enterH K.st rfl rfl rfl rfl (Nat.le_of_ble_eq_true rfl) (L := [_, _, _, _, _, none]) rfl ?_
  refine q_aload dL_addPart_0 rfl ?_
  refine q_iconst (v := nI 0) dL_addPart_2 (by decide) ?_
  refine q_aload_n dL_addPart_3 rfl ?_
  refine q_iload_n dL_addPart_4 rfl ?_
  refine q_iload_n dL_addPart_5 rfl ?_
  refine q_iload_n dL_addPart_6 rfl ?_
  refine q_callV (kc := 0) (ks := 0) (g_X9_addPart K C ) wX9_addPart kL_47 iX9_addPart eX9_addPart rfl rfl (by decide) (K.le (by decide)) (by decide) rfl rfl (Nat.le_of_ble_eq_true rfl) dL_addPart_7 (fun v' h' hq => ?_) (fun E' h' hq => ?_)
  · rcases hq with ⟨_, hq, _⟩ | ⟨_, _, hq, _⟩ | ⟨_, _, _, hq, _⟩ | ⟨n1, n2, n3, v, hq, hp⟩
    · exact nomatch hq
    · exact nomatch hq
    · exact nomatch hq
    cases hq
    have hp0 := hp
    obtain ⟨rfl, hp1⟩ := hp
    obtain ⟨Y, y1, y2, hm⟩ := hp1
    have hn9 : h'.n = h.n := (hm.2.1).2.2.2.2
    refine q_i2l dL_addPart_10 ?_
    refine q_last (i := nI 0) rfl dL_addPart_11 (by decide) (by rw [hn9]; exact K.le (by decide)) (vp_in_nI (n := 0) (N := 1) (by decide) (by decide)) ?_
    refine q_goto (tgt := 27) dL_addPart_12 rfl ?_
    refine q_iconst (v := nI 0) dL_addPart_27 (by decide) ?_
    refine q_iret dL_addPart_28 rfl (Or.inl rfl) ?_
    exact ⟨0, rfl, (Or.inr (Or.inr (Or.inr ⟨n1, n2, n3, rfl, _, h', hp0, rfl⟩)))⟩
  · rcases hq with ⟨c1, hq, hp⟩ | ⟨n1, c2, hq, hp⟩ | ⟨n1, n2, c3, hq, hp⟩ | ⟨_, _, _, _, hq, _⟩
    · cases hq
      refine q_catch (name := "java/util/NoSuchElementException") (pre := []) (suf := [{ startPc := 0, endPc := 12, handlerPc := 19, catchType := 13 }, { startPc := 0, endPc := 12, handlerPc := 23, catchType := 15 }]) (x := { startPc := 0, endPc := 12, handlerPc := 15, catchType := 24 }) (L' := [_, _, _, _, _, none]) rfl (fun z hz => by cases hz) (by decide) (by decide) q_ldL24 (by decide) dL_addPart_15 rfl (by decide) rfl ?_
      refine q_iconst (v := nI 1) dL_addPart_17 (by decide) ?_
      refine q_iret dL_addPart_18 rfl (Or.inl rfl) ?_
      exact ⟨1, rfl, (Or.inl ⟨c1, rfl, hp⟩)⟩
    · cases hq
      refine q_catch (name := "java/lang/IllegalArgumentException") (pre := [{ startPc := 0, endPc := 12, handlerPc := 15, catchType := 24 }]) (suf := [{ startPc := 0, endPc := 12, handlerPc := 23, catchType := 15 }]) (x := { startPc := 0, endPc := 12, handlerPc := 19, catchType := 13 }) (L' := [_, _, _, _, _, none]) rfl (fun z hz => by
        rcases List.mem_cons.mp hz with rfl | hz
        · exact ⟨by decide, _, q_ldL24, by decide⟩
        cases hz) (by decide) (by decide) q_ldL13 (by decide) dL_addPart_19 rfl (by decide) rfl ?_
      refine q_iconst (v := nI 2) dL_addPart_21 (by decide) ?_
      refine q_iret dL_addPart_22 rfl (Or.inl rfl) ?_
      exact ⟨2, rfl, (Or.inr (Or.inl ⟨n1, c2, rfl, hp⟩))⟩
    · cases hq
      refine q_catch (name := "java/lang/IllegalStateException") (pre := [{ startPc := 0, endPc := 12, handlerPc := 15, catchType := 24 }, { startPc := 0, endPc := 12, handlerPc := 19, catchType := 13 }]) (suf := []) (x := { startPc := 0, endPc := 12, handlerPc := 23, catchType := 15 }) (L' := [_, _, _, _, _, none]) rfl (fun z hz => by
        rcases List.mem_cons.mp hz with rfl | hz
        · exact ⟨by decide, _, q_ldL24, by decide⟩
        rcases List.mem_cons.mp hz with rfl | hz
        · exact ⟨by decide, _, q_ldL13, by decide⟩
        cases hz) (by decide) (by decide) q_ldL15 (by decide) dL_addPart_23 rfl (by decide) rfl ?_
      refine q_iconst (v := nI 3) dL_addPart_25 (by decide) ?_
      refine q_iret dL_addPart_26 rfl (Or.inl rfl) ?_
      exact ⟨3, rfl, (Or.inr (Or.inr (Or.inl ⟨n1, n2, c3, rfl, hp⟩)))⟩
    · exact nomatch hq
def mL_clearParts : q_M := (4, some .int, false, tableOf [(0, 9, 12, 24)], { frames := 9, cells := 1, slots := 6, locals := 158 })
theorem g_L_clearParts {Φ : q_Fx} {h : q_Hp} (K : q_Lk Φ h.R h.n) {W : q_W} {O : q_O} (C : q_clX h W O) {x : Int32} : q_CtH Φ yL_clearParts cL_clearParts [(0, 9, 12, 24)] mL_clearParts [.ref 1, .int x, .ref 1074] h (q_l1 h W O (W.no x) (fun v h' => v = some (.int (nI (W.pn (W.σ (W.at_ x))))) ∧ ∃ Y, q_eqv W Y ∧ q_ok0 Y ∧ q_mu h h' (W.clrP (W.σ (W.at_ x))) (O.kept Y) (W.dy (W.σ (W.at_ x))))) := by
  refine q_enterH K.st rfl rfl rfl rfl (Nat.le_of_ble_eq_true rfl) (L := [_, _, _, none]) rfl ?_
  refine q_aload_n dL_clearParts_0 rfl ?_
  refine q_iconst (v := nI 0) dL_clearParts_1 (by decide) ?_
  refine q_aload_n dL_clearParts_2 rfl ?_
  refine q_iload_n dL_clearParts_3 rfl ?_
  refine q_callV (kc := 0) (ks := 0) (g_X9_clearParts K C ) wX9_clearParts kL_51 iX9_clearParts eX9_clearParts rfl rfl (by decide) (K.le (by decide)) (by decide) rfl rfl (Nat.le_of_ble_eq_true rfl) dL_clearParts_4 (fun v' h' hq => ?_) (fun E' h' hq => ?_)
  · rcases hq with ⟨_, hq, _⟩ | ⟨n1, v, hq, hp⟩
    · exact nomatch hq
    cases hq
    have hp0 := hp
    obtain ⟨rfl, hp1⟩ := hp
    obtain ⟨Y, y1, y2, hm⟩ := hp1
    have hn9 : h'.n = h.n := (hm.2.1).2.2.2.2
    refine q_i2l dL_clearParts_7 ?_
    refine q_last (i := nI 0) rfl dL_clearParts_8 (by decide) (by rw [hn9]; exact K.le (by decide)) (vp_in_nI (n := 0) (N := 1) (by decide) (by decide)) ?_
    refine q_goto (tgt := 15) dL_clearParts_9 rfl ?_
    refine q_iconst (v := nI 0) dL_clearParts_15 (by decide) ?_
    refine q_iret dL_clearParts_16 rfl (Or.inl rfl) ?_
    exact ⟨0, rfl, (Or.inr ⟨n1, rfl, _, h', hp0, rfl⟩)⟩
  · rcases hq with ⟨c1, hq, hp⟩ | ⟨_, _, hq, _⟩
    · cases hq
      refine q_catchN (name := "java/util/NoSuchElementException") (pre := []) (suf := []) (x := { startPc := 0, endPc := 9, handlerPc := 12, catchType := 24 }) (L' := [_, _, _, none]) rfl (fun z hz => by cases hz) (by decide) (by decide) q_ldL24 (by decide) dL_clearParts_12 rfl (by decide) rfl ?_
      refine q_iconst (v := nI 1) dL_clearParts_13 (by decide) ?_
      refine q_iret dL_clearParts_14 rfl (Or.inl rfl) ?_
      exact ⟨1, rfl, (Or.inl ⟨c1, rfl, hp⟩)⟩
    · exact nomatch hq
def mL_moveSession : q_M := (5, some .int, false, tableOf [(0, 10, 13, 24), (0, 10, 17, 13)], { frames := 9, cells := 2, slots := 12, locals := 159 })
theorem g_L_moveSession {Φ : q_Fx} {h : q_Hp} (K : q_Lk Φ h.R h.n) {W : q_W} {O : q_O} (C : q_clX h W O) {x d : Int32} : q_CtH Φ yL_moveSession cL_moveSession [(0, 10, 13, 24), (0, 10, 17, 13)] mL_moveSession [.ref 1, .int x, .int d, .ref 1074] h (q_l2 h W O (W.no x) (¬ (nI 0 ≤ d ∧ d ≤ nI W.t)) (fun v h' => v = some (.int (nI (W.dy (W.σ (W.at_ x))))) ∧ ∃ Y r, q_eqv W Y ∧ q_ok0 Y ∧ q_sd (W.movS (W.σ (W.at_ x)) d.toNatClampNeg) (W.at_ x) r ∧ q_mu h h' ((W.movS (W.σ (W.at_ x)) d.toNatClampNeg).sσ (q_mv W.σ (W.at_ x) r)) (O.kept Y) (min (W.dy (W.σ (W.at_ x))) d.toNatClampNeg))) := by
  refine q_enterH K.st rfl rfl rfl rfl (Nat.le_of_ble_eq_true rfl) (L := [_, _, _, _, none]) rfl ?_
  refine q_aload_n dL_moveSession_0 rfl ?_
  refine q_iconst (v := nI 0) dL_moveSession_1 (by decide) ?_
  refine q_aload_n dL_moveSession_2 rfl ?_
  refine q_iload_n dL_moveSession_3 rfl ?_
  refine q_iload_n dL_moveSession_4 rfl ?_
  refine q_callV (kc := 0) (ks := 0) (g_X9_moveSession K C ) wX9_moveSession kL_54 iX9_moveSession eX9_moveSession rfl rfl (by decide) (K.le (by decide)) (by decide) rfl rfl (Nat.le_of_ble_eq_true rfl) dL_moveSession_5 (fun v' h' hq => ?_) (fun E' h' hq => ?_)
  · rcases hq with ⟨_, hq, _⟩ | ⟨_, _, hq, _⟩ | ⟨n1, n2, v, hq, hp⟩
    · exact nomatch hq
    · exact nomatch hq
    cases hq
    have hp0 := hp
    obtain ⟨rfl, hp1⟩ := hp
    obtain ⟨Y, r, y1, y2, sd, hm⟩ := hp1
    have hn9 : h'.n = h.n := (hm.2.1).2.2.2.2
    refine q_i2l dL_moveSession_8 ?_
    refine q_last (i := nI 0) rfl dL_moveSession_9 (by decide) (by rw [hn9]; exact K.le (by decide)) (vp_in_nI (n := 0) (N := 1) (by decide) (by decide)) ?_
    refine q_goto (tgt := 21) dL_moveSession_10 rfl ?_
    refine q_iconst (v := nI 0) dL_moveSession_21 (by decide) ?_
    refine q_iret dL_moveSession_22 rfl (Or.inl rfl) ?_
    exact ⟨0, rfl, (Or.inr (Or.inr ⟨n1, n2, rfl, _, h', hp0, rfl⟩))⟩
  · rcases hq with ⟨c1, hq, hp⟩ | ⟨n1, c2, hq, hp⟩ | ⟨_, _, _, hq, _⟩
    · cases hq
      refine q_catch (name := "java/util/NoSuchElementException") (pre := []) (suf := [{ startPc := 0, endPc := 10, handlerPc := 17, catchType := 13 }]) (x := { startPc := 0, endPc := 10, handlerPc := 13, catchType := 24 }) (L' := [_, _, _, _, none]) rfl (fun z hz => by cases hz) (by decide) (by decide) q_ldL24 (by decide) dL_moveSession_13 rfl (by decide) rfl ?_
      refine q_iconst (v := nI 1) dL_moveSession_15 (by decide) ?_
      refine q_iret dL_moveSession_16 rfl (Or.inl rfl) ?_
      exact ⟨1, rfl, (Or.inl ⟨c1, rfl, hp⟩)⟩
    · cases hq
      refine q_catch (name := "java/lang/IllegalArgumentException") (pre := [{ startPc := 0, endPc := 10, handlerPc := 13, catchType := 24 }]) (suf := []) (x := { startPc := 0, endPc := 10, handlerPc := 17, catchType := 13 }) (L' := [_, _, _, _, none]) rfl (fun z hz => by
        rcases List.mem_cons.mp hz with rfl | hz
        · exact ⟨by decide, _, q_ldL24, by decide⟩
        cases hz) (by decide) (by decide) q_ldL13 (by decide) dL_moveSession_17 rfl (by decide) rfl ?_
      refine q_iconst (v := nI 2) dL_moveSession_19 (by decide) ?_
      refine q_iret dL_moveSession_20 rfl (Or.inl rfl) ?_
      exact ⟨2, rfl, (Or.inr (Or.inl ⟨n1, c2, rfl, hp⟩))⟩
    · exact nomatch hq
def mL_removeSession : q_M := (4, some .int, false, tableOf [(0, 9, 12, 24)], { frames := 8, cells := 1, slots := 6, locals := 148 })
theorem g_L_removeSession {Φ : q_Fx} {h : q_Hp} (K : q_Lk Φ h.R h.n) {W : q_W} {O : q_O} (C : q_clX h W O) {x : Int32} : q_CtH Φ yL_removeSession cL_removeSession [(0, 9, 12, 24)] mL_removeSession [.ref 1, .int x, .ref 1074] h (q_l1 h W O (W.no x) (fun v h' => v = some (.int (nI (W.c - 1))) ∧ ∃ Y, q_eqv W Y ∧ q_ok0 Y ∧ q_mu h h' ((W.sσ (q_mv W.σ (W.at_ x) (W.c - 1))).sc (W.c - 1)) (O.kept Y) (W.dy (W.σ (W.at_ x))))) := by
  refine q_enterH K.st rfl rfl rfl rfl (Nat.le_of_ble_eq_true rfl) (L := [_, _, _, none]) rfl ?_
  refine q_aload_n dL_removeSession_0 rfl ?_
  refine q_iconst (v := nI 0) dL_removeSession_1 (by decide) ?_
  refine q_aload_n dL_removeSession_2 rfl ?_
  refine q_iload_n dL_removeSession_3 rfl ?_
  refine q_callV (kc := 0) (ks := 0) (g_X9_removeSession K C ) wX9_removeSession kL_57 iX9_removeSession eX9_removeSession rfl rfl (by decide) (K.le (by decide)) (by decide) rfl rfl (Nat.le_of_ble_eq_true rfl) dL_removeSession_4 (fun v' h' hq => ?_) (fun E' h' hq => ?_)
  · rcases hq with ⟨_, hq, _⟩ | ⟨n1, v, hq, hp⟩
    · exact nomatch hq
    cases hq
    have hp0 := hp
    obtain ⟨rfl, hp1⟩ := hp
    obtain ⟨Y, y1, y2, hm⟩ := hp1
    have hn9 : h'.n = h.n := (hm.2.1).2.2.2.2
    refine q_i2l dL_removeSession_7 ?_
    refine q_last (i := nI 0) rfl dL_removeSession_8 (by decide) (by rw [hn9]; exact K.le (by decide)) (vp_in_nI (n := 0) (N := 1) (by decide) (by decide)) ?_
    refine q_goto (tgt := 15) dL_removeSession_9 rfl ?_
    refine q_iconst (v := nI 0) dL_removeSession_15 (by decide) ?_
    refine q_iret dL_removeSession_16 rfl (Or.inl rfl) ?_
    exact ⟨0, rfl, (Or.inr ⟨n1, rfl, _, h', hp0, rfl⟩)⟩
  · rcases hq with ⟨c1, hq, hp⟩ | ⟨_, _, hq, _⟩
    · cases hq
      refine q_catchN (name := "java/util/NoSuchElementException") (pre := []) (suf := []) (x := { startPc := 0, endPc := 9, handlerPc := 12, catchType := 24 }) (L' := [_, _, _, none]) rfl (fun z hz => by cases hz) (by decide) (by decide) q_ldL24 (by decide) dL_removeSession_12 rfl (by decide) rfl ?_
      refine q_iconst (v := nI 1) dL_removeSession_13 (by decide) ?_
      refine q_iret dL_removeSession_14 rfl (Or.inl rfl) ?_
      exact ⟨1, rfl, (Or.inl ⟨c1, rfl, hp⟩)⟩
    · exact nomatch hq
def mL_sessionAt : q_M := (4, some .int, false, tableOf [(0, 9, 12, 63)], { frames := 7, cells := 1, slots := 6, locals := 113 })
theorem g_L_sessionAt {Φ : q_Fx} {h : q_Hp} (K : q_Lk Φ h.R h.n) {W : q_W} {O : q_O} (C : q_clX h W O) {p : Int32} : q_CtH Φ yL_sessionAt cL_sessionAt [(0, 9, 12, 63)] mL_sessionAt [.ref 1, .int p, .ref 1074] h (q_l1 h W O (p < 0 ∨ nI W.c ≤ p) (fun v h' => v = some (.int (W.id (W.σ p.toNatClampNeg))) ∧ q_rd h h' W O)) := by
  refine q_enterH K.st rfl rfl rfl rfl (Nat.le_of_ble_eq_true rfl) (L := [_, _, _, none]) rfl ?_
  refine q_aload_n dL_sessionAt_0 rfl ?_
  refine q_iconst (v := nI 0) dL_sessionAt_1 (by decide) ?_
  refine q_aload_n dL_sessionAt_2 rfl ?_
  refine q_iload_n dL_sessionAt_3 rfl ?_
  refine q_callV (kc := 0) (ks := 0) (g_X9_sessionAt K C ) wX9_sessionAt kL_60 iX9_sessionAt eX9_sessionAt rfl rfl (by decide) (K.le (by decide)) (by decide) rfl rfl (Nat.le_of_ble_eq_true rfl) dL_sessionAt_4 (fun v' h' hq => ?_) (fun E' h' hq => ?_)
  · rcases hq with ⟨_, hq, _⟩ | ⟨n1, v, hq, hp⟩
    · exact nomatch hq
    cases hq
    have hp0 := hp
    obtain ⟨rfl, hp1⟩ := hp
    have hm := hp1
    have hn9 : h'.n = h.n := (hm.2).2.2.2.2
    refine q_i2l dL_sessionAt_7 ?_
    refine q_last (i := nI 0) rfl dL_sessionAt_8 (by decide) (by rw [hn9]; exact K.le (by decide)) (vp_in_nI (n := 0) (N := 1) (by decide) (by decide)) ?_
    refine q_goto (tgt := 15) dL_sessionAt_9 rfl ?_
    refine q_iconst (v := nI 0) dL_sessionAt_15 (by decide) ?_
    refine q_iret dL_sessionAt_16 rfl (Or.inl rfl) ?_
    exact ⟨0, rfl, (Or.inr ⟨n1, rfl, _, h', hp0, rfl⟩)⟩
  · rcases hq with ⟨c1, hq, hp⟩ | ⟨_, _, hq, _⟩
    · cases hq
      refine q_catchN (name := "java/lang/IndexOutOfBoundsException") (pre := []) (suf := []) (x := { startPc := 0, endPc := 9, handlerPc := 12, catchType := 63 }) (L' := [_, _, _, none]) rfl (fun z hz => by cases hz) (by decide) (by decide) q_ldL63 (by decide) dL_sessionAt_12 rfl (by decide) rfl ?_
      refine q_iconst (v := nI 1) dL_sessionAt_13 (by decide) ?_
      refine q_iret dL_sessionAt_14 rfl (Or.inl rfl) ?_
      exact ⟨1, rfl, (Or.inl ⟨c1, rfl, hp⟩)⟩
    · exact nomatch hq
def mL_dayOf : q_M := (4, some .int, false, tableOf [(0, 9, 12, 24)], { frames := 9, cells := 1, slots := 6, locals := 156 })
theorem g_L_dayOf {Φ : q_Fx} {h : q_Hp} (K : q_Lk Φ h.R h.n) {W : q_W} {O : q_O} (C : q_clX h W O) {x : Int32} : q_CtH Φ yL_dayOf cL_dayOf [(0, 9, 12, 24)] mL_dayOf [.ref 1, .int x, .ref 1074] h (q_l1 h W O (W.no x) (fun v h' => v = some (.int (nI (W.dy (W.σ (W.at_ x))))) ∧ q_rd h h' W O)) := by
  refine q_enterH K.st rfl rfl rfl rfl (Nat.le_of_ble_eq_true rfl) (L := [_, _, _, none]) rfl ?_
  refine q_aload_n dL_dayOf_0 rfl ?_
  refine q_iconst (v := nI 0) dL_dayOf_1 (by decide) ?_
  refine q_aload_n dL_dayOf_2 rfl ?_
  refine q_iload_n dL_dayOf_3 rfl ?_
  refine q_callV (kc := 0) (ks := 0) (g_X9_dayOf K C ) wX9_dayOf kL_65 iX9_dayOf eX9_dayOf rfl rfl (by decide) (K.le (by decide)) (by decide) rfl rfl (Nat.le_of_ble_eq_true rfl) dL_dayOf_4 (fun v' h' hq => ?_) (fun E' h' hq => ?_)
  · rcases hq with ⟨_, hq, _⟩ | ⟨n1, v, hq, hp⟩
    · exact nomatch hq
    cases hq
    have hp0 := hp
    obtain ⟨rfl, hp1⟩ := hp
    have hm := hp1
    have hn9 : h'.n = h.n := (hm.2).2.2.2.2
    refine q_i2l dL_dayOf_7 ?_
    refine q_last (i := nI 0) rfl dL_dayOf_8 (by decide) (by rw [hn9]; exact K.le (by decide)) (vp_in_nI (n := 0) (N := 1) (by decide) (by decide)) ?_
    refine q_goto (tgt := 15) dL_dayOf_9 rfl ?_
    refine q_iconst (v := nI 0) dL_dayOf_15 (by decide) ?_
    refine q_iret dL_dayOf_16 rfl (Or.inl rfl) ?_
    exact ⟨0, rfl, (Or.inr ⟨n1, rfl, _, h', hp0, rfl⟩)⟩
  · rcases hq with ⟨c1, hq, hp⟩ | ⟨_, _, hq, _⟩
    · cases hq
      refine q_catchN (name := "java/util/NoSuchElementException") (pre := []) (suf := []) (x := { startPc := 0, endPc := 9, handlerPc := 12, catchType := 24 }) (L' := [_, _, _, none]) rfl (fun z hz => by cases hz) (by decide) (by decide) q_ldL24 (by decide) dL_dayOf_12 rfl (by decide) rfl ?_
      refine q_iconst (v := nI 1) dL_dayOf_13 (by decide) ?_
      refine q_iret dL_dayOf_14 rfl (Or.inl rfl) ?_
      exact ⟨1, rfl, (Or.inl ⟨c1, rfl, hp⟩)⟩
    · exact nomatch hq
def mL_minutesOf : q_M := (4, some .int, false, tableOf [(0, 9, 12, 24)], { frames := 9, cells := 1, slots := 6, locals := 156 })
theorem g_L_minutesOf {Φ : q_Fx} {h : q_Hp} (K : q_Lk Φ h.R h.n) {W : q_W} {O : q_O} (C : q_clX h W O) {x : Int32} : q_CtH Φ yL_minutesOf cL_minutesOf [(0, 9, 12, 24)] mL_minutesOf [.ref 1, .int x, .ref 1074] h (q_l1 h W O (W.no x) (fun v h' => v = some (.int (W.len (W.σ (W.at_ x)))) ∧ q_rd h h' W O)) := by
  refine q_enterH K.st rfl rfl rfl rfl (Nat.le_of_ble_eq_true rfl) (L := [_, _, _, none]) rfl ?_
  refine q_aload_n dL_minutesOf_0 rfl ?_
  refine q_iconst (v := nI 0) dL_minutesOf_1 (by decide) ?_
  refine q_aload_n dL_minutesOf_2 rfl ?_
  refine q_iload_n dL_minutesOf_3 rfl ?_
  refine q_callV (kc := 0) (ks := 0) (g_X9_minutesOf K C ) wX9_minutesOf kL_68 iX9_minutesOf eX9_minutesOf rfl rfl (by decide) (K.le (by decide)) (by decide) rfl rfl (Nat.le_of_ble_eq_true rfl) dL_minutesOf_4 (fun v' h' hq => ?_) (fun E' h' hq => ?_)
  · rcases hq with ⟨_, hq, _⟩ | ⟨n1, v, hq, hp⟩
    · exact nomatch hq
    cases hq
    have hp0 := hp
    obtain ⟨rfl, hp1⟩ := hp
    have hm := hp1
    have hn9 : h'.n = h.n := (hm.2).2.2.2.2
    refine q_i2l dL_minutesOf_7 ?_
    refine q_last (i := nI 0) rfl dL_minutesOf_8 (by decide) (by rw [hn9]; exact K.le (by decide)) (vp_in_nI (n := 0) (N := 1) (by decide) (by decide)) ?_
    refine q_goto (tgt := 15) dL_minutesOf_9 rfl ?_
    refine q_iconst (v := nI 0) dL_minutesOf_15 (by decide) ?_
    refine q_iret dL_minutesOf_16 rfl (Or.inl rfl) ?_
    exact ⟨0, rfl, (Or.inr ⟨n1, rfl, _, h', hp0, rfl⟩)⟩
  · rcases hq with ⟨c1, hq, hp⟩ | ⟨_, _, hq, _⟩
    · cases hq
      refine q_catchN (name := "java/util/NoSuchElementException") (pre := []) (suf := []) (x := { startPc := 0, endPc := 9, handlerPc := 12, catchType := 24 }) (L' := [_, _, _, none]) rfl (fun z hz => by cases hz) (by decide) (by decide) q_ldL24 (by decide) dL_minutesOf_12 rfl (by decide) rfl ?_
      refine q_iconst (v := nI 1) dL_minutesOf_13 (by decide) ?_
      refine q_iret dL_minutesOf_14 rfl (Or.inl rfl) ?_
      exact ⟨1, rfl, (Or.inl ⟨c1, rfl, hp⟩)⟩
    · exact nomatch hq
def mL_minutesInZone : q_M := (5, some .int, false, tableOf [(0, 10, 13, 24), (0, 10, 17, 13)], { frames := 9, cells := 2, slots := 12, locals := 158 })
theorem g_L_minutesInZone {Φ : q_Fx} {h : q_Hp} (K : q_Lk Φ h.R h.n) {W : q_W} {O : q_O} (C : q_clX h W O) {x z : Int32} : q_CtH Φ yL_minutesInZone cL_minutesInZone [(0, 10, 13, 24), (0, 10, 17, 13)] mL_minutesInZone [.ref 1, .int x, .int z, .ref 1074] h (q_l2 h W O (W.no x) (¬ (nI 1 ≤ z ∧ z ≤ nI 5)) (fun v h' => v = some (.int (q_az (fun _ => nI 0) (W.z (W.σ (W.at_ x))) (W.mn (W.σ (W.at_ x))) (W.pn (W.σ (W.at_ x))) z.toNatClampNeg)) ∧ q_rd h h' W O)) := by
  refine q_enterH K.st rfl rfl rfl rfl (Nat.le_of_ble_eq_true rfl) (L := [_, _, _, _, none]) rfl ?_
  refine q_aload_n dL_minutesInZone_0 rfl ?_
  refine q_iconst (v := nI 0) dL_minutesInZone_1 (by decide) ?_
  refine q_aload_n dL_minutesInZone_2 rfl ?_
  refine q_iload_n dL_minutesInZone_3 rfl ?_
  refine q_iload_n dL_minutesInZone_4 rfl ?_
  refine q_callV (kc := 0) (ks := 0) (g_X9_minutesInZone K C ) wX9_minutesInZone kL_71 iX9_minutesInZone eX9_minutesInZone rfl rfl (by decide) (K.le (by decide)) (by decide) rfl rfl (Nat.le_of_ble_eq_true rfl) dL_minutesInZone_5 (fun v' h' hq => ?_) (fun E' h' hq => ?_)
  · rcases hq with ⟨_, hq, _⟩ | ⟨_, _, hq, _⟩ | ⟨n1, n2, v, hq, hp⟩
    · exact nomatch hq
    · exact nomatch hq
    cases hq
    have hp0 := hp
    obtain ⟨rfl, hp1⟩ := hp
    have hm := hp1
    have hn9 : h'.n = h.n := (hm.2).2.2.2.2
    refine q_i2l dL_minutesInZone_8 ?_
    refine q_last (i := nI 0) rfl dL_minutesInZone_9 (by decide) (by rw [hn9]; exact K.le (by decide)) (vp_in_nI (n := 0) (N := 1) (by decide) (by decide)) ?_
    refine q_goto (tgt := 21) dL_minutesInZone_10 rfl ?_
    refine q_iconst (v := nI 0) dL_minutesInZone_21 (by decide) ?_
    refine q_iret dL_minutesInZone_22 rfl (Or.inl rfl) ?_
    exact ⟨0, rfl, (Or.inr (Or.inr ⟨n1, n2, rfl, _, h', hp0, rfl⟩))⟩
  · rcases hq with ⟨c1, hq, hp⟩ | ⟨n1, c2, hq, hp⟩ | ⟨_, _, _, hq, _⟩
    · cases hq
      refine q_catch (name := "java/util/NoSuchElementException") (pre := []) (suf := [{ startPc := 0, endPc := 10, handlerPc := 17, catchType := 13 }]) (x := { startPc := 0, endPc := 10, handlerPc := 13, catchType := 24 }) (L' := [_, _, _, _, none]) rfl (fun z hz => by cases hz) (by decide) (by decide) q_ldL24 (by decide) dL_minutesInZone_13 rfl (by decide) rfl ?_
      refine q_iconst (v := nI 1) dL_minutesInZone_15 (by decide) ?_
      refine q_iret dL_minutesInZone_16 rfl (Or.inl rfl) ?_
      exact ⟨1, rfl, (Or.inl ⟨c1, rfl, hp⟩)⟩
    · cases hq
      refine q_catch (name := "java/lang/IllegalArgumentException") (pre := [{ startPc := 0, endPc := 10, handlerPc := 13, catchType := 24 }]) (suf := []) (x := { startPc := 0, endPc := 10, handlerPc := 17, catchType := 13 }) (L' := [_, _, _, _, none]) rfl (fun z hz => by
        rcases List.mem_cons.mp hz with rfl | hz
        · exact ⟨by decide, _, q_ldL24, by decide⟩
        cases hz) (by decide) (by decide) q_ldL13 (by decide) dL_minutesInZone_17 rfl (by decide) rfl ?_
      refine q_iconst (v := nI 2) dL_minutesInZone_19 (by decide) ?_
      refine q_iret dL_minutesInZone_20 rfl (Or.inl rfl) ?_
      exact ⟨2, rfl, (Or.inr (Or.inl ⟨n1, c2, rfl, hp⟩))⟩
    · exact nomatch hq
def mL_loadOf : q_M := (4, some .int, false, tableOf [(0, 9, 12, 24)], { frames := 9, cells := 1, slots := 6, locals := 156 })
theorem g_L_loadOf {Φ : q_Fx} {h : q_Hp} (K : q_Lk Φ h.R h.n) {W : q_W} {O : q_O} (C : q_clX h W O) {x : Int32} : q_CtH Φ yL_loadOf cL_loadOf [(0, 9, 12, 24)] mL_loadOf [.ref 1, .int x, .ref 1074] h (q_l1 h W O (W.no x) (fun v h' => v = some (.int (W.ld (W.σ (W.at_ x)))) ∧ q_rd h h' W O)) := by
  refine q_enterH K.st rfl rfl rfl rfl (Nat.le_of_ble_eq_true rfl) (L := [_, _, _, none]) rfl ?_
  refine q_aload_n dL_loadOf_0 rfl ?_
  refine q_iconst (v := nI 0) dL_loadOf_1 (by decide) ?_
  refine q_aload_n dL_loadOf_2 rfl ?_
  refine q_iload_n dL_loadOf_3 rfl ?_
  refine q_callV (kc := 0) (ks := 0) (g_X9_loadOf K C ) wX9_loadOf kL_74 iX9_loadOf eX9_loadOf rfl rfl (by decide) (K.le (by decide)) (by decide) rfl rfl (Nat.le_of_ble_eq_true rfl) dL_loadOf_4 (fun v' h' hq => ?_) (fun E' h' hq => ?_)
  · rcases hq with ⟨_, hq, _⟩ | ⟨n1, v, hq, hp⟩
    · exact nomatch hq
    cases hq
    have hp0 := hp
    obtain ⟨rfl, hp1⟩ := hp
    have hm := hp1
    have hn9 : h'.n = h.n := (hm.2).2.2.2.2
    refine q_i2l dL_loadOf_7 ?_
    refine q_last (i := nI 0) rfl dL_loadOf_8 (by decide) (by rw [hn9]; exact K.le (by decide)) (vp_in_nI (n := 0) (N := 1) (by decide) (by decide)) ?_
    refine q_goto (tgt := 15) dL_loadOf_9 rfl ?_
    refine q_iconst (v := nI 0) dL_loadOf_15 (by decide) ?_
    refine q_iret dL_loadOf_16 rfl (Or.inl rfl) ?_
    exact ⟨0, rfl, (Or.inr ⟨n1, rfl, _, h', hp0, rfl⟩)⟩
  · rcases hq with ⟨c1, hq, hp⟩ | ⟨_, _, hq, _⟩
    · cases hq
      refine q_catchN (name := "java/util/NoSuchElementException") (pre := []) (suf := []) (x := { startPc := 0, endPc := 9, handlerPc := 12, catchType := 24 }) (L' := [_, _, _, none]) rfl (fun z hz => by cases hz) (by decide) (by decide) q_ldL24 (by decide) dL_loadOf_12 rfl (by decide) rfl ?_
      refine q_iconst (v := nI 1) dL_loadOf_13 (by decide) ?_
      refine q_iret dL_loadOf_14 rfl (Or.inl rfl) ?_
      exact ⟨1, rfl, (Or.inl ⟨c1, rfl, hp⟩)⟩
    · exact nomatch hq
def mL_loadOn : q_M := (4, some .int, false, tableOf [(0, 9, 12, 13)], { frames := 9, cells := 1, slots := 6, locals := 156 })
theorem g_L_loadOn {Φ : q_Fx} {h : q_Hp} (K : q_Lk Φ h.R h.n) {W : q_W} {O : q_O} (C : q_clX h W O) {d : Int32} : q_CtH Φ yL_loadOn cL_loadOn [(0, 9, 12, 13)] mL_loadOn [.ref 1, .int d, .ref 1074] h (q_l1 h W O (¬ (nI 0 ≤ d ∧ d ≤ nI W.t)) (fun v h' => v = some (.int (W.D d.toNatClampNeg)) ∧ q_rd h h' W O)) := by
  refine q_enterH K.st rfl rfl rfl rfl (Nat.le_of_ble_eq_true rfl) (L := [_, _, _, none]) rfl ?_
  refine q_aload_n dL_loadOn_0 rfl ?_
  refine q_iconst (v := nI 0) dL_loadOn_1 (by decide) ?_
  refine q_aload_n dL_loadOn_2 rfl ?_
  refine q_iload_n dL_loadOn_3 rfl ?_
  refine q_callV (kc := 0) (ks := 0) (g_X9_loadOn K C ) wX9_loadOn kL_77 iX9_loadOn eX9_loadOn rfl rfl (by decide) (K.le (by decide)) (by decide) rfl rfl (Nat.le_of_ble_eq_true rfl) dL_loadOn_4 (fun v' h' hq => ?_) (fun E' h' hq => ?_)
  · rcases hq with ⟨_, hq, _⟩ | ⟨n1, v, hq, hp⟩
    · exact nomatch hq
    cases hq
    have hp0 := hp
    obtain ⟨rfl, hp1⟩ := hp
    have hm := hp1
    have hn9 : h'.n = h.n := (hm.2).2.2.2.2
    refine q_i2l dL_loadOn_7 ?_
    refine q_last (i := nI 0) rfl dL_loadOn_8 (by decide) (by rw [hn9]; exact K.le (by decide)) (vp_in_nI (n := 0) (N := 1) (by decide) (by decide)) ?_
    refine q_goto (tgt := 15) dL_loadOn_9 rfl ?_
    refine q_iconst (v := nI 0) dL_loadOn_15 (by decide) ?_
    refine q_iret dL_loadOn_16 rfl (Or.inl rfl) ?_
    exact ⟨0, rfl, (Or.inr ⟨n1, rfl, _, h', hp0, rfl⟩)⟩
  · rcases hq with ⟨c1, hq, hp⟩ | ⟨_, _, hq, _⟩
    · cases hq
      refine q_catchN (name := "java/lang/IllegalArgumentException") (pre := []) (suf := []) (x := { startPc := 0, endPc := 9, handlerPc := 12, catchType := 13 }) (L' := [_, _, _, none]) rfl (fun z hz => by cases hz) (by decide) (by decide) q_ldL13 (by decide) dL_loadOn_12 rfl (by decide) rfl ?_
      refine q_iconst (v := nI 1) dL_loadOn_13 (by decide) ?_
      refine q_iret dL_loadOn_14 rfl (Or.inl rfl) ?_
      exact ⟨1, rfl, (Or.inl ⟨c1, rfl, hp⟩)⟩
    · exact nomatch hq
def mL_zoneShare : q_M := (4, some .int, false, tableOf [(0, 9, 12, 13), (0, 9, 15, 84)], { frames := 9, cells := 2, slots := 12, locals := 158 })
theorem g_L_zoneShare {Φ : q_Fx} {h : q_Hp} (K : q_Lk Φ h.R h.n) {W : q_W} {O : q_O} (C : q_clX h W O) {z : Int32} : q_CtH Φ yL_zoneShare cL_zoneShare [(0, 9, 12, 13), (0, 9, 15, 84)] mL_zoneShare [.ref 1, .int z, .ref 1075] h (fun r h' => ∃ a : Nat, r = .ok (some (.int (nI a))) ∧ (((¬ (nI 1 ≤ z ∧ z ≤ nI 5)) ∧ a = 1 ∧ q_rd h h' W O) ∨ (¬ (¬ (nI 1 ≤ z ∧ z ≤ nI 5)) ∧ (W.all = 0) ∧ a = 2 ∧ q_rd h h' W O) ∨ (¬ (¬ (nI 1 ≤ z ∧ z ≤ nI 5)) ∧ ¬ (W.all = 0) ∧ a = 0 ∧ ∃ h1, q_rd h h1 W O ∧ h' = h1.setE 1075 0 (FP.f2d (FP.fdiv (FP.i2f (W.zs z.toNatClampNeg)) (FP.i2f W.all)))))) := by
  refine q_enterH K.st rfl rfl rfl rfl (Nat.le_of_ble_eq_true rfl) (L := [_, _, _, none]) rfl ?_
  refine q_aload_n dL_zoneShare_0 rfl ?_
  refine q_iconst (v := nI 0) dL_zoneShare_1 (by decide) ?_
  refine q_aload_n dL_zoneShare_2 rfl ?_
  refine q_iload_n dL_zoneShare_3 rfl ?_
  refine q_callV (kc := 0) (ks := 0) (g_X9_zoneShare K C ) wX9_zoneShare kL_80 iX9_zoneShare eX9_zoneShare rfl rfl (by decide) (K.le (by decide)) (by decide) rfl rfl (Nat.le_of_ble_eq_true rfl) dL_zoneShare_4 (fun v' h' hq => ?_) (fun E' h' hq => ?_)
  · rcases hq with ⟨_, hq, _⟩ | ⟨_, _, hq, _⟩ | ⟨n1, n2, v, hq, hp⟩
    · exact nomatch hq
    · exact nomatch hq
    cases hq
    obtain ⟨rfl, hp⟩ := hp
    have hn9 : h'.n = h.n := hp.2.2.2.2.2
    refine q_f2d dL_zoneShare_7 (q_f2n (q_fd0 n2)) ?_
    refine q_dast (i := nI 0) rfl dL_zoneShare_8 (by decide) (by rw [hn9]; exact K.le (by decide)) (vp_in_nI (n := 0) (N := 1) (by decide) (by decide)) ?_
    refine q_goto (tgt := 18) dL_zoneShare_9 rfl ?_
    refine q_iconst (v := nI 0) dL_zoneShare_18 (by decide) ?_
    refine q_iret dL_zoneShare_19 rfl (Or.inl rfl) ?_
    exact ⟨0, rfl, (Or.inr (Or.inr ⟨n1, n2, rfl, h', hp, rfl⟩))⟩
  · rcases hq with ⟨c1, hq, hp⟩ | ⟨n1, c2, hq, hp⟩ | ⟨_, _, _, hq, _⟩
    · cases hq
      refine q_catchN (name := "java/lang/IllegalArgumentException") (pre := []) (suf := [{ startPc := 0, endPc := 9, handlerPc := 15, catchType := 84 }]) (x := { startPc := 0, endPc := 9, handlerPc := 12, catchType := 13 }) (L' := [_, _, _, none]) rfl (fun z hz => by cases hz) (by decide) (by decide) q_ldL13 (by decide) dL_zoneShare_12 rfl (by decide) rfl ?_
      refine q_iconst (v := nI 1) dL_zoneShare_13 (by decide) ?_
      refine q_iret dL_zoneShare_14 rfl (Or.inl rfl) ?_
      exact ⟨1, rfl, (Or.inl ⟨c1, rfl, hp⟩)⟩
    · cases hq
      refine q_catchN (name := "java/lang/ArithmeticException") (pre := [{ startPc := 0, endPc := 9, handlerPc := 12, catchType := 13 }]) (suf := []) (x := { startPc := 0, endPc := 9, handlerPc := 15, catchType := 84 }) (L' := [_, _, _, none]) rfl (fun z hz => by
        rcases List.mem_cons.mp hz with rfl | hz
        · exact ⟨by decide, _, q_ldL13, by decide⟩
        cases hz) (by decide) (by decide) q_ldL84 (by decide) dL_zoneShare_15 rfl (by decide) rfl ?_
      refine q_iconst (v := nI 2) dL_zoneShare_16 (by decide) ?_
      refine q_iret dL_zoneShare_17 rfl (Or.inl rfl) ?_
      exact ⟨2, rfl, (Or.inr (Or.inl ⟨n1, c2, rfl, hp⟩))⟩
    · exact nomatch hq
def mL_fitnessOn : q_M := (4, some .int, false, tableOf [(0, 9, 12, 13)], { frames := 9, cells := 1, slots := 6, locals := 156 })
theorem g_L_fitnessOn {Φ : q_Fx} {h : q_Hp} (K : q_Lk Φ h.R h.n) {W : q_W} {O : q_O} (C : q_clX h W O) {d : Int32} : q_CtH Φ yL_fitnessOn cL_fitnessOn [(0, 9, 12, 13)] mL_fitnessOn [.ref 1, .int d, .ref 1074] h (q_l1 h W O (¬ (nI 0 ≤ d ∧ d ≤ nI W.t)) (fun v h' => v = some (.int (q_dec (nI 42) W.D (d.toNatClampNeg + 1))) ∧ q_rd h h' W O)) := by
  refine q_enterH K.st rfl rfl rfl rfl (Nat.le_of_ble_eq_true rfl) (L := [_, _, _, none]) rfl ?_
  refine q_aload_n dL_fitnessOn_0 rfl ?_
  refine q_iconst (v := nI 0) dL_fitnessOn_1 (by decide) ?_
  refine q_aload_n dL_fitnessOn_2 rfl ?_
  refine q_iload_n dL_fitnessOn_3 rfl ?_
  refine q_callV (kc := 0) (ks := 0) (g_X9_fitnessOn K C ) wX9_fitnessOn kL_86 iX9_fitnessOn eX9_fitnessOn rfl rfl (by decide) (K.le (by decide)) (by decide) rfl rfl (Nat.le_of_ble_eq_true rfl) dL_fitnessOn_4 (fun v' h' hq => ?_) (fun E' h' hq => ?_)
  · rcases hq with ⟨_, hq, _⟩ | ⟨n1, v, hq, hp⟩
    · exact nomatch hq
    cases hq
    have hp0 := hp
    obtain ⟨rfl, hp1⟩ := hp
    have hm := hp1
    have hn9 : h'.n = h.n := (hm.2).2.2.2.2
    refine q_i2l dL_fitnessOn_7 ?_
    refine q_last (i := nI 0) rfl dL_fitnessOn_8 (by decide) (by rw [hn9]; exact K.le (by decide)) (vp_in_nI (n := 0) (N := 1) (by decide) (by decide)) ?_
    refine q_goto (tgt := 15) dL_fitnessOn_9 rfl ?_
    refine q_iconst (v := nI 0) dL_fitnessOn_15 (by decide) ?_
    refine q_iret dL_fitnessOn_16 rfl (Or.inl rfl) ?_
    exact ⟨0, rfl, (Or.inr ⟨n1, rfl, _, h', hp0, rfl⟩)⟩
  · rcases hq with ⟨c1, hq, hp⟩ | ⟨_, _, hq, _⟩
    · cases hq
      refine q_catchN (name := "java/lang/IllegalArgumentException") (pre := []) (suf := []) (x := { startPc := 0, endPc := 9, handlerPc := 12, catchType := 13 }) (L' := [_, _, _, none]) rfl (fun z hz => by cases hz) (by decide) (by decide) q_ldL13 (by decide) dL_fitnessOn_12 rfl (by decide) rfl ?_
      refine q_iconst (v := nI 1) dL_fitnessOn_13 (by decide) ?_
      refine q_iret dL_fitnessOn_14 rfl (Or.inl rfl) ?_
      exact ⟨1, rfl, (Or.inl ⟨c1, rfl, hp⟩)⟩
    · exact nomatch hq
def mL_fitnessFromStart : q_M := (4, some .int, false, tableOf [(0, 9, 12, 13)], { frames := 9, cells := 1, slots := 6, locals := 158 })
theorem g_L_fitnessFromStart {Φ : q_Fx} {h : q_Hp} (K : q_Lk Φ h.R h.n) {W : q_W} {O : q_O} (C : q_clX h W O) {d : Int32} : q_CtH Φ yL_fitnessFromStart cL_fitnessFromStart [(0, 9, 12, 13)] mL_fitnessFromStart [.ref 1, .int d, .ref 1074] h (q_l1 h W O (¬ (nI 0 ≤ d ∧ d ≤ nI W.t)) (fun v h' => v = some (.int (q_dec (nI 42) W.D (d.toNatClampNeg + 1))) ∧ q_rd h h' W O)) := by
  refine q_enterH K.st rfl rfl rfl rfl (Nat.le_of_ble_eq_true rfl) (L := [_, _, _, none]) rfl ?_
  refine q_aload_n dL_fitnessFromStart_0 rfl ?_
  refine q_iconst (v := nI 0) dL_fitnessFromStart_1 (by decide) ?_
  refine q_aload_n dL_fitnessFromStart_2 rfl ?_
  refine q_iload_n dL_fitnessFromStart_3 rfl ?_
  refine q_callV (kc := 0) (ks := 0) (g_X9_fitnessFromStart K C ) wX9_fitnessFromStart kL_89 iX9_fitnessFromStart eX9_fitnessFromStart rfl rfl (by decide) (K.le (by decide)) (by decide) rfl rfl (Nat.le_of_ble_eq_true rfl) dL_fitnessFromStart_4 (fun v' h' hq => ?_) (fun E' h' hq => ?_)
  · rcases hq with ⟨_, hq, _⟩ | ⟨n1, v, hq, hp⟩
    · exact nomatch hq
    cases hq
    have hp0 := hp
    obtain ⟨rfl, hp1⟩ := hp
    have hm := hp1
    have hn9 : h'.n = h.n := (hm.2).2.2.2.2
    refine q_i2l dL_fitnessFromStart_7 ?_
    refine q_last (i := nI 0) rfl dL_fitnessFromStart_8 (by decide) (by rw [hn9]; exact K.le (by decide)) (vp_in_nI (n := 0) (N := 1) (by decide) (by decide)) ?_
    refine q_goto (tgt := 15) dL_fitnessFromStart_9 rfl ?_
    refine q_iconst (v := nI 0) dL_fitnessFromStart_15 (by decide) ?_
    refine q_iret dL_fitnessFromStart_16 rfl (Or.inl rfl) ?_
    exact ⟨0, rfl, (Or.inr ⟨n1, rfl, _, h', hp0, rfl⟩)⟩
  · rcases hq with ⟨c1, hq, hp⟩ | ⟨_, _, hq, _⟩
    · cases hq
      refine q_catchN (name := "java/lang/IllegalArgumentException") (pre := []) (suf := []) (x := { startPc := 0, endPc := 9, handlerPc := 12, catchType := 13 }) (L' := [_, _, _, none]) rfl (fun z hz => by cases hz) (by decide) (by decide) q_ldL13 (by decide) dL_fitnessFromStart_12 rfl (by decide) rfl ?_
      refine q_iconst (v := nI 1) dL_fitnessFromStart_13 (by decide) ?_
      refine q_iret dL_fitnessFromStart_14 rfl (Or.inl rfl) ?_
      exact ⟨1, rfl, (Or.inl ⟨c1, rfl, hp⟩)⟩
    · exact nomatch hq
def mL_fatigueOn : q_M := (4, some .int, false, tableOf [(0, 9, 12, 13)], { frames := 9, cells := 1, slots := 6, locals := 156 })
theorem g_L_fatigueOn {Φ : q_Fx} {h : q_Hp} (K : q_Lk Φ h.R h.n) {W : q_W} {O : q_O} (C : q_clX h W O) {d : Int32} : q_CtH Φ yL_fatigueOn cL_fatigueOn [(0, 9, 12, 13)] mL_fatigueOn [.ref 1, .int d, .ref 1074] h (q_l1 h W O (¬ (nI 0 ≤ d ∧ d ≤ nI W.t)) (fun v h' => v = some (.int (q_dec (nI 7) W.D (d.toNatClampNeg + 1))) ∧ q_rd h h' W O)) := by
  refine q_enterH K.st rfl rfl rfl rfl (Nat.le_of_ble_eq_true rfl) (L := [_, _, _, none]) rfl ?_
  refine q_aload_n dL_fatigueOn_0 rfl ?_
  refine q_iconst (v := nI 0) dL_fatigueOn_1 (by decide) ?_
  refine q_aload_n dL_fatigueOn_2 rfl ?_
  refine q_iload_n dL_fatigueOn_3 rfl ?_
  refine q_callV (kc := 0) (ks := 0) (g_X9_fatigueOn K C ) wX9_fatigueOn kL_92 iX9_fatigueOn eX9_fatigueOn rfl rfl (by decide) (K.le (by decide)) (by decide) rfl rfl (Nat.le_of_ble_eq_true rfl) dL_fatigueOn_4 (fun v' h' hq => ?_) (fun E' h' hq => ?_)
  · rcases hq with ⟨_, hq, _⟩ | ⟨n1, v, hq, hp⟩
    · exact nomatch hq
    cases hq
    have hp0 := hp
    obtain ⟨rfl, hp1⟩ := hp
    have hm := hp1
    have hn9 : h'.n = h.n := (hm.2).2.2.2.2
    refine q_i2l dL_fatigueOn_7 ?_
    refine q_last (i := nI 0) rfl dL_fatigueOn_8 (by decide) (by rw [hn9]; exact K.le (by decide)) (vp_in_nI (n := 0) (N := 1) (by decide) (by decide)) ?_
    refine q_goto (tgt := 15) dL_fatigueOn_9 rfl ?_
    refine q_iconst (v := nI 0) dL_fatigueOn_15 (by decide) ?_
    refine q_iret dL_fatigueOn_16 rfl (Or.inl rfl) ?_
    exact ⟨0, rfl, (Or.inr ⟨n1, rfl, _, h', hp0, rfl⟩)⟩
  · rcases hq with ⟨c1, hq, hp⟩ | ⟨_, _, hq, _⟩
    · cases hq
      refine q_catchN (name := "java/lang/IllegalArgumentException") (pre := []) (suf := []) (x := { startPc := 0, endPc := 9, handlerPc := 12, catchType := 13 }) (L' := [_, _, _, none]) rfl (fun z hz => by cases hz) (by decide) (by decide) q_ldL13 (by decide) dL_fatigueOn_12 rfl (by decide) rfl ?_
      refine q_iconst (v := nI 1) dL_fatigueOn_13 (by decide) ?_
      refine q_iret dL_fatigueOn_14 rfl (Or.inl rfl) ?_
      exact ⟨1, rfl, (Or.inl ⟨c1, rfl, hp⟩)⟩
    · exact nomatch hq
def mL_fatigueFromStart : q_M := (4, some .int, false, tableOf [(0, 9, 12, 13)], { frames := 9, cells := 1, slots := 6, locals := 158 })
theorem g_L_fatigueFromStart {Φ : q_Fx} {h : q_Hp} (K : q_Lk Φ h.R h.n) {W : q_W} {O : q_O} (C : q_clX h W O) {d : Int32} : q_CtH Φ yL_fatigueFromStart cL_fatigueFromStart [(0, 9, 12, 13)] mL_fatigueFromStart [.ref 1, .int d, .ref 1074] h (q_l1 h W O (¬ (nI 0 ≤ d ∧ d ≤ nI W.t)) (fun v h' => v = some (.int (q_dec (nI 7) W.D (d.toNatClampNeg + 1))) ∧ q_rd h h' W O)) := by
  refine q_enterH K.st rfl rfl rfl rfl (Nat.le_of_ble_eq_true rfl) (L := [_, _, _, none]) rfl ?_
  refine q_aload_n dL_fatigueFromStart_0 rfl ?_
  refine q_iconst (v := nI 0) dL_fatigueFromStart_1 (by decide) ?_
  refine q_aload_n dL_fatigueFromStart_2 rfl ?_
  refine q_iload_n dL_fatigueFromStart_3 rfl ?_
  refine q_callV (kc := 0) (ks := 0) (g_X9_fatigueFromStart K C ) wX9_fatigueFromStart kL_95 iX9_fatigueFromStart eX9_fatigueFromStart rfl rfl (by decide) (K.le (by decide)) (by decide) rfl rfl (Nat.le_of_ble_eq_true rfl) dL_fatigueFromStart_4 (fun v' h' hq => ?_) (fun E' h' hq => ?_)
  · rcases hq with ⟨_, hq, _⟩ | ⟨n1, v, hq, hp⟩
    · exact nomatch hq
    cases hq
    have hp0 := hp
    obtain ⟨rfl, hp1⟩ := hp
    have hm := hp1
    have hn9 : h'.n = h.n := (hm.2).2.2.2.2
    refine q_i2l dL_fatigueFromStart_7 ?_
    refine q_last (i := nI 0) rfl dL_fatigueFromStart_8 (by decide) (by rw [hn9]; exact K.le (by decide)) (vp_in_nI (n := 0) (N := 1) (by decide) (by decide)) ?_
    refine q_goto (tgt := 15) dL_fatigueFromStart_9 rfl ?_
    refine q_iconst (v := nI 0) dL_fatigueFromStart_15 (by decide) ?_
    refine q_iret dL_fatigueFromStart_16 rfl (Or.inl rfl) ?_
    exact ⟨0, rfl, (Or.inr ⟨n1, rfl, _, h', hp0, rfl⟩)⟩
  · rcases hq with ⟨c1, hq, hp⟩ | ⟨_, _, hq, _⟩
    · cases hq
      refine q_catchN (name := "java/lang/IllegalArgumentException") (pre := []) (suf := []) (x := { startPc := 0, endPc := 9, handlerPc := 12, catchType := 13 }) (L' := [_, _, _, none]) rfl (fun z hz => by cases hz) (by decide) (by decide) q_ldL13 (by decide) dL_fatigueFromStart_12 rfl (by decide) rfl ?_
      refine q_iconst (v := nI 1) dL_fatigueFromStart_13 (by decide) ?_
      refine q_iret dL_fatigueFromStart_14 rfl (Or.inl rfl) ?_
      exact ⟨1, rfl, (Or.inl ⟨c1, rfl, hp⟩)⟩
    · exact nomatch hq
def mL_formOn : q_M := (4, some .int, false, tableOf [(0, 9, 12, 13)], { frames := 9, cells := 1, slots := 6, locals := 156 })
theorem g_L_formOn {Φ : q_Fx} {h : q_Hp} (K : q_Lk Φ h.R h.n) {W : q_W} {O : q_O} (C : q_clX h W O) {d : Int32} : q_CtH Φ yL_formOn cL_formOn [(0, 9, 12, 13)] mL_formOn [.ref 1, .int d, .ref 1074] h (q_l1 h W O (¬ (nI 0 ≤ d ∧ d ≤ nI W.t)) (fun v h' => v = some (.int (W.fm d.toNatClampNeg)) ∧ q_rd h h' W O)) := by
  refine q_enterH K.st rfl rfl rfl rfl (Nat.le_of_ble_eq_true rfl) (L := [_, _, _, none]) rfl ?_
  refine q_aload_n dL_formOn_0 rfl ?_
  refine q_iconst (v := nI 0) dL_formOn_1 (by decide) ?_
  refine q_aload_n dL_formOn_2 rfl ?_
  refine q_iload_n dL_formOn_3 rfl ?_
  refine q_callV (kc := 0) (ks := 0) (g_X9_formOn K C ) wX9_formOn kL_98 iX9_formOn eX9_formOn rfl rfl (by decide) (K.le (by decide)) (by decide) rfl rfl (Nat.le_of_ble_eq_true rfl) dL_formOn_4 (fun v' h' hq => ?_) (fun E' h' hq => ?_)
  · rcases hq with ⟨_, hq, _⟩ | ⟨n1, v, hq, hp⟩
    · exact nomatch hq
    cases hq
    have hp0 := hp
    obtain ⟨rfl, hp1⟩ := hp
    have hm := hp1
    have hn9 : h'.n = h.n := (hm.2).2.2.2.2
    refine q_i2l dL_formOn_7 ?_
    refine q_last (i := nI 0) rfl dL_formOn_8 (by decide) (by rw [hn9]; exact K.le (by decide)) (vp_in_nI (n := 0) (N := 1) (by decide) (by decide)) ?_
    refine q_goto (tgt := 15) dL_formOn_9 rfl ?_
    refine q_iconst (v := nI 0) dL_formOn_15 (by decide) ?_
    refine q_iret dL_formOn_16 rfl (Or.inl rfl) ?_
    exact ⟨0, rfl, (Or.inr ⟨n1, rfl, _, h', hp0, rfl⟩)⟩
  · rcases hq with ⟨c1, hq, hp⟩ | ⟨_, _, hq, _⟩
    · cases hq
      refine q_catchN (name := "java/lang/IllegalArgumentException") (pre := []) (suf := []) (x := { startPc := 0, endPc := 9, handlerPc := 12, catchType := 13 }) (L' := [_, _, _, none]) rfl (fun z hz => by cases hz) (by decide) (by decide) q_ldL13 (by decide) dL_formOn_12 rfl (by decide) rfl ?_
      refine q_iconst (v := nI 1) dL_formOn_13 (by decide) ?_
      refine q_iret dL_formOn_14 rfl (Or.inl rfl) ?_
      exact ⟨1, rfl, (Or.inl ⟨c1, rfl, hp⟩)⟩
    · exact nomatch hq
def mL_daysToForm : q_M := (4, some .int, false, tableOf [(0, 9, 12, 13), (0, 9, 15, 24)], { frames := 8, cells := 2, slots := 12, locals := 138 })
theorem g_L_daysToForm {Φ : q_Fx} {h : q_Hp} (K : q_Lk Φ h.R h.n) {W : q_W} {O : q_O} (C : q_clX h W O) {x : Int32} : q_CtH Φ yL_daysToForm cL_daysToForm [(0, 9, 12, 13), (0, 9, 15, 24)] mL_daysToForm [.ref 1, .int x, .ref 1074] h (q_l2 h W O (¬ (-100000 ≤ x ∧ x ≤ nI 100000)) (q_ps (fun n => decide (x ≤ W.G n)) 201 < 0) (fun v h' => v = some (.int (q_ps (fun n => decide (x ≤ W.G n)) 201)) ∧ q_rd h h' W O)) := by
  refine q_enterH K.st rfl rfl rfl rfl (Nat.le_of_ble_eq_true rfl) (L := [_, _, _, none]) rfl ?_
  refine q_aload_n dL_daysToForm_0 rfl ?_
  refine q_iconst (v := nI 0) dL_daysToForm_1 (by decide) ?_
  refine q_aload_n dL_daysToForm_2 rfl ?_
  refine q_iload_n dL_daysToForm_3 rfl ?_
  refine q_callV (kc := 0) (ks := 0) (g_X9_daysToForm K C ) wX9_daysToForm kL_101 iX9_daysToForm eX9_daysToForm rfl rfl (by decide) (K.le (by decide)) (by decide) rfl rfl (Nat.le_of_ble_eq_true rfl) dL_daysToForm_4 (fun v' h' hq => ?_) (fun E' h' hq => ?_)
  · rcases hq with ⟨_, hq, _⟩ | ⟨_, _, hq, _⟩ | ⟨n1, n2, v, hq, hp⟩
    · exact nomatch hq
    · exact nomatch hq
    cases hq
    have hp0 := hp
    obtain ⟨rfl, hp1⟩ := hp
    have hm := hp1
    have hn9 : h'.n = h.n := (hm.2).2.2.2.2
    refine q_i2l dL_daysToForm_7 ?_
    refine q_last (i := nI 0) rfl dL_daysToForm_8 (by decide) (by rw [hn9]; exact K.le (by decide)) (vp_in_nI (n := 0) (N := 1) (by decide) (by decide)) ?_
    refine q_goto (tgt := 18) dL_daysToForm_9 rfl ?_
    refine q_iconst (v := nI 0) dL_daysToForm_18 (by decide) ?_
    refine q_iret dL_daysToForm_19 rfl (Or.inl rfl) ?_
    exact ⟨0, rfl, (Or.inr (Or.inr ⟨n1, n2, rfl, _, h', hp0, rfl⟩))⟩
  · rcases hq with ⟨c1, hq, hp⟩ | ⟨n1, c2, hq, hp⟩ | ⟨_, _, _, hq, _⟩
    · cases hq
      refine q_catchN (name := "java/lang/IllegalArgumentException") (pre := []) (suf := [{ startPc := 0, endPc := 9, handlerPc := 15, catchType := 24 }]) (x := { startPc := 0, endPc := 9, handlerPc := 12, catchType := 13 }) (L' := [_, _, _, none]) rfl (fun z hz => by cases hz) (by decide) (by decide) q_ldL13 (by decide) dL_daysToForm_12 rfl (by decide) rfl ?_
      refine q_iconst (v := nI 1) dL_daysToForm_13 (by decide) ?_
      refine q_iret dL_daysToForm_14 rfl (Or.inl rfl) ?_
      exact ⟨1, rfl, (Or.inl ⟨c1, rfl, hp⟩)⟩
    · cases hq
      refine q_catchN (name := "java/util/NoSuchElementException") (pre := [{ startPc := 0, endPc := 9, handlerPc := 12, catchType := 13 }]) (suf := []) (x := { startPc := 0, endPc := 9, handlerPc := 15, catchType := 24 }) (L' := [_, _, _, none]) rfl (fun z hz => by
        rcases List.mem_cons.mp hz with rfl | hz
        · exact ⟨by decide, _, q_ldL13, by decide⟩
        cases hz) (by decide) (by decide) q_ldL24 (by decide) dL_daysToForm_15 rfl (by decide) rfl ?_
      refine q_iconst (v := nI 2) dL_daysToForm_16 (by decide) ?_
      refine q_iret dL_daysToForm_17 rfl (Or.inl rfl) ?_
      exact ⟨2, rfl, (Or.inr (Or.inl ⟨n1, c2, rfl, hp⟩))⟩
    · exact nomatch hq
def mL_bestDays : q_M := (4, some .int, false, tableOf [(0, 9, 12, 13), (0, 9, 15, 24)], { frames := 9, cells := 2, slots := 12, locals := 157 })
theorem g_L_bestDays {Φ : q_Fx} {h : q_Hp} (K : q_Lk Φ h.R h.n) {W : q_W} {O : q_O} (C : q_clX h W O) {n : Int32} : q_CtH Φ yL_bestDays cL_bestDays [(0, 9, 12, 13), (0, 9, 15, 24)] mL_bestDays [.ref 1, .int n, .ref 1074] h (q_l2 h W O (¬ (nI 1 ≤ n ∧ n ≤ nI 60)) (nI W.t < n - nI 1) (fun v h' => v = some (.int (q_sum (fun k => W.D ((q_br (fun a => q_sum (fun k => W.D (a + k)) n.toNatClampNeg) (W.t + 1 - n.toNatClampNeg)) + k)) n.toNatClampNeg)) ∧ q_rd h h' W O)) := by
  refine q_enterH K.st rfl rfl rfl rfl (Nat.le_of_ble_eq_true rfl) (L := [_, _, _, none]) rfl ?_
  refine q_aload_n dL_bestDays_0 rfl ?_
  refine q_iconst (v := nI 0) dL_bestDays_1 (by decide) ?_
  refine q_aload_n dL_bestDays_2 rfl ?_
  refine q_iload_n dL_bestDays_3 rfl ?_
  refine q_callV (kc := 0) (ks := 0) (g_X9_bestDays K C ) wX9_bestDays kL_104 iX9_bestDays eX9_bestDays rfl rfl (by decide) (K.le (by decide)) (by decide) rfl rfl (Nat.le_of_ble_eq_true rfl) dL_bestDays_4 (fun v' h' hq => ?_) (fun E' h' hq => ?_)
  · rcases hq with ⟨_, hq, _⟩ | ⟨_, _, hq, _⟩ | ⟨n1, n2, v, hq, hp⟩
    · exact nomatch hq
    · exact nomatch hq
    cases hq
    have hp0 := hp
    obtain ⟨rfl, hp1⟩ := hp
    have hm := hp1
    have hn9 : h'.n = h.n := (hm.2).2.2.2.2
    refine q_i2l dL_bestDays_7 ?_
    refine q_last (i := nI 0) rfl dL_bestDays_8 (by decide) (by rw [hn9]; exact K.le (by decide)) (vp_in_nI (n := 0) (N := 1) (by decide) (by decide)) ?_
    refine q_goto (tgt := 18) dL_bestDays_9 rfl ?_
    refine q_iconst (v := nI 0) dL_bestDays_18 (by decide) ?_
    refine q_iret dL_bestDays_19 rfl (Or.inl rfl) ?_
    exact ⟨0, rfl, (Or.inr (Or.inr ⟨n1, n2, rfl, _, h', hp0, rfl⟩))⟩
  · rcases hq with ⟨c1, hq, hp⟩ | ⟨n1, c2, hq, hp⟩ | ⟨_, _, _, hq, _⟩
    · cases hq
      refine q_catchN (name := "java/lang/IllegalArgumentException") (pre := []) (suf := [{ startPc := 0, endPc := 9, handlerPc := 15, catchType := 24 }]) (x := { startPc := 0, endPc := 9, handlerPc := 12, catchType := 13 }) (L' := [_, _, _, none]) rfl (fun z hz => by cases hz) (by decide) (by decide) q_ldL13 (by decide) dL_bestDays_12 rfl (by decide) rfl ?_
      refine q_iconst (v := nI 1) dL_bestDays_13 (by decide) ?_
      refine q_iret dL_bestDays_14 rfl (Or.inl rfl) ?_
      exact ⟨1, rfl, (Or.inl ⟨c1, rfl, hp⟩)⟩
    · cases hq
      refine q_catchN (name := "java/util/NoSuchElementException") (pre := [{ startPc := 0, endPc := 9, handlerPc := 12, catchType := 13 }]) (suf := []) (x := { startPc := 0, endPc := 9, handlerPc := 15, catchType := 24 }) (L' := [_, _, _, none]) rfl (fun z hz => by
        rcases List.mem_cons.mp hz with rfl | hz
        · exact ⟨by decide, _, q_ldL13, by decide⟩
        cases hz) (by decide) (by decide) q_ldL24 (by decide) dL_bestDays_15 rfl (by decide) rfl ?_
      refine q_iconst (v := nI 2) dL_bestDays_16 (by decide) ?_
      refine q_iret dL_bestDays_17 rfl (Or.inl rfl) ?_
      exact ⟨2, rfl, (Or.inr (Or.inl ⟨n1, c2, rfl, hp⟩))⟩
    · exact nomatch hq
def mL_bestDaysByTrying : q_M := (4, some .int, false, tableOf [(0, 9, 12, 13), (0, 9, 15, 24)], { frames := 9, cells := 2, slots := 12, locals := 158 })
theorem g_L_bestDaysByTrying {Φ : q_Fx} {h : q_Hp} (K : q_Lk Φ h.R h.n) {W : q_W} {O : q_O} (C : q_clX h W O) {n : Int32} : q_CtH Φ yL_bestDaysByTrying cL_bestDaysByTrying [(0, 9, 12, 13), (0, 9, 15, 24)] mL_bestDaysByTrying [.ref 1, .int n, .ref 1074] h (q_l2 h W O (¬ (nI 1 ≤ n ∧ n ≤ nI 60)) (nI W.t < n - nI 1) (fun v h' => v = some (.int (q_mz (fun a => q_sum (fun k => W.D (a + k)) n.toNatClampNeg) (W.t + 2 - n.toNatClampNeg))) ∧ q_rd h h' W O)) := by
  refine q_enterH K.st rfl rfl rfl rfl (Nat.le_of_ble_eq_true rfl) (L := [_, _, _, none]) rfl ?_
  refine q_aload_n dL_bestDaysByTrying_0 rfl ?_
  refine q_iconst (v := nI 0) dL_bestDaysByTrying_1 (by decide) ?_
  refine q_aload_n dL_bestDaysByTrying_2 rfl ?_
  refine q_iload_n dL_bestDaysByTrying_3 rfl ?_
  refine q_callV (kc := 0) (ks := 0) (g_X9_bestDaysByTrying K C ) wX9_bestDaysByTrying kL_107 iX9_bestDaysByTrying eX9_bestDaysByTrying rfl rfl (by decide) (K.le (by decide)) (by decide) rfl rfl (Nat.le_of_ble_eq_true rfl) dL_bestDaysByTrying_4 (fun v' h' hq => ?_) (fun E' h' hq => ?_)
  · rcases hq with ⟨_, hq, _⟩ | ⟨_, _, hq, _⟩ | ⟨n1, n2, v, hq, hp⟩
    · exact nomatch hq
    · exact nomatch hq
    cases hq
    have hp0 := hp
    obtain ⟨rfl, hp1⟩ := hp
    have hm := hp1
    have hn9 : h'.n = h.n := (hm.2).2.2.2.2
    refine q_i2l dL_bestDaysByTrying_7 ?_
    refine q_last (i := nI 0) rfl dL_bestDaysByTrying_8 (by decide) (by rw [hn9]; exact K.le (by decide)) (vp_in_nI (n := 0) (N := 1) (by decide) (by decide)) ?_
    refine q_goto (tgt := 18) dL_bestDaysByTrying_9 rfl ?_
    refine q_iconst (v := nI 0) dL_bestDaysByTrying_18 (by decide) ?_
    refine q_iret dL_bestDaysByTrying_19 rfl (Or.inl rfl) ?_
    exact ⟨0, rfl, (Or.inr (Or.inr ⟨n1, n2, rfl, _, h', hp0, rfl⟩))⟩
  · rcases hq with ⟨c1, hq, hp⟩ | ⟨n1, c2, hq, hp⟩ | ⟨_, _, _, hq, _⟩
    · cases hq
      refine q_catchN (name := "java/lang/IllegalArgumentException") (pre := []) (suf := [{ startPc := 0, endPc := 9, handlerPc := 15, catchType := 24 }]) (x := { startPc := 0, endPc := 9, handlerPc := 12, catchType := 13 }) (L' := [_, _, _, none]) rfl (fun z hz => by cases hz) (by decide) (by decide) q_ldL13 (by decide) dL_bestDaysByTrying_12 rfl (by decide) rfl ?_
      refine q_iconst (v := nI 1) dL_bestDaysByTrying_13 (by decide) ?_
      refine q_iret dL_bestDaysByTrying_14 rfl (Or.inl rfl) ?_
      exact ⟨1, rfl, (Or.inl ⟨c1, rfl, hp⟩)⟩
    · cases hq
      refine q_catchN (name := "java/util/NoSuchElementException") (pre := [{ startPc := 0, endPc := 9, handlerPc := 12, catchType := 13 }]) (suf := []) (x := { startPc := 0, endPc := 9, handlerPc := 15, catchType := 24 }) (L' := [_, _, _, none]) rfl (fun z hz => by
        rcases List.mem_cons.mp hz with rfl | hz
        · exact ⟨by decide, _, q_ldL13, by decide⟩
        cases hz) (by decide) (by decide) q_ldL24 (by decide) dL_bestDaysByTrying_15 rfl (by decide) rfl ?_
      refine q_iconst (v := nI 2) dL_bestDaysByTrying_16 (by decide) ?_
      refine q_iret dL_bestDaysByTrying_17 rfl (Or.inl rfl) ?_
      exact ⟨2, rfl, (Or.inr (Or.inl ⟨n1, c2, rfl, hp⟩))⟩
    · exact nomatch hq
def mL_bestDaysStart : q_M := (4, some .int, false, tableOf [(0, 9, 12, 13), (0, 9, 15, 24)], { frames := 9, cells := 2, slots := 12, locals := 156 })
theorem g_L_bestDaysStart {Φ : q_Fx} {h : q_Hp} (K : q_Lk Φ h.R h.n) {W : q_W} {O : q_O} (C : q_clX h W O) {n : Int32} : q_CtH Φ yL_bestDaysStart cL_bestDaysStart [(0, 9, 12, 13), (0, 9, 15, 24)] mL_bestDaysStart [.ref 1, .int n, .ref 1074] h (q_l2 h W O (¬ (nI 1 ≤ n ∧ n ≤ nI 60)) (nI W.t < n - nI 1) (fun v h' => v = some (.int (nI (q_br (fun a => q_sum (fun k => W.D (a + k)) n.toNatClampNeg) (W.t + 1 - n.toNatClampNeg)))) ∧ q_rd h h' W O)) := by
  refine q_enterH K.st rfl rfl rfl rfl (Nat.le_of_ble_eq_true rfl) (L := [_, _, _, none]) rfl ?_
  refine q_aload_n dL_bestDaysStart_0 rfl ?_
  refine q_iconst (v := nI 0) dL_bestDaysStart_1 (by decide) ?_
  refine q_aload_n dL_bestDaysStart_2 rfl ?_
  refine q_iload_n dL_bestDaysStart_3 rfl ?_
  refine q_callV (kc := 0) (ks := 0) (g_X9_bestDaysStart K C ) wX9_bestDaysStart kL_110 iX9_bestDaysStart eX9_bestDaysStart rfl rfl (by decide) (K.le (by decide)) (by decide) rfl rfl (Nat.le_of_ble_eq_true rfl) dL_bestDaysStart_4 (fun v' h' hq => ?_) (fun E' h' hq => ?_)
  · rcases hq with ⟨_, hq, _⟩ | ⟨_, _, hq, _⟩ | ⟨n1, n2, v, hq, hp⟩
    · exact nomatch hq
    · exact nomatch hq
    cases hq
    have hp0 := hp
    obtain ⟨rfl, hp1⟩ := hp
    have hm := hp1
    have hn9 : h'.n = h.n := (hm.2).2.2.2.2
    refine q_i2l dL_bestDaysStart_7 ?_
    refine q_last (i := nI 0) rfl dL_bestDaysStart_8 (by decide) (by rw [hn9]; exact K.le (by decide)) (vp_in_nI (n := 0) (N := 1) (by decide) (by decide)) ?_
    refine q_goto (tgt := 18) dL_bestDaysStart_9 rfl ?_
    refine q_iconst (v := nI 0) dL_bestDaysStart_18 (by decide) ?_
    refine q_iret dL_bestDaysStart_19 rfl (Or.inl rfl) ?_
    exact ⟨0, rfl, (Or.inr (Or.inr ⟨n1, n2, rfl, _, h', hp0, rfl⟩))⟩
  · rcases hq with ⟨c1, hq, hp⟩ | ⟨n1, c2, hq, hp⟩ | ⟨_, _, _, hq, _⟩
    · cases hq
      refine q_catchN (name := "java/lang/IllegalArgumentException") (pre := []) (suf := [{ startPc := 0, endPc := 9, handlerPc := 15, catchType := 24 }]) (x := { startPc := 0, endPc := 9, handlerPc := 12, catchType := 13 }) (L' := [_, _, _, none]) rfl (fun z hz => by cases hz) (by decide) (by decide) q_ldL13 (by decide) dL_bestDaysStart_12 rfl (by decide) rfl ?_
      refine q_iconst (v := nI 1) dL_bestDaysStart_13 (by decide) ?_
      refine q_iret dL_bestDaysStart_14 rfl (Or.inl rfl) ?_
      exact ⟨1, rfl, (Or.inl ⟨c1, rfl, hp⟩)⟩
    · cases hq
      refine q_catchN (name := "java/util/NoSuchElementException") (pre := [{ startPc := 0, endPc := 9, handlerPc := 12, catchType := 13 }]) (suf := []) (x := { startPc := 0, endPc := 9, handlerPc := 15, catchType := 24 }) (L' := [_, _, _, none]) rfl (fun z hz => by
        rcases List.mem_cons.mp hz with rfl | hz
        · exact ⟨by decide, _, q_ldL13, by decide⟩
        cases hz) (by decide) (by decide) q_ldL24 (by decide) dL_bestDaysStart_15 rfl (by decide) rfl ?_
      refine q_iconst (v := nI 2) dL_bestDaysStart_16 (by decide) ?_
      refine q_iret dL_bestDaysStart_17 rfl (Or.inl rfl) ?_
      exact ⟨2, rfl, (Or.inr (Or.inl ⟨n1, c2, rfl, hp⟩))⟩
    · exact nomatch hq
def mL_bestEffort : q_M := (4, some .int, false, tableOf [(0, 9, 12, 13), (0, 9, 15, 24)], { frames := 10, cells := 2, slots := 12, locals := 182 })
theorem g_L_bestEffort {Φ : q_Fx} {h : q_Hp} (K : q_Lk Φ h.R h.n) {W : q_W} {O : q_O} (C : q_clX h W O) (hok : ∀ s, s < 40 → W.okS s) {n : Int32} : q_CtH Φ yL_bestEffort cL_bestEffort [(0, 9, 12, 13), (0, 9, 15, 24)] mL_bestEffort [.ref 1, .int n, .ref 1074] h (q_l2 h W O (¬ (nI 1 ≤ n ∧ n ≤ nI 240)) (q_any (fun i => decide (n ≤ W.len (W.σ i))) W.c = false) (fun v h' => v = some (.int (W.ef (W.σ (W.bp n.toNatClampNeg)) n.toNatClampNeg)) ∧ q_rd h h' W O)) := by
  refine q_enterH K.st rfl rfl rfl rfl (Nat.le_of_ble_eq_true rfl) (L := [_, _, _, none]) rfl ?_
  refine q_aload_n dL_bestEffort_0 rfl ?_
  refine q_iconst (v := nI 0) dL_bestEffort_1 (by decide) ?_
  refine q_aload_n dL_bestEffort_2 rfl ?_
  refine q_iload_n dL_bestEffort_3 rfl ?_
  refine q_callV (kc := 0) (ks := 0) (g_X9_bestEffort K C hok) wX9_bestEffort kL_113 iX9_bestEffort eX9_bestEffort rfl rfl (by decide) (K.le (by decide)) (by decide) rfl rfl (Nat.le_of_ble_eq_true rfl) dL_bestEffort_4 (fun v' h' hq => ?_) (fun E' h' hq => ?_)
  · rcases hq with ⟨_, hq, _⟩ | ⟨_, _, hq, _⟩ | ⟨n1, n2, v, hq, hp⟩
    · exact nomatch hq
    · exact nomatch hq
    cases hq
    have hp0 := hp
    obtain ⟨rfl, hp1⟩ := hp
    have hm := hp1
    have hn9 : h'.n = h.n := (hm.2).2.2.2.2
    refine q_i2l dL_bestEffort_7 ?_
    refine q_last (i := nI 0) rfl dL_bestEffort_8 (by decide) (by rw [hn9]; exact K.le (by decide)) (vp_in_nI (n := 0) (N := 1) (by decide) (by decide)) ?_
    refine q_goto (tgt := 18) dL_bestEffort_9 rfl ?_
    refine q_iconst (v := nI 0) dL_bestEffort_18 (by decide) ?_
    refine q_iret dL_bestEffort_19 rfl (Or.inl rfl) ?_
    exact ⟨0, rfl, (Or.inr (Or.inr ⟨n1, n2, rfl, _, h', hp0, rfl⟩))⟩
  · rcases hq with ⟨c1, hq, hp⟩ | ⟨n1, c2, hq, hp⟩ | ⟨_, _, _, hq, _⟩
    · cases hq
      refine q_catchN (name := "java/lang/IllegalArgumentException") (pre := []) (suf := [{ startPc := 0, endPc := 9, handlerPc := 15, catchType := 24 }]) (x := { startPc := 0, endPc := 9, handlerPc := 12, catchType := 13 }) (L' := [_, _, _, none]) rfl (fun z hz => by cases hz) (by decide) (by decide) q_ldL13 (by decide) dL_bestEffort_12 rfl (by decide) rfl ?_
      refine q_iconst (v := nI 1) dL_bestEffort_13 (by decide) ?_
      refine q_iret dL_bestEffort_14 rfl (Or.inl rfl) ?_
      exact ⟨1, rfl, (Or.inl ⟨c1, rfl, hp⟩)⟩
    · cases hq
      refine q_catchN (name := "java/util/NoSuchElementException") (pre := [{ startPc := 0, endPc := 9, handlerPc := 12, catchType := 13 }]) (suf := []) (x := { startPc := 0, endPc := 9, handlerPc := 15, catchType := 24 }) (L' := [_, _, _, none]) rfl (fun z hz => by
        rcases List.mem_cons.mp hz with rfl | hz
        · exact ⟨by decide, _, q_ldL13, by decide⟩
        cases hz) (by decide) (by decide) q_ldL24 (by decide) dL_bestEffort_15 rfl (by decide) rfl ?_
      refine q_iconst (v := nI 2) dL_bestEffort_16 (by decide) ?_
      refine q_iret dL_bestEffort_17 rfl (Or.inl rfl) ?_
      exact ⟨2, rfl, (Or.inr (Or.inl ⟨n1, c2, rfl, hp⟩))⟩
    · exact nomatch hq
def mL_bestEffortByTrying : q_M := (4, some .int, false, tableOf [(0, 9, 12, 13), (0, 9, 15, 24)], { frames := 9, cells := 2, slots := 12, locals := 158 })
theorem g_L_bestEffortByTrying {Φ : q_Fx} {h : q_Hp} (K : q_Lk Φ h.R h.n) {W : q_W} {O : q_O} (C : q_clX h W O) (hok : ∀ s, s < 40 → W.okS s) {n : Int32} : q_CtH Φ yL_bestEffortByTrying cL_bestEffortByTrying [(0, 9, 12, 13), (0, 9, 15, 24)] mL_bestEffortByTrying [.ref 1, .int n, .ref 1074] h (q_l2 h W O (¬ (nI 1 ≤ n ∧ n ≤ nI 240)) (q_any (fun i => decide (n ≤ W.len (W.σ i))) W.c = false) (fun v h' => v = some (.int (q_mz (fun i => W.et (W.σ i) n.toNatClampNeg) W.c)) ∧ q_rd h h' W O)) := by
  refine q_enterH K.st rfl rfl rfl rfl (Nat.le_of_ble_eq_true rfl) (L := [_, _, _, none]) rfl ?_
  refine q_aload_n dL_bestEffortByTrying_0 rfl ?_
  refine q_iconst (v := nI 0) dL_bestEffortByTrying_1 (by decide) ?_
  refine q_aload_n dL_bestEffortByTrying_2 rfl ?_
  refine q_iload_n dL_bestEffortByTrying_3 rfl ?_
  refine q_callV (kc := 0) (ks := 0) (g_X9_bestEffortByTrying K C hok) wX9_bestEffortByTrying kL_116 iX9_bestEffortByTrying eX9_bestEffortByTrying rfl rfl (by decide) (K.le (by decide)) (by decide) rfl rfl (Nat.le_of_ble_eq_true rfl) dL_bestEffortByTrying_4 (fun v' h' hq => ?_) (fun E' h' hq => ?_)
  · rcases hq with ⟨_, hq, _⟩ | ⟨_, _, hq, _⟩ | ⟨n1, n2, v, hq, hp⟩
    · exact nomatch hq
    · exact nomatch hq
    cases hq
    have hp0 := hp
    obtain ⟨rfl, hp1⟩ := hp
    have hm := hp1
    have hn9 : h'.n = h.n := (hm.2).2.2.2.2
    refine q_i2l dL_bestEffortByTrying_7 ?_
    refine q_last (i := nI 0) rfl dL_bestEffortByTrying_8 (by decide) (by rw [hn9]; exact K.le (by decide)) (vp_in_nI (n := 0) (N := 1) (by decide) (by decide)) ?_
    refine q_goto (tgt := 18) dL_bestEffortByTrying_9 rfl ?_
    refine q_iconst (v := nI 0) dL_bestEffortByTrying_18 (by decide) ?_
    refine q_iret dL_bestEffortByTrying_19 rfl (Or.inl rfl) ?_
    exact ⟨0, rfl, (Or.inr (Or.inr ⟨n1, n2, rfl, _, h', hp0, rfl⟩))⟩
  · rcases hq with ⟨c1, hq, hp⟩ | ⟨n1, c2, hq, hp⟩ | ⟨_, _, _, hq, _⟩
    · cases hq
      refine q_catchN (name := "java/lang/IllegalArgumentException") (pre := []) (suf := [{ startPc := 0, endPc := 9, handlerPc := 15, catchType := 24 }]) (x := { startPc := 0, endPc := 9, handlerPc := 12, catchType := 13 }) (L' := [_, _, _, none]) rfl (fun z hz => by cases hz) (by decide) (by decide) q_ldL13 (by decide) dL_bestEffortByTrying_12 rfl (by decide) rfl ?_
      refine q_iconst (v := nI 1) dL_bestEffortByTrying_13 (by decide) ?_
      refine q_iret dL_bestEffortByTrying_14 rfl (Or.inl rfl) ?_
      exact ⟨1, rfl, (Or.inl ⟨c1, rfl, hp⟩)⟩
    · cases hq
      refine q_catchN (name := "java/util/NoSuchElementException") (pre := [{ startPc := 0, endPc := 9, handlerPc := 12, catchType := 13 }]) (suf := []) (x := { startPc := 0, endPc := 9, handlerPc := 15, catchType := 24 }) (L' := [_, _, _, none]) rfl (fun z hz => by
        rcases List.mem_cons.mp hz with rfl | hz
        · exact ⟨by decide, _, q_ldL13, by decide⟩
        cases hz) (by decide) (by decide) q_ldL24 (by decide) dL_bestEffortByTrying_15 rfl (by decide) rfl ?_
      refine q_iconst (v := nI 2) dL_bestEffortByTrying_16 (by decide) ?_
      refine q_iret dL_bestEffortByTrying_17 rfl (Or.inl rfl) ?_
      exact ⟨2, rfl, (Or.inr (Or.inl ⟨n1, c2, rfl, hp⟩))⟩
    · exact nomatch hq
def mL_bestEffortSession : q_M := (4, some .int, false, tableOf [(0, 9, 12, 13), (0, 9, 15, 24)], { frames := 10, cells := 2, slots := 12, locals := 182 })
theorem g_L_bestEffortSession {Φ : q_Fx} {h : q_Hp} (K : q_Lk Φ h.R h.n) {W : q_W} {O : q_O} (C : q_clX h W O) (hok : ∀ s, s < 40 → W.okS s) {n : Int32} : q_CtH Φ yL_bestEffortSession cL_bestEffortSession [(0, 9, 12, 13), (0, 9, 15, 24)] mL_bestEffortSession [.ref 1, .int n, .ref 1074] h (q_l2 h W O (¬ (nI 1 ≤ n ∧ n ≤ nI 240)) (q_any (fun i => decide (n ≤ W.len (W.σ i))) W.c = false) (fun v h' => v = some (.int (W.id (W.σ (W.bp n.toNatClampNeg)))) ∧ q_rd h h' W O)) := by
  refine q_enterH K.st rfl rfl rfl rfl (Nat.le_of_ble_eq_true rfl) (L := [_, _, _, none]) rfl ?_
  refine q_aload_n dL_bestEffortSession_0 rfl ?_
  refine q_iconst (v := nI 0) dL_bestEffortSession_1 (by decide) ?_
  refine q_aload_n dL_bestEffortSession_2 rfl ?_
  refine q_iload_n dL_bestEffortSession_3 rfl ?_
  refine q_callV (kc := 0) (ks := 0) (g_X9_bestEffortSession K C hok) wX9_bestEffortSession kL_119 iX9_bestEffortSession eX9_bestEffortSession rfl rfl (by decide) (K.le (by decide)) (by decide) rfl rfl (Nat.le_of_ble_eq_true rfl) dL_bestEffortSession_4 (fun v' h' hq => ?_) (fun E' h' hq => ?_)
  · rcases hq with ⟨_, hq, _⟩ | ⟨_, _, hq, _⟩ | ⟨n1, n2, v, hq, hp⟩
    · exact nomatch hq
    · exact nomatch hq
    cases hq
    have hp0 := hp
    obtain ⟨rfl, hp1⟩ := hp
    have hm := hp1
    have hn9 : h'.n = h.n := (hm.2).2.2.2.2
    refine q_i2l dL_bestEffortSession_7 ?_
    refine q_last (i := nI 0) rfl dL_bestEffortSession_8 (by decide) (by rw [hn9]; exact K.le (by decide)) (vp_in_nI (n := 0) (N := 1) (by decide) (by decide)) ?_
    refine q_goto (tgt := 18) dL_bestEffortSession_9 rfl ?_
    refine q_iconst (v := nI 0) dL_bestEffortSession_18 (by decide) ?_
    refine q_iret dL_bestEffortSession_19 rfl (Or.inl rfl) ?_
    exact ⟨0, rfl, (Or.inr (Or.inr ⟨n1, n2, rfl, _, h', hp0, rfl⟩))⟩
  · rcases hq with ⟨c1, hq, hp⟩ | ⟨n1, c2, hq, hp⟩ | ⟨_, _, _, hq, _⟩
    · cases hq
      refine q_catchN (name := "java/lang/IllegalArgumentException") (pre := []) (suf := [{ startPc := 0, endPc := 9, handlerPc := 15, catchType := 24 }]) (x := { startPc := 0, endPc := 9, handlerPc := 12, catchType := 13 }) (L' := [_, _, _, none]) rfl (fun z hz => by cases hz) (by decide) (by decide) q_ldL13 (by decide) dL_bestEffortSession_12 rfl (by decide) rfl ?_
      refine q_iconst (v := nI 1) dL_bestEffortSession_13 (by decide) ?_
      refine q_iret dL_bestEffortSession_14 rfl (Or.inl rfl) ?_
      exact ⟨1, rfl, (Or.inl ⟨c1, rfl, hp⟩)⟩
    · cases hq
      refine q_catchN (name := "java/util/NoSuchElementException") (pre := [{ startPc := 0, endPc := 9, handlerPc := 12, catchType := 13 }]) (suf := []) (x := { startPc := 0, endPc := 9, handlerPc := 15, catchType := 24 }) (L' := [_, _, _, none]) rfl (fun z hz => by
        rcases List.mem_cons.mp hz with rfl | hz
        · exact ⟨by decide, _, q_ldL13, by decide⟩
        cases hz) (by decide) (by decide) q_ldL24 (by decide) dL_bestEffortSession_15 rfl (by decide) rfl ?_
      refine q_iconst (v := nI 2) dL_bestEffortSession_16 (by decide) ?_
      refine q_iret dL_bestEffortSession_17 rfl (Or.inl rfl) ?_
      exact ⟨2, rfl, (Or.inr (Or.inl ⟨n1, c2, rfl, hp⟩))⟩
    · exact nomatch hq
def mL_addTarget : q_M := (4, some .int, false, tableOf [(0, 9, 12, 13), (0, 9, 15, 15)], { frames := 8, cells := 2, slots := 12, locals := 147 })
theorem g_L_addTarget {Φ : q_Fx} {h : q_Hp} (K : q_Lk Φ h.R h.n) {W : q_W} {O : q_O} (C : q_clX h W O) {x : Int32} : q_CtH Φ yL_addTarget cL_addTarget [(0, 9, 12, 13), (0, 9, 15, 15)] mL_addTarget [.ref 1, .int x, .ref 1074] h (q_l2 h W O (¬ (nI 0 ≤ x ∧ x ≤ nI 20000)) (W.pe = 0 ∨ ¬ W.pf = W.t ∨ W.pc = 28) (fun v h' => v = some (.int (nI (W.pc + 1))) ∧ ∃ Y, q_eqv W Y ∧ q_ok0 Y ∧ q_mu h h' (W.sP W.pe W.pf (W.pc + 1) (va_up W.tg W.pc x)) (O.kept Y) 200)) := by
  refine q_enterH K.st rfl rfl rfl rfl (Nat.le_of_ble_eq_true rfl) (L := [_, _, _, none]) rfl ?_
  refine q_aload_n dL_addTarget_0 rfl ?_
  refine q_iconst (v := nI 0) dL_addTarget_1 (by decide) ?_
  refine q_aload_n dL_addTarget_2 rfl ?_
  refine q_iload_n dL_addTarget_3 rfl ?_
  refine q_callV (kc := 0) (ks := 0) (g_X9_addTarget K C ) wX9_addTarget kL_122 iX9_addTarget eX9_addTarget rfl rfl (by decide) (K.le (by decide)) (by decide) rfl rfl (Nat.le_of_ble_eq_true rfl) dL_addTarget_4 (fun v' h' hq => ?_) (fun E' h' hq => ?_)
  · rcases hq with ⟨_, hq, _⟩ | ⟨_, _, hq, _⟩ | ⟨n1, n2, v, hq, hp⟩
    · exact nomatch hq
    · exact nomatch hq
    cases hq
    have hp0 := hp
    obtain ⟨rfl, hp1⟩ := hp
    obtain ⟨Y, y1, y2, hm⟩ := hp1
    have hn9 : h'.n = h.n := (hm.2.1).2.2.2.2
    refine q_i2l dL_addTarget_7 ?_
    refine q_last (i := nI 0) rfl dL_addTarget_8 (by decide) (by rw [hn9]; exact K.le (by decide)) (vp_in_nI (n := 0) (N := 1) (by decide) (by decide)) ?_
    refine q_goto (tgt := 18) dL_addTarget_9 rfl ?_
    refine q_iconst (v := nI 0) dL_addTarget_18 (by decide) ?_
    refine q_iret dL_addTarget_19 rfl (Or.inl rfl) ?_
    exact ⟨0, rfl, (Or.inr (Or.inr ⟨n1, n2, rfl, _, h', hp0, rfl⟩))⟩
  · rcases hq with ⟨c1, hq, hp⟩ | ⟨n1, c2, hq, hp⟩ | ⟨_, _, _, hq, _⟩
    · cases hq
      refine q_catchN (name := "java/lang/IllegalArgumentException") (pre := []) (suf := [{ startPc := 0, endPc := 9, handlerPc := 15, catchType := 15 }]) (x := { startPc := 0, endPc := 9, handlerPc := 12, catchType := 13 }) (L' := [_, _, _, none]) rfl (fun z hz => by cases hz) (by decide) (by decide) q_ldL13 (by decide) dL_addTarget_12 rfl (by decide) rfl ?_
      refine q_iconst (v := nI 1) dL_addTarget_13 (by decide) ?_
      refine q_iret dL_addTarget_14 rfl (Or.inl rfl) ?_
      exact ⟨1, rfl, (Or.inl ⟨c1, rfl, hp⟩)⟩
    · cases hq
      refine q_catchN (name := "java/lang/IllegalStateException") (pre := [{ startPc := 0, endPc := 9, handlerPc := 12, catchType := 13 }]) (suf := []) (x := { startPc := 0, endPc := 9, handlerPc := 15, catchType := 15 }) (L' := [_, _, _, none]) rfl (fun z hz => by
        rcases List.mem_cons.mp hz with rfl | hz
        · exact ⟨by decide, _, q_ldL13, by decide⟩
        cases hz) (by decide) (by decide) q_ldL15 (by decide) dL_addTarget_15 rfl (by decide) rfl ?_
      refine q_iconst (v := nI 2) dL_addTarget_16 (by decide) ?_
      refine q_iret dL_addTarget_17 rfl (Or.inl rfl) ?_
      exact ⟨2, rfl, (Or.inr (Or.inl ⟨n1, c2, rfl, hp⟩))⟩
    · exact nomatch hq
def mL_targetAt : q_M := (4, some .int, false, tableOf [(0, 9, 12, 63)], { frames := 7, cells := 1, slots := 6, locals := 113 })
theorem g_L_targetAt {Φ : q_Fx} {h : q_Hp} (K : q_Lk Φ h.R h.n) {W : q_W} {O : q_O} (C : q_clX h W O) {p : Int32} : q_CtH Φ yL_targetAt cL_targetAt [(0, 9, 12, 63)] mL_targetAt [.ref 1, .int p, .ref 1074] h (q_l1 h W O (p < 0 ∨ nI W.pc ≤ p) (fun v h' => v = some (.int (W.tg p.toNatClampNeg)) ∧ q_rd h h' W O)) := by
  refine q_enterH K.st rfl rfl rfl rfl (Nat.le_of_ble_eq_true rfl) (L := [_, _, _, none]) rfl ?_
  refine q_aload_n dL_targetAt_0 rfl ?_
  refine q_iconst (v := nI 0) dL_targetAt_1 (by decide) ?_
  refine q_aload_n dL_targetAt_2 rfl ?_
  refine q_iload_n dL_targetAt_3 rfl ?_
  refine q_callV (kc := 0) (ks := 0) (g_X9_targetAt K C ) wX9_targetAt kL_125 iX9_targetAt eX9_targetAt rfl rfl (by decide) (K.le (by decide)) (by decide) rfl rfl (Nat.le_of_ble_eq_true rfl) dL_targetAt_4 (fun v' h' hq => ?_) (fun E' h' hq => ?_)
  · rcases hq with ⟨_, hq, _⟩ | ⟨n1, v, hq, hp⟩
    · exact nomatch hq
    cases hq
    have hp0 := hp
    obtain ⟨rfl, hp1⟩ := hp
    have hm := hp1
    have hn9 : h'.n = h.n := (hm.2).2.2.2.2
    refine q_i2l dL_targetAt_7 ?_
    refine q_last (i := nI 0) rfl dL_targetAt_8 (by decide) (by rw [hn9]; exact K.le (by decide)) (vp_in_nI (n := 0) (N := 1) (by decide) (by decide)) ?_
    refine q_goto (tgt := 15) dL_targetAt_9 rfl ?_
    refine q_iconst (v := nI 0) dL_targetAt_15 (by decide) ?_
    refine q_iret dL_targetAt_16 rfl (Or.inl rfl) ?_
    exact ⟨0, rfl, (Or.inr ⟨n1, rfl, _, h', hp0, rfl⟩)⟩
  · rcases hq with ⟨c1, hq, hp⟩ | ⟨_, _, hq, _⟩
    · cases hq
      refine q_catchN (name := "java/lang/IndexOutOfBoundsException") (pre := []) (suf := []) (x := { startPc := 0, endPc := 9, handlerPc := 12, catchType := 63 }) (L' := [_, _, _, none]) rfl (fun z hz => by cases hz) (by decide) (by decide) q_ldL63 (by decide) dL_targetAt_12 rfl (by decide) rfl ?_
      refine q_iconst (v := nI 1) dL_targetAt_13 (by decide) ?_
      refine q_iret dL_targetAt_14 rfl (Or.inl rfl) ?_
      exact ⟨1, rfl, (Or.inl ⟨c1, rfl, hp⟩)⟩
    · exact nomatch hq
def mL_dueEntry : q_M := (3, some .int, false, tableOf [(0, 8, 11, 24)], { frames := 8, cells := 1, slots := 6, locals := 132 })
theorem g_L_dueEntry {Φ : q_Fx} {h : q_Hp} (K : q_Lk Φ h.R h.n) {W : q_W} {O : q_O} (C : q_clX h W O) : q_CtH Φ yL_dueEntry cL_dueEntry [(0, 8, 11, 24)] mL_dueEntry [.ref 1, .ref 1074] h (q_l1 h W O (W.pc ≤ W.due) (fun v h' => v = some (.int (nI W.due)) ∧ q_rd h h' W O)) := by
  refine q_enterH K.st rfl rfl rfl rfl (Nat.le_of_ble_eq_true rfl) (L := [_, _, none]) rfl ?_
  refine q_aload_n dL_dueEntry_0 rfl ?_
  refine q_iconst (v := nI 0) dL_dueEntry_1 (by decide) ?_
  refine q_aload_n dL_dueEntry_2 rfl ?_
  refine q_callV (kc := 0) (ks := 0) (g_X9_dueEntry K C ) wX9_dueEntry kL_128 iX9_dueEntry eX9_dueEntry rfl rfl (by decide) (K.le (by decide)) (by decide) rfl rfl (Nat.le_of_ble_eq_true rfl) dL_dueEntry_3 (fun v' h' hq => ?_) (fun E' h' hq => ?_)
  · rcases hq with ⟨_, hq, _⟩ | ⟨n1, v, hq, hp⟩
    · exact nomatch hq
    cases hq
    have hp0 := hp
    obtain ⟨rfl, hp1⟩ := hp
    have hm := hp1
    have hn9 : h'.n = h.n := (hm.2).2.2.2.2
    refine q_i2l dL_dueEntry_6 ?_
    refine q_last (i := nI 0) rfl dL_dueEntry_7 (by decide) (by rw [hn9]; exact K.le (by decide)) (vp_in_nI (n := 0) (N := 1) (by decide) (by decide)) ?_
    refine q_goto (tgt := 14) dL_dueEntry_8 rfl ?_
    refine q_iconst (v := nI 0) dL_dueEntry_14 (by decide) ?_
    refine q_iret dL_dueEntry_15 rfl (Or.inl rfl) ?_
    exact ⟨0, rfl, (Or.inr ⟨n1, rfl, _, h', hp0, rfl⟩)⟩
  · rcases hq with ⟨c1, hq, hp⟩ | ⟨_, _, hq, _⟩
    · cases hq
      refine q_catchN (name := "java/util/NoSuchElementException") (pre := []) (suf := []) (x := { startPc := 0, endPc := 8, handlerPc := 11, catchType := 24 }) (L' := [_, _, none]) rfl (fun z hz => by cases hz) (by decide) (by decide) q_ldL24 (by decide) dL_dueEntry_11 rfl (by decide) rfl ?_
      refine q_iconst (v := nI 1) dL_dueEntry_12 (by decide) ?_
      refine q_iret dL_dueEntry_13 rfl (Or.inl rfl) ?_
      exact ⟨1, rfl, (Or.inl ⟨c1, rfl, hp⟩)⟩
    · exact nomatch hq
def mL_planEnd : q_M := (3, some .int, false, tableOf [(0, 8, 11, 24)], { frames := 8, cells := 1, slots := 6, locals := 133 })
theorem g_L_planEnd {Φ : q_Fx} {h : q_Hp} (K : q_Lk Φ h.R h.n) {W : q_W} {O : q_O} (C : q_clX h W O) : q_CtH Φ yL_planEnd cL_planEnd [(0, 8, 11, 24)] mL_planEnd [.ref 1, .ref 1074] h (q_l1 h W O (W.pc ≤ W.due) (fun v h' => v = some (.int (nI W.t + ((nI W.pc - nI 1) - nI W.due))) ∧ q_rd h h' W O)) := by
  refine q_enterH K.st rfl rfl rfl rfl (Nat.le_of_ble_eq_true rfl) (L := [_, _, none]) rfl ?_
  refine q_aload_n dL_planEnd_0 rfl ?_
  refine q_iconst (v := nI 0) dL_planEnd_1 (by decide) ?_
  refine q_aload_n dL_planEnd_2 rfl ?_
  refine q_callV (kc := 0) (ks := 0) (g_X9_planEnd K C ) wX9_planEnd kL_132 iX9_planEnd eX9_planEnd rfl rfl (by decide) (K.le (by decide)) (by decide) rfl rfl (Nat.le_of_ble_eq_true rfl) dL_planEnd_3 (fun v' h' hq => ?_) (fun E' h' hq => ?_)
  · rcases hq with ⟨_, hq, _⟩ | ⟨n1, v, hq, hp⟩
    · exact nomatch hq
    cases hq
    have hp0 := hp
    obtain ⟨rfl, hp1⟩ := hp
    have hm := hp1
    have hn9 : h'.n = h.n := (hm.2).2.2.2.2
    refine q_i2l dL_planEnd_6 ?_
    refine q_last (i := nI 0) rfl dL_planEnd_7 (by decide) (by rw [hn9]; exact K.le (by decide)) (vp_in_nI (n := 0) (N := 1) (by decide) (by decide)) ?_
    refine q_goto (tgt := 14) dL_planEnd_8 rfl ?_
    refine q_iconst (v := nI 0) dL_planEnd_14 (by decide) ?_
    refine q_iret dL_planEnd_15 rfl (Or.inl rfl) ?_
    exact ⟨0, rfl, (Or.inr ⟨n1, rfl, _, h', hp0, rfl⟩)⟩
  · rcases hq with ⟨c1, hq, hp⟩ | ⟨_, _, hq, _⟩
    · cases hq
      refine q_catchN (name := "java/util/NoSuchElementException") (pre := []) (suf := []) (x := { startPc := 0, endPc := 8, handlerPc := 11, catchType := 24 }) (L' := [_, _, none]) rfl (fun z hz => by cases hz) (by decide) (by decide) q_ldL24 (by decide) dL_planEnd_11 rfl (by decide) rfl ?_
      refine q_iconst (v := nI 1) dL_planEnd_12 (by decide) ?_
      refine q_iret dL_planEnd_13 rfl (Or.inl rfl) ?_
      exact ⟨1, rfl, (Or.inl ⟨c1, rfl, hp⟩)⟩
    · exact nomatch hq
def mL_writeWeek : q_M := (4, some .int, false, tableOf [(0, 9, 12, 13)], { frames := 9, cells := 1, slots := 6, locals := 157 })
theorem g_L_writeWeek {Φ : q_Fx} {h : q_Hp} (K : q_Lk Φ h.R h.n) {W : q_W} {O : q_O} (C : q_clX h W O) {d : Int32} : q_CtH Φ yL_writeWeek cL_writeWeek [(0, 9, 12, 13)] mL_writeWeek [.ref 1, .int d, .ref 1074] h (q_l1 h W O (¬ (nI 0 ≤ d ∧ d ≤ nI W.t)) (fun v h' => v = some (.int (nI 13)) ∧ ∃ ln, (∀ k, k < 13 → ln k = if k % 2 = 1 then nI 32 else nI (W.sgn (d.toNatClampNeg + k / 2))) ∧ q_mu h h' W (O.wrt ln) 200)) := by
  refine q_enterH K.st rfl rfl rfl rfl (Nat.le_of_ble_eq_true rfl) (L := [_, _, _, none]) rfl ?_
  refine q_aload_n dL_writeWeek_0 rfl ?_
  refine q_iconst (v := nI 0) dL_writeWeek_1 (by decide) ?_
  refine q_aload_n dL_writeWeek_2 rfl ?_
  refine q_iload_n dL_writeWeek_3 rfl ?_
  refine q_callV (kc := 0) (ks := 0) (g_X9_writeWeek K C ) wX9_writeWeek kL_135 iX9_writeWeek eX9_writeWeek rfl rfl (by decide) (K.le (by decide)) (by decide) rfl rfl (Nat.le_of_ble_eq_true rfl) dL_writeWeek_4 (fun v' h' hq => ?_) (fun E' h' hq => ?_)
  · rcases hq with ⟨_, hq, _⟩ | ⟨n1, v, hq, hp⟩
    · exact nomatch hq
    cases hq
    have hp0 := hp
    obtain ⟨rfl, hp1⟩ := hp
    obtain ⟨ln, hl, hm⟩ := hp1
    have hn9 : h'.n = h.n := (hm.2.1).2.2.2.2
    refine q_i2l dL_writeWeek_7 ?_
    refine q_last (i := nI 0) rfl dL_writeWeek_8 (by decide) (by rw [hn9]; exact K.le (by decide)) (vp_in_nI (n := 0) (N := 1) (by decide) (by decide)) ?_
    refine q_goto (tgt := 15) dL_writeWeek_9 rfl ?_
    refine q_iconst (v := nI 0) dL_writeWeek_15 (by decide) ?_
    refine q_iret dL_writeWeek_16 rfl (Or.inl rfl) ?_
    exact ⟨0, rfl, (Or.inr ⟨n1, rfl, _, h', hp0, rfl⟩)⟩
  · rcases hq with ⟨c1, hq, hp⟩ | ⟨_, _, hq, _⟩
    · cases hq
      refine q_catchN (name := "java/lang/IllegalArgumentException") (pre := []) (suf := []) (x := { startPc := 0, endPc := 9, handlerPc := 12, catchType := 13 }) (L' := [_, _, _, none]) rfl (fun z hz => by cases hz) (by decide) (by decide) q_ldL13 (by decide) dL_writeWeek_12 rfl (by decide) rfl ?_
      refine q_iconst (v := nI 1) dL_writeWeek_13 (by decide) ?_
      refine q_iret dL_writeWeek_14 rfl (Or.inl rfl) ?_
      exact ⟨1, rfl, (Or.inl ⟨c1, rfl, hp⟩)⟩
    · exact nomatch hq
def mL_lineAt : q_M := (4, some .int, false, tableOf [(0, 9, 12, 63)], { frames := 7, cells := 1, slots := 6, locals := 113 })
theorem g_L_lineAt {Φ : q_Fx} {h : q_Hp} (K : q_Lk Φ h.R h.n) {W : q_W} {O : q_O} (C : q_clX h W O) {p : Int32} (hlc : ∀ j, j < O.ll → narrow .char (.int (O.ln j)) = .int (O.ln j)) : q_CtH Φ yL_lineAt cL_lineAt [(0, 9, 12, 63)] mL_lineAt [.ref 1, .int p, .ref 1074] h (q_l1 h W O (p < 0 ∨ nI O.ll ≤ p) (fun v h' => v = some (.int (O.ln p.toNatClampNeg)) ∧ q_rd h h' W O)) := by
  refine q_enterH K.st rfl rfl rfl rfl (Nat.le_of_ble_eq_true rfl) (L := [_, _, _, none]) rfl ?_
  refine q_aload_n dL_lineAt_0 rfl ?_
  refine q_iconst (v := nI 0) dL_lineAt_1 (by decide) ?_
  refine q_aload_n dL_lineAt_2 rfl ?_
  refine q_iload_n dL_lineAt_3 rfl ?_
  refine q_callV (kc := 0) (ks := 0) (g_X9_lineAt K C hlc) wX9_lineAt kL_138 iX9_lineAt eX9_lineAt rfl rfl (by decide) (K.le (by decide)) (by decide) rfl rfl (Nat.le_of_ble_eq_true rfl) dL_lineAt_4 (fun v' h' hq => ?_) (fun E' h' hq => ?_)
  · rcases hq with ⟨_, hq, _⟩ | ⟨n1, v, hq, hp⟩
    · exact nomatch hq
    cases hq
    have hp0 := hp
    obtain ⟨rfl, hp1⟩ := hp
    have hm := hp1
    have hn9 : h'.n = h.n := (hm.2).2.2.2.2
    refine q_i2l dL_lineAt_7 ?_
    refine q_last (i := nI 0) rfl dL_lineAt_8 (by decide) (by rw [hn9]; exact K.le (by decide)) (vp_in_nI (n := 0) (N := 1) (by decide) (by decide)) ?_
    refine q_goto (tgt := 15) dL_lineAt_9 rfl ?_
    refine q_iconst (v := nI 0) dL_lineAt_15 (by decide) ?_
    refine q_iret dL_lineAt_16 rfl (Or.inl rfl) ?_
    exact ⟨0, rfl, (Or.inr ⟨n1, rfl, _, h', hp0, rfl⟩)⟩
  · rcases hq with ⟨c1, hq, hp⟩ | ⟨_, _, hq, _⟩
    · cases hq
      refine q_catchN (name := "java/lang/IndexOutOfBoundsException") (pre := []) (suf := []) (x := { startPc := 0, endPc := 9, handlerPc := 12, catchType := 63 }) (L' := [_, _, _, none]) rfl (fun z hz => by cases hz) (by decide) (by decide) q_ldL63 (by decide) dL_lineAt_12 rfl (by decide) rfl ?_
      refine q_iconst (v := nI 1) dL_lineAt_13 (by decide) ?_
      refine q_iret dL_lineAt_14 rfl (Or.inl rfl) ?_
      exact ⟨1, rfl, (Or.inl ⟨c1, rfl, hp⟩)⟩
    · exact nomatch hq
def mL_undo : q_M := (3, some .int, false, tableOf [(0, 8, 11, 15)], { frames := 7, cells := 1, slots := 6, locals := 145 })
theorem g_L_undo {Φ : q_Fx} {h : q_Hp} (K : q_Lk Φ h.R h.n) {W : q_W} {O : q_O} (C : q_clX h W O) : q_CtH Φ yL_undo cL_undo [(0, 8, 11, 15)] mL_undo [.ref 1, .ref 1074] h (q_l1 h W O (O.cn = 0) (fun v h' => v = some (.int (nI (O.cn - 1))) ∧ ∃ Y, q_eqv (O.OB ((O.nx + 6 - 1) % 6)) Y ∧ q_mu h h' Y O.back 0)) := by
  refine q_enterH K.st rfl rfl rfl rfl (Nat.le_of_ble_eq_true rfl) (L := [_, _, none]) rfl ?_
  refine q_aload_n dL_undo_0 rfl ?_
  refine q_iconst (v := nI 0) dL_undo_1 (by decide) ?_
  refine q_aload_n dL_undo_2 rfl ?_
  refine q_callV (kc := 0) (ks := 0) (g_X9_undo K C ) wX9_undo kL_142 iX9_undo eX9_undo rfl rfl (by decide) (K.le (by decide)) (by decide) rfl rfl (Nat.le_of_ble_eq_true rfl) dL_undo_3 (fun v' h' hq => ?_) (fun E' h' hq => ?_)
  · rcases hq with ⟨_, hq, _⟩ | ⟨n1, v, hq, hp⟩
    · exact nomatch hq
    cases hq
    have hp0 := hp
    obtain ⟨rfl, hp1⟩ := hp
    obtain ⟨Y, y1, hm⟩ := hp1
    have hn9 : h'.n = h.n := (hm.2.1).2.2.2.2
    refine q_i2l dL_undo_6 ?_
    refine q_last (i := nI 0) rfl dL_undo_7 (by decide) (by rw [hn9]; exact K.le (by decide)) (vp_in_nI (n := 0) (N := 1) (by decide) (by decide)) ?_
    refine q_goto (tgt := 14) dL_undo_8 rfl ?_
    refine q_iconst (v := nI 0) dL_undo_14 (by decide) ?_
    refine q_iret dL_undo_15 rfl (Or.inl rfl) ?_
    exact ⟨0, rfl, (Or.inr ⟨n1, rfl, _, h', hp0, rfl⟩)⟩
  · rcases hq with ⟨c1, hq, hp⟩ | ⟨_, _, hq, _⟩
    · cases hq
      refine q_catchN (name := "java/lang/IllegalStateException") (pre := []) (suf := []) (x := { startPc := 0, endPc := 8, handlerPc := 11, catchType := 15 }) (L' := [_, _, none]) rfl (fun z hz => by cases hz) (by decide) (by decide) q_ldL15 (by decide) dL_undo_11 rfl (by decide) rfl ?_
      refine q_iconst (v := nI 1) dL_undo_12 (by decide) ?_
      refine q_iret dL_undo_13 rfl (Or.inl rfl) ?_
      exact ⟨1, rfl, (Or.inl ⟨c1, rfl, hp⟩)⟩
    · exact nomatch hq
def mL_restore : q_M := (3, some .int, false, tableOf [(0, 8, 11, 15)], { frames := 7, cells := 1, slots := 6, locals := 124 })
theorem g_L_restore {Φ : q_Fx} {h : q_Hp} (K : q_Lk Φ h.R h.n) {W : q_W} {O : q_O} (C : q_clX h W O) : q_CtH Φ yL_restore cL_restore [(0, 8, 11, 15)] mL_restore [.ref 1, .ref 1074] h (q_l1 h W O (O.hs = 0) (fun v h' => v = some (.int (nI O.SW.c)) ∧ ∃ Y, q_eqv O.SW Y ∧ q_mu h h' Y O.rest 0)) := by
  refine q_enterH K.st rfl rfl rfl rfl (Nat.le_of_ble_eq_true rfl) (L := [_, _, none]) rfl ?_
  refine q_aload_n dL_restore_0 rfl ?_
  refine q_iconst (v := nI 0) dL_restore_1 (by decide) ?_
  refine q_aload_n dL_restore_2 rfl ?_
  refine q_callV (kc := 0) (ks := 0) (g_X9_restore K C ) wX9_restore kL_145 iX9_restore eX9_restore rfl rfl (by decide) (K.le (by decide)) (by decide) rfl rfl (Nat.le_of_ble_eq_true rfl) dL_restore_3 (fun v' h' hq => ?_) (fun E' h' hq => ?_)
  · rcases hq with ⟨_, hq, _⟩ | ⟨n1, v, hq, hp⟩
    · exact nomatch hq
    cases hq
    have hp0 := hp
    obtain ⟨rfl, hp1⟩ := hp
    obtain ⟨Y, y1, hm⟩ := hp1
    have hn9 : h'.n = h.n := (hm.2.1).2.2.2.2
    refine q_i2l dL_restore_6 ?_
    refine q_last (i := nI 0) rfl dL_restore_7 (by decide) (by rw [hn9]; exact K.le (by decide)) (vp_in_nI (n := 0) (N := 1) (by decide) (by decide)) ?_
    refine q_goto (tgt := 14) dL_restore_8 rfl ?_
    refine q_iconst (v := nI 0) dL_restore_14 (by decide) ?_
    refine q_iret dL_restore_15 rfl (Or.inl rfl) ?_
    exact ⟨0, rfl, (Or.inr ⟨n1, rfl, _, h', hp0, rfl⟩)⟩
  · rcases hq with ⟨c1, hq, hp⟩ | ⟨_, _, hq, _⟩
    · cases hq
      refine q_catchN (name := "java/lang/IllegalStateException") (pre := []) (suf := []) (x := { startPc := 0, endPc := 8, handlerPc := 11, catchType := 15 }) (L' := [_, _, none]) rfl (fun z hz => by cases hz) (by decide) (by decide) q_ldL15 (by decide) dL_restore_11 rfl (by decide) rfl ?_
      refine q_iconst (v := nI 1) dL_restore_12 (by decide) ?_
      refine q_iret dL_restore_13 rfl (Or.inl rfl) ?_
      exact ⟨1, rfl, (Or.inl ⟨c1, rfl, hp⟩)⟩
    · exact nomatch hq
