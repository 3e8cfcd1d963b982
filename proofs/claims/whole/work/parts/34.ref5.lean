/-! THE REFERENCE'S FACE: READERS -/
def q_pr (h : q_Hp) (m : q_W) (P : q_P) (k : Nat → Prop) (val : Int32) (m' : q_W) (P' : q_P) : Option Value → q_Hp → Prop := fun v h' =>
  ∃ (a : Nat) (b : Int32), k a ∧ v = some (.int b) ∧ h'.I 1061 12 = nI a ∧ q_gm h h' ∧ (a ≠ 0 → q_mr h' m P) ∧ (a = 0 → b = val ∧ q_mr h' m' P')
def q_k0 (a : Nat) : Prop := a = 0
abbrev q_W.mno (m : q_W) (x : Int32) : Prop := q_pl (fun k => decide (m.id k = x)) m.c < 0
def q_W.mat (m : q_W) (x : Int32) : Nat := (q_pl (fun k => decide (m.id k = x)) m.c).toNatClampNeg
theorem q_mat {m : q_W} {x : Int32} (hc : m.c ≤ 40) (h : ¬ m.mno x) : m.mat x < m.c ∧ m.id (m.mat x) = x ∧ q_pl (fun k => decide (m.id k = x)) m.c = nI (m.mat x) := by
  rcases q_pl_c (fun k => decide (m.id k = x)) m.c with ⟨i, h1, h2, h3, h4⟩ | ⟨_, h4⟩
  · have e : m.mat x = i := by unfold q_W.mat; rw [h4, nI_clamp (by omega)]
    rw [e]
    exact ⟨h1, by simpa using h2, h4⟩
  · exact absurd (show q_pl _ _ < 0 by rw [h4]; decide) h
theorem q_mno_i {m : q_W} {x : Int32} (h : ¬ 0 ≤ q_pl (fun k => decide (m.id k = x)) m.c) : m.mno x := Int32.not_le.mp h
theorem q_zd_z (m : q_W) (g : Nat → Int32) (d n : Nat) (hσ : ∀ i, m.σ i = i) : m.zd g d (n + 1) = if m.dy n = d then q_az (m.zd g d n) (m.z n) (m.mn n) (m.pn n) else m.zd g d n := by
  show (if m.dy (m.σ n) = d then q_az (m.zd g d n) (m.z (m.σ n)) (m.mn (m.σ n)) (m.pn (m.σ n)) else m.zd g d n) = _
  rw [hσ]
theorem q_za_z (m : q_W) (g : Nat → Int32) (n : Nat) (hσ : ∀ i, m.σ i = i) : m.za g (n + 1) = q_az (m.za g n) (m.z n) (m.mn n) (m.pn n) := by
  show q_az (m.za g n) (m.z (m.σ n)) (m.mn (m.σ n)) (m.pn (m.σ n)) = _
  rw [hσ]
theorem q_bz_cong {f g : Nat → Int32} {n : Nat} (h : ∀ k, 1 ≤ k → k ≤ n + 1 → f k = g k) : q_bz f n = q_bz g n := by
  induction n with
  | zero => rfl
  | succ n ih =>
    have e := ih fun k h1 h2 => h k h1 (by omega)
    have := q_bz_le g n
    show (if _ then _ else _) = (if _ then _ else _)
    rw [e, h _ (by omega) (by omega), h (n + 2) (by omega) (by omega)]
theorem g_X10_today {Φ : q_Fx} {h : q_Hp} (K : q_Lk Φ h.R h.n) {m : q_W} {P : q_P} (C : q_mr h m P) (v : q_val m) : q_Ct Φ false yX10_today cX10_today mX10_today [.ref 1061] h (q_ex (q_pr h m P q_k0 (nI m.t) (m) (P))) := by
  refine q_enter K.st rfl rfl (by decide) rfl (Nat.le_of_ble_eq_true rfl) (L := [_]) rfl ?_
  have hs := C.1
  have M := C.2.1.1
  have hσ := C.2.1.2
  have ht9 := M.t9
  have hc40 := M.c40
  have hn10 := M.n10
  have hp28 := M.pc28
  have hpe1 := M.pe1
  have hpf9 := M.pf9
  have hu := C.2.2.1.2.1
  have htp := C.2.2.1.2.2.2.1
  have hwr := C.2.2.1.2.2.2.2.2.1
  have hsv := C.2.2.1.2.2.2.2.2.2.2
  refine q_aload_n dX10_today_0 rfl ?_
  refine q_iconst (v := nI 0) dX10_today_1 (by decide) ?_
  refine pIX10_31 dX10_today_2 rfl (by decide) (K.le (by decide)) ?_
  refine q_aload_n dX10_today_5 rfl ?_
  refine fRX10_9 (o := some 1062) dX10_today_6 rfl (by decide) (K.le (by decide)) hs ?_
  refine q_rfS ?_
  refine q_iconst (v := nI 0) dX10_today_9 (by decide) ?_
  refine q_ialdN (len := 830) rfl dX10_today_10 (by decide) (K.le (by decide)) rfl (by omega) (by decide) ?_
  refine q_tv (show _ = (nI (m.t)) from ((congrFun (q_sIn _ _ _ (by omega)) _).trans M.t)) ?_
  refine q_iret dX10_today_11 rfl (Or.inl rfl) ?_
  exact ⟨_, rfl, 0, _, rfl, rfl, (by rw [q_sI, va_us]), (q_gm.rf.set (by omega) (by omega)), fun e => absurd rfl e, fun _ => ⟨rfl, (C.thr 12 (by omega) _)⟩⟩
theorem g_X10_testCount {Φ : q_Fx} {h : q_Hp} (K : q_Lk Φ h.R h.n) {m : q_W} {P : q_P} (C : q_mr h m P) (v : q_val m) : q_Ct Φ false yX10_testCount cX10_testCount mX10_testCount [.ref 1061] h (q_ex (q_pr h m P q_k0 (nI m.n) (m) (P))) := by
  refine q_enter K.st rfl rfl (by decide) rfl (Nat.le_of_ble_eq_true rfl) (L := [_]) rfl ?_
  have hs := C.1
  have M := C.2.1.1
  have hσ := C.2.1.2
  have ht9 := M.t9
  have hc40 := M.c40
  have hn10 := M.n10
  have hp28 := M.pc28
  have hpe1 := M.pe1
  have hpf9 := M.pf9
  have hu := C.2.2.1.2.1
  have htp := C.2.2.1.2.2.2.1
  have hwr := C.2.2.1.2.2.2.2.2.1
  have hsv := C.2.2.1.2.2.2.2.2.2.2
  refine q_aload_n dX10_testCount_0 rfl ?_
  refine q_iconst (v := nI 0) dX10_testCount_1 (by decide) ?_
  refine pIX10_31 dX10_testCount_2 rfl (by decide) (K.le (by decide)) ?_
  refine q_aload_n dX10_testCount_5 rfl ?_
  refine fRX10_9 (o := some 1062) dX10_testCount_6 rfl (by decide) (K.le (by decide)) hs ?_
  refine q_rfS ?_
  refine q_iconst (v := nI 3) dX10_testCount_9 (by decide) ?_
  refine q_ialdN (len := 830) rfl dX10_testCount_10 (by decide) (K.le (by decide)) rfl (by omega) (by decide) ?_
  refine q_tv (show _ = (nI (m.n)) from ((congrFun (q_sIn _ _ _ (by omega)) _).trans M.n)) ?_
  refine q_iret dX10_testCount_11 rfl (Or.inl rfl) ?_
  exact ⟨_, rfl, 0, _, rfl, rfl, (by rw [q_sI, va_us]), (q_gm.rf.set (by omega) (by omega)), fun e => absurd rfl e, fun _ => ⟨rfl, (C.thr 12 (by omega) _)⟩⟩
theorem g_X10_sessionCount {Φ : q_Fx} {h : q_Hp} (K : q_Lk Φ h.R h.n) {m : q_W} {P : q_P} (C : q_mr h m P) (v : q_val m) : q_Ct Φ false yX10_sessionCount cX10_sessionCount mX10_sessionCount [.ref 1061] h (q_ex (q_pr h m P q_k0 (nI m.c) (m) (P))) := by
  refine q_enter K.st rfl rfl (by decide) rfl (Nat.le_of_ble_eq_true rfl) (L := [_]) rfl ?_
  have hs := C.1
  have M := C.2.1.1
  have hσ := C.2.1.2
  have ht9 := M.t9
  have hc40 := M.c40
  have hn10 := M.n10
  have hp28 := M.pc28
  have hpe1 := M.pe1
  have hpf9 := M.pf9
  have hu := C.2.2.1.2.1
  have htp := C.2.2.1.2.2.2.1
  have hwr := C.2.2.1.2.2.2.2.2.1
  have hsv := C.2.2.1.2.2.2.2.2.2.2
  refine q_aload_n dX10_sessionCount_0 rfl ?_
  refine q_iconst (v := nI 0) dX10_sessionCount_1 (by decide) ?_
  refine pIX10_31 dX10_sessionCount_2 rfl (by decide) (K.le (by decide)) ?_
  refine q_aload_n dX10_sessionCount_5 rfl ?_
  refine fRX10_9 (o := some 1062) dX10_sessionCount_6 rfl (by decide) (K.le (by decide)) hs ?_
  refine q_rfS ?_
  refine q_iconst (v := nI 2) dX10_sessionCount_9 (by decide) ?_
  refine q_ialdN (len := 830) rfl dX10_sessionCount_10 (by decide) (K.le (by decide)) rfl (by omega) (by decide) ?_
  refine q_tv (show _ = (nI (m.c)) from ((congrFun (q_sIn _ _ _ (by omega)) _).trans M.c)) ?_
  refine q_iret dX10_sessionCount_11 rfl (Or.inl rfl) ?_
  exact ⟨_, rfl, 0, _, rfl, rfl, (by rw [q_sI, va_us]), (q_gm.rf.set (by omega) (by omega)), fun e => absurd rfl e, fun _ => ⟨rfl, (C.thr 12 (by omega) _)⟩⟩
theorem g_X10_thrown {Φ : q_Fx} {h : q_Hp} (K : q_Lk Φ h.R h.n) {a : Nat} (ha : h.I 1061 12 = nI a) : q_Ct Φ false yX10_thrown cX10_thrown mX10_thrown [.ref 1061] h (q_is (some (.int (nI a))) h) := by
  refine q_enter K.st rfl rfl (by decide) rfl (Nat.le_of_ble_eq_true rfl) (L := [_]) rfl ?_
  refine q_aload_n dX10_thrown_0 rfl ?_
  refine fIX10_31 dX10_thrown_1 rfl (by decide) (K.le (by decide)) ?_
  refine q_iret dX10_thrown_4 rfl (Or.inl rfl) ?_
  exact q_isI ha rfl
theorem g_X10_thresholdOn {Φ : q_Fx} {h : q_Hp} (K : q_Lk Φ h.R h.n) {m : q_W} {P : q_P} (C : q_mr h m P) (v : q_val m) {d : Int32} : q_Ct Φ false yX10_thresholdOn cX10_thresholdOn mX10_thresholdOn [.ref 1061, .int d] h (q_ex (q_pr h m P (q_k1 (¬ (nI 0 ≤ d ∧ d ≤ nI 199))) (m.th d) (m) (P))) := by
  refine q_enter K.st rfl rfl (by decide) rfl (Nat.le_of_ble_eq_true rfl) (L := [_, _]) rfl ?_
  have hs := C.1
  have M := C.2.1.1
  have hσ := C.2.1.2
  have ht9 := M.t9
  have hc40 := M.c40
  have hn10 := M.n10
  have hp28 := M.pc28
  have hpe1 := M.pe1
  have hpf9 := M.pf9
  have hu := C.2.2.1.2.1
  have htp := C.2.2.1.2.2.2.1
  have hwr := C.2.2.1.2.2.2.2.2.1
  have hsv := C.2.2.1.2.2.2.2.2.2.2
  refine q_aload_n dX10_thresholdOn_0 rfl ?_
  refine q_iload_n dX10_thresholdOn_1 rfl ?_
  refine q_iconst (v := nI 0) dX10_thresholdOn_2 (by decide) ?_
  refine q_sipush (v := nI 199) dX10_thresholdOn_3 (by decide) ?_
  refine q_sD (kc := 0) (ks := 0) (g_X10_isIn (h := h) K (v := d) (lo := (nI (0))) (hi := (nI (199)))) wX10_isIn kX10_47 sX10_isIn (by decide) rfl rfl (Nat.le_of_ble_eq_true rfl) dX10_thresholdOn_6 rfl rfl ?_
  refine q_spl (fun c1 => ?_) (fun c2 => ?_)
  · refine q_if_ne (tgt := 16) dX10_thresholdOn_9 rfl (fun _ => ?_) (fun c => absurd c (by decide))
    refine q_iconst (v := nI 0) dX10_thresholdOn_16 (by decide) ?_
    refine q_iconst (v := nI 1) dX10_thresholdOn_17 (by decide) ?_
    refine q_vD (kc := 0) (ks := 0) (g_thrF (h := h) K (a := 1)) wX10_isThrown kX10_51 iX10_isThrown eX10_isThrown rfl rfl (by decide) (K.le (by decide)) (by decide) rfl rfl (Nat.le_of_ble_eq_true rfl) dX10_thresholdOn_18 rfl rfl ?_
    refine q_if_eq (tgt := 28) dX10_thresholdOn_21 rfl (fun _ => ?_) (fun c => absurd (by decide) c)
    refine q_aload_n dX10_thresholdOn_28 rfl ?_
    refine q_iload_n dX10_thresholdOn_29 rfl ?_
    refine q_vD (kc := 0) (ks := 0) (g_X10_threshold (h := (h.setI 1061 12 (nI (0)))) K ((Or.inl rfl)) hs ((show (h.setI 1061 12 (nI (0))).I 1062 = h.I 1062 from (q_sIn _ _ _ (by omega))).symm ▸ M) (d := d)) wX10_threshold kX10_69 iX10_threshold eX10_threshold rfl rfl (by decide) (K.le (by decide)) (by decide) rfl rfl (Nat.le_of_ble_eq_true rfl) dX10_thresholdOn_30 rfl rfl ?_
    refine q_iret dX10_thresholdOn_33 rfl (Or.inl rfl) ?_
    first | exact ⟨_, rfl, 0, _, (Or.inr ⟨(by first | assumption | exact (fun c => c (by assumption)) | exact Int32.not_lt.mpr (by assumption) | exact Int32.not_le.mpr (by assumption) | exact Int32.not_lt.mp (by assumption) | exact Int32.not_le.mp (by assumption) | omega), rfl⟩), rfl, (by rw [q_sI, va_us]), (q_gm.rf.set (by omega) (by omega)), fun e => absurd rfl e, fun _ => ⟨rfl, (C.thr 12 (by omega) _)⟩⟩ | exact ⟨_, rfl, 1, _, (Or.inl ⟨(by first | assumption | exact (fun c => c (by assumption)) | exact Int32.not_lt.mpr (by assumption) | exact Int32.not_le.mpr (by assumption) | exact Int32.not_lt.mp (by assumption) | exact Int32.not_le.mp (by assumption) | omega), rfl⟩), rfl, (by rw [q_sI, va_us]), (q_gm.rf.set (by omega) (by omega)), fun _ => (C.thr 12 (by omega) _), fun e => absurd e (by decide)⟩
  · refine q_if_ne (tgt := 16) dX10_thresholdOn_9 rfl (fun c => absurd (by decide) c) (fun _ => ?_)
    refine q_iconst (v := nI 1) dX10_thresholdOn_12 (by decide) ?_
    refine q_goto (tgt := 17) dX10_thresholdOn_13 rfl ?_
    refine q_iconst (v := nI 1) dX10_thresholdOn_17 (by decide) ?_
    refine q_vD (kc := 0) (ks := 0) (g_thrT (h := h) K (a := 1)) wX10_isThrown kX10_51 iX10_isThrown eX10_isThrown rfl rfl (by decide) (K.le (by decide)) (by decide) rfl rfl (Nat.le_of_ble_eq_true rfl) dX10_thresholdOn_18 rfl rfl ?_
    refine q_if_eq (tgt := 28) dX10_thresholdOn_21 rfl (fun c => absurd c (by decide)) (fun _ => ?_)
    refine q_iconst (v := nI 0) dX10_thresholdOn_24 (by decide) ?_
    refine q_goto (tgt := 33) dX10_thresholdOn_25 rfl ?_
    refine q_iret dX10_thresholdOn_33 rfl (Or.inl rfl) ?_
    first | exact ⟨_, rfl, 0, _, (Or.inr ⟨(by first | assumption | exact (fun c => c (by assumption)) | exact Int32.not_lt.mpr (by assumption) | exact Int32.not_le.mpr (by assumption) | exact Int32.not_lt.mp (by assumption) | exact Int32.not_le.mp (by assumption) | omega), rfl⟩), rfl, (by rw [q_sI, va_us]), (q_gm.rf.set (by omega) (by omega)), fun e => absurd rfl e, fun _ => ⟨rfl, (C.thr 12 (by omega) _)⟩⟩ | exact ⟨_, rfl, 1, _, (Or.inl ⟨(by first | assumption | exact (fun c => c (by assumption)) | exact Int32.not_lt.mpr (by assumption) | exact Int32.not_le.mpr (by assumption) | exact Int32.not_lt.mp (by assumption) | exact Int32.not_le.mp (by assumption) | omega), rfl⟩), rfl, (by rw [q_sI, va_us]), (q_gm.rf.set (by omega) (by omega)), fun _ => (C.thr 12 (by omega) _), fun e => absurd e (by decide)⟩
theorem g_X10_boundOf {Φ : q_Fx} {h : q_Hp} (K : q_Lk Φ h.R h.n) {m : q_W} {P : q_P} (C : q_mr h m P) (v : q_val m) {z : Int32} : q_Ct Φ false yX10_boundOf cX10_boundOf mX10_boundOf [.ref 1061, .int z] h (q_ex (q_pr h m P (q_k1 (¬ (nI 2 ≤ z ∧ z ≤ nI 5))) (m.bd z.toNatClampNeg) (m) (P))) := by
  refine q_enter K.st rfl rfl (by decide) rfl (Nat.le_of_ble_eq_true rfl) (L := [_, _]) rfl ?_
  have hs := C.1
  have M := C.2.1.1
  have hσ := C.2.1.2
  have ht9 := M.t9
  have hc40 := M.c40
  have hn10 := M.n10
  have hp28 := M.pc28
  have hpe1 := M.pe1
  have hpf9 := M.pf9
  have hu := C.2.2.1.2.1
  have htp := C.2.2.1.2.2.2.1
  have hwr := C.2.2.1.2.2.2.2.2.1
  have hsv := C.2.2.1.2.2.2.2.2.2.2
  refine q_aload_n dX10_boundOf_0 rfl ?_
  refine q_iload_n dX10_boundOf_1 rfl ?_
  refine q_iconst (v := nI 2) dX10_boundOf_2 (by decide) ?_
  refine q_iconst (v := nI 5) dX10_boundOf_3 (by decide) ?_
  refine q_sD (kc := 0) (ks := 0) (g_X10_isIn (h := h) K (v := z) (lo := (nI (2))) (hi := (nI (5)))) wX10_isIn kX10_47 sX10_isIn (by decide) rfl rfl (Nat.le_of_ble_eq_true rfl) dX10_boundOf_4 rfl rfl ?_
  refine q_spl (fun c1 => ?_) (fun c2 => ?_)
  · refine q_if_ne (tgt := 14) dX10_boundOf_7 rfl (fun _ => ?_) (fun c => absurd c (by decide))
    refine q_iconst (v := nI 0) dX10_boundOf_14 (by decide) ?_
    refine q_iconst (v := nI 1) dX10_boundOf_15 (by decide) ?_
    refine q_vD (kc := 0) (ks := 0) (g_thrF (h := h) K (a := 1)) wX10_isThrown kX10_51 iX10_isThrown eX10_isThrown rfl rfl (by decide) (K.le (by decide)) (by decide) rfl rfl (Nat.le_of_ble_eq_true rfl) dX10_boundOf_16 rfl rfl ?_
    refine q_if_eq (tgt := 26) dX10_boundOf_19 rfl (fun _ => ?_) (fun c => absurd (by decide) c)
    obtain ⟨j, hj1, hj2, rfl⟩ := q_rng (x := z) (a := 2) (b := 5) (fun f => by first | exact f (by assumption) | exact absurd f (by assumption)) (by omega) (by omega)
    try rw [nI_clamp (show j < 2 ^ 31 by omega)]
    refine q_aload_n dX10_boundOf_26 rfl ?_
    refine fRX10_9 (o := some 1062) dX10_boundOf_27 rfl (by decide) (K.le (by decide)) hs ?_
    refine q_rfS ?_
    refine q_bipush (v := nI 8) dX10_boundOf_30 (by decide) ?_
    refine q_iload_n dX10_boundOf_32 rfl ?_
    refine q_iaddN dX10_boundOf_33 ?_
    refine q_ialdN (len := 830) rfl dX10_boundOf_34 (by decide) (K.le (by decide)) rfl (by omega) (by decide) ?_
    refine q_tv (show _ = (m.bd j) from ((congrFun (q_sIn _ _ _ (by omega)) _).trans ((congrArg (h.I 1062) (show ((8) + (j)) = 8 + j by omega)).trans (M.bd (z := j) (by omega))))) ?_
    refine q_iret dX10_boundOf_35 rfl (Or.inl rfl) ?_
    first | exact ⟨_, rfl, 0, _, (Or.inr ⟨(by first | assumption | exact (fun c => c (by assumption)) | exact Int32.not_lt.mpr (by assumption) | exact Int32.not_le.mpr (by assumption) | exact Int32.not_lt.mp (by assumption) | exact Int32.not_le.mp (by assumption) | omega), rfl⟩), rfl, (by rw [q_sI, va_us]), (q_gm.rf.set (by omega) (by omega)), fun e => absurd rfl e, fun _ => ⟨rfl, (C.thr 12 (by omega) _)⟩⟩ | exact ⟨_, rfl, 1, _, (Or.inl ⟨(by first | assumption | exact (fun c => c (by assumption)) | exact Int32.not_lt.mpr (by assumption) | exact Int32.not_le.mpr (by assumption) | exact Int32.not_lt.mp (by assumption) | exact Int32.not_le.mp (by assumption) | omega), rfl⟩), rfl, (by rw [q_sI, va_us]), (q_gm.rf.set (by omega) (by omega)), fun _ => (C.thr 12 (by omega) _), fun e => absurd e (by decide)⟩
  · refine q_if_ne (tgt := 14) dX10_boundOf_7 rfl (fun c => absurd (by decide) c) (fun _ => ?_)
    refine q_iconst (v := nI 1) dX10_boundOf_10 (by decide) ?_
    refine q_goto (tgt := 15) dX10_boundOf_11 rfl ?_
    refine q_iconst (v := nI 1) dX10_boundOf_15 (by decide) ?_
    refine q_vD (kc := 0) (ks := 0) (g_thrT (h := h) K (a := 1)) wX10_isThrown kX10_51 iX10_isThrown eX10_isThrown rfl rfl (by decide) (K.le (by decide)) (by decide) rfl rfl (Nat.le_of_ble_eq_true rfl) dX10_boundOf_16 rfl rfl ?_
    refine q_if_eq (tgt := 26) dX10_boundOf_19 rfl (fun c => absurd c (by decide)) (fun _ => ?_)
    refine q_iconst (v := nI 0) dX10_boundOf_22 (by decide) ?_
    refine q_goto (tgt := 35) dX10_boundOf_23 rfl ?_
    refine q_iret dX10_boundOf_35 rfl (Or.inl rfl) ?_
    first | exact ⟨_, rfl, 0, _, (Or.inr ⟨(by first | assumption | exact (fun c => c (by assumption)) | exact Int32.not_lt.mpr (by assumption) | exact Int32.not_le.mpr (by assumption) | exact Int32.not_lt.mp (by assumption) | exact Int32.not_le.mp (by assumption) | omega), rfl⟩), rfl, (by rw [q_sI, va_us]), (q_gm.rf.set (by omega) (by omega)), fun e => absurd rfl e, fun _ => ⟨rfl, (C.thr 12 (by omega) _)⟩⟩ | exact ⟨_, rfl, 1, _, (Or.inl ⟨(by first | assumption | exact (fun c => c (by assumption)) | exact Int32.not_lt.mpr (by assumption) | exact Int32.not_le.mpr (by assumption) | exact Int32.not_lt.mp (by assumption) | exact Int32.not_le.mp (by assumption) | omega), rfl⟩), rfl, (by rw [q_sI, va_us]), (q_gm.rf.set (by omega) (by omega)), fun _ => (C.thr 12 (by omega) _), fun e => absurd e (by decide)⟩
theorem g_X10_weightOf {Φ : q_Fx} {h : q_Hp} (K : q_Lk Φ h.R h.n) {m : q_W} {P : q_P} (C : q_mr h m P) (v : q_val m) {z : Int32} : q_Ct Φ false yX10_weightOf cX10_weightOf mX10_weightOf [.ref 1061, .int z] h (q_ex (q_pr h m P (q_k1 (¬ (nI 1 ≤ z ∧ z ≤ nI 5))) (m.wt z.toNatClampNeg) (m) (P))) := by
  refine q_enter K.st rfl rfl (by decide) rfl (Nat.le_of_ble_eq_true rfl) (L := [_, _]) rfl ?_
  have hs := C.1
  have M := C.2.1.1
  have hσ := C.2.1.2
  have ht9 := M.t9
  have hc40 := M.c40
  have hn10 := M.n10
  have hp28 := M.pc28
  have hpe1 := M.pe1
  have hpf9 := M.pf9
  have hu := C.2.2.1.2.1
  have htp := C.2.2.1.2.2.2.1
  have hwr := C.2.2.1.2.2.2.2.2.1
  have hsv := C.2.2.1.2.2.2.2.2.2.2
  refine q_aload_n dX10_weightOf_0 rfl ?_
  refine q_iload_n dX10_weightOf_1 rfl ?_
  refine q_iconst (v := nI 1) dX10_weightOf_2 (by decide) ?_
  refine q_iconst (v := nI 5) dX10_weightOf_3 (by decide) ?_
  refine q_sD (kc := 0) (ks := 0) (g_X10_isIn (h := h) K (v := z) (lo := (nI (1))) (hi := (nI (5)))) wX10_isIn kX10_47 sX10_isIn (by decide) rfl rfl (Nat.le_of_ble_eq_true rfl) dX10_weightOf_4 rfl rfl ?_
  refine q_spl (fun c1 => ?_) (fun c2 => ?_)
  · refine q_if_ne (tgt := 14) dX10_weightOf_7 rfl (fun _ => ?_) (fun c => absurd c (by decide))
    refine q_iconst (v := nI 0) dX10_weightOf_14 (by decide) ?_
    refine q_iconst (v := nI 1) dX10_weightOf_15 (by decide) ?_
    refine q_vD (kc := 0) (ks := 0) (g_thrF (h := h) K (a := 1)) wX10_isThrown kX10_51 iX10_isThrown eX10_isThrown rfl rfl (by decide) (K.le (by decide)) (by decide) rfl rfl (Nat.le_of_ble_eq_true rfl) dX10_weightOf_16 rfl rfl ?_
    refine q_if_eq (tgt := 26) dX10_weightOf_19 rfl (fun _ => ?_) (fun c => absurd (by decide) c)
    obtain ⟨j, hj1, hj2, rfl⟩ := q_rng (x := z) (a := 1) (b := 5) (fun f => by first | exact f (by assumption) | exact absurd f (by assumption)) (by omega) (by omega)
    try rw [nI_clamp (show j < 2 ^ 31 by omega)]
    refine q_aload_n dX10_weightOf_26 rfl ?_
    refine fRX10_9 (o := some 1062) dX10_weightOf_27 rfl (by decide) (K.le (by decide)) hs ?_
    refine q_rfS ?_
    refine q_bipush (v := nI 14) dX10_weightOf_30 (by decide) ?_
    refine q_iload_n dX10_weightOf_32 rfl ?_
    refine q_iaddN dX10_weightOf_33 ?_
    refine q_ialdN (len := 830) rfl dX10_weightOf_34 (by decide) (K.le (by decide)) rfl (by omega) (by decide) ?_
    refine q_tv (show _ = (m.wt j) from ((congrFun (q_sIn _ _ _ (by omega)) _).trans ((congrArg (h.I 1062) (show ((14) + (j)) = 14 + j by omega)).trans (M.wt (z := j) (by omega))))) ?_
    refine q_iret dX10_weightOf_35 rfl (Or.inl rfl) ?_
    first | exact ⟨_, rfl, 0, _, (Or.inr ⟨(by first | assumption | exact (fun c => c (by assumption)) | exact Int32.not_lt.mpr (by assumption) | exact Int32.not_le.mpr (by assumption) | exact Int32.not_lt.mp (by assumption) | exact Int32.not_le.mp (by assumption) | omega), rfl⟩), rfl, (by rw [q_sI, va_us]), (q_gm.rf.set (by omega) (by omega)), fun e => absurd rfl e, fun _ => ⟨rfl, (C.thr 12 (by omega) _)⟩⟩ | exact ⟨_, rfl, 1, _, (Or.inl ⟨(by first | assumption | exact (fun c => c (by assumption)) | exact Int32.not_lt.mpr (by assumption) | exact Int32.not_le.mpr (by assumption) | exact Int32.not_lt.mp (by assumption) | exact Int32.not_le.mp (by assumption) | omega), rfl⟩), rfl, (by rw [q_sI, va_us]), (q_gm.rf.set (by omega) (by omega)), fun _ => (C.thr 12 (by omega) _), fun e => absurd e (by decide)⟩
  · refine q_if_ne (tgt := 14) dX10_weightOf_7 rfl (fun c => absurd (by decide) c) (fun _ => ?_)
    refine q_iconst (v := nI 1) dX10_weightOf_10 (by decide) ?_
    refine q_goto (tgt := 15) dX10_weightOf_11 rfl ?_
    refine q_iconst (v := nI 1) dX10_weightOf_15 (by decide) ?_
    refine q_vD (kc := 0) (ks := 0) (g_thrT (h := h) K (a := 1)) wX10_isThrown kX10_51 iX10_isThrown eX10_isThrown rfl rfl (by decide) (K.le (by decide)) (by decide) rfl rfl (Nat.le_of_ble_eq_true rfl) dX10_weightOf_16 rfl rfl ?_
    refine q_if_eq (tgt := 26) dX10_weightOf_19 rfl (fun c => absurd c (by decide)) (fun _ => ?_)
    refine q_iconst (v := nI 0) dX10_weightOf_22 (by decide) ?_
    refine q_goto (tgt := 35) dX10_weightOf_23 rfl ?_
    refine q_iret dX10_weightOf_35 rfl (Or.inl rfl) ?_
    first | exact ⟨_, rfl, 0, _, (Or.inr ⟨(by first | assumption | exact (fun c => c (by assumption)) | exact Int32.not_lt.mpr (by assumption) | exact Int32.not_le.mpr (by assumption) | exact Int32.not_lt.mp (by assumption) | exact Int32.not_le.mp (by assumption) | omega), rfl⟩), rfl, (by rw [q_sI, va_us]), (q_gm.rf.set (by omega) (by omega)), fun e => absurd rfl e, fun _ => ⟨rfl, (C.thr 12 (by omega) _)⟩⟩ | exact ⟨_, rfl, 1, _, (Or.inl ⟨(by first | assumption | exact (fun c => c (by assumption)) | exact Int32.not_lt.mpr (by assumption) | exact Int32.not_le.mpr (by assumption) | exact Int32.not_lt.mp (by assumption) | exact Int32.not_le.mp (by assumption) | omega), rfl⟩), rfl, (by rw [q_sI, va_us]), (q_gm.rf.set (by omega) (by omega)), fun _ => (C.thr 12 (by omega) _), fun e => absurd e (by decide)⟩
theorem g_X10_zoneOf {Φ : q_Fx} {h : q_Hp} (K : q_Lk Φ h.R h.n) {m : q_W} {P : q_P} (C : q_mr h m P) (v : q_val m) {d x : Int32} : q_Ct Φ false yX10_zoneOf cX10_zoneOf mX10_zoneOf [.ref 1061, .int d, .int x] h (q_ex (q_pr h m P (q_k1 (¬ (nI 0 ≤ d ∧ d ≤ nI 199) ∨ ¬ (nI 0 ≤ x ∧ x ≤ nI 500))) (nI (q_zn m.bd x (m.th d))) (m) (P))) := by
  refine q_enter K.st rfl rfl (by decide) rfl (Nat.le_of_ble_eq_true rfl) (L := [_, _, _]) rfl ?_
  have hs := C.1
  have M := C.2.1.1
  have hσ := C.2.1.2
  have ht9 := M.t9
  have hc40 := M.c40
  have hn10 := M.n10
  have hp28 := M.pc28
  have hpe1 := M.pe1
  have hpf9 := M.pf9
  have hu := C.2.2.1.2.1
  have htp := C.2.2.1.2.2.2.1
  have hwr := C.2.2.1.2.2.2.2.2.1
  have hsv := C.2.2.1.2.2.2.2.2.2.2
  refine q_aload_n dX10_zoneOf_0 rfl ?_
  refine q_iload_n dX10_zoneOf_1 rfl ?_
  refine q_iconst (v := nI 0) dX10_zoneOf_2 (by decide) ?_
  refine q_sipush (v := nI 199) dX10_zoneOf_3 (by decide) ?_
  refine q_sD (kc := 0) (ks := 0) (g_X10_isIn (h := h) K (v := d) (lo := (nI (0))) (hi := (nI (199)))) wX10_isIn kX10_47 sX10_isIn (by decide) rfl rfl (Nat.le_of_ble_eq_true rfl) dX10_zoneOf_6 rfl rfl ?_
  refine q_spl (fun c1 => ?_) (fun c2 => ?_)
  · refine q_if_eq (tgt := 23) dX10_zoneOf_9 rfl (fun c => absurd c (by decide)) (fun _ => ?_)
    refine q_iload_n dX10_zoneOf_12 rfl ?_
    refine q_iconst (v := nI 0) dX10_zoneOf_13 (by decide) ?_
    refine q_sipush (v := nI 500) dX10_zoneOf_14 (by decide) ?_
    refine q_sD (kc := 0) (ks := 0) (g_X10_isIn (h := h) K (v := x) (lo := (nI (0))) (hi := (nI (500)))) wX10_isIn kX10_47 sX10_isIn (by decide) rfl rfl (Nat.le_of_ble_eq_true rfl) dX10_zoneOf_17 rfl rfl ?_
    refine q_spl (fun c5 => ?_) (fun c6 => ?_)
    · refine q_if_ne (tgt := 27) dX10_zoneOf_20 rfl (fun _ => ?_) (fun c => absurd c (by decide))
      refine q_iconst (v := nI 0) dX10_zoneOf_27 (by decide) ?_
      refine q_iconst (v := nI 1) dX10_zoneOf_28 (by decide) ?_
      refine q_vD (kc := 0) (ks := 0) (g_thrF (h := h) K (a := 1)) wX10_isThrown kX10_51 iX10_isThrown eX10_isThrown rfl rfl (by decide) (K.le (by decide)) (by decide) rfl rfl (Nat.le_of_ble_eq_true rfl) dX10_zoneOf_29 rfl rfl ?_
      refine q_if_eq (tgt := 39) dX10_zoneOf_32 rfl (fun _ => ?_) (fun c => absurd (by decide) c)
      obtain ⟨j, hj1, hj2, rfl⟩ := q_rng (x := x) (a := 0) (b := 500) (fun f => by first | exact f (by assumption) | exact absurd f (by assumption)) (by omega) (by omega)
      try rw [nI_clamp (show j < 2 ^ 31 by omega)]
      refine q_aload_n dX10_zoneOf_39 rfl ?_
      refine q_iload_n dX10_zoneOf_40 rfl ?_
      refine q_iload_n dX10_zoneOf_41 rfl ?_
      refine q_vD (kc := 0) (ks := 0) (g_X10_zone (h := (h.setI 1061 12 (nI (0)))) K ((Or.inl rfl)) hs ((show (h.setI 1061 12 (nI (0))).I 1062 = h.I 1062 from (q_sIn _ _ _ (by omega))).symm ▸ M) v (d := d) (x := j) (by omega)) wX10_zone kX10_72 iX10_zone eX10_zone rfl rfl (by decide) (K.le (by decide)) (by decide) rfl rfl (Nat.le_of_ble_eq_true rfl) dX10_zoneOf_42 rfl rfl ?_
      have hz42 := q_zn_le m.bd (nI (j)) (m.th d)
      refine q_iret dX10_zoneOf_45 rfl (Or.inl rfl) ?_
      first | exact ⟨_, rfl, 0, _, (Or.inr ⟨(q_no2 (by first | assumption | exact (fun c => c (by assumption)) | exact Int32.not_lt.mpr (by assumption) | exact Int32.not_le.mpr (by assumption) | exact Int32.not_lt.mp (by assumption) | exact Int32.not_le.mp (by assumption) | omega) (by first | assumption | exact (fun c => c (by assumption)) | exact Int32.not_lt.mpr (by assumption) | exact Int32.not_le.mpr (by assumption) | exact Int32.not_lt.mp (by assumption) | exact Int32.not_le.mp (by assumption) | omega)), rfl⟩), rfl, (by rw [q_sI, va_us]), (q_gm.rf.set (by omega) (by omega)), fun e => absurd rfl e, fun _ => ⟨rfl, (C.thr 12 (by omega) _)⟩⟩ | exact ⟨_, rfl, 1, _, (Or.inl ⟨(by first | exact Or.inl (by first | assumption | exact (fun c => c (by assumption)) | exact Int32.not_lt.mpr (by assumption) | exact Int32.not_le.mpr (by assumption) | exact Int32.not_lt.mp (by assumption) | exact Int32.not_le.mp (by assumption) | omega) | exact Or.inr (by first | assumption | exact (fun c => c (by assumption)) | exact Int32.not_lt.mpr (by assumption) | exact Int32.not_le.mpr (by assumption) | exact Int32.not_lt.mp (by assumption) | exact Int32.not_le.mp (by assumption) | omega)), rfl⟩), rfl, (by rw [q_sI, va_us]), (q_gm.rf.set (by omega) (by omega)), fun _ => (C.thr 12 (by omega) _), fun e => absurd e (by decide)⟩
    · refine q_if_ne (tgt := 27) dX10_zoneOf_20 rfl (fun c => absurd (by decide) c) (fun _ => ?_)
      refine q_iconst (v := nI 1) dX10_zoneOf_23 (by decide) ?_
      refine q_goto (tgt := 28) dX10_zoneOf_24 rfl ?_
      refine q_iconst (v := nI 1) dX10_zoneOf_28 (by decide) ?_
      refine q_vD (kc := 0) (ks := 0) (g_thrT (h := h) K (a := 1)) wX10_isThrown kX10_51 iX10_isThrown eX10_isThrown rfl rfl (by decide) (K.le (by decide)) (by decide) rfl rfl (Nat.le_of_ble_eq_true rfl) dX10_zoneOf_29 rfl rfl ?_
      refine q_if_eq (tgt := 39) dX10_zoneOf_32 rfl (fun c => absurd c (by decide)) (fun _ => ?_)
      refine q_iconst (v := nI 0) dX10_zoneOf_35 (by decide) ?_
      refine q_goto (tgt := 45) dX10_zoneOf_36 rfl ?_
      refine q_iret dX10_zoneOf_45 rfl (Or.inl rfl) ?_
      first | exact ⟨_, rfl, 0, _, (Or.inr ⟨(q_no2 (by first | assumption | exact (fun c => c (by assumption)) | exact Int32.not_lt.mpr (by assumption) | exact Int32.not_le.mpr (by assumption) | exact Int32.not_lt.mp (by assumption) | exact Int32.not_le.mp (by assumption) | omega) (by first | assumption | exact (fun c => c (by assumption)) | exact Int32.not_lt.mpr (by assumption) | exact Int32.not_le.mpr (by assumption) | exact Int32.not_lt.mp (by assumption) | exact Int32.not_le.mp (by assumption) | omega)), rfl⟩), rfl, (by rw [q_sI, va_us]), (q_gm.rf.set (by omega) (by omega)), fun e => absurd rfl e, fun _ => ⟨rfl, (C.thr 12 (by omega) _)⟩⟩ | exact ⟨_, rfl, 1, _, (Or.inl ⟨(by first | exact Or.inl (by first | assumption | exact (fun c => c (by assumption)) | exact Int32.not_lt.mpr (by assumption) | exact Int32.not_le.mpr (by assumption) | exact Int32.not_lt.mp (by assumption) | exact Int32.not_le.mp (by assumption) | omega) | exact Or.inr (by first | assumption | exact (fun c => c (by assumption)) | exact Int32.not_lt.mpr (by assumption) | exact Int32.not_le.mpr (by assumption) | exact Int32.not_lt.mp (by assumption) | exact Int32.not_le.mp (by assumption) | omega)), rfl⟩), rfl, (by rw [q_sI, va_us]), (q_gm.rf.set (by omega) (by omega)), fun _ => (C.thr 12 (by omega) _), fun e => absurd e (by decide)⟩
  · refine q_if_eq (tgt := 23) dX10_zoneOf_9 rfl (fun _ => ?_) (fun c => absurd (by decide) c)
    refine q_iconst (v := nI 1) dX10_zoneOf_23 (by decide) ?_
    refine q_goto (tgt := 28) dX10_zoneOf_24 rfl ?_
    refine q_iconst (v := nI 1) dX10_zoneOf_28 (by decide) ?_
    refine q_vD (kc := 0) (ks := 0) (g_thrT (h := h) K (a := 1)) wX10_isThrown kX10_51 iX10_isThrown eX10_isThrown rfl rfl (by decide) (K.le (by decide)) (by decide) rfl rfl (Nat.le_of_ble_eq_true rfl) dX10_zoneOf_29 rfl rfl ?_
    refine q_if_eq (tgt := 39) dX10_zoneOf_32 rfl (fun c => absurd c (by decide)) (fun _ => ?_)
    refine q_iconst (v := nI 0) dX10_zoneOf_35 (by decide) ?_
    refine q_goto (tgt := 45) dX10_zoneOf_36 rfl ?_
    refine q_iret dX10_zoneOf_45 rfl (Or.inl rfl) ?_
    first | exact ⟨_, rfl, 0, _, (Or.inr ⟨(q_no2 (by first | assumption | exact (fun c => c (by assumption)) | exact Int32.not_lt.mpr (by assumption) | exact Int32.not_le.mpr (by assumption) | exact Int32.not_lt.mp (by assumption) | exact Int32.not_le.mp (by assumption) | omega) (by first | assumption | exact (fun c => c (by assumption)) | exact Int32.not_lt.mpr (by assumption) | exact Int32.not_le.mpr (by assumption) | exact Int32.not_lt.mp (by assumption) | exact Int32.not_le.mp (by assumption) | omega)), rfl⟩), rfl, (by rw [q_sI, va_us]), (q_gm.rf.set (by omega) (by omega)), fun e => absurd rfl e, fun _ => ⟨rfl, (C.thr 12 (by omega) _)⟩⟩ | exact ⟨_, rfl, 1, _, (Or.inl ⟨(by first | exact Or.inl (by first | assumption | exact (fun c => c (by assumption)) | exact Int32.not_lt.mpr (by assumption) | exact Int32.not_le.mpr (by assumption) | exact Int32.not_lt.mp (by assumption) | exact Int32.not_le.mp (by assumption) | omega) | exact Or.inr (by first | assumption | exact (fun c => c (by assumption)) | exact Int32.not_lt.mpr (by assumption) | exact Int32.not_le.mpr (by assumption) | exact Int32.not_lt.mp (by assumption) | exact Int32.not_le.mp (by assumption) | omega)), rfl⟩), rfl, (by rw [q_sI, va_us]), (q_gm.rf.set (by omega) (by omega)), fun _ => (C.thr 12 (by omega) _), fun e => absurd e (by decide)⟩
theorem q_rlt {x : Int32} {n : Nat} (h : nI 0 ≤ x ∧ x ≤ nI n - nI 1) (hn : n < 2 ^ 30) : ∃ j, j < n ∧ x = nI j := by
  have h0 : ¬ x < 0 := fun e => by
    have h1 := h.1
    rw [Int32.le_iff_toInt_le, nI_toInt (by omega)] at h1
    rw [Int32.lt_iff_toInt_lt] at e
    have : (0 : Int32).toInt = 0 := by decide
    omega
  obtain ⟨j, hj, rfl⟩ := nI_of h0
  have h2 := h.2
  rw [Int32.le_iff_toInt_le, pk_sub_toInt hn (by omega), nI_toInt hj] at h2
  exact ⟨j, by omega, rfl⟩
theorem g_X10_sessionAt {Φ : q_Fx} {h : q_Hp} (K : q_Lk Φ h.R h.n) {m : q_W} {P : q_P} (C : q_mr h m P) (v : q_val m) {rk : Nat → Nat} (hrk : ∀ r, r < m.c → q_ps (fun k => decide (m.ah k = r)) m.c = nI (rk r) ∧ rk r < m.c) {p : Int32} : q_Ct Φ false yX10_sessionAt cX10_sessionAt mX10_sessionAt [.ref 1061, .int p] h (q_ex (q_pr h m P (q_k1 (¬ (nI 0 ≤ p ∧ p ≤ nI m.c - nI 1))) (m.id (rk p.toNatClampNeg)) (m) (P))) := by
  refine q_enter K.st rfl rfl (by decide) rfl (Nat.le_of_ble_eq_true rfl) (L := [_, _]) rfl ?_
  have hs := C.1
  have M := C.2.1.1
  have hσ := C.2.1.2
  have ht9 := M.t9
  have hc40 := M.c40
  have hn10 := M.n10
  have hp28 := M.pc28
  have hpe1 := M.pe1
  have hpf9 := M.pf9
  have hu := C.2.2.1.2.1
  have htp := C.2.2.1.2.2.2.1
  have hwr := C.2.2.1.2.2.2.2.2.1
  have hsv := C.2.2.1.2.2.2.2.2.2.2
  refine q_aload_n dX10_sessionAt_0 rfl ?_
  refine q_iload_n dX10_sessionAt_1 rfl ?_
  refine q_iconst (v := nI 0) dX10_sessionAt_2 (by decide) ?_
  refine q_aload_n dX10_sessionAt_3 rfl ?_
  refine fRX10_9 (o := some 1062) dX10_sessionAt_4 rfl (by decide) (K.le (by decide)) hs ?_
  refine q_rfS ?_
  refine q_iconst (v := nI 2) dX10_sessionAt_7 (by decide) ?_
  refine q_ialdN (len := 830) rfl dX10_sessionAt_8 (by decide) (K.le (by decide)) rfl (by omega) (by decide) ?_
  refine q_tv (show _ = (nI (m.c)) from M.c) ?_
  refine q_iconst (v := nI 1) dX10_sessionAt_9 (by decide) ?_
  refine q_isub dX10_sessionAt_10 ?_
  refine q_sD (kc := 0) (ks := 0) (g_X10_isIn (h := h) K (v := p) (lo := (nI (0))) (hi := ((nI (m.c)) - (nI (1))))) wX10_isIn kX10_47 sX10_isIn (by decide) rfl rfl (Nat.le_of_ble_eq_true rfl) dX10_sessionAt_11 rfl rfl ?_
  refine q_spl (fun c1 => ?_) (fun c2 => ?_)
  · refine q_if_ne (tgt := 21) dX10_sessionAt_14 rfl (fun _ => ?_) (fun c => absurd c (by decide))
    refine q_iconst (v := nI 0) dX10_sessionAt_21 (by decide) ?_
    refine q_iconst (v := nI 1) dX10_sessionAt_22 (by decide) ?_
    refine q_vD (kc := 0) (ks := 0) (g_thrF (h := h) K (a := 1)) wX10_isThrown kX10_51 iX10_isThrown eX10_isThrown rfl rfl (by decide) (K.le (by decide)) (by decide) rfl rfl (Nat.le_of_ble_eq_true rfl) dX10_sessionAt_23 rfl rfl ?_
    refine q_if_eq (tgt := 33) dX10_sessionAt_26 rfl (fun _ => ?_) (fun c => absurd (by decide) c)
    obtain ⟨j, hj1, rfl⟩ := q_rlt (x := p) (n := m.c) (by assumption) (by omega)
    try rw [nI_clamp (show j < 2 ^ 31 by omega)]
    refine q_aload_n dX10_sessionAt_33 rfl ?_
    refine fRX10_9 (o := some 1062) dX10_sessionAt_34 rfl (by decide) (K.le (by decide)) hs ?_
    refine q_rfS ?_
    refine q_aload_n dX10_sessionAt_37 rfl ?_
    refine q_aload_n dX10_sessionAt_38 rfl ?_
    refine q_iload_n dX10_sessionAt_39 rfl ?_
    refine q_vD (kc := 0) (ks := 0) (g_X10_ranked (h := (h.setI 1061 12 (nI (0)))) K ((Or.inl rfl)) hs ((show (h.setI 1061 12 (nI (0))).I 1062 = h.I 1062 from (q_sIn _ _ _ (by omega))).symm ▸ M) (p := j) (by omega)) wX10_ranked kX10_93 iX10_ranked eX10_ranked rfl rfl (by decide) (K.le (by decide)) (by decide) rfl rfl (Nat.le_of_ble_eq_true rfl) dX10_sessionAt_40 rfl rfl ?_
    rw [(hrk j (by omega)).1]
    have hrr := (hrk j (by omega)).2
    refine q_vD (kc := 0) (ks := 0) (g_X10_at (h := (h.setI 1061 12 (nI (0)))) K (k := rk j)) wX10_at kX10_75 iX10_at eX10_at rfl rfl (by decide) (K.le (by decide)) (by decide) rfl rfl (Nat.le_of_ble_eq_true rfl) dX10_sessionAt_43 rfl rfl ?_
    refine q_ialdN (len := 830) rfl dX10_sessionAt_46 (by decide) (K.le (by decide)) rfl (by omega) (by decide) ?_
    refine q_tv (show _ = (m.id (rk j)) from ((congrFun (q_sIn _ _ _ (by omega)) _).trans (M.id (by omega)))) ?_
    refine q_iret dX10_sessionAt_47 rfl (Or.inl rfl) ?_
    first | exact ⟨_, rfl, 0, _, (Or.inr ⟨(by first | assumption | exact (fun c => c (by assumption)) | exact Int32.not_lt.mpr (by assumption) | exact Int32.not_le.mpr (by assumption) | exact Int32.not_lt.mp (by assumption) | exact Int32.not_le.mp (by assumption) | omega), rfl⟩), rfl, (by rw [q_sI, va_us]), (q_gm.rf.set (by omega) (by omega)), fun e => absurd rfl e, fun _ => ⟨rfl, (C.thr 12 (by omega) _)⟩⟩ | exact ⟨_, rfl, 1, _, (Or.inl ⟨(by first | assumption | exact (fun c => c (by assumption)) | exact Int32.not_lt.mpr (by assumption) | exact Int32.not_le.mpr (by assumption) | exact Int32.not_lt.mp (by assumption) | exact Int32.not_le.mp (by assumption) | omega), rfl⟩), rfl, (by rw [q_sI, va_us]), (q_gm.rf.set (by omega) (by omega)), fun _ => (C.thr 12 (by omega) _), fun e => absurd e (by decide)⟩
  · refine q_if_ne (tgt := 21) dX10_sessionAt_14 rfl (fun c => absurd (by decide) c) (fun _ => ?_)
    refine q_iconst (v := nI 1) dX10_sessionAt_17 (by decide) ?_
    refine q_goto (tgt := 22) dX10_sessionAt_18 rfl ?_
    refine q_iconst (v := nI 1) dX10_sessionAt_22 (by decide) ?_
    refine q_vD (kc := 0) (ks := 0) (g_thrT (h := h) K (a := 1)) wX10_isThrown kX10_51 iX10_isThrown eX10_isThrown rfl rfl (by decide) (K.le (by decide)) (by decide) rfl rfl (Nat.le_of_ble_eq_true rfl) dX10_sessionAt_23 rfl rfl ?_
    refine q_if_eq (tgt := 33) dX10_sessionAt_26 rfl (fun c => absurd c (by decide)) (fun _ => ?_)
    refine q_iconst (v := nI 0) dX10_sessionAt_29 (by decide) ?_
    refine q_goto (tgt := 47) dX10_sessionAt_30 rfl ?_
    refine q_iret dX10_sessionAt_47 rfl (Or.inl rfl) ?_
    first | exact ⟨_, rfl, 0, _, (Or.inr ⟨(by first | assumption | exact (fun c => c (by assumption)) | exact Int32.not_lt.mpr (by assumption) | exact Int32.not_le.mpr (by assumption) | exact Int32.not_lt.mp (by assumption) | exact Int32.not_le.mp (by assumption) | omega), rfl⟩), rfl, (by rw [q_sI, va_us]), (q_gm.rf.set (by omega) (by omega)), fun e => absurd rfl e, fun _ => ⟨rfl, (C.thr 12 (by omega) _)⟩⟩ | exact ⟨_, rfl, 1, _, (Or.inl ⟨(by first | assumption | exact (fun c => c (by assumption)) | exact Int32.not_lt.mpr (by assumption) | exact Int32.not_le.mpr (by assumption) | exact Int32.not_lt.mp (by assumption) | exact Int32.not_le.mp (by assumption) | omega), rfl⟩), rfl, (by rw [q_sI, va_us]), (q_gm.rf.set (by omega) (by omega)), fun _ => (C.thr 12 (by omega) _), fun e => absurd e (by decide)⟩
theorem g_X10_targetAt {Φ : q_Fx} {h : q_Hp} (K : q_Lk Φ h.R h.n) {m : q_W} {P : q_P} (C : q_mr h m P) (v : q_val m) {p : Int32} : q_Ct Φ false yX10_targetAt cX10_targetAt mX10_targetAt [.ref 1061, .int p] h (q_ex (q_pr h m P (q_k1 (m.pe = 0 ∨ ¬ (nI 0 ≤ p ∧ p ≤ nI m.pc - nI 1))) (m.tg p.toNatClampNeg) (m) (P))) := by
  refine q_enter K.st rfl rfl (by decide) rfl (Nat.le_of_ble_eq_true rfl) (L := [_, _]) rfl ?_
  have hs := C.1
  have M := C.2.1.1
  have hσ := C.2.1.2
  have ht9 := M.t9
  have hc40 := M.c40
  have hn10 := M.n10
  have hp28 := M.pc28
  have hpe1 := M.pe1
  have hpf9 := M.pf9
  have hu := C.2.2.1.2.1
  have htp := C.2.2.1.2.2.2.1
  have hwr := C.2.2.1.2.2.2.2.2.1
  have hsv := C.2.2.1.2.2.2.2.2.2.2
  refine q_aload_n dX10_targetAt_0 rfl ?_
  refine q_aload_n dX10_targetAt_1 rfl ?_
  refine fRX10_9 (o := some 1062) dX10_targetAt_2 rfl (by decide) (K.le (by decide)) hs ?_
  refine q_rfS ?_
  refine q_iconst (v := nI 4) dX10_targetAt_5 (by decide) ?_
  refine q_ialdN (len := 830) rfl dX10_targetAt_6 (by decide) (K.le (by decide)) rfl (by omega) (by decide) ?_
  refine q_tv (show _ = (nI (m.pe)) from M.pe) ?_
  refine q_if_eqN (by omega) (tgt := 27) dX10_targetAt_7 rfl (fun c1 => ?_) (fun c2 => ?_)
  · refine q_iconst (v := nI 1) dX10_targetAt_27 (by decide) ?_
    refine q_goto (tgt := 32) dX10_targetAt_28 rfl ?_
    refine q_iconst (v := nI 1) dX10_targetAt_32 (by decide) ?_
    refine q_vD (kc := 0) (ks := 0) (g_thrT (h := h) K (a := 1)) wX10_isThrown kX10_51 iX10_isThrown eX10_isThrown rfl rfl (by decide) (K.le (by decide)) (by decide) rfl rfl (Nat.le_of_ble_eq_true rfl) dX10_targetAt_33 rfl rfl ?_
    refine q_if_eq (tgt := 43) dX10_targetAt_36 rfl (fun c => absurd c (by decide)) (fun _ => ?_)
    refine q_iconst (v := nI 0) dX10_targetAt_39 (by decide) ?_
    refine q_goto (tgt := 52) dX10_targetAt_40 rfl ?_
    refine q_iret dX10_targetAt_52 rfl (Or.inl rfl) ?_
    first | exact ⟨_, rfl, 0, _, (Or.inr ⟨(q_no2 (by first | assumption | exact (fun c => c (by assumption)) | exact Int32.not_lt.mpr (by assumption) | exact Int32.not_le.mpr (by assumption) | exact Int32.not_lt.mp (by assumption) | exact Int32.not_le.mp (by assumption) | omega) (by first | assumption | exact (fun c => c (by assumption)) | exact Int32.not_lt.mpr (by assumption) | exact Int32.not_le.mpr (by assumption) | exact Int32.not_lt.mp (by assumption) | exact Int32.not_le.mp (by assumption) | omega)), rfl⟩), rfl, (by rw [q_sI, va_us]), (q_gm.rf.set (by omega) (by omega)), fun e => absurd rfl e, fun _ => ⟨rfl, (C.thr 12 (by omega) _)⟩⟩ | exact ⟨_, rfl, 1, _, (Or.inl ⟨(by first | exact Or.inl (by first | assumption | exact (fun c => c (by assumption)) | exact Int32.not_lt.mpr (by assumption) | exact Int32.not_le.mpr (by assumption) | exact Int32.not_lt.mp (by assumption) | exact Int32.not_le.mp (by assumption) | omega) | exact Or.inr (by first | assumption | exact (fun c => c (by assumption)) | exact Int32.not_lt.mpr (by assumption) | exact Int32.not_le.mpr (by assumption) | exact Int32.not_lt.mp (by assumption) | exact Int32.not_le.mp (by assumption) | omega)), rfl⟩), rfl, (by rw [q_sI, va_us]), (q_gm.rf.set (by omega) (by omega)), fun _ => (C.thr 12 (by omega) _), fun e => absurd e (by decide)⟩
  · refine q_iload_n dX10_targetAt_10 rfl ?_
    refine q_iconst (v := nI 0) dX10_targetAt_11 (by decide) ?_
    refine q_aload_n dX10_targetAt_12 rfl ?_
    refine fRX10_9 (o := some 1062) dX10_targetAt_13 rfl (by decide) (K.le (by decide)) hs ?_
    refine q_rfS ?_
    refine q_bipush (v := nI 6) dX10_targetAt_16 (by decide) ?_
    refine q_ialdN (len := 830) rfl dX10_targetAt_18 (by decide) (K.le (by decide)) rfl (by omega) (by decide) ?_
    refine q_tv (show _ = (nI (m.pc)) from M.pc) ?_
    refine q_iconst (v := nI 1) dX10_targetAt_19 (by decide) ?_
    refine q_isub dX10_targetAt_20 ?_
    refine q_sD (kc := 0) (ks := 0) (g_X10_isIn (h := h) K (v := p) (lo := (nI (0))) (hi := ((nI (m.pc)) - (nI (1))))) wX10_isIn kX10_47 sX10_isIn (by decide) rfl rfl (Nat.le_of_ble_eq_true rfl) dX10_targetAt_21 rfl rfl ?_
    refine q_spl (fun c5 => ?_) (fun c6 => ?_)
    · refine q_if_ne (tgt := 31) dX10_targetAt_24 rfl (fun _ => ?_) (fun c => absurd c (by decide))
      refine q_iconst (v := nI 0) dX10_targetAt_31 (by decide) ?_
      refine q_iconst (v := nI 1) dX10_targetAt_32 (by decide) ?_
      refine q_vD (kc := 0) (ks := 0) (g_thrF (h := h) K (a := 1)) wX10_isThrown kX10_51 iX10_isThrown eX10_isThrown rfl rfl (by decide) (K.le (by decide)) (by decide) rfl rfl (Nat.le_of_ble_eq_true rfl) dX10_targetAt_33 rfl rfl ?_
      refine q_if_eq (tgt := 43) dX10_targetAt_36 rfl (fun _ => ?_) (fun c => absurd (by decide) c)
      obtain ⟨j, hj1, rfl⟩ := q_rlt (x := p) (n := m.pc) (by assumption) (by omega)
      try rw [nI_clamp (show j < 2 ^ 31 by omega)]
      refine q_aload_n dX10_targetAt_43 rfl ?_
      refine fRX10_9 (o := some 1062) dX10_targetAt_44 rfl (by decide) (K.le (by decide)) hs ?_
      refine q_rfS ?_
      refine q_bipush (v := nI 40) dX10_targetAt_47 (by decide) ?_
      refine q_iload_n dX10_targetAt_49 rfl ?_
      refine q_iaddN dX10_targetAt_50 ?_
      refine q_ialdN (len := 830) rfl dX10_targetAt_51 (by decide) (K.le (by decide)) rfl (by omega) (by decide) ?_
      refine q_tv (show _ = (m.tg j) from ((congrFun (q_sIn _ _ _ (by omega)) _).trans ((congrArg (h.I 1062) (show ((40) + (j)) = 40 + j by omega)).trans (M.tg (e := j) (by omega))))) ?_
      refine q_iret dX10_targetAt_52 rfl (Or.inl rfl) ?_
      first | exact ⟨_, rfl, 0, _, (Or.inr ⟨(q_no2 (by first | assumption | exact (fun c => c (by assumption)) | exact Int32.not_lt.mpr (by assumption) | exact Int32.not_le.mpr (by assumption) | exact Int32.not_lt.mp (by assumption) | exact Int32.not_le.mp (by assumption) | omega) (by first | assumption | exact (fun c => c (by assumption)) | exact Int32.not_lt.mpr (by assumption) | exact Int32.not_le.mpr (by assumption) | exact Int32.not_lt.mp (by assumption) | exact Int32.not_le.mp (by assumption) | omega)), rfl⟩), rfl, (by rw [q_sI, va_us]), (q_gm.rf.set (by omega) (by omega)), fun e => absurd rfl e, fun _ => ⟨rfl, (C.thr 12 (by omega) _)⟩⟩ | exact ⟨_, rfl, 1, _, (Or.inl ⟨(by first | exact Or.inl (by first | assumption | exact (fun c => c (by assumption)) | exact Int32.not_lt.mpr (by assumption) | exact Int32.not_le.mpr (by assumption) | exact Int32.not_lt.mp (by assumption) | exact Int32.not_le.mp (by assumption) | omega) | exact Or.inr (by first | assumption | exact (fun c => c (by assumption)) | exact Int32.not_lt.mpr (by assumption) | exact Int32.not_le.mpr (by assumption) | exact Int32.not_lt.mp (by assumption) | exact Int32.not_le.mp (by assumption) | omega)), rfl⟩), rfl, (by rw [q_sI, va_us]), (q_gm.rf.set (by omega) (by omega)), fun _ => (C.thr 12 (by omega) _), fun e => absurd e (by decide)⟩
    · refine q_if_ne (tgt := 31) dX10_targetAt_24 rfl (fun c => absurd (by decide) c) (fun _ => ?_)
      refine q_iconst (v := nI 1) dX10_targetAt_27 (by decide) ?_
      refine q_goto (tgt := 32) dX10_targetAt_28 rfl ?_
      refine q_iconst (v := nI 1) dX10_targetAt_32 (by decide) ?_
      refine q_vD (kc := 0) (ks := 0) (g_thrT (h := h) K (a := 1)) wX10_isThrown kX10_51 iX10_isThrown eX10_isThrown rfl rfl (by decide) (K.le (by decide)) (by decide) rfl rfl (Nat.le_of_ble_eq_true rfl) dX10_targetAt_33 rfl rfl ?_
      refine q_if_eq (tgt := 43) dX10_targetAt_36 rfl (fun c => absurd c (by decide)) (fun _ => ?_)
      refine q_iconst (v := nI 0) dX10_targetAt_39 (by decide) ?_
      refine q_goto (tgt := 52) dX10_targetAt_40 rfl ?_
      refine q_iret dX10_targetAt_52 rfl (Or.inl rfl) ?_
      first | exact ⟨_, rfl, 0, _, (Or.inr ⟨(q_no2 (by first | assumption | exact (fun c => c (by assumption)) | exact Int32.not_lt.mpr (by assumption) | exact Int32.not_le.mpr (by assumption) | exact Int32.not_lt.mp (by assumption) | exact Int32.not_le.mp (by assumption) | omega) (by first | assumption | exact (fun c => c (by assumption)) | exact Int32.not_lt.mpr (by assumption) | exact Int32.not_le.mpr (by assumption) | exact Int32.not_lt.mp (by assumption) | exact Int32.not_le.mp (by assumption) | omega)), rfl⟩), rfl, (by rw [q_sI, va_us]), (q_gm.rf.set (by omega) (by omega)), fun e => absurd rfl e, fun _ => ⟨rfl, (C.thr 12 (by omega) _)⟩⟩ | exact ⟨_, rfl, 1, _, (Or.inl ⟨(by first | exact Or.inl (by first | assumption | exact (fun c => c (by assumption)) | exact Int32.not_lt.mpr (by assumption) | exact Int32.not_le.mpr (by assumption) | exact Int32.not_lt.mp (by assumption) | exact Int32.not_le.mp (by assumption) | omega) | exact Or.inr (by first | assumption | exact (fun c => c (by assumption)) | exact Int32.not_lt.mpr (by assumption) | exact Int32.not_le.mpr (by assumption) | exact Int32.not_lt.mp (by assumption) | exact Int32.not_le.mp (by assumption) | omega)), rfl⟩), rfl, (by rw [q_sI, va_us]), (q_gm.rf.set (by omega) (by omega)), fun _ => (C.thr 12 (by omega) _), fun e => absurd e (by decide)⟩
theorem g_X10_lineAt {Φ : q_Fx} {h : q_Hp} (K : q_Lk Φ h.R h.n) {m : q_W} {P : q_P} (C : q_mr h m P) (v : q_val m) {p : Int32} (hlc : ∀ j, j < P.wr → narrow .char (.int (P.ln j)) = .int (P.ln j)) : q_Ct Φ false yX10_lineAt cX10_lineAt mX10_lineAt [.ref 1061, .int p] h (q_ex (q_pr h m P (q_k1 (¬ (nI 0 ≤ p ∧ p ≤ nI P.wr - nI 1))) (P.ln p.toNatClampNeg) (m) (P))) := by
  refine q_enter K.st rfl rfl (by decide) rfl (Nat.le_of_ble_eq_true rfl) (L := [_, _]) rfl ?_
  have hs := C.1
  have M := C.2.1.1
  have hσ := C.2.1.2
  have ht9 := M.t9
  have hc40 := M.c40
  have hn10 := M.n10
  have hp28 := M.pc28
  have hpe1 := M.pe1
  have hpf9 := M.pf9
  have hu := C.2.2.1.2.1
  have htp := C.2.2.1.2.2.2.1
  have hwr := C.2.2.1.2.2.2.2.2.1
  have hsv := C.2.2.1.2.2.2.2.2.2.2
  refine q_aload_n dX10_lineAt_0 rfl ?_
  refine q_iload_n dX10_lineAt_1 rfl ?_
  refine q_iconst (v := nI 0) dX10_lineAt_2 (by decide) ?_
  refine q_aload_n dX10_lineAt_3 rfl ?_
  refine fIX10_160 dX10_lineAt_4 rfl (by decide) (K.le (by decide)) ?_
  refine q_tv (show _ = (nI (P.wr)) from C.2.2.1.2.2.2.2.1) ?_
  refine q_iconst (v := nI 1) dX10_lineAt_7 (by decide) ?_
  refine q_isub dX10_lineAt_8 ?_
  refine q_sD (kc := 0) (ks := 0) (g_X10_isIn (h := h) K (v := p) (lo := (nI (0))) (hi := ((nI (P.wr)) - (nI (1))))) wX10_isIn kX10_47 sX10_isIn (by decide) rfl rfl (Nat.le_of_ble_eq_true rfl) dX10_lineAt_9 rfl rfl ?_
  refine q_spl (fun c1 => ?_) (fun c2 => ?_)
  · refine q_if_ne (tgt := 19) dX10_lineAt_12 rfl (fun _ => ?_) (fun c => absurd c (by decide))
    refine q_iconst (v := nI 0) dX10_lineAt_19 (by decide) ?_
    refine q_iconst (v := nI 1) dX10_lineAt_20 (by decide) ?_
    refine q_vD (kc := 0) (ks := 0) (g_thrF (h := h) K (a := 1)) wX10_isThrown kX10_51 iX10_isThrown eX10_isThrown rfl rfl (by decide) (K.le (by decide)) (by decide) rfl rfl (Nat.le_of_ble_eq_true rfl) dX10_lineAt_21 rfl rfl ?_
    refine q_if_eq (tgt := 32) dX10_lineAt_24 rfl (fun _ => ?_) (fun c => absurd (by decide) c)
    obtain ⟨j, hj1, rfl⟩ := q_rlt (x := p) (n := P.wr) (by assumption) (by omega)
    try rw [nI_clamp (show j < 2 ^ 31 by omega)]
    refine q_aload_n dX10_lineAt_32 rfl ?_
    refine fRX10_27 (o := some 1073) dX10_lineAt_33 rfl (by decide) (K.le (by decide)) (K.lk rfl) ?_
    refine q_rfS ?_
    refine q_iload_n dX10_lineAt_36 rfl ?_
    refine q_caldN (len := 13) rfl dX10_lineAt_37 (by decide) (K.le (by decide)) rfl (by omega) (by decide) ?_
    refine q_tv (show _ = (P.ln (j)) from ((congrFun (q_sIn _ _ _ (by omega)) _).trans (congrFun C.2.2.2.2.2 _))) ?_
    refine q_zret (ty := .char) dX10_lineAt_38 rfl (by first | rfl | exact hlc j hj1) (Or.inl rfl) ?_
    first | exact ⟨_, rfl, 0, _, (Or.inr ⟨(by first | assumption | exact (fun c => c (by assumption)) | exact Int32.not_lt.mpr (by assumption) | exact Int32.not_le.mpr (by assumption) | exact Int32.not_lt.mp (by assumption) | exact Int32.not_le.mp (by assumption) | omega), rfl⟩), rfl, (by rw [q_sI, va_us]), (q_gm.rf.set (by omega) (by omega)), fun e => absurd rfl e, fun _ => ⟨rfl, (C.thr 12 (by omega) _)⟩⟩ | exact ⟨_, rfl, 1, _, (Or.inl ⟨(by first | assumption | exact (fun c => c (by assumption)) | exact Int32.not_lt.mpr (by assumption) | exact Int32.not_le.mpr (by assumption) | exact Int32.not_lt.mp (by assumption) | exact Int32.not_le.mp (by assumption) | omega), rfl⟩), rfl, (by rw [q_sI, va_us]), (q_gm.rf.set (by omega) (by omega)), fun _ => (C.thr 12 (by omega) _), fun e => absurd e (by decide)⟩
  · refine q_if_ne (tgt := 19) dX10_lineAt_12 rfl (fun c => absurd (by decide) c) (fun _ => ?_)
    refine q_iconst (v := nI 1) dX10_lineAt_15 (by decide) ?_
    refine q_goto (tgt := 20) dX10_lineAt_16 rfl ?_
    refine q_iconst (v := nI 1) dX10_lineAt_20 (by decide) ?_
    refine q_vD (kc := 0) (ks := 0) (g_thrT (h := h) K (a := 1)) wX10_isThrown kX10_51 iX10_isThrown eX10_isThrown rfl rfl (by decide) (K.le (by decide)) (by decide) rfl rfl (Nat.le_of_ble_eq_true rfl) dX10_lineAt_21 rfl rfl ?_
    refine q_if_eq (tgt := 32) dX10_lineAt_24 rfl (fun c => absurd c (by decide)) (fun _ => ?_)
    refine q_bipush (v := nI 45) dX10_lineAt_27 (by decide) ?_
    refine q_goto (tgt := 38) dX10_lineAt_29 rfl ?_
    refine q_zret (ty := .char) dX10_lineAt_38 rfl (by first | rfl | exact hlc j hj1) (Or.inl rfl) ?_
    first | exact ⟨_, rfl, 0, _, (Or.inr ⟨(by first | assumption | exact (fun c => c (by assumption)) | exact Int32.not_lt.mpr (by assumption) | exact Int32.not_le.mpr (by assumption) | exact Int32.not_lt.mp (by assumption) | exact Int32.not_le.mp (by assumption) | omega), rfl⟩), rfl, (by rw [q_sI, va_us]), (q_gm.rf.set (by omega) (by omega)), fun e => absurd rfl e, fun _ => ⟨rfl, (C.thr 12 (by omega) _)⟩⟩ | exact ⟨_, rfl, 1, _, (Or.inl ⟨(by first | assumption | exact (fun c => c (by assumption)) | exact Int32.not_lt.mpr (by assumption) | exact Int32.not_le.mpr (by assumption) | exact Int32.not_lt.mp (by assumption) | exact Int32.not_le.mp (by assumption) | omega), rfl⟩), rfl, (by rw [q_sI, va_us]), (q_gm.rf.set (by omega) (by omega)), fun _ => (C.thr 12 (by omega) _), fun e => absurd e (by decide)⟩
theorem g_X10_dayOf {Φ : q_Fx} {h : q_Hp} (K : q_Lk Φ h.R h.n) {m : q_W} {P : q_P} (C : q_mr h m P) (v : q_val m) {x : Int32} : q_Ct Φ false yX10_dayOf cX10_dayOf mX10_dayOf [.ref 1061, .int x] h (q_ex (q_pr h m P (q_k1 (m.mno x)) (nI (m.dy (m.mat x))) (m) (P))) := by
  refine q_enter K.st rfl rfl (by decide) rfl (Nat.le_of_ble_eq_true rfl) (L := [_, _]) rfl ?_
  have hs := C.1
  have M := C.2.1.1
  have hσ := C.2.1.2
  have ht9 := M.t9
  have hc40 := M.c40
  have hn10 := M.n10
  have hp28 := M.pc28
  have hpe1 := M.pe1
  have hpf9 := M.pf9
  have hu := C.2.2.1.2.1
  have htp := C.2.2.1.2.2.2.1
  have hwr := C.2.2.1.2.2.2.2.2.1
  have hsv := C.2.2.1.2.2.2.2.2.2.2
  refine q_aload_n dX10_dayOf_0 rfl ?_
  refine q_iload_n dX10_dayOf_1 rfl ?_
  by_cases c1 : m.mno x
  · refine q_vD (kc := 0) (ks := 0) (g_nosT (h := h) K ((Or.inl rfl)) hs (M) (x := x) c1) wX10_isNoSession kX10_90 iX10_isNoSession eX10_isNoSession rfl rfl (by decide) (K.le (by decide)) (by decide) rfl rfl (Nat.le_of_ble_eq_true rfl) dX10_dayOf_2 rfl rfl ?_
    refine q_if_eq (tgt := 12) dX10_dayOf_5 rfl (fun c => absurd c (by decide)) (fun _ => ?_)
    refine q_iconst (v := nI 0) dX10_dayOf_8 (by decide) ?_
    refine q_goto (tgt := 28) dX10_dayOf_9 rfl ?_
    refine q_iret dX10_dayOf_28 rfl (Or.inl rfl) ?_
    first | exact ⟨_, rfl, 0, _, (Or.inr ⟨(by first | assumption | exact (fun c => c (by assumption)) | exact Int32.not_lt.mpr (by assumption) | exact Int32.not_le.mpr (by assumption) | exact Int32.not_lt.mp (by assumption) | exact Int32.not_le.mp (by assumption) | omega), rfl⟩), rfl, (by rw [q_sI, va_us]), (q_gm.rf.set (by omega) (by omega)), fun e => absurd rfl e, fun _ => ⟨rfl, (C.thr 12 (by omega) _)⟩⟩ | exact ⟨_, rfl, 1, _, (Or.inl ⟨(by first | assumption | exact (fun c => c (by assumption)) | exact Int32.not_lt.mpr (by assumption) | exact Int32.not_le.mpr (by assumption) | exact Int32.not_lt.mp (by assumption) | exact Int32.not_le.mp (by assumption) | omega), rfl⟩), rfl, (by rw [q_sI, va_us]), (q_gm.rf.set (by omega) (by omega)), fun _ => (C.thr 12 (by omega) _), fun e => absurd e (by decide)⟩
  · refine q_vD (kc := 0) (ks := 0) (g_nosF (h := h) K ((Or.inl rfl)) hs (M) (x := x) c1) wX10_isNoSession kX10_90 iX10_isNoSession eX10_isNoSession rfl rfl (by decide) (K.le (by decide)) (by decide) rfl rfl (Nat.le_of_ble_eq_true rfl) dX10_dayOf_2 rfl rfl ?_
    have hat := q_mat hc40 c1
    refine q_if_eq (tgt := 12) dX10_dayOf_5 rfl (fun _ => ?_) (fun c => absurd (by decide) c)
    refine q_aload_n dX10_dayOf_12 rfl ?_
    refine fRX10_9 (o := some 1062) dX10_dayOf_13 rfl (by decide) (K.le (by decide)) hs ?_
    refine q_rfS ?_
    refine q_aload_n dX10_dayOf_16 rfl ?_
    refine q_aload_n dX10_dayOf_17 rfl ?_
    refine q_iload_n dX10_dayOf_18 rfl ?_
    refine q_vD (kc := 0) (ks := 0) (g_X10_place (h := (h.setI 1061 12 (nI 0))) K ((Or.inl rfl)) hs ((show (h.setI 1061 12 (nI 0)).I 1062 = h.I 1062 from (q_sIn _ _ _ (by omega))).symm ▸ M) (x := x)) wX10_place kX10_84 iX10_place eX10_place rfl rfl (by decide) (K.le (by decide)) (by decide) rfl rfl (Nat.le_of_ble_eq_true rfl) dX10_dayOf_19 rfl rfl ?_
    rw [hat.2.2]
    refine q_vD (kc := 0) (ks := 0) (g_X10_at (h := (h.setI 1061 12 (nI 0))) K (k := m.mat x)) wX10_at kX10_75 iX10_at eX10_at rfl rfl (by decide) (K.le (by decide)) (by decide) rfl rfl (Nat.le_of_ble_eq_true rfl) dX10_dayOf_22 rfl rfl ?_
    refine q_iconst (v := nI 1) dX10_dayOf_25 (by decide) ?_
    refine q_iaddN dX10_dayOf_26 ?_
    refine q_ialdN (len := 830) rfl dX10_dayOf_27 (by decide) (K.le (by decide)) rfl (by omega) (by decide) ?_
    refine q_tv (show _ = (nI (m.dy (m.mat x))) from ((congrFun (q_sIn _ _ _ (by omega)) _).trans ((congrArg (h.I 1062) (show ((70 + 19 * (m.mat x)) + (1)) = 71 + 19 * (m.mat x) by omega)).trans (M.dy (by omega))))) ?_
    refine q_iret dX10_dayOf_28 rfl (Or.inl rfl) ?_
    first | exact ⟨_, rfl, 0, _, (Or.inr ⟨(by first | assumption | exact (fun c => c (by assumption)) | exact Int32.not_lt.mpr (by assumption) | exact Int32.not_le.mpr (by assumption) | exact Int32.not_lt.mp (by assumption) | exact Int32.not_le.mp (by assumption) | omega), rfl⟩), rfl, (by rw [q_sI, va_us]), (q_gm.rf.set (by omega) (by omega)), fun e => absurd rfl e, fun _ => ⟨rfl, (C.thr 12 (by omega) _)⟩⟩ | exact ⟨_, rfl, 1, _, (Or.inl ⟨(by first | assumption | exact (fun c => c (by assumption)) | exact Int32.not_lt.mpr (by assumption) | exact Int32.not_le.mpr (by assumption) | exact Int32.not_lt.mp (by assumption) | exact Int32.not_le.mp (by assumption) | omega), rfl⟩), rfl, (by rw [q_sI, va_us]), (q_gm.rf.set (by omega) (by omega)), fun _ => (C.thr 12 (by omega) _), fun e => absurd e (by decide)⟩
theorem g_X10_minutesOf {Φ : q_Fx} {h : q_Hp} (K : q_Lk Φ h.R h.n) {m : q_W} {P : q_P} (C : q_mr h m P) (v : q_val m) {x : Int32} : q_Ct Φ false yX10_minutesOf cX10_minutesOf mX10_minutesOf [.ref 1061, .int x] h (q_ex (q_pr h m P (q_k1 (m.mno x)) (m.len (m.mat x)) (m) (P))) := by
  refine q_enter K.st rfl rfl (by decide) rfl (Nat.le_of_ble_eq_true rfl) (L := [_, _]) rfl ?_
  have hs := C.1
  have M := C.2.1.1
  have hσ := C.2.1.2
  have ht9 := M.t9
  have hc40 := M.c40
  have hn10 := M.n10
  have hp28 := M.pc28
  have hpe1 := M.pe1
  have hpf9 := M.pf9
  have hu := C.2.2.1.2.1
  have htp := C.2.2.1.2.2.2.1
  have hwr := C.2.2.1.2.2.2.2.2.1
  have hsv := C.2.2.1.2.2.2.2.2.2.2
  refine q_aload_n dX10_minutesOf_0 rfl ?_
  refine q_iload_n dX10_minutesOf_1 rfl ?_
  by_cases c1 : m.mno x
  · refine q_vD (kc := 0) (ks := 0) (g_nosT (h := h) K ((Or.inl rfl)) hs (M) (x := x) c1) wX10_isNoSession kX10_90 iX10_isNoSession eX10_isNoSession rfl rfl (by decide) (K.le (by decide)) (by decide) rfl rfl (Nat.le_of_ble_eq_true rfl) dX10_minutesOf_2 rfl rfl ?_
    refine q_if_eq (tgt := 12) dX10_minutesOf_5 rfl (fun c => absurd c (by decide)) (fun _ => ?_)
    refine q_iconst (v := nI 0) dX10_minutesOf_8 (by decide) ?_
    refine q_goto (tgt := 21) dX10_minutesOf_9 rfl ?_
    refine q_iret dX10_minutesOf_21 rfl (Or.inl rfl) ?_
    first | exact ⟨_, rfl, 0, _, (Or.inr ⟨(by first | assumption | exact (fun c => c (by assumption)) | exact Int32.not_lt.mpr (by assumption) | exact Int32.not_le.mpr (by assumption) | exact Int32.not_lt.mp (by assumption) | exact Int32.not_le.mp (by assumption) | omega), rfl⟩), rfl, (by rw [q_sI, va_us]), (q_gm.rf.set (by omega) (by omega)), fun e => absurd rfl e, fun _ => ⟨rfl, (C.thr 12 (by omega) _)⟩⟩ | exact ⟨_, rfl, 1, _, (Or.inl ⟨(by first | assumption | exact (fun c => c (by assumption)) | exact Int32.not_lt.mpr (by assumption) | exact Int32.not_le.mpr (by assumption) | exact Int32.not_lt.mp (by assumption) | exact Int32.not_le.mp (by assumption) | omega), rfl⟩), rfl, (by rw [q_sI, va_us]), (q_gm.rf.set (by omega) (by omega)), fun _ => (C.thr 12 (by omega) _), fun e => absurd e (by decide)⟩
  · refine q_vD (kc := 0) (ks := 0) (g_nosF (h := h) K ((Or.inl rfl)) hs (M) (x := x) c1) wX10_isNoSession kX10_90 iX10_isNoSession eX10_isNoSession rfl rfl (by decide) (K.le (by decide)) (by decide) rfl rfl (Nat.le_of_ble_eq_true rfl) dX10_minutesOf_2 rfl rfl ?_
    have hat := q_mat hc40 c1
    refine q_if_eq (tgt := 12) dX10_minutesOf_5 rfl (fun _ => ?_) (fun c => absurd (by decide) c)
    refine q_aload_n dX10_minutesOf_12 rfl ?_
    refine q_aload_n dX10_minutesOf_13 rfl ?_
    refine q_iload_n dX10_minutesOf_14 rfl ?_
    refine q_vD (kc := 0) (ks := 0) (g_X10_place (h := (h.setI 1061 12 (nI 0))) K ((Or.inl rfl)) hs ((show (h.setI 1061 12 (nI 0)).I 1062 = h.I 1062 from (q_sIn _ _ _ (by omega))).symm ▸ M) (x := x)) wX10_place kX10_84 iX10_place eX10_place rfl rfl (by decide) (K.le (by decide)) (by decide) rfl rfl (Nat.le_of_ble_eq_true rfl) dX10_minutesOf_15 rfl rfl ?_
    rw [hat.2.2]
    refine q_vD (kc := 0) (ks := 0) (g_X10_minutes (h := (h.setI 1061 12 (nI 0))) K ((Or.inl rfl)) hs ((show (h.setI 1061 12 (nI 0)).I 1062 = h.I 1062 from (q_sIn _ _ _ (by omega))).symm ▸ M) (k := m.mat x) (by omega)) wX10_minutes kX10_87 iX10_minutes eX10_minutes rfl rfl (by decide) (K.le (by decide)) (by decide) rfl rfl (Nat.le_of_ble_eq_true rfl) dX10_minutesOf_18 rfl rfl ?_
    refine q_iret dX10_minutesOf_21 rfl (Or.inl rfl) ?_
    first | exact ⟨_, rfl, 0, _, (Or.inr ⟨(by first | assumption | exact (fun c => c (by assumption)) | exact Int32.not_lt.mpr (by assumption) | exact Int32.not_le.mpr (by assumption) | exact Int32.not_lt.mp (by assumption) | exact Int32.not_le.mp (by assumption) | omega), rfl⟩), rfl, (by rw [q_sI, va_us]), (q_gm.rf.set (by omega) (by omega)), fun e => absurd rfl e, fun _ => ⟨rfl, (C.thr 12 (by omega) _)⟩⟩ | exact ⟨_, rfl, 1, _, (Or.inl ⟨(by first | assumption | exact (fun c => c (by assumption)) | exact Int32.not_lt.mpr (by assumption) | exact Int32.not_le.mpr (by assumption) | exact Int32.not_lt.mp (by assumption) | exact Int32.not_le.mp (by assumption) | omega), rfl⟩), rfl, (by rw [q_sI, va_us]), (q_gm.rf.set (by omega) (by omega)), fun _ => (C.thr 12 (by omega) _), fun e => absurd e (by decide)⟩
theorem g_X10_loadOf {Φ : q_Fx} {h : q_Hp} (K : q_Lk Φ h.R h.n) {m : q_W} {P : q_P} (C : q_mr h m P) (v : q_val m) {x : Int32} : q_Ct Φ false yX10_loadOf cX10_loadOf mX10_loadOf [.ref 1061, .int x] h (q_ex (q_pr h m P (q_k1 (m.mno x)) (m.ld (m.mat x)) (m) (P))) := by
  refine q_enter K.st rfl rfl (by decide) rfl (Nat.le_of_ble_eq_true rfl) (L := [_, _]) rfl ?_
  have hs := C.1
  have M := C.2.1.1
  have hσ := C.2.1.2
  have ht9 := M.t9
  have hc40 := M.c40
  have hn10 := M.n10
  have hp28 := M.pc28
  have hpe1 := M.pe1
  have hpf9 := M.pf9
  have hu := C.2.2.1.2.1
  have htp := C.2.2.1.2.2.2.1
  have hwr := C.2.2.1.2.2.2.2.2.1
  have hsv := C.2.2.1.2.2.2.2.2.2.2
  refine q_aload_n dX10_loadOf_0 rfl ?_
  refine q_iload_n dX10_loadOf_1 rfl ?_
  by_cases c1 : m.mno x
  · refine q_vD (kc := 0) (ks := 0) (g_nosT (h := h) K ((Or.inl rfl)) hs (M) (x := x) c1) wX10_isNoSession kX10_90 iX10_isNoSession eX10_isNoSession rfl rfl (by decide) (K.le (by decide)) (by decide) rfl rfl (Nat.le_of_ble_eq_true rfl) dX10_loadOf_2 rfl rfl ?_
    refine q_if_eq (tgt := 12) dX10_loadOf_5 rfl (fun c => absurd c (by decide)) (fun _ => ?_)
    refine q_iconst (v := nI 0) dX10_loadOf_8 (by decide) ?_
    refine q_goto (tgt := 21) dX10_loadOf_9 rfl ?_
    refine q_iret dX10_loadOf_21 rfl (Or.inl rfl) ?_
    first | exact ⟨_, rfl, 0, _, (Or.inr ⟨(by first | assumption | exact (fun c => c (by assumption)) | exact Int32.not_lt.mpr (by assumption) | exact Int32.not_le.mpr (by assumption) | exact Int32.not_lt.mp (by assumption) | exact Int32.not_le.mp (by assumption) | omega), rfl⟩), rfl, (by rw [q_rIn _ _ (by omega), q_sI, va_us]), ((q_gm.rf.set (by omega) (by omega)).row (by omega) (by omega)), fun e => absurd rfl e, fun _ => ⟨rfl, ((C.thr 12 (by omega) _).row _ (Or.inr rfl))⟩⟩ | exact ⟨_, rfl, 1, _, (Or.inl ⟨(by first | assumption | exact (fun c => c (by assumption)) | exact Int32.not_lt.mpr (by assumption) | exact Int32.not_le.mpr (by assumption) | exact Int32.not_lt.mp (by assumption) | exact Int32.not_le.mp (by assumption) | omega), rfl⟩), rfl, (by rw [q_sI, va_us]), (q_gm.rf.set (by omega) (by omega)), fun _ => (C.thr 12 (by omega) _), fun e => absurd e (by decide)⟩
  · refine q_vD (kc := 0) (ks := 0) (g_nosF (h := h) K ((Or.inl rfl)) hs (M) (x := x) c1) wX10_isNoSession kX10_90 iX10_isNoSession eX10_isNoSession rfl rfl (by decide) (K.le (by decide)) (by decide) rfl rfl (Nat.le_of_ble_eq_true rfl) dX10_loadOf_2 rfl rfl ?_
    have hat := q_mat hc40 c1
    refine q_if_eq (tgt := 12) dX10_loadOf_5 rfl (fun _ => ?_) (fun c => absurd (by decide) c)
    refine q_aload_n dX10_loadOf_12 rfl ?_
    refine q_aload_n dX10_loadOf_13 rfl ?_
    refine q_iload_n dX10_loadOf_14 rfl ?_
    refine q_vD (kc := 0) (ks := 0) (g_X10_place (h := (h.setI 1061 12 (nI 0))) K ((Or.inl rfl)) hs ((show (h.setI 1061 12 (nI 0)).I 1062 = h.I 1062 from (q_sIn _ _ _ (by omega))).symm ▸ M) (x := x)) wX10_place kX10_84 iX10_place eX10_place rfl rfl (by decide) (K.le (by decide)) (by decide) rfl rfl (Nat.le_of_ble_eq_true rfl) dX10_loadOf_15 rfl rfl ?_
    rw [hat.2.2]
    refine q_vR (kc := 0) (ks := 0) (g_X10_loadAt (h := (h.setI 1061 12 (nI 0))) K ((Or.inl rfl)) hs ((show (h.setI 1061 12 (nI 0)).I 1062 = h.I 1062 from (q_sIn _ _ _ (by omega))).symm ▸ M) v (k := m.mat x) (by omega)) wX10_loadAt kX10_66 iX10_loadAt eX10_loadAt rfl rfl (by decide) (K.le (by decide)) (by decide) rfl rfl (Nat.le_of_ble_eq_true rfl) dX10_loadOf_18 rfl rfl ?_
    rintro v' h' ⟨rfl, g72, rfl⟩
    refine q_iret dX10_loadOf_21 rfl (Or.inl rfl) ?_
    first | exact ⟨_, rfl, 0, _, (Or.inr ⟨(by first | assumption | exact (fun c => c (by assumption)) | exact Int32.not_lt.mpr (by assumption) | exact Int32.not_le.mpr (by assumption) | exact Int32.not_lt.mp (by assumption) | exact Int32.not_le.mp (by assumption) | omega), rfl⟩), rfl, (by rw [q_rIn _ _ (by omega), q_sI, va_us]), ((q_gm.rf.set (by omega) (by omega)).row (by omega) (by omega)), fun e => absurd rfl e, fun _ => ⟨rfl, ((C.thr 12 (by omega) _).row _ (Or.inr rfl))⟩⟩ | exact ⟨_, rfl, 1, _, (Or.inl ⟨(by first | assumption | exact (fun c => c (by assumption)) | exact Int32.not_lt.mpr (by assumption) | exact Int32.not_le.mpr (by assumption) | exact Int32.not_lt.mp (by assumption) | exact Int32.not_le.mp (by assumption) | omega), rfl⟩), rfl, (by rw [q_sI, va_us]), (q_gm.rf.set (by omega) (by omega)), fun _ => (C.thr 12 (by omega) _), fun e => absurd e (by decide)⟩
theorem g_X10_minutesInZone {Φ : q_Fx} {h : q_Hp} (K : q_Lk Φ h.R h.n) {m : q_W} {P : q_P} (C : q_mr h m P) (v : q_val m) {x z : Int32} : q_Ct Φ false yX10_minutesInZone cX10_minutesInZone mX10_minutesInZone [.ref 1061, .int x, .int z] h (q_ex (q_pr h m P (q_k2 (m.mno x) (¬ (nI 1 ≤ z ∧ z ≤ nI 5))) (q_az (fun _ => nI 0) (m.z (m.mat x)) (m.mn (m.mat x)) (m.pn (m.mat x)) z.toNatClampNeg) (m) (P))) := by
  refine q_enter K.st rfl rfl (by decide) rfl (Nat.le_of_ble_eq_true rfl) (L := [_, _, _]) rfl ?_
  have hs := C.1
  have M := C.2.1.1
  have hσ := C.2.1.2
  have ht9 := M.t9
  have hc40 := M.c40
  have hn10 := M.n10
  have hp28 := M.pc28
  have hpe1 := M.pe1
  have hpf9 := M.pf9
  have hu := C.2.2.1.2.1
  have htp := C.2.2.1.2.2.2.1
  have hwr := C.2.2.1.2.2.2.2.2.1
  have hsv := C.2.2.1.2.2.2.2.2.2.2
  refine q_aload_n dX10_minutesInZone_0 rfl ?_
  refine q_iload_n dX10_minutesInZone_1 rfl ?_
  by_cases c1 : m.mno x
  · refine q_vD (kc := 0) (ks := 0) (g_nosT (h := h) K ((Or.inl rfl)) hs (M) (x := x) c1) wX10_isNoSession kX10_90 iX10_isNoSession eX10_isNoSession rfl rfl (by decide) (K.le (by decide)) (by decide) rfl rfl (Nat.le_of_ble_eq_true rfl) dX10_minutesInZone_2 rfl rfl ?_
    refine q_if_ne (tgt := 30) dX10_minutesInZone_5 rfl (fun _ => ?_) (fun c => absurd c (by decide))
    refine q_iconst (v := nI 0) dX10_minutesInZone_30 (by decide) ?_
    refine q_iret dX10_minutesInZone_31 rfl (Or.inl rfl) ?_
    first | exact ⟨_, rfl, 0, _, (Or.inr (Or.inr ⟨(by first | assumption | exact (fun c => c (by assumption)) | exact Int32.not_lt.mpr (by assumption) | exact Int32.not_le.mpr (by assumption) | exact Int32.not_lt.mp (by assumption) | exact Int32.not_le.mp (by assumption) | omega), (by first | assumption | exact (fun c => c (by assumption)) | exact Int32.not_lt.mpr (by assumption) | exact Int32.not_le.mpr (by assumption) | exact Int32.not_lt.mp (by assumption) | exact Int32.not_le.mp (by assumption) | omega), rfl⟩)), rfl, (by rw [q_rIn _ _ (by omega), q_sI, va_us]), ((q_gm.rf.set (by omega) (by omega)).row (by omega) (by omega)), fun e => absurd rfl e, fun _ => ⟨by rw [q_az_in hg72 _ (fun p => m.z_lt _ p) _ _ _ (by omega)], ((C.thr 12 (by omega) _).row _ (Or.inr rfl))⟩⟩ | exact ⟨_, rfl, 1, _, (Or.inl ⟨(by first | assumption | exact (fun c => c (by assumption)) | exact Int32.not_lt.mpr (by assumption) | exact Int32.not_le.mpr (by assumption) | exact Int32.not_lt.mp (by assumption) | exact Int32.not_le.mp (by assumption) | omega), rfl⟩), rfl, (by rw [q_sI, va_us]), (q_gm.rf.set (by omega) (by omega)), fun _ => (C.thr 12 (by omega) _), fun e => absurd e (by decide)⟩ | exact ⟨_, rfl, 2, _, (Or.inr (Or.inl ⟨(by first | assumption | exact (fun c => c (by assumption)) | exact Int32.not_lt.mpr (by assumption) | exact Int32.not_le.mpr (by assumption) | exact Int32.not_lt.mp (by assumption) | exact Int32.not_le.mp (by assumption) | omega), (by first | assumption | exact (fun c => c (by assumption)) | exact Int32.not_lt.mpr (by assumption) | exact Int32.not_le.mpr (by assumption) | exact Int32.not_lt.mp (by assumption) | exact Int32.not_le.mp (by assumption) | omega), rfl⟩)), rfl, (by rw [q_sI, va_us]), (q_gm.rf.set (by omega) (by omega)), fun _ => (C.thr 12 (by omega) _), fun e => absurd e (by decide)⟩
  · refine q_vD (kc := 0) (ks := 0) (g_nosF (h := h) K ((Or.inl rfl)) hs (M) (x := x) c1) wX10_isNoSession kX10_90 iX10_isNoSession eX10_isNoSession rfl rfl (by decide) (K.le (by decide)) (by decide) rfl rfl (Nat.le_of_ble_eq_true rfl) dX10_minutesInZone_2 rfl rfl ?_
    have hat := q_mat hc40 c1
    refine q_if_ne (tgt := 30) dX10_minutesInZone_5 rfl (fun c => absurd (by decide) c) (fun _ => ?_)
    refine q_aload_n dX10_minutesInZone_8 rfl ?_
    refine q_iload_n dX10_minutesInZone_9 rfl ?_
    refine q_iconst (v := nI 1) dX10_minutesInZone_10 (by decide) ?_
    refine q_iconst (v := nI 5) dX10_minutesInZone_11 (by decide) ?_
    refine q_sD (kc := 0) (ks := 0) (g_X10_isIn (h := (h.setI 1061 12 (nI 0))) K (v := z) (lo := (nI (1))) (hi := (nI (5)))) wX10_isIn kX10_47 sX10_isIn (by decide) rfl rfl (Nat.le_of_ble_eq_true rfl) dX10_minutesInZone_12 rfl rfl ?_
    refine q_spl (fun c7 => ?_) (fun c8 => ?_)
    · refine q_if_ne (tgt := 22) dX10_minutesInZone_15 rfl (fun _ => ?_) (fun c => absurd c (by decide))
      refine q_iconst (v := nI 0) dX10_minutesInZone_22 (by decide) ?_
      refine q_iconst (v := nI 2) dX10_minutesInZone_23 (by decide) ?_
      refine q_vD (kc := 0) (ks := 0) (g_thrF (h := (h.setI 1061 12 (nI 0))) K (a := 2)) wX10_isThrown kX10_51 iX10_isThrown eX10_isThrown rfl rfl (by decide) (K.le (by decide)) (by decide) rfl rfl (Nat.le_of_ble_eq_true rfl) dX10_minutesInZone_24 rfl rfl ?_
      rw [q_ss]
      refine q_if_eq (tgt := 32) dX10_minutesInZone_27 rfl (fun _ => ?_) (fun c => absurd (by decide) c)
      obtain ⟨j, hj1, hj2, rfl⟩ := q_rng (x := z) (a := 1) (b := 5) (fun f => by first | exact f (by assumption) | exact absurd f (by assumption)) (by omega) (by omega)
      try rw [nI_clamp (show j < 2 ^ 31 by omega)]
      refine q_aload_n dX10_minutesInZone_32 rfl ?_
      refine q_vD (kc := 0) (ks := 0) (g_X10_noZones (h := (h.setI 1061 12 (nI (0)))) K) wX10_noZones kX10_78 iX10_noZones eX10_noZones rfl rfl (by decide) (K.le (by decide)) (by decide) rfl rfl (Nat.le_of_ble_eq_true rfl) dX10_minutesInZone_33 rfl rfl ?_
      have hg72 : ∀ k, k < 6 → q_cpy (fun _ => nI 0) ((h.setI 1061 12 (nI (0))).I 1072) 6 k = nI 0 := fun k hk => q_cpy_lt _ _ hk
      generalize q_cpy (fun _ => nI 0) ((h.setI 1061 12 (nI (0))).I 1072) 6 = g72 at hg72 ⊢
      refine q_aload_n dX10_minutesInZone_36 rfl ?_
      refine q_aload_n dX10_minutesInZone_37 rfl ?_
      refine q_iload_n dX10_minutesInZone_38 rfl ?_
      refine q_vD (kc := 0) (ks := 0) (g_X10_place (h := ((h.setI 1061 12 (nI (0))).rowI 1072 g72)) K ((Or.inl rfl)) hs ((show ((h.setI 1061 12 (nI (0))).rowI 1072 g72).I 1062 = h.I 1062 from ((q_rIn _ _ (by omega)).trans (q_sIn _ _ _ (by omega)))).symm ▸ M) (x := x)) wX10_place kX10_84 iX10_place eX10_place rfl rfl (by decide) (K.le (by decide)) (by decide) rfl rfl (Nat.le_of_ble_eq_true rfl) dX10_minutesInZone_39 rfl rfl ?_
      rw [hat.2.2]
      refine q_vD (kc := 0) (ks := 0) (g_X10_zones (h := ((h.setI 1061 12 (nI (0))).rowI 1072 g72)) K ((Or.inl rfl)) hs ((show ((h.setI 1061 12 (nI (0))).rowI 1072 g72).I 1062 = h.I 1062 from ((q_rIn _ _ (by omega)).trans (q_sIn _ _ _ (by omega)))).symm ▸ M) v (k := m.mat x) (by omega)) wX10_zones kX10_81 iX10_zones eX10_zones rfl rfl (by decide) (K.le (by decide)) (by decide) rfl rfl (Nat.le_of_ble_eq_true rfl) dX10_minutesInZone_42 rfl rfl ?_
      rw [q_rr, q_rI]
      refine q_aload_n dX10_minutesInZone_45 rfl ?_
      refine fRX10_24 (o := some 1072) dX10_minutesInZone_46 rfl (by decide) (K.le (by decide)) (K.lk rfl) ?_
      refine q_rfS ?_
      refine q_iload_n dX10_minutesInZone_49 rfl ?_
      refine q_ialdN (len := 6) rfl dX10_minutesInZone_50 (by decide) (K.le (by decide)) rfl (by omega) (by decide) ?_
      refine q_tv (show _ = ((q_az g72 (m.z (m.mat x)) (m.mn (m.mat x)) (m.pn (m.mat x))) (j)) from (congrFun (q_rI _ _ _) _)) ?_
      refine q_iret dX10_minutesInZone_51 rfl (Or.inl rfl) ?_
      first | exact ⟨_, rfl, 0, _, (Or.inr (Or.inr ⟨(by first | assumption | exact (fun c => c (by assumption)) | exact Int32.not_lt.mpr (by assumption) | exact Int32.not_le.mpr (by assumption) | exact Int32.not_lt.mp (by assumption) | exact Int32.not_le.mp (by assumption) | omega), (by first | assumption | exact (fun c => c (by assumption)) | exact Int32.not_lt.mpr (by assumption) | exact Int32.not_le.mpr (by assumption) | exact Int32.not_lt.mp (by assumption) | exact Int32.not_le.mp (by assumption) | omega), rfl⟩)), rfl, (by rw [q_rIn _ _ (by omega), q_sI, va_us]), ((q_gm.rf.set (by omega) (by omega)).row (by omega) (by omega)), fun e => absurd rfl e, fun _ => ⟨by rw [q_az_in hg72 _ (fun p => m.z_lt _ p) _ _ _ (by omega)], ((C.thr 12 (by omega) _).row _ (Or.inr rfl))⟩⟩ | exact ⟨_, rfl, 1, _, (Or.inl ⟨(by first | assumption | exact (fun c => c (by assumption)) | exact Int32.not_lt.mpr (by assumption) | exact Int32.not_le.mpr (by assumption) | exact Int32.not_lt.mp (by assumption) | exact Int32.not_le.mp (by assumption) | omega), rfl⟩), rfl, (by rw [q_sI, va_us]), (q_gm.rf.set (by omega) (by omega)), fun _ => (C.thr 12 (by omega) _), fun e => absurd e (by decide)⟩ | exact ⟨_, rfl, 2, _, (Or.inr (Or.inl ⟨(by first | assumption | exact (fun c => c (by assumption)) | exact Int32.not_lt.mpr (by assumption) | exact Int32.not_le.mpr (by assumption) | exact Int32.not_lt.mp (by assumption) | exact Int32.not_le.mp (by assumption) | omega), (by first | assumption | exact (fun c => c (by assumption)) | exact Int32.not_lt.mpr (by assumption) | exact Int32.not_le.mpr (by assumption) | exact Int32.not_lt.mp (by assumption) | exact Int32.not_le.mp (by assumption) | omega), rfl⟩)), rfl, (by rw [q_sI, va_us]), (q_gm.rf.set (by omega) (by omega)), fun _ => (C.thr 12 (by omega) _), fun e => absurd e (by decide)⟩
    · refine q_if_ne (tgt := 22) dX10_minutesInZone_15 rfl (fun c => absurd (by decide) c) (fun _ => ?_)
      refine q_iconst (v := nI 1) dX10_minutesInZone_18 (by decide) ?_
      refine q_goto (tgt := 23) dX10_minutesInZone_19 rfl ?_
      refine q_iconst (v := nI 2) dX10_minutesInZone_23 (by decide) ?_
      refine q_vD (kc := 0) (ks := 0) (g_thrT (h := (h.setI 1061 12 (nI 0))) K (a := 2)) wX10_isThrown kX10_51 iX10_isThrown eX10_isThrown rfl rfl (by decide) (K.le (by decide)) (by decide) rfl rfl (Nat.le_of_ble_eq_true rfl) dX10_minutesInZone_24 rfl rfl ?_
      rw [q_ss]
      refine q_if_eq (tgt := 32) dX10_minutesInZone_27 rfl (fun c => absurd c (by decide)) (fun _ => ?_)
      refine q_iconst (v := nI 0) dX10_minutesInZone_30 (by decide) ?_
      refine q_iret dX10_minutesInZone_31 rfl (Or.inl rfl) ?_
      first | exact ⟨_, rfl, 0, _, (Or.inr (Or.inr ⟨(by first | assumption | exact (fun c => c (by assumption)) | exact Int32.not_lt.mpr (by assumption) | exact Int32.not_le.mpr (by assumption) | exact Int32.not_lt.mp (by assumption) | exact Int32.not_le.mp (by assumption) | omega), (by first | assumption | exact (fun c => c (by assumption)) | exact Int32.not_lt.mpr (by assumption) | exact Int32.not_le.mpr (by assumption) | exact Int32.not_lt.mp (by assumption) | exact Int32.not_le.mp (by assumption) | omega), rfl⟩)), rfl, (by rw [q_rIn _ _ (by omega), q_sI, va_us]), ((q_gm.rf.set (by omega) (by omega)).row (by omega) (by omega)), fun e => absurd rfl e, fun _ => ⟨by rw [q_az_in hg72 _ (fun p => m.z_lt _ p) _ _ _ (by omega)], ((C.thr 12 (by omega) _).row _ (Or.inr rfl))⟩⟩ | exact ⟨_, rfl, 1, _, (Or.inl ⟨(by first | assumption | exact (fun c => c (by assumption)) | exact Int32.not_lt.mpr (by assumption) | exact Int32.not_le.mpr (by assumption) | exact Int32.not_lt.mp (by assumption) | exact Int32.not_le.mp (by assumption) | omega), rfl⟩), rfl, (by rw [q_sI, va_us]), (q_gm.rf.set (by omega) (by omega)), fun _ => (C.thr 12 (by omega) _), fun e => absurd e (by decide)⟩ | exact ⟨_, rfl, 2, _, (Or.inr (Or.inl ⟨(by first | assumption | exact (fun c => c (by assumption)) | exact Int32.not_lt.mpr (by assumption) | exact Int32.not_le.mpr (by assumption) | exact Int32.not_lt.mp (by assumption) | exact Int32.not_le.mp (by assumption) | omega), (by first | assumption | exact (fun c => c (by assumption)) | exact Int32.not_lt.mpr (by assumption) | exact Int32.not_le.mpr (by assumption) | exact Int32.not_lt.mp (by assumption) | exact Int32.not_le.mp (by assumption) | omega), rfl⟩)), rfl, (by rw [q_sI, va_us]), (q_gm.rf.set (by omega) (by omega)), fun _ => (C.thr 12 (by omega) _), fun e => absurd e (by decide)⟩
