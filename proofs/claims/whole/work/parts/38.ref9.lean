/-! THE REFERENCE'S FACE: CHANGES, THE CODE -/
theorem g_X10_pass {Φ : q_Fx} {h : q_Hp} (K : q_Lk Φ h.R h.n) {m : q_W} {P : q_P} (C : q_mr h m P) (v : q_val m) {x : Int32} : q_Ct Φ false yX10_pass cX10_pass mX10_pass [.ref 1061, .int x] h (q_ex (q_pr h m P (q_k2 (¬ (nI 1 ≤ x ∧ x ≤ nI 30)) (nI 199 < nI m.t + x)) (nI (m.t + x.toNatClampNeg)) (m.sA (m.t + x.toNatClampNeg)) (P.kept m))) := by
  refine q_enter K.st rfl rfl (by decide) rfl (Nat.le_of_ble_eq_true rfl) (L := [_, _]) rfl ?_
  have hs := C.1
  have M := C.2.1.1
  have hσ := C.2.1.2
  have ht9 := M.t9
  have hc40 := M.c40
  have hn10 := M.n10
  have hp28 := M.pc28
  have hpe1 := M.pe1
  have hpf9 := M.pf9
  have hu := C.2.2.1.2.1
  have htp := C.2.2.1.2.2.2.1
  have hwr := C.2.2.1.2.2.2.2.2.1
  have hsv := C.2.2.1.2.2.2.2.2.2.2
  refine q_aload_n dX10_pass_0 rfl ?_
  refine q_iload_n dX10_pass_1 rfl ?_
  refine q_iconst (v := nI 1) dX10_pass_2 (by decide) ?_
  refine q_bipush (v := nI 30) dX10_pass_3 (by decide) ?_
  refine q_sD (kc := 0) (ks := 0) (g_X10_isIn (h := h) K (v := x) (lo := (nI (1))) (hi := (nI (30)))) wX10_isIn kX10_47 sX10_isIn (by decide) rfl rfl (Nat.le_of_ble_eq_true rfl) dX10_pass_5 rfl rfl ?_
  refine q_spl (fun c1 => ?_) (fun c2 => ?_)
  · refine q_if_ne (tgt := 15) dX10_pass_8 rfl (fun _ => ?_) (fun c => absurd c (by decide))
    refine q_iconst (v := nI 0) dX10_pass_15 (by decide) ?_
    refine q_iconst (v := nI 1) dX10_pass_16 (by decide) ?_
    refine q_vD (kc := 0) (ks := 0) (g_thrF (h := h) K (a := 1)) wX10_isThrown kX10_51 iX10_isThrown eX10_isThrown rfl rfl (by decide) (K.le (by decide)) (by decide) rfl rfl (Nat.le_of_ble_eq_true rfl) dX10_pass_17 rfl rfl ?_
    refine q_if_ne (tgt := 50) dX10_pass_20 rfl (fun c => absurd (by decide) c) (fun _ => ?_)
    refine q_aload_n dX10_pass_23 rfl ?_
    refine q_aload_n dX10_pass_24 rfl ?_
    refine fRX10_9 (o := some 1062) dX10_pass_25 rfl (by decide) (K.le (by decide)) hs ?_
    refine q_rfS ?_
    refine q_iconst (v := nI 0) dX10_pass_28 (by decide) ?_
    refine q_ialdN (len := 830) rfl dX10_pass_29 (by decide) (K.le (by decide)) rfl (by omega) (by decide) ?_
    refine q_tv (show _ = (nI (m.t)) from ((congrFun (q_sIn _ _ _ (by omega)) _).trans M.t)) ?_
    refine q_iload_n dX10_pass_30 rfl ?_
    refine q_iadd dX10_pass_31 ?_
    refine q_sipush (v := nI 199) dX10_pass_32 (by decide) ?_
    refine q_icmp_le (tgt := 42) dX10_pass_35 rfl (fun c7 => ?_) (fun c8 => ?_)
    · refine q_iconst (v := nI 0) dX10_pass_42 (by decide) ?_
      refine q_iconst (v := nI 2) dX10_pass_43 (by decide) ?_
      refine q_vD (kc := 0) (ks := 0) (g_thrF (h := (h.setI 1061 12 (nI (0)))) K (a := 2)) wX10_isThrown kX10_51 iX10_isThrown eX10_isThrown rfl rfl (by decide) (K.le (by decide)) (by decide) rfl rfl (Nat.le_of_ble_eq_true rfl) dX10_pass_44 rfl rfl ?_
      rw [q_ss]
      refine q_if_eq (tgt := 52) dX10_pass_47 rfl (fun _ => ?_) (fun c => absurd (by decide) c)
      have hx199 : nI m.t + x ≤ nI 199 := by assumption
      obtain ⟨j, hj1, hj2, rfl⟩ := q_rng (x := x) (a := 1) (b := 30) (fun f => by first | exact f (by assumption) | exact absurd f (by assumption)) (by omega) (by omega)
      try rw [nI_clamp (show j < 2 ^ 31 by omega)]
      have hj199 : m.t + j ≤ 199 := by rw [nI_add, nI_leI (by omega) (by omega)] at hx199; exact hx199
      refine q_aload_n dX10_pass_52 rfl ?_
      refine q_vR (kc := 0) (ks := 0) (g_X10_keeps (h := (h.setI 1061 12 (nI (0)))) K (C.thr 12 (by omega) _)) wX10_keeps kX10_55 iX10_keeps eX10_keeps rfl rfl (by decide) (K.le (by decide)) (by decide) rfl rfl (Nat.le_of_ble_eq_true rfl) dX10_pass_53 rfl rfl ?_
      rintro v' h2 ⟨rfl, e2⟩
      obtain ⟨C2, G2a, T2a, I2⟩ := q_mr.kept (C.thr 12 (by omega) (nI 0))
      rw [← e2] at C2 G2a T2a I2
      have G2 : q_gm h h2 := (q_gm.rf.set (by omega) (by omega)).tr G2a
      have T2 : h2.I 1061 12 = nI 0 := T2a.trans (by rw [q_sI, va_us])
      have K : q_Lk Φ h2.R h2.n := K.gm G2
      have hs := C2.1
      have M := C2.2.1.1
      refine q_aload_n dX10_pass_56 rfl ?_
      refine fRX10_9 (o := some 1062) dX10_pass_57 rfl (by decide) (K.le (by decide)) hs ?_
      refine q_rfS ?_
      refine q_iconst (v := nI 0) dX10_pass_60 (by decide) ?_
      refine q_dup2 dX10_pass_61 rfl rfl ?_
      refine q_ialdN (len := 830) rfl dX10_pass_62 (by decide) (K.le (by decide)) rfl (by omega) (by decide) ?_
      refine q_tv (show _ = (nI (m.t)) from M.t) ?_
      refine q_iload_n dX10_pass_63 rfl ?_
      refine q_iaddN dX10_pass_64 ?_
      refine q_iastN (len := 830) rfl dX10_pass_65 (by decide) (K.le (by decide)) rfl (by omega) (by decide) ?_
      refine q_aload_n dX10_pass_66 rfl ?_
      refine fRX10_9 (o := some 1062) dX10_pass_67 rfl (by decide) (K.le (by decide)) hs ?_
      refine q_rfS ?_
      refine q_iconst (v := nI 0) dX10_pass_70 (by decide) ?_
      refine q_ialdN (len := 830) rfl dX10_pass_71 (by decide) (K.le (by decide)) rfl (by omega) (by decide) ?_
      refine q_tv (show _ = (nI ((m.t) + (j))) from ((congrFun (q_sI _ _ _ _) _).trans (va_us _ _ _))) ?_
      refine q_iret dX10_pass_72 rfl (Or.inl rfl) ?_
      rw [q_setI_row h2]
      exact ⟨_, rfl, 0, _, (Or.inr (Or.inr ⟨(by first | assumption | exact (fun c => c (by assumption)) | exact Int32.not_lt.mpr (by assumption) | exact Int32.not_le.mpr (by assumption) | exact Int32.not_lt.mp (by assumption) | exact Int32.not_le.mp (by assumption) | omega), (by first | assumption | exact (fun c => c (by assumption)) | exact Int32.not_lt.mpr (by assumption) | exact Int32.not_le.mpr (by assumption) | exact Int32.not_lt.mp (by assumption) | exact Int32.not_le.mp (by assumption) | omega), rfl⟩)), rfl, ((congrFun (q_rIn _ _ (by omega)) _).trans T2), (G2.row (by omega) (by omega)), fun e => absurd rfl e, fun _ => ⟨rfl, q_mr.r62 C2 ⟨M.pass hj199, hσ⟩⟩⟩
    · refine q_iconst (v := nI 1) dX10_pass_38 (by decide) ?_
      refine q_goto (tgt := 43) dX10_pass_39 rfl ?_
      refine q_iconst (v := nI 2) dX10_pass_43 (by decide) ?_
      refine q_vD (kc := 0) (ks := 0) (g_thrT (h := (h.setI 1061 12 (nI (0)))) K (a := 2)) wX10_isThrown kX10_51 iX10_isThrown eX10_isThrown rfl rfl (by decide) (K.le (by decide)) (by decide) rfl rfl (Nat.le_of_ble_eq_true rfl) dX10_pass_44 rfl rfl ?_
      rw [q_ss]
      refine q_if_eq (tgt := 52) dX10_pass_47 rfl (fun c => absurd c (by decide)) (fun _ => ?_)
      refine q_iconst (v := nI 0) dX10_pass_50 (by decide) ?_
      refine q_iret dX10_pass_51 rfl (Or.inl rfl) ?_
      first | exact ⟨_, rfl, 1, _, (Or.inl ⟨(by first | assumption | exact (fun c => c (by assumption)) | exact Int32.not_lt.mpr (by assumption) | exact Int32.not_le.mpr (by assumption) | exact Int32.not_lt.mp (by assumption) | exact Int32.not_le.mp (by assumption) | omega), rfl⟩), rfl, (by rw [q_sI, va_us]), (q_gm.rf.set (by omega) (by omega)), fun _ => (C.thr 12 (by omega) _), fun e => absurd e (by decide)⟩ | exact ⟨_, rfl, 2, _, (Or.inr (Or.inl ⟨(by first | assumption | exact (fun c => c (by assumption)) | exact Int32.not_lt.mpr (by assumption) | exact Int32.not_le.mpr (by assumption) | exact Int32.not_lt.mp (by assumption) | exact Int32.not_le.mp (by assumption) | omega), (by first | assumption | exact (fun c => c (by assumption)) | exact Int32.not_lt.mpr (by assumption) | exact Int32.not_le.mpr (by assumption) | exact Int32.not_lt.mp (by assumption) | exact Int32.not_le.mp (by assumption) | omega), rfl⟩)), rfl, (by rw [q_sI, va_us]), (q_gm.rf.set (by omega) (by omega)), fun _ => (C.thr 12 (by omega) _), fun e => absurd e (by decide)⟩
  · refine q_if_ne (tgt := 15) dX10_pass_8 rfl (fun c => absurd (by decide) c) (fun _ => ?_)
    refine q_iconst (v := nI 1) dX10_pass_11 (by decide) ?_
    refine q_goto (tgt := 16) dX10_pass_12 rfl ?_
    refine q_iconst (v := nI 1) dX10_pass_16 (by decide) ?_
    refine q_vD (kc := 0) (ks := 0) (g_thrT (h := h) K (a := 1)) wX10_isThrown kX10_51 iX10_isThrown eX10_isThrown rfl rfl (by decide) (K.le (by decide)) (by decide) rfl rfl (Nat.le_of_ble_eq_true rfl) dX10_pass_17 rfl rfl ?_
    refine q_if_ne (tgt := 50) dX10_pass_20 rfl (fun _ => ?_) (fun c => absurd c (by decide))
    refine q_iconst (v := nI 0) dX10_pass_50 (by decide) ?_
    refine q_iret dX10_pass_51 rfl (Or.inl rfl) ?_
    first | exact ⟨_, rfl, 1, _, (Or.inl ⟨(by first | assumption | exact (fun c => c (by assumption)) | exact Int32.not_lt.mpr (by assumption) | exact Int32.not_le.mpr (by assumption) | exact Int32.not_lt.mp (by assumption) | exact Int32.not_le.mp (by assumption) | omega), rfl⟩), rfl, (by rw [q_sI, va_us]), (q_gm.rf.set (by omega) (by omega)), fun _ => (C.thr 12 (by omega) _), fun e => absurd e (by decide)⟩ | exact ⟨_, rfl, 2, _, (Or.inr (Or.inl ⟨(by first | assumption | exact (fun c => c (by assumption)) | exact Int32.not_lt.mpr (by assumption) | exact Int32.not_le.mpr (by assumption) | exact Int32.not_lt.mp (by assumption) | exact Int32.not_le.mp (by assumption) | omega), (by first | assumption | exact (fun c => c (by assumption)) | exact Int32.not_lt.mpr (by assumption) | exact Int32.not_le.mpr (by assumption) | exact Int32.not_lt.mp (by assumption) | exact Int32.not_le.mp (by assumption) | omega), rfl⟩)), rfl, (by rw [q_sI, va_us]), (q_gm.rf.set (by omega) (by omega)), fun _ => (C.thr 12 (by omega) _), fun e => absurd e (by decide)⟩
theorem q_lk62 : q_lkT 1061 0 = none := rfl
theorem q_swp {h : q_Hp} {Φ : q_Fx} (K : q_Lk Φ h.R h.n) (w : Nat) : q_Lk Φ (h.setR 1061 0 (some w)).R (h.setR 1061 0 (some w)).n := by
  refine ⟨K.1, K.2.1, fun p f t e => ?_⟩
  show q_up h.R 1061 0 (some w) p f = some t
  unfold q_up
  by_cases e1 : p = 1061
  · subst e1
    by_cases e2 : f = 0
    · subst e2; exact absurd e (by rw [q_lk62]; exact fun c => by cases c)
    · rw [if_pos rfl, va_un _ _ e2]; exact K.2.2 _ _ _ e
  · rw [if_neg e1]; exact K.2.2 _ _ _ e
theorem q_pli {p : Nat → Bool} {n : Nat} (h : ¬ q_pl p n < 0) (hn : n < 2 ^ 31) : ∃ i, i < n ∧ p i = true ∧ q_pl p n = nI i := by
  rcases q_pl_c p n with ⟨i, h1, h2, h3, h4⟩ | ⟨_, h4⟩
  · exact ⟨i, h1, h2, h4⟩
  · rw [h4] at h; exact absurd (by decide) h
theorem g_X10_removeTest {Φ : q_Fx} {h : q_Hp} (K : q_Lk Φ h.R h.n) {m : q_W} {P : q_P} (C : q_mr h m P) (v : q_val m) {x : Int32} : q_Ct Φ false yX10_removeTest cX10_removeTest mX10_removeTest [.ref 1061, .int x] h (q_ex (q_pr h m P (q_k1 (q_pl (fun i => decide (m.d i = x)) m.n < 0)) (m.v (q_pl (fun i => decide (m.d i = x)) m.n).toNatClampNeg) (m.sT (m.n - 1) (va_up m.d (q_pl (fun i => decide (m.d i = x)) m.n).toNatClampNeg (m.d (m.n - 1))) (va_up m.v (q_pl (fun i => decide (m.d i = x)) m.n).toNatClampNeg (m.v (m.n - 1)))) (P.kept m))) := by
  refine q_enter K.st rfl rfl (by decide) rfl (Nat.le_of_ble_eq_true rfl) (L := [_, _, none, none]) rfl ?_
  have hs := C.1
  have M := C.2.1.1
  have hσ := C.2.1.2
  have ht9 := M.t9
  have hc40 := M.c40
  have hn10 := M.n10
  have hp28 := M.pc28
  have hpe1 := M.pe1
  have hpf9 := M.pf9
  have hu := C.2.2.1.2.1
  have htp := C.2.2.1.2.2.2.1
  have hwr := C.2.2.1.2.2.2.2.2.1
  have hsv := C.2.2.1.2.2.2.2.2.2.2
  refine q_aload_n dX10_removeTest_0 rfl ?_
  refine q_iload_n dX10_removeTest_1 rfl ?_
  refine q_vD (kc := 0) (ks := 0) (g_X10_testOn (h := h) K ((Or.inl rfl)) hs (M) (d := x)) wX10_testOn kX10_62 iX10_testOn eX10_testOn rfl rfl (by decide) (K.le (by decide)) (by decide) rfl rfl (Nat.le_of_ble_eq_true rfl) dX10_removeTest_2 rfl rfl ?_
  refine q_istore_n (L' := [_, _, _, _]) dX10_removeTest_5 rfl (by decide) rfl ?_
  refine q_aload_n dX10_removeTest_6 rfl ?_
  refine q_iload_n dX10_removeTest_7 rfl ?_
  refine q_if_ge (tgt := 15) dX10_removeTest_8 rfl (fun c1 => ?_) (fun c2 => ?_)
  · refine q_iconst (v := nI 0) dX10_removeTest_15 (by decide) ?_
    refine q_iconst (v := nI 1) dX10_removeTest_16 (by decide) ?_
    refine q_vD (kc := 0) (ks := 0) (g_thrF (h := h) K (a := 1)) wX10_isThrown kX10_51 iX10_isThrown eX10_isThrown rfl rfl (by decide) (K.le (by decide)) (by decide) rfl rfl (Nat.le_of_ble_eq_true rfl) dX10_removeTest_17 rfl rfl ?_
    refine q_if_eq (tgt := 25) dX10_removeTest_20 rfl (fun _ => ?_) (fun c => absurd (by decide) c)
    have ng : ¬ q_pl (fun i => decide (m.d i = x)) m.n < 0 := by first | assumption | exact Int32.not_lt.mpr (by assumption)
    obtain ⟨i, hi, hpi, ei⟩ := q_pli ng (by omega)
    rw [ei, nI_clamp (show i < 2 ^ 31 by omega)]
    rw [ei] at ng
    refine q_aload_n dX10_removeTest_25 rfl ?_
    refine q_vR (kc := 0) (ks := 0) (g_X10_keeps (h := (h.setI 1061 12 (nI (0)))) K (C.thr 12 (by omega) _)) wX10_keeps kX10_55 iX10_keeps eX10_keeps rfl rfl (by decide) (K.le (by decide)) (by decide) rfl rfl (Nat.le_of_ble_eq_true rfl) dX10_removeTest_26 rfl rfl ?_
    rintro v' h2 ⟨rfl, e2⟩
    obtain ⟨C2, G2a, T2a, I2⟩ := q_mr.kept (C.thr 12 (by omega) (nI 0))
    rw [← e2] at C2 G2a T2a I2
    have G2 : q_gm h h2 := (q_gm.rf.set (by omega) (by omega)).tr G2a
    have T2 : h2.I 1061 12 = nI 0 := T2a.trans (by rw [q_sI, va_us])
    have K : q_Lk Φ h2.R h2.n := K.gm G2
    have hs := C2.1
    have M := C2.2.1.1
    refine q_aload_n dX10_removeTest_29 rfl ?_
    refine fRX10_9 (o := some 1062) dX10_removeTest_30 rfl (by decide) (K.le (by decide)) hs ?_
    refine q_rfS ?_
    refine q_bipush (v := nI 20) dX10_removeTest_33 (by decide) ?_
    refine q_iconst (v := nI 2) dX10_removeTest_35 (by decide) ?_
    refine q_iload_n dX10_removeTest_36 rfl ?_
    refine q_imulN dX10_removeTest_37 ?_
    refine q_iaddN dX10_removeTest_38 ?_
    refine q_iconst (v := nI 1) dX10_removeTest_39 (by decide) ?_
    refine q_iaddN dX10_removeTest_40 ?_
    refine q_ialdN (len := 830) rfl dX10_removeTest_41 (by decide) (K.le (by decide)) rfl (by omega) (by decide) ?_
    refine q_tv (show _ = (m.v i) from ((congrArg (h2.I 1062) (show (((20) + ((2) * (i))) + (1)) = 21 + 2 * i by omega)).trans (M.v (k := i) (by omega)))) ?_
    refine q_istore_n (L' := [_, _, _, _]) dX10_removeTest_42 rfl (by decide) rfl ?_
    refine q_aload_n dX10_removeTest_43 rfl ?_
    refine fRX10_9 (o := some 1062) dX10_removeTest_44 rfl (by decide) (K.le (by decide)) hs ?_
    refine q_rfS ?_
    refine q_iconst (v := nI 3) dX10_removeTest_47 (by decide) ?_
    refine q_dup2 dX10_removeTest_48 rfl rfl ?_
    refine q_ialdN (len := 830) rfl dX10_removeTest_49 (by decide) (K.le (by decide)) rfl (by omega) (by decide) ?_
    refine q_tv (show _ = (nI (m.n)) from M.n) ?_
    refine q_iconst (v := nI 1) dX10_removeTest_50 (by decide) ?_
    refine q_isubN (by omega) dX10_removeTest_51 ?_
    refine q_iastN (len := 830) rfl dX10_removeTest_52 (by decide) (K.le (by decide)) rfl (by omega) (by decide) ?_
    refine q_aload_n dX10_removeTest_53 rfl ?_
    refine fRX10_9 (o := some 1062) dX10_removeTest_54 rfl (by decide) (K.le (by decide)) hs ?_
    refine q_rfS ?_
    refine q_bipush (v := nI 20) dX10_removeTest_57 (by decide) ?_
    refine q_iconst (v := nI 2) dX10_removeTest_59 (by decide) ?_
    refine q_iload_n dX10_removeTest_60 rfl ?_
    refine q_imulN dX10_removeTest_61 ?_
    refine q_iaddN dX10_removeTest_62 ?_
    refine q_aload_n dX10_removeTest_63 rfl ?_
    refine fRX10_9 (o := some 1062) dX10_removeTest_64 rfl (by decide) (K.le (by decide)) hs ?_
    refine q_rfS ?_
    refine q_bipush (v := nI 20) dX10_removeTest_67 (by decide) ?_
    refine q_iconst (v := nI 2) dX10_removeTest_69 (by decide) ?_
    refine q_aload_n dX10_removeTest_70 rfl ?_
    refine fRX10_9 (o := some 1062) dX10_removeTest_71 rfl (by decide) (K.le (by decide)) hs ?_
    refine q_rfS ?_
    refine q_iconst (v := nI 3) dX10_removeTest_74 (by decide) ?_
    refine q_ialdN (len := 830) rfl dX10_removeTest_75 (by decide) (K.le (by decide)) rfl (by omega) (by decide) ?_
    refine q_tv (show _ = (nI ((m.n) - (1))) from ((congrFun (q_sI _ _ _ _) _).trans (va_us _ _ _))) ?_
    refine q_imulN dX10_removeTest_76 ?_
    refine q_iaddN dX10_removeTest_77 ?_
    refine q_ialdN (len := 830) rfl dX10_removeTest_78 (by decide) (K.le (by decide)) rfl (by omega) (by decide) ?_
    refine q_tv (show _ = (m.d ((m.n) - (1))) from (((congrFun (q_sI _ _ _ _) _).trans (va_un _ _ (by omega))).trans ((congrArg (h2.I 1062) (show ((20) + ((2) * ((m.n) - (1)))) = 20 + 2 * ((m.n) - (1)) by omega)).trans (M.d (k := ((m.n) - (1))) (by omega))))) ?_
    refine q_iastN (len := 830) rfl dX10_removeTest_79 (by decide) (K.le (by decide)) rfl (by omega) (by decide) ?_
    refine q_aload_n dX10_removeTest_80 rfl ?_
    refine fRX10_9 (o := some 1062) dX10_removeTest_81 rfl (by decide) (K.le (by decide)) hs ?_
    refine q_rfS ?_
    refine q_bipush (v := nI 20) dX10_removeTest_84 (by decide) ?_
    refine q_iconst (v := nI 2) dX10_removeTest_86 (by decide) ?_
    refine q_iload_n dX10_removeTest_87 rfl ?_
    refine q_imulN dX10_removeTest_88 ?_
    refine q_iaddN dX10_removeTest_89 ?_
    refine q_iconst (v := nI 1) dX10_removeTest_90 (by decide) ?_
    refine q_iaddN dX10_removeTest_91 ?_
    refine q_aload_n dX10_removeTest_92 rfl ?_
    refine fRX10_9 (o := some 1062) dX10_removeTest_93 rfl (by decide) (K.le (by decide)) hs ?_
    refine q_rfS ?_
    refine q_bipush (v := nI 20) dX10_removeTest_96 (by decide) ?_
    refine q_iconst (v := nI 2) dX10_removeTest_98 (by decide) ?_
    refine q_aload_n dX10_removeTest_99 rfl ?_
    refine fRX10_9 (o := some 1062) dX10_removeTest_100 rfl (by decide) (K.le (by decide)) hs ?_
    refine q_rfS ?_
    refine q_iconst (v := nI 3) dX10_removeTest_103 (by decide) ?_
    refine q_ialdN (len := 830) rfl dX10_removeTest_104 (by decide) (K.le (by decide)) rfl (by omega) (by decide) ?_
    refine q_tv (show _ = (nI ((m.n) - (1))) from (((congrFun (q_sI _ _ _ _) _).trans (va_un _ _ (by omega))).trans ((congrFun (q_sI _ _ _ _) _).trans (va_us _ _ _)))) ?_
    refine q_imulN dX10_removeTest_105 ?_
    refine q_iaddN dX10_removeTest_106 ?_
    refine q_iconst (v := nI 1) dX10_removeTest_107 (by decide) ?_
    refine q_iaddN dX10_removeTest_108 ?_
    refine q_ialdN (len := 830) rfl dX10_removeTest_109 (by decide) (K.le (by decide)) rfl (by omega) (by decide) ?_
    refine q_tv (show _ = (m.v ((m.n) - (1))) from (((congrFun (q_sI _ _ _ _) _).trans (va_un _ _ (by omega))).trans (((congrFun (q_sI _ _ _ _) _).trans (va_un _ _ (by omega))).trans ((congrArg (h2.I 1062) (show (((20) + ((2) * ((m.n) - (1)))) + (1)) = 21 + 2 * ((m.n) - (1)) by omega)).trans (M.v (k := ((m.n) - (1))) (by omega)))))) ?_
    refine q_iastN (len := 830) rfl dX10_removeTest_110 (by decide) (K.le (by decide)) rfl (by omega) (by decide) ?_
    refine q_iload_n dX10_removeTest_111 rfl ?_
    refine q_iret dX10_removeTest_112 rfl (Or.inl rfl) ?_
    rw [q_setI_row h2]
    repeat rw [q_rset]
    exact ⟨_, rfl, 0, _, (Or.inr ⟨(by first | assumption | exact (fun c => c (by assumption)) | exact Int32.not_lt.mpr (by assumption) | exact Int32.not_le.mpr (by assumption) | exact Int32.not_lt.mp (by assumption) | exact Int32.not_le.mp (by assumption) | omega), rfl⟩), rfl, ((congrFun (q_rIn _ _ (by omega)) _).trans T2), (G2.row (by omega) (by omega)), fun e => absurd rfl e, fun _ => ⟨rfl, q_mr.r62 C2 ⟨M.remT hi, hσ⟩⟩⟩
  · refine q_iconst (v := nI 1) dX10_removeTest_11 (by decide) ?_
    refine q_goto (tgt := 16) dX10_removeTest_12 rfl ?_
    refine q_iconst (v := nI 1) dX10_removeTest_16 (by decide) ?_
    refine q_vD (kc := 0) (ks := 0) (g_thrT (h := h) K (a := 1)) wX10_isThrown kX10_51 iX10_isThrown eX10_isThrown rfl rfl (by decide) (K.le (by decide)) (by decide) rfl rfl (Nat.le_of_ble_eq_true rfl) dX10_removeTest_17 rfl rfl ?_
    refine q_if_eq (tgt := 25) dX10_removeTest_20 rfl (fun c => absurd c (by decide)) (fun _ => ?_)
    refine q_iconst (v := nI 0) dX10_removeTest_23 (by decide) ?_
    refine q_iret dX10_removeTest_24 rfl (Or.inl rfl) ?_
    exact ⟨_, rfl, 1, _, (Or.inl ⟨(by first | assumption | exact (fun c => c (by assumption)) | exact Int32.not_lt.mpr (by assumption) | exact Int32.not_le.mpr (by assumption) | exact Int32.not_lt.mp (by assumption) | exact Int32.not_le.mp (by assumption) | omega), rfl⟩), rfl, (by rw [q_sI, va_us]), (q_gm.rf.set (by omega) (by omega)), fun _ => (C.thr 12 (by omega) _), fun e => absurd e (by decide)⟩
theorem g_X10_setBound {Φ : q_Fx} {h : q_Hp} (K : q_Lk Φ h.R h.n) {m : q_W} {P : q_P} (C : q_mr h m P) (v : q_val m) {z x : Int32} : q_Ct Φ false yX10_setBound cX10_setBound mX10_setBound [.ref 1061, .int z, .int x] h (q_ex (q_pr h m P (q_k2 (¬ (nI 2 ≤ z ∧ z ≤ nI 5) ∨ ¬ (nI 1 ≤ x ∧ x ≤ nI 300)) ((2 < z.toNatClampNeg ∧ x ≤ m.bd (z.toNatClampNeg - 1)) ∨ (z.toNatClampNeg < 5 ∧ m.bd (z.toNatClampNeg + 1) ≤ x))) (m.bd z.toNatClampNeg) (m.sZ (va_up m.bd z.toNatClampNeg x) m.wt) (P.kept m))) := by
  refine q_enter K.st rfl rfl (by decide) rfl (Nat.le_of_ble_eq_true rfl) (L := [_, _, _, none]) rfl ?_
  have hs := C.1
  have M := C.2.1.1
  have hσ := C.2.1.2
  have ht9 := M.t9
  have hc40 := M.c40
  have hn10 := M.n10
  have hp28 := M.pc28
  have hpe1 := M.pe1
  have hpf9 := M.pf9
  have hu := C.2.2.1.2.1
  have htp := C.2.2.1.2.2.2.1
  have hwr := C.2.2.1.2.2.2.2.2.1
  have hsv := C.2.2.1.2.2.2.2.2.2.2
  refine q_aload_n dX10_setBound_0 rfl ?_
  refine q_iload_n dX10_setBound_1 rfl ?_
  refine q_iconst (v := nI 2) dX10_setBound_2 (by decide) ?_
  refine q_iconst (v := nI 5) dX10_setBound_3 (by decide) ?_
  refine q_sD (kc := 0) (ks := 0) (g_X10_isIn (h := h) K (v := z) (lo := (nI (2))) (hi := (nI (5)))) wX10_isIn kX10_47 sX10_isIn (by decide) rfl rfl (Nat.le_of_ble_eq_true rfl) dX10_setBound_4 rfl rfl ?_
  refine q_spl (fun c1 => ?_) (fun c2 => ?_)
  · refine q_if_eq (tgt := 21) dX10_setBound_7 rfl (fun c => absurd c (by decide)) (fun _ => ?_)
    refine q_iload_n dX10_setBound_10 rfl ?_
    refine q_iconst (v := nI 1) dX10_setBound_11 (by decide) ?_
    refine q_sipush (v := nI 300) dX10_setBound_12 (by decide) ?_
    refine q_sD (kc := 0) (ks := 0) (g_X10_isIn (h := h) K (v := x) (lo := (nI (1))) (hi := (nI (300)))) wX10_isIn kX10_47 sX10_isIn (by decide) rfl rfl (Nat.le_of_ble_eq_true rfl) dX10_setBound_15 rfl rfl ?_
    refine q_spl (fun c5 => ?_) (fun c6 => ?_)
    · refine q_if_ne (tgt := 25) dX10_setBound_18 rfl (fun _ => ?_) (fun c => absurd c (by decide))
      refine q_iconst (v := nI 0) dX10_setBound_25 (by decide) ?_
      refine q_iconst (v := nI 1) dX10_setBound_26 (by decide) ?_
      refine q_vD (kc := 0) (ks := 0) (g_thrF (h := h) K (a := 1)) wX10_isThrown kX10_51 iX10_isThrown eX10_isThrown rfl rfl (by decide) (K.le (by decide)) (by decide) rfl rfl (Nat.le_of_ble_eq_true rfl) dX10_setBound_27 rfl rfl ?_
      refine q_if_ne (tgt := 86) dX10_setBound_30 rfl (fun c => absurd (by decide) c) (fun _ => ?_)
      obtain ⟨j, hj1, hj2, rfl⟩ := q_rng (x := z) (a := 2) (b := 5) (fun f => by first | exact f (by assumption) | exact absurd f (by assumption)) (by omega) (by omega)
      try rw [nI_clamp (show j < 2 ^ 31 by omega)]
      refine q_aload_n dX10_setBound_33 rfl ?_
      refine q_iload_n dX10_setBound_34 rfl ?_
      refine q_iconst (v := nI 2) dX10_setBound_35 (by decide) ?_
      refine q_icmp_leN (by omega) (by omega) (tgt := 54) dX10_setBound_36 rfl (fun c11 => ?_) (fun c12 => ?_)
      · refine q_iload_n dX10_setBound_54 rfl ?_
        refine q_iconst (v := nI 5) dX10_setBound_55 (by decide) ?_
        refine q_icmp_geN (by omega) (by omega) (tgt := 78) dX10_setBound_56 rfl (fun c13 => ?_) (fun c14 => ?_)
        · refine q_iconst (v := nI 0) dX10_setBound_78 (by decide) ?_
          refine q_iconst (v := nI 2) dX10_setBound_79 (by decide) ?_
          refine q_vD (kc := 0) (ks := 0) (g_thrF (h := (h.setI 1061 12 (nI (0)))) K (a := 2)) wX10_isThrown kX10_51 iX10_isThrown eX10_isThrown rfl rfl (by decide) (K.le (by decide)) (by decide) rfl rfl (Nat.le_of_ble_eq_true rfl) dX10_setBound_80 rfl rfl ?_
          rw [q_ss]
          refine q_if_eq (tgt := 88) dX10_setBound_83 rfl (fun _ => ?_) (fun c => absurd (by decide) c)
          refine q_aload_n dX10_setBound_88 rfl ?_
          refine q_vR (kc := 0) (ks := 0) (g_X10_keeps (h := (h.setI 1061 12 (nI (0)))) K (C.thr 12 (by omega) _)) wX10_keeps kX10_55 iX10_keeps eX10_keeps rfl rfl (by decide) (K.le (by decide)) (by decide) rfl rfl (Nat.le_of_ble_eq_true rfl) dX10_setBound_89 rfl rfl ?_
          rintro v' h2 ⟨rfl, e2⟩
          obtain ⟨C2, G2a, T2a, I2⟩ := q_mr.kept (C.thr 12 (by omega) (nI 0))
          rw [← e2] at C2 G2a T2a I2
          have G2 : q_gm h h2 := (q_gm.rf.set (by omega) (by omega)).tr G2a
          have T2 : h2.I 1061 12 = nI 0 := T2a.trans (by rw [q_sI, va_us])
          have K : q_Lk Φ h2.R h2.n := K.gm G2
          have hs := C2.1
          have M := C2.2.1.1
          refine q_aload_n dX10_setBound_92 rfl ?_
          refine fRX10_9 (o := some 1062) dX10_setBound_93 rfl (by decide) (K.le (by decide)) hs ?_
          refine q_rfS ?_
          refine q_bipush (v := nI 8) dX10_setBound_96 (by decide) ?_
          refine q_iload_n dX10_setBound_98 rfl ?_
          refine q_iaddN dX10_setBound_99 ?_
          refine q_ialdN (len := 830) rfl dX10_setBound_100 (by decide) (K.le (by decide)) rfl (by omega) (by decide) ?_
          refine q_tv (show _ = (m.bd j) from ((congrArg (h2.I 1062) (show ((8) + (j)) = 8 + j by omega)).trans (M.bd (z := j) (by omega)))) ?_
          refine q_istore_n (L' := [_, _, _, _]) dX10_setBound_101 rfl (by decide) rfl ?_
          refine q_aload_n dX10_setBound_102 rfl ?_
          refine fRX10_9 (o := some 1062) dX10_setBound_103 rfl (by decide) (K.le (by decide)) hs ?_
          refine q_rfS ?_
          refine q_bipush (v := nI 8) dX10_setBound_106 (by decide) ?_
          refine q_iload_n dX10_setBound_108 rfl ?_
          refine q_iaddN dX10_setBound_109 ?_
          refine q_iload_n dX10_setBound_110 rfl ?_
          refine q_iastN (len := 830) rfl dX10_setBound_111 (by decide) (K.le (by decide)) rfl (by omega) (by decide) ?_
          refine q_iload_n dX10_setBound_112 rfl ?_
          refine q_iret dX10_setBound_113 rfl (Or.inl rfl) ?_
          rw [q_setI_row h2]
          exact ⟨_, rfl, 0, _, Or.inr (Or.inr ⟨(q_no2 (by first | assumption | exact (fun c => c (by assumption)) | exact Int32.not_lt.mpr (by assumption) | exact Int32.not_le.mpr (by assumption) | exact Int32.not_lt.mp (by assumption) | exact Int32.not_le.mp (by assumption) | omega) (by first | assumption | exact (fun c => c (by assumption)) | exact Int32.not_lt.mpr (by assumption) | exact Int32.not_le.mpr (by assumption) | exact Int32.not_lt.mp (by assumption) | exact Int32.not_le.mp (by assumption) | omega)), (fun c => c.elim (fun c => by first | (have := c.1; omega) | exact absurd c.2 (by assumption) | exact absurd c.2 (Int32.not_le.mpr (by assumption))) (fun c => by first | (have := c.1; omega) | exact absurd c.2 (by assumption) | exact absurd c.2 (Int32.not_le.mpr (by assumption)))), rfl⟩), rfl, ((congrFun (q_rIn _ _ (by omega)) _).trans T2), (G2.row (by omega) (by omega)), fun e => absurd rfl e, fun _ => ⟨rfl, q_mr.r62 C2 ⟨M.bnd (by omega), hσ⟩⟩⟩
        · refine q_aload_n dX10_setBound_59 rfl ?_
          refine fRX10_9 (o := some 1062) dX10_setBound_60 rfl (by decide) (K.le (by decide)) hs ?_
          refine q_rfS ?_
          refine q_bipush (v := nI 8) dX10_setBound_63 (by decide) ?_
          refine q_iload_n dX10_setBound_65 rfl ?_
          refine q_iaddN dX10_setBound_66 ?_
          refine q_iconst (v := nI 1) dX10_setBound_67 (by decide) ?_
          refine q_iaddN dX10_setBound_68 ?_
          refine q_ialdN (len := 830) rfl dX10_setBound_69 (by decide) (K.le (by decide)) rfl (by omega) (by decide) ?_
          refine q_tv (show _ = (m.bd (j + 1)) from ((congrFun (q_sIn _ _ _ (by omega)) _).trans ((congrArg (h.I 1062) (show (((8) + (j)) + (1)) = 8 + (j + 1) by omega)).trans (M.bd (z := (j + 1)) (by omega))))) ?_
          refine q_iload_n dX10_setBound_70 rfl ?_
          refine q_icmp_gt (tgt := 78) dX10_setBound_71 rfl (fun c17 => ?_) (fun c18 => ?_)
          · refine q_iconst (v := nI 0) dX10_setBound_78 (by decide) ?_
            refine q_iconst (v := nI 2) dX10_setBound_79 (by decide) ?_
            refine q_vD (kc := 0) (ks := 0) (g_thrF (h := (h.setI 1061 12 (nI (0)))) K (a := 2)) wX10_isThrown kX10_51 iX10_isThrown eX10_isThrown rfl rfl (by decide) (K.le (by decide)) (by decide) rfl rfl (Nat.le_of_ble_eq_true rfl) dX10_setBound_80 rfl rfl ?_
            rw [q_ss]
            refine q_if_eq (tgt := 88) dX10_setBound_83 rfl (fun _ => ?_) (fun c => absurd (by decide) c)
            refine q_aload_n dX10_setBound_88 rfl ?_
            refine q_vR (kc := 0) (ks := 0) (g_X10_keeps (h := (h.setI 1061 12 (nI (0)))) K (C.thr 12 (by omega) _)) wX10_keeps kX10_55 iX10_keeps eX10_keeps rfl rfl (by decide) (K.le (by decide)) (by decide) rfl rfl (Nat.le_of_ble_eq_true rfl) dX10_setBound_89 rfl rfl ?_
            rintro v' h2 ⟨rfl, e2⟩
            obtain ⟨C2, G2a, T2a, I2⟩ := q_mr.kept (C.thr 12 (by omega) (nI 0))
            rw [← e2] at C2 G2a T2a I2
            have G2 : q_gm h h2 := (q_gm.rf.set (by omega) (by omega)).tr G2a
            have T2 : h2.I 1061 12 = nI 0 := T2a.trans (by rw [q_sI, va_us])
            have K : q_Lk Φ h2.R h2.n := K.gm G2
            have hs := C2.1
            have M := C2.2.1.1
            refine q_aload_n dX10_setBound_92 rfl ?_
            refine fRX10_9 (o := some 1062) dX10_setBound_93 rfl (by decide) (K.le (by decide)) hs ?_
            refine q_rfS ?_
            refine q_bipush (v := nI 8) dX10_setBound_96 (by decide) ?_
            refine q_iload_n dX10_setBound_98 rfl ?_
            refine q_iaddN dX10_setBound_99 ?_
            refine q_ialdN (len := 830) rfl dX10_setBound_100 (by decide) (K.le (by decide)) rfl (by omega) (by decide) ?_
            refine q_tv (show _ = (m.bd j) from ((congrArg (h2.I 1062) (show ((8) + (j)) = 8 + j by omega)).trans (M.bd (z := j) (by omega)))) ?_
            refine q_istore_n (L' := [_, _, _, _]) dX10_setBound_101 rfl (by decide) rfl ?_
            refine q_aload_n dX10_setBound_102 rfl ?_
            refine fRX10_9 (o := some 1062) dX10_setBound_103 rfl (by decide) (K.le (by decide)) hs ?_
            refine q_rfS ?_
            refine q_bipush (v := nI 8) dX10_setBound_106 (by decide) ?_
            refine q_iload_n dX10_setBound_108 rfl ?_
            refine q_iaddN dX10_setBound_109 ?_
            refine q_iload_n dX10_setBound_110 rfl ?_
            refine q_iastN (len := 830) rfl dX10_setBound_111 (by decide) (K.le (by decide)) rfl (by omega) (by decide) ?_
            refine q_iload_n dX10_setBound_112 rfl ?_
            refine q_iret dX10_setBound_113 rfl (Or.inl rfl) ?_
            rw [q_setI_row h2]
            exact ⟨_, rfl, 0, _, Or.inr (Or.inr ⟨(q_no2 (by first | assumption | exact (fun c => c (by assumption)) | exact Int32.not_lt.mpr (by assumption) | exact Int32.not_le.mpr (by assumption) | exact Int32.not_lt.mp (by assumption) | exact Int32.not_le.mp (by assumption) | omega) (by first | assumption | exact (fun c => c (by assumption)) | exact Int32.not_lt.mpr (by assumption) | exact Int32.not_le.mpr (by assumption) | exact Int32.not_lt.mp (by assumption) | exact Int32.not_le.mp (by assumption) | omega)), (fun c => c.elim (fun c => by first | (have := c.1; omega) | exact absurd c.2 (by assumption) | exact absurd c.2 (Int32.not_le.mpr (by assumption))) (fun c => by first | (have := c.1; omega) | exact absurd c.2 (by assumption) | exact absurd c.2 (Int32.not_le.mpr (by assumption)))), rfl⟩), rfl, ((congrFun (q_rIn _ _ (by omega)) _).trans T2), (G2.row (by omega) (by omega)), fun e => absurd rfl e, fun _ => ⟨rfl, q_mr.r62 C2 ⟨M.bnd (by omega), hσ⟩⟩⟩
          · refine q_iconst (v := nI 1) dX10_setBound_74 (by decide) ?_
            refine q_goto (tgt := 79) dX10_setBound_75 rfl ?_
            refine q_iconst (v := nI 2) dX10_setBound_79 (by decide) ?_
            refine q_vD (kc := 0) (ks := 0) (g_thrT (h := (h.setI 1061 12 (nI (0)))) K (a := 2)) wX10_isThrown kX10_51 iX10_isThrown eX10_isThrown rfl rfl (by decide) (K.le (by decide)) (by decide) rfl rfl (Nat.le_of_ble_eq_true rfl) dX10_setBound_80 rfl rfl ?_
            rw [q_ss]
            refine q_if_eq (tgt := 88) dX10_setBound_83 rfl (fun c => absurd c (by decide)) (fun _ => ?_)
            refine q_iconst (v := nI 0) dX10_setBound_86 (by decide) ?_
            refine q_iret dX10_setBound_87 rfl (Or.inl rfl) ?_
            first | exact ⟨_, rfl, 1, _, (Or.inl ⟨(by first | exact Or.inl (by first | assumption | exact (fun c => c (by assumption)) | exact Int32.not_lt.mpr (by assumption) | exact Int32.not_le.mpr (by assumption) | exact Int32.not_lt.mp (by assumption) | exact Int32.not_le.mp (by assumption) | omega) | exact Or.inr (by first | assumption | exact (fun c => c (by assumption)) | exact Int32.not_lt.mpr (by assumption) | exact Int32.not_le.mpr (by assumption) | exact Int32.not_lt.mp (by assumption) | exact Int32.not_le.mp (by assumption) | omega)), rfl⟩), rfl, (by rw [q_sI, va_us]), (q_gm.rf.set (by omega) (by omega)), fun _ => (C.thr 12 (by omega) _), fun e => absurd e (by decide)⟩ | exact ⟨_, rfl, 2, _, Or.inr (Or.inl ⟨(q_no2 (by first | assumption | exact (fun c => c (by assumption)) | exact Int32.not_lt.mpr (by assumption) | exact Int32.not_le.mpr (by assumption) | exact Int32.not_lt.mp (by assumption) | exact Int32.not_le.mp (by assumption) | omega) (by first | assumption | exact (fun c => c (by assumption)) | exact Int32.not_lt.mpr (by assumption) | exact Int32.not_le.mpr (by assumption) | exact Int32.not_lt.mp (by assumption) | exact Int32.not_le.mp (by assumption) | omega)), (by first | exact Or.inl ⟨by omega, (by first | assumption | exact (fun c => c (by assumption)) | exact Int32.not_lt.mpr (by assumption) | exact Int32.not_le.mpr (by assumption) | exact Int32.not_lt.mp (by assumption) | exact Int32.not_le.mp (by assumption) | omega)⟩ | exact Or.inr ⟨by omega, (by first | assumption | exact (fun c => c (by assumption)) | exact Int32.not_lt.mpr (by assumption) | exact Int32.not_le.mpr (by assumption) | exact Int32.not_lt.mp (by assumption) | exact Int32.not_le.mp (by assumption) | omega)⟩), rfl⟩), rfl, (by rw [q_sI, va_us]), (q_gm.rf.set (by omega) (by omega)), fun _ => (C.thr 12 (by omega) _), fun e => absurd e (by decide)⟩
      · refine q_aload_n dX10_setBound_39 rfl ?_
        refine fRX10_9 (o := some 1062) dX10_setBound_40 rfl (by decide) (K.le (by decide)) hs ?_
        refine q_rfS ?_
        refine q_bipush (v := nI 8) dX10_setBound_43 (by decide) ?_
        refine q_iload_n dX10_setBound_45 rfl ?_
        refine q_iaddN dX10_setBound_46 ?_
        refine q_iconst (v := nI 1) dX10_setBound_47 (by decide) ?_
        refine q_isubN (by omega) dX10_setBound_48 ?_
        refine q_ialdN (len := 830) rfl dX10_setBound_49 (by decide) (K.le (by decide)) rfl (by omega) (by decide) ?_
        refine q_tv (show _ = (m.bd (j - 1)) from ((congrFun (q_sIn _ _ _ (by omega)) _).trans ((congrArg (h.I 1062) (show ((8) + (j)) - (1) = 8 + (j - 1) by omega)).trans (M.bd (by omega))))) ?_
        refine q_iload_n dX10_setBound_50 rfl ?_
        refine q_icmp_ge (tgt := 74) dX10_setBound_51 rfl (fun c23 => ?_) (fun c24 => ?_)
        · refine q_iconst (v := nI 1) dX10_setBound_74 (by decide) ?_
          refine q_goto (tgt := 79) dX10_setBound_75 rfl ?_
          refine q_iconst (v := nI 2) dX10_setBound_79 (by decide) ?_
          refine q_vD (kc := 0) (ks := 0) (g_thrT (h := (h.setI 1061 12 (nI (0)))) K (a := 2)) wX10_isThrown kX10_51 iX10_isThrown eX10_isThrown rfl rfl (by decide) (K.le (by decide)) (by decide) rfl rfl (Nat.le_of_ble_eq_true rfl) dX10_setBound_80 rfl rfl ?_
          rw [q_ss]
          refine q_if_eq (tgt := 88) dX10_setBound_83 rfl (fun c => absurd c (by decide)) (fun _ => ?_)
          refine q_iconst (v := nI 0) dX10_setBound_86 (by decide) ?_
          refine q_iret dX10_setBound_87 rfl (Or.inl rfl) ?_
          first | exact ⟨_, rfl, 1, _, (Or.inl ⟨(by first | exact Or.inl (by first | assumption | exact (fun c => c (by assumption)) | exact Int32.not_lt.mpr (by assumption) | exact Int32.not_le.mpr (by assumption) | exact Int32.not_lt.mp (by assumption) | exact Int32.not_le.mp (by assumption) | omega) | exact Or.inr (by first | assumption | exact (fun c => c (by assumption)) | exact Int32.not_lt.mpr (by assumption) | exact Int32.not_le.mpr (by assumption) | exact Int32.not_lt.mp (by assumption) | exact Int32.not_le.mp (by assumption) | omega)), rfl⟩), rfl, (by rw [q_sI, va_us]), (q_gm.rf.set (by omega) (by omega)), fun _ => (C.thr 12 (by omega) _), fun e => absurd e (by decide)⟩ | exact ⟨_, rfl, 2, _, Or.inr (Or.inl ⟨(q_no2 (by first | assumption | exact (fun c => c (by assumption)) | exact Int32.not_lt.mpr (by assumption) | exact Int32.not_le.mpr (by assumption) | exact Int32.not_lt.mp (by assumption) | exact Int32.not_le.mp (by assumption) | omega) (by first | assumption | exact (fun c => c (by assumption)) | exact Int32.not_lt.mpr (by assumption) | exact Int32.not_le.mpr (by assumption) | exact Int32.not_lt.mp (by assumption) | exact Int32.not_le.mp (by assumption) | omega)), (by first | exact Or.inl ⟨by omega, (by first | assumption | exact (fun c => c (by assumption)) | exact Int32.not_lt.mpr (by assumption) | exact Int32.not_le.mpr (by assumption) | exact Int32.not_lt.mp (by assumption) | exact Int32.not_le.mp (by assumption) | omega)⟩ | exact Or.inr ⟨by omega, (by first | assumption | exact (fun c => c (by assumption)) | exact Int32.not_lt.mpr (by assumption) | exact Int32.not_le.mpr (by assumption) | exact Int32.not_lt.mp (by assumption) | exact Int32.not_le.mp (by assumption) | omega)⟩), rfl⟩), rfl, (by rw [q_sI, va_us]), (q_gm.rf.set (by omega) (by omega)), fun _ => (C.thr 12 (by omega) _), fun e => absurd e (by decide)⟩
        · refine q_iload_n dX10_setBound_54 rfl ?_
          refine q_iconst (v := nI 5) dX10_setBound_55 (by decide) ?_
          refine q_icmp_geN (by omega) (by omega) (tgt := 78) dX10_setBound_56 rfl (fun c27 => ?_) (fun c28 => ?_)
          · refine q_iconst (v := nI 0) dX10_setBound_78 (by decide) ?_
            refine q_iconst (v := nI 2) dX10_setBound_79 (by decide) ?_
            refine q_vD (kc := 0) (ks := 0) (g_thrF (h := (h.setI 1061 12 (nI (0)))) K (a := 2)) wX10_isThrown kX10_51 iX10_isThrown eX10_isThrown rfl rfl (by decide) (K.le (by decide)) (by decide) rfl rfl (Nat.le_of_ble_eq_true rfl) dX10_setBound_80 rfl rfl ?_
            rw [q_ss]
            refine q_if_eq (tgt := 88) dX10_setBound_83 rfl (fun _ => ?_) (fun c => absurd (by decide) c)
            refine q_aload_n dX10_setBound_88 rfl ?_
            refine q_vR (kc := 0) (ks := 0) (g_X10_keeps (h := (h.setI 1061 12 (nI (0)))) K (C.thr 12 (by omega) _)) wX10_keeps kX10_55 iX10_keeps eX10_keeps rfl rfl (by decide) (K.le (by decide)) (by decide) rfl rfl (Nat.le_of_ble_eq_true rfl) dX10_setBound_89 rfl rfl ?_
            rintro v' h2 ⟨rfl, e2⟩
            obtain ⟨C2, G2a, T2a, I2⟩ := q_mr.kept (C.thr 12 (by omega) (nI 0))
            rw [← e2] at C2 G2a T2a I2
            have G2 : q_gm h h2 := (q_gm.rf.set (by omega) (by omega)).tr G2a
            have T2 : h2.I 1061 12 = nI 0 := T2a.trans (by rw [q_sI, va_us])
            have K : q_Lk Φ h2.R h2.n := K.gm G2
            have hs := C2.1
            have M := C2.2.1.1
            refine q_aload_n dX10_setBound_92 rfl ?_
            refine fRX10_9 (o := some 1062) dX10_setBound_93 rfl (by decide) (K.le (by decide)) hs ?_
            refine q_rfS ?_
            refine q_bipush (v := nI 8) dX10_setBound_96 (by decide) ?_
            refine q_iload_n dX10_setBound_98 rfl ?_
            refine q_iaddN dX10_setBound_99 ?_
            refine q_ialdN (len := 830) rfl dX10_setBound_100 (by decide) (K.le (by decide)) rfl (by omega) (by decide) ?_
            refine q_tv (show _ = (m.bd j) from ((congrArg (h2.I 1062) (show ((8) + (j)) = 8 + j by omega)).trans (M.bd (z := j) (by omega)))) ?_
            refine q_istore_n (L' := [_, _, _, _]) dX10_setBound_101 rfl (by decide) rfl ?_
            refine q_aload_n dX10_setBound_102 rfl ?_
            refine fRX10_9 (o := some 1062) dX10_setBound_103 rfl (by decide) (K.le (by decide)) hs ?_
            refine q_rfS ?_
            refine q_bipush (v := nI 8) dX10_setBound_106 (by decide) ?_
            refine q_iload_n dX10_setBound_108 rfl ?_
            refine q_iaddN dX10_setBound_109 ?_
            refine q_iload_n dX10_setBound_110 rfl ?_
            refine q_iastN (len := 830) rfl dX10_setBound_111 (by decide) (K.le (by decide)) rfl (by omega) (by decide) ?_
            refine q_iload_n dX10_setBound_112 rfl ?_
            refine q_iret dX10_setBound_113 rfl (Or.inl rfl) ?_
            rw [q_setI_row h2]
            exact ⟨_, rfl, 0, _, Or.inr (Or.inr ⟨(q_no2 (by first | assumption | exact (fun c => c (by assumption)) | exact Int32.not_lt.mpr (by assumption) | exact Int32.not_le.mpr (by assumption) | exact Int32.not_lt.mp (by assumption) | exact Int32.not_le.mp (by assumption) | omega) (by first | assumption | exact (fun c => c (by assumption)) | exact Int32.not_lt.mpr (by assumption) | exact Int32.not_le.mpr (by assumption) | exact Int32.not_lt.mp (by assumption) | exact Int32.not_le.mp (by assumption) | omega)), (fun c => c.elim (fun c => by first | (have := c.1; omega) | exact absurd c.2 (by assumption) | exact absurd c.2 (Int32.not_le.mpr (by assumption))) (fun c => by first | (have := c.1; omega) | exact absurd c.2 (by assumption) | exact absurd c.2 (Int32.not_le.mpr (by assumption)))), rfl⟩), rfl, ((congrFun (q_rIn _ _ (by omega)) _).trans T2), (G2.row (by omega) (by omega)), fun e => absurd rfl e, fun _ => ⟨rfl, q_mr.r62 C2 ⟨M.bnd (by omega), hσ⟩⟩⟩
          · refine q_aload_n dX10_setBound_59 rfl ?_
            refine fRX10_9 (o := some 1062) dX10_setBound_60 rfl (by decide) (K.le (by decide)) hs ?_
            refine q_rfS ?_
            refine q_bipush (v := nI 8) dX10_setBound_63 (by decide) ?_
            refine q_iload_n dX10_setBound_65 rfl ?_
            refine q_iaddN dX10_setBound_66 ?_
            refine q_iconst (v := nI 1) dX10_setBound_67 (by decide) ?_
            refine q_iaddN dX10_setBound_68 ?_
            refine q_ialdN (len := 830) rfl dX10_setBound_69 (by decide) (K.le (by decide)) rfl (by omega) (by decide) ?_
            refine q_tv (show _ = (m.bd (j + 1)) from ((congrFun (q_sIn _ _ _ (by omega)) _).trans ((congrArg (h.I 1062) (show (((8) + (j)) + (1)) = 8 + (j + 1) by omega)).trans (M.bd (z := (j + 1)) (by omega))))) ?_
            refine q_iload_n dX10_setBound_70 rfl ?_
            refine q_icmp_gt (tgt := 78) dX10_setBound_71 rfl (fun c31 => ?_) (fun c32 => ?_)
            · refine q_iconst (v := nI 0) dX10_setBound_78 (by decide) ?_
              refine q_iconst (v := nI 2) dX10_setBound_79 (by decide) ?_
              refine q_vD (kc := 0) (ks := 0) (g_thrF (h := (h.setI 1061 12 (nI (0)))) K (a := 2)) wX10_isThrown kX10_51 iX10_isThrown eX10_isThrown rfl rfl (by decide) (K.le (by decide)) (by decide) rfl rfl (Nat.le_of_ble_eq_true rfl) dX10_setBound_80 rfl rfl ?_
              rw [q_ss]
              refine q_if_eq (tgt := 88) dX10_setBound_83 rfl (fun _ => ?_) (fun c => absurd (by decide) c)
              refine q_aload_n dX10_setBound_88 rfl ?_
              refine q_vR (kc := 0) (ks := 0) (g_X10_keeps (h := (h.setI 1061 12 (nI (0)))) K (C.thr 12 (by omega) _)) wX10_keeps kX10_55 iX10_keeps eX10_keeps rfl rfl (by decide) (K.le (by decide)) (by decide) rfl rfl (Nat.le_of_ble_eq_true rfl) dX10_setBound_89 rfl rfl ?_
              rintro v' h2 ⟨rfl, e2⟩
              obtain ⟨C2, G2a, T2a, I2⟩ := q_mr.kept (C.thr 12 (by omega) (nI 0))
              rw [← e2] at C2 G2a T2a I2
              have G2 : q_gm h h2 := (q_gm.rf.set (by omega) (by omega)).tr G2a
              have T2 : h2.I 1061 12 = nI 0 := T2a.trans (by rw [q_sI, va_us])
              have K : q_Lk Φ h2.R h2.n := K.gm G2
              have hs := C2.1
              have M := C2.2.1.1
              refine q_aload_n dX10_setBound_92 rfl ?_
              refine fRX10_9 (o := some 1062) dX10_setBound_93 rfl (by decide) (K.le (by decide)) hs ?_
              refine q_rfS ?_
              refine q_bipush (v := nI 8) dX10_setBound_96 (by decide) ?_
              refine q_iload_n dX10_setBound_98 rfl ?_
              refine q_iaddN dX10_setBound_99 ?_
              refine q_ialdN (len := 830) rfl dX10_setBound_100 (by decide) (K.le (by decide)) rfl (by omega) (by decide) ?_
              refine q_tv (show _ = (m.bd j) from ((congrArg (h2.I 1062) (show ((8) + (j)) = 8 + j by omega)).trans (M.bd (z := j) (by omega)))) ?_
              refine q_istore_n (L' := [_, _, _, _]) dX10_setBound_101 rfl (by decide) rfl ?_
              refine q_aload_n dX10_setBound_102 rfl ?_
              refine fRX10_9 (o := some 1062) dX10_setBound_103 rfl (by decide) (K.le (by decide)) hs ?_
              refine q_rfS ?_
              refine q_bipush (v := nI 8) dX10_setBound_106 (by decide) ?_
              refine q_iload_n dX10_setBound_108 rfl ?_
              refine q_iaddN dX10_setBound_109 ?_
              refine q_iload_n dX10_setBound_110 rfl ?_
              refine q_iastN (len := 830) rfl dX10_setBound_111 (by decide) (K.le (by decide)) rfl (by omega) (by decide) ?_
              refine q_iload_n dX10_setBound_112 rfl ?_
              refine q_iret dX10_setBound_113 rfl (Or.inl rfl) ?_
              rw [q_setI_row h2]
              exact ⟨_, rfl, 0, _, Or.inr (Or.inr ⟨(q_no2 (by first | assumption | exact (fun c => c (by assumption)) | exact Int32.not_lt.mpr (by assumption) | exact Int32.not_le.mpr (by assumption) | exact Int32.not_lt.mp (by assumption) | exact Int32.not_le.mp (by assumption) | omega) (by first | assumption | exact (fun c => c (by assumption)) | exact Int32.not_lt.mpr (by assumption) | exact Int32.not_le.mpr (by assumption) | exact Int32.not_lt.mp (by assumption) | exact Int32.not_le.mp (by assumption) | omega)), (fun c => c.elim (fun c => by first | (have := c.1; omega) | exact absurd c.2 (by assumption) | exact absurd c.2 (Int32.not_le.mpr (by assumption))) (fun c => by first | (have := c.1; omega) | exact absurd c.2 (by assumption) | exact absurd c.2 (Int32.not_le.mpr (by assumption)))), rfl⟩), rfl, ((congrFun (q_rIn _ _ (by omega)) _).trans T2), (G2.row (by omega) (by omega)), fun e => absurd rfl e, fun _ => ⟨rfl, q_mr.r62 C2 ⟨M.bnd (by omega), hσ⟩⟩⟩
            · refine q_iconst (v := nI 1) dX10_setBound_74 (by decide) ?_
              refine q_goto (tgt := 79) dX10_setBound_75 rfl ?_
              refine q_iconst (v := nI 2) dX10_setBound_79 (by decide) ?_
              refine q_vD (kc := 0) (ks := 0) (g_thrT (h := (h.setI 1061 12 (nI (0)))) K (a := 2)) wX10_isThrown kX10_51 iX10_isThrown eX10_isThrown rfl rfl (by decide) (K.le (by decide)) (by decide) rfl rfl (Nat.le_of_ble_eq_true rfl) dX10_setBound_80 rfl rfl ?_
              rw [q_ss]
              refine q_if_eq (tgt := 88) dX10_setBound_83 rfl (fun c => absurd c (by decide)) (fun _ => ?_)
              refine q_iconst (v := nI 0) dX10_setBound_86 (by decide) ?_
              refine q_iret dX10_setBound_87 rfl (Or.inl rfl) ?_
              first | exact ⟨_, rfl, 1, _, (Or.inl ⟨(by first | exact Or.inl (by first | assumption | exact (fun c => c (by assumption)) | exact Int32.not_lt.mpr (by assumption) | exact Int32.not_le.mpr (by assumption) | exact Int32.not_lt.mp (by assumption) | exact Int32.not_le.mp (by assumption) | omega) | exact Or.inr (by first | assumption | exact (fun c => c (by assumption)) | exact Int32.not_lt.mpr (by assumption) | exact Int32.not_le.mpr (by assumption) | exact Int32.not_lt.mp (by assumption) | exact Int32.not_le.mp (by assumption) | omega)), rfl⟩), rfl, (by rw [q_sI, va_us]), (q_gm.rf.set (by omega) (by omega)), fun _ => (C.thr 12 (by omega) _), fun e => absurd e (by decide)⟩ | exact ⟨_, rfl, 2, _, Or.inr (Or.inl ⟨(q_no2 (by first | assumption | exact (fun c => c (by assumption)) | exact Int32.not_lt.mpr (by assumption) | exact Int32.not_le.mpr (by assumption) | exact Int32.not_lt.mp (by assumption) | exact Int32.not_le.mp (by assumption) | omega) (by first | assumption | exact (fun c => c (by assumption)) | exact Int32.not_lt.mpr (by assumption) | exact Int32.not_le.mpr (by assumption) | exact Int32.not_lt.mp (by assumption) | exact Int32.not_le.mp (by assumption) | omega)), (by first | exact Or.inl ⟨by omega, (by first | assumption | exact (fun c => c (by assumption)) | exact Int32.not_lt.mpr (by assumption) | exact Int32.not_le.mpr (by assumption) | exact Int32.not_lt.mp (by assumption) | exact Int32.not_le.mp (by assumption) | omega)⟩ | exact Or.inr ⟨by omega, (by first | assumption | exact (fun c => c (by assumption)) | exact Int32.not_lt.mpr (by assumption) | exact Int32.not_le.mpr (by assumption) | exact Int32.not_lt.mp (by assumption) | exact Int32.not_le.mp (by assumption) | omega)⟩), rfl⟩), rfl, (by rw [q_sI, va_us]), (q_gm.rf.set (by omega) (by omega)), fun _ => (C.thr 12 (by omega) _), fun e => absurd e (by decide)⟩
    · refine q_if_ne (tgt := 25) dX10_setBound_18 rfl (fun c => absurd (by decide) c) (fun _ => ?_)
      refine q_iconst (v := nI 1) dX10_setBound_21 (by decide) ?_
      refine q_goto (tgt := 26) dX10_setBound_22 rfl ?_
      refine q_iconst (v := nI 1) dX10_setBound_26 (by decide) ?_
      refine q_vD (kc := 0) (ks := 0) (g_thrT (h := h) K (a := 1)) wX10_isThrown kX10_51 iX10_isThrown eX10_isThrown rfl rfl (by decide) (K.le (by decide)) (by decide) rfl rfl (Nat.le_of_ble_eq_true rfl) dX10_setBound_27 rfl rfl ?_
      refine q_if_ne (tgt := 86) dX10_setBound_30 rfl (fun _ => ?_) (fun c => absurd c (by decide))
      refine q_iconst (v := nI 0) dX10_setBound_86 (by decide) ?_
      refine q_iret dX10_setBound_87 rfl (Or.inl rfl) ?_
      first | exact ⟨_, rfl, 1, _, (Or.inl ⟨(by first | exact Or.inl (by first | assumption | exact (fun c => c (by assumption)) | exact Int32.not_lt.mpr (by assumption) | exact Int32.not_le.mpr (by assumption) | exact Int32.not_lt.mp (by assumption) | exact Int32.not_le.mp (by assumption) | omega) | exact Or.inr (by first | assumption | exact (fun c => c (by assumption)) | exact Int32.not_lt.mpr (by assumption) | exact Int32.not_le.mpr (by assumption) | exact Int32.not_lt.mp (by assumption) | exact Int32.not_le.mp (by assumption) | omega)), rfl⟩), rfl, (by rw [q_sI, va_us]), (q_gm.rf.set (by omega) (by omega)), fun _ => (C.thr 12 (by omega) _), fun e => absurd e (by decide)⟩ | exact ⟨_, rfl, 2, _, Or.inr (Or.inl ⟨(q_no2 (by first | assumption | exact (fun c => c (by assumption)) | exact Int32.not_lt.mpr (by assumption) | exact Int32.not_le.mpr (by assumption) | exact Int32.not_lt.mp (by assumption) | exact Int32.not_le.mp (by assumption) | omega) (by first | assumption | exact (fun c => c (by assumption)) | exact Int32.not_lt.mpr (by assumption) | exact Int32.not_le.mpr (by assumption) | exact Int32.not_lt.mp (by assumption) | exact Int32.not_le.mp (by assumption) | omega)), (by first | exact Or.inl ⟨by omega, (by first | assumption | exact (fun c => c (by assumption)) | exact Int32.not_lt.mpr (by assumption) | exact Int32.not_le.mpr (by assumption) | exact Int32.not_lt.mp (by assumption) | exact Int32.not_le.mp (by assumption) | omega)⟩ | exact Or.inr ⟨by omega, (by first | assumption | exact (fun c => c (by assumption)) | exact Int32.not_lt.mpr (by assumption) | exact Int32.not_le.mpr (by assumption) | exact Int32.not_lt.mp (by assumption) | exact Int32.not_le.mp (by assumption) | omega)⟩), rfl⟩), rfl, (by rw [q_sI, va_us]), (q_gm.rf.set (by omega) (by omega)), fun _ => (C.thr 12 (by omega) _), fun e => absurd e (by decide)⟩
  · refine q_if_eq (tgt := 21) dX10_setBound_7 rfl (fun _ => ?_) (fun c => absurd (by decide) c)
    refine q_iconst (v := nI 1) dX10_setBound_21 (by decide) ?_
    refine q_goto (tgt := 26) dX10_setBound_22 rfl ?_
    refine q_iconst (v := nI 1) dX10_setBound_26 (by decide) ?_
    refine q_vD (kc := 0) (ks := 0) (g_thrT (h := h) K (a := 1)) wX10_isThrown kX10_51 iX10_isThrown eX10_isThrown rfl rfl (by decide) (K.le (by decide)) (by decide) rfl rfl (Nat.le_of_ble_eq_true rfl) dX10_setBound_27 rfl rfl ?_
    refine q_if_ne (tgt := 86) dX10_setBound_30 rfl (fun _ => ?_) (fun c => absurd c (by decide))
    refine q_iconst (v := nI 0) dX10_setBound_86 (by decide) ?_
    refine q_iret dX10_setBound_87 rfl (Or.inl rfl) ?_
    first | exact ⟨_, rfl, 1, _, (Or.inl ⟨(by first | exact Or.inl (by first | assumption | exact (fun c => c (by assumption)) | exact Int32.not_lt.mpr (by assumption) | exact Int32.not_le.mpr (by assumption) | exact Int32.not_lt.mp (by assumption) | exact Int32.not_le.mp (by assumption) | omega) | exact Or.inr (by first | assumption | exact (fun c => c (by assumption)) | exact Int32.not_lt.mpr (by assumption) | exact Int32.not_le.mpr (by assumption) | exact Int32.not_lt.mp (by assumption) | exact Int32.not_le.mp (by assumption) | omega)), rfl⟩), rfl, (by rw [q_sI, va_us]), (q_gm.rf.set (by omega) (by omega)), fun _ => (C.thr 12 (by omega) _), fun e => absurd e (by decide)⟩ | exact ⟨_, rfl, 2, _, Or.inr (Or.inl ⟨(q_no2 (by first | assumption | exact (fun c => c (by assumption)) | exact Int32.not_lt.mpr (by assumption) | exact Int32.not_le.mpr (by assumption) | exact Int32.not_lt.mp (by assumption) | exact Int32.not_le.mp (by assumption) | omega) (by first | assumption | exact (fun c => c (by assumption)) | exact Int32.not_lt.mpr (by assumption) | exact Int32.not_le.mpr (by assumption) | exact Int32.not_lt.mp (by assumption) | exact Int32.not_le.mp (by assumption) | omega)), (by first | exact Or.inl ⟨by omega, (by first | assumption | exact (fun c => c (by assumption)) | exact Int32.not_lt.mpr (by assumption) | exact Int32.not_le.mpr (by assumption) | exact Int32.not_lt.mp (by assumption) | exact Int32.not_le.mp (by assumption) | omega)⟩ | exact Or.inr ⟨by omega, (by first | assumption | exact (fun c => c (by assumption)) | exact Int32.not_lt.mpr (by assumption) | exact Int32.not_le.mpr (by assumption) | exact Int32.not_lt.mp (by assumption) | exact Int32.not_le.mp (by assumption) | omega)⟩), rfl⟩), rfl, (by rw [q_sI, va_us]), (q_gm.rf.set (by omega) (by omega)), fun _ => (C.thr 12 (by omega) _), fun e => absurd e (by decide)⟩
theorem g_X10_setWeight {Φ : q_Fx} {h : q_Hp} (K : q_Lk Φ h.R h.n) {m : q_W} {P : q_P} (C : q_mr h m P) (v : q_val m) {z x : Int32} : q_Ct Φ false yX10_setWeight cX10_setWeight mX10_setWeight [.ref 1061, .int z, .int x] h (q_ex (q_pr h m P (q_k1 (¬ (nI 1 ≤ z ∧ z ≤ nI 5) ∨ ¬ (nI 0 ≤ x ∧ x ≤ nI 100))) (m.wt z.toNatClampNeg) (m.sZ m.bd (va_up m.wt z.toNatClampNeg x)) (P.kept m))) := by
  refine q_enter K.st rfl rfl (by decide) rfl (Nat.le_of_ble_eq_true rfl) (L := [_, _, _, none]) rfl ?_
  have hs := C.1
  have M := C.2.1.1
  have hσ := C.2.1.2
  have ht9 := M.t9
  have hc40 := M.c40
  have hn10 := M.n10
  have hp28 := M.pc28
  have hpe1 := M.pe1
  have hpf9 := M.pf9
  have hu := C.2.2.1.2.1
  have htp := C.2.2.1.2.2.2.1
  have hwr := C.2.2.1.2.2.2.2.2.1
  have hsv := C.2.2.1.2.2.2.2.2.2.2
  refine q_aload_n dX10_setWeight_0 rfl ?_
  refine q_iload_n dX10_setWeight_1 rfl ?_
  refine q_iconst (v := nI 1) dX10_setWeight_2 (by decide) ?_
  refine q_iconst (v := nI 5) dX10_setWeight_3 (by decide) ?_
  refine q_sD (kc := 0) (ks := 0) (g_X10_isIn (h := h) K (v := z) (lo := (nI (1))) (hi := (nI (5)))) wX10_isIn kX10_47 sX10_isIn (by decide) rfl rfl (Nat.le_of_ble_eq_true rfl) dX10_setWeight_4 rfl rfl ?_
  refine q_spl (fun c1 => ?_) (fun c2 => ?_)
  · refine q_if_eq (tgt := 20) dX10_setWeight_7 rfl (fun c => absurd c (by decide)) (fun _ => ?_)
    refine q_iload_n dX10_setWeight_10 rfl ?_
    refine q_iconst (v := nI 0) dX10_setWeight_11 (by decide) ?_
    refine q_bipush (v := nI 100) dX10_setWeight_12 (by decide) ?_
    refine q_sD (kc := 0) (ks := 0) (g_X10_isIn (h := h) K (v := x) (lo := (nI (0))) (hi := (nI (100)))) wX10_isIn kX10_47 sX10_isIn (by decide) rfl rfl (Nat.le_of_ble_eq_true rfl) dX10_setWeight_14 rfl rfl ?_
    refine q_spl (fun c5 => ?_) (fun c6 => ?_)
    · refine q_if_ne (tgt := 24) dX10_setWeight_17 rfl (fun _ => ?_) (fun c => absurd c (by decide))
      refine q_iconst (v := nI 0) dX10_setWeight_24 (by decide) ?_
      refine q_iconst (v := nI 1) dX10_setWeight_25 (by decide) ?_
      refine q_vD (kc := 0) (ks := 0) (g_thrF (h := h) K (a := 1)) wX10_isThrown kX10_51 iX10_isThrown eX10_isThrown rfl rfl (by decide) (K.le (by decide)) (by decide) rfl rfl (Nat.le_of_ble_eq_true rfl) dX10_setWeight_26 rfl rfl ?_
      refine q_if_eq (tgt := 34) dX10_setWeight_29 rfl (fun _ => ?_) (fun c => absurd (by decide) c)
      obtain ⟨j, hj1, hj2, rfl⟩ := q_rng (x := z) (a := 1) (b := 5) (fun f => by first | exact f (by assumption) | exact absurd f (by assumption)) (by omega) (by omega)
      try rw [nI_clamp (show j < 2 ^ 31 by omega)]
      refine q_aload_n dX10_setWeight_34 rfl ?_
      refine q_vR (kc := 0) (ks := 0) (g_X10_keeps (h := (h.setI 1061 12 (nI (0)))) K (C.thr 12 (by omega) _)) wX10_keeps kX10_55 iX10_keeps eX10_keeps rfl rfl (by decide) (K.le (by decide)) (by decide) rfl rfl (Nat.le_of_ble_eq_true rfl) dX10_setWeight_35 rfl rfl ?_
      rintro v' h2 ⟨rfl, e2⟩
      obtain ⟨C2, G2a, T2a, I2⟩ := q_mr.kept (C.thr 12 (by omega) (nI 0))
      rw [← e2] at C2 G2a T2a I2
      have G2 : q_gm h h2 := (q_gm.rf.set (by omega) (by omega)).tr G2a
      have T2 : h2.I 1061 12 = nI 0 := T2a.trans (by rw [q_sI, va_us])
      have K : q_Lk Φ h2.R h2.n := K.gm G2
      have hs := C2.1
      have M := C2.2.1.1
      refine q_aload_n dX10_setWeight_38 rfl ?_
      refine fRX10_9 (o := some 1062) dX10_setWeight_39 rfl (by decide) (K.le (by decide)) hs ?_
      refine q_rfS ?_
      refine q_bipush (v := nI 14) dX10_setWeight_42 (by decide) ?_
      refine q_iload_n dX10_setWeight_44 rfl ?_
      refine q_iaddN dX10_setWeight_45 ?_
      refine q_ialdN (len := 830) rfl dX10_setWeight_46 (by decide) (K.le (by decide)) rfl (by omega) (by decide) ?_
      refine q_tv (show _ = (m.wt j) from ((congrArg (h2.I 1062) (show ((14) + (j)) = 14 + j by omega)).trans (M.wt (z := j) (by omega)))) ?_
      refine q_istore_n (L' := [_, _, _, _]) dX10_setWeight_47 rfl (by decide) rfl ?_
      refine q_aload_n dX10_setWeight_48 rfl ?_
      refine fRX10_9 (o := some 1062) dX10_setWeight_49 rfl (by decide) (K.le (by decide)) hs ?_
      refine q_rfS ?_
      refine q_bipush (v := nI 14) dX10_setWeight_52 (by decide) ?_
      refine q_iload_n dX10_setWeight_54 rfl ?_
      refine q_iaddN dX10_setWeight_55 ?_
      refine q_iload_n dX10_setWeight_56 rfl ?_
      refine q_iastN (len := 830) rfl dX10_setWeight_57 (by decide) (K.le (by decide)) rfl (by omega) (by decide) ?_
      refine q_iload_n dX10_setWeight_58 rfl ?_
      refine q_iret dX10_setWeight_59 rfl (Or.inl rfl) ?_
      rw [q_setI_row h2]
      exact ⟨_, rfl, 0, _, (Or.inr ⟨(q_no2 (by first | assumption | exact (fun c => c (by assumption)) | exact Int32.not_lt.mpr (by assumption) | exact Int32.not_le.mpr (by assumption) | exact Int32.not_lt.mp (by assumption) | exact Int32.not_le.mp (by assumption) | omega) (by first | assumption | exact (fun c => c (by assumption)) | exact Int32.not_lt.mpr (by assumption) | exact Int32.not_le.mpr (by assumption) | exact Int32.not_lt.mp (by assumption) | exact Int32.not_le.mp (by assumption) | omega)), rfl⟩), rfl, ((congrFun (q_rIn _ _ (by omega)) _).trans T2), (G2.row (by omega) (by omega)), fun e => absurd rfl e, fun _ => ⟨rfl, q_mr.r62 C2 ⟨M.wgt (by omega), hσ⟩⟩⟩
    · refine q_if_ne (tgt := 24) dX10_setWeight_17 rfl (fun c => absurd (by decide) c) (fun _ => ?_)
      refine q_iconst (v := nI 1) dX10_setWeight_20 (by decide) ?_
      refine q_goto (tgt := 25) dX10_setWeight_21 rfl ?_
      refine q_iconst (v := nI 1) dX10_setWeight_25 (by decide) ?_
      refine q_vD (kc := 0) (ks := 0) (g_thrT (h := h) K (a := 1)) wX10_isThrown kX10_51 iX10_isThrown eX10_isThrown rfl rfl (by decide) (K.le (by decide)) (by decide) rfl rfl (Nat.le_of_ble_eq_true rfl) dX10_setWeight_26 rfl rfl ?_
      refine q_if_eq (tgt := 34) dX10_setWeight_29 rfl (fun c => absurd c (by decide)) (fun _ => ?_)
      refine q_iconst (v := nI 0) dX10_setWeight_32 (by decide) ?_
      refine q_iret dX10_setWeight_33 rfl (Or.inl rfl) ?_
      exact ⟨_, rfl, 1, _, (Or.inl ⟨(by first | exact Or.inl (by first | assumption | exact (fun c => c (by assumption)) | exact Int32.not_lt.mpr (by assumption) | exact Int32.not_le.mpr (by assumption) | exact Int32.not_lt.mp (by assumption) | exact Int32.not_le.mp (by assumption) | omega) | exact Or.inr (by first | assumption | exact (fun c => c (by assumption)) | exact Int32.not_lt.mpr (by assumption) | exact Int32.not_le.mpr (by assumption) | exact Int32.not_lt.mp (by assumption) | exact Int32.not_le.mp (by assumption) | omega)), rfl⟩), rfl, (by rw [q_sI, va_us]), (q_gm.rf.set (by omega) (by omega)), fun _ => (C.thr 12 (by omega) _), fun e => absurd e (by decide)⟩
  · refine q_if_eq (tgt := 20) dX10_setWeight_7 rfl (fun _ => ?_) (fun c => absurd (by decide) c)
    refine q_iconst (v := nI 1) dX10_setWeight_20 (by decide) ?_
    refine q_goto (tgt := 25) dX10_setWeight_21 rfl ?_
    refine q_iconst (v := nI 1) dX10_setWeight_25 (by decide) ?_
    refine q_vD (kc := 0) (ks := 0) (g_thrT (h := h) K (a := 1)) wX10_isThrown kX10_51 iX10_isThrown eX10_isThrown rfl rfl (by decide) (K.le (by decide)) (by decide) rfl rfl (Nat.le_of_ble_eq_true rfl) dX10_setWeight_26 rfl rfl ?_
    refine q_if_eq (tgt := 34) dX10_setWeight_29 rfl (fun c => absurd c (by decide)) (fun _ => ?_)
    refine q_iconst (v := nI 0) dX10_setWeight_32 (by decide) ?_
    refine q_iret dX10_setWeight_33 rfl (Or.inl rfl) ?_
    exact ⟨_, rfl, 1, _, (Or.inl ⟨(by first | exact Or.inl (by first | assumption | exact (fun c => c (by assumption)) | exact Int32.not_lt.mpr (by assumption) | exact Int32.not_le.mpr (by assumption) | exact Int32.not_lt.mp (by assumption) | exact Int32.not_le.mp (by assumption) | omega) | exact Or.inr (by first | assumption | exact (fun c => c (by assumption)) | exact Int32.not_lt.mpr (by assumption) | exact Int32.not_le.mpr (by assumption) | exact Int32.not_lt.mp (by assumption) | exact Int32.not_le.mp (by assumption) | omega)), rfl⟩), rfl, (by rw [q_sI, va_us]), (q_gm.rf.set (by omega) (by omega)), fun _ => (C.thr 12 (by omega) _), fun e => absurd e (by decide)⟩
theorem g_X10_addSession {Φ : q_Fx} {h : q_Hp} (K : q_Lk Φ h.R h.n) {m : q_W} {P : q_P} (C : q_mr h m P) (v : q_val m) {d : Int32} : q_Ct Φ false yX10_addSession cX10_addSession mX10_addSession [.ref 1061, .int d] h (q_ex (q_pr h m P (q_k2 (¬ (nI 0 ≤ d ∧ d ≤ nI m.t)) (m.c = 40)) m.nx (m.adS d.toNatClampNeg) (P.kept m))) := by
  refine q_enter K.st rfl rfl (by decide) rfl (Nat.le_of_ble_eq_true rfl) (L := [_, _, none]) rfl ?_
  have hs := C.1
  have M := C.2.1.1
  have hσ := C.2.1.2
  have ht9 := M.t9
  have hc40 := M.c40
  have hn10 := M.n10
  have hp28 := M.pc28
  have hpe1 := M.pe1
  have hpf9 := M.pf9
  have hu := C.2.2.1.2.1
  have htp := C.2.2.1.2.2.2.1
  have hwr := C.2.2.1.2.2.2.2.2.1
  have hsv := C.2.2.1.2.2.2.2.2.2.2
  refine q_aload_n dX10_addSession_0 rfl ?_
  refine q_aload_n dX10_addSession_1 rfl ?_
  refine q_iload_n dX10_addSession_2 rfl ?_
  refine q_vD (kc := 0) (ks := 0) (g_X10_isNoDay (h := h) K ((Or.inl rfl)) hs (M) (d := d)) wX10_isNoDay kX10_58 iX10_isNoDay eX10_isNoDay rfl rfl (by decide) (K.le (by decide)) (by decide) rfl rfl (Nat.le_of_ble_eq_true rfl) dX10_addSession_3 rfl rfl ?_
  refine q_spl (fun c1 => ?_) (fun c2 => ?_)
  · refine q_iconst (v := nI 1) dX10_addSession_6 (by decide) ?_
    refine q_vD (kc := 0) (ks := 0) (g_thrT (h := h) K (a := 1)) wX10_isThrown kX10_51 iX10_isThrown eX10_isThrown rfl rfl (by decide) (K.le (by decide)) (by decide) rfl rfl (Nat.le_of_ble_eq_true rfl) dX10_addSession_7 rfl rfl ?_
    refine q_if_ne (tgt := 37) dX10_addSession_10 rfl (fun _ => ?_) (fun c => absurd c (by decide))
    refine q_iconst (v := nI 0) dX10_addSession_37 (by decide) ?_
    refine q_iret dX10_addSession_38 rfl (Or.inl rfl) ?_
    first | exact ⟨_, rfl, 1, _, (Or.inl ⟨(by first | assumption | exact (fun c => c (by assumption)) | exact Int32.not_lt.mpr (by assumption) | exact Int32.not_le.mpr (by assumption) | exact Int32.not_lt.mp (by assumption) | exact Int32.not_le.mp (by assumption) | omega), rfl⟩), rfl, (by rw [q_sI, va_us]), (q_gm.rf.set (by omega) (by omega)), fun _ => (C.thr 12 (by omega) _), fun e => absurd e (by decide)⟩ | exact ⟨_, rfl, 2, _, (Or.inr (Or.inl ⟨(by first | assumption | exact (fun c => c (by assumption)) | exact Int32.not_lt.mpr (by assumption) | exact Int32.not_le.mpr (by assumption) | exact Int32.not_lt.mp (by assumption) | exact Int32.not_le.mp (by assumption) | omega), (by first | assumption | exact (fun c => c (by assumption)) | exact Int32.not_lt.mpr (by assumption) | exact Int32.not_le.mpr (by assumption) | exact Int32.not_lt.mp (by assumption) | exact Int32.not_le.mp (by assumption) | omega), rfl⟩)), rfl, (by rw [q_sI, va_us]), (q_gm.rf.set (by omega) (by omega)), fun _ => (C.thr 12 (by omega) _), fun e => absurd e (by decide)⟩
  · refine q_iconst (v := nI 1) dX10_addSession_6 (by decide) ?_
    refine q_vD (kc := 0) (ks := 0) (g_thrF (h := h) K (a := 1)) wX10_isThrown kX10_51 iX10_isThrown eX10_isThrown rfl rfl (by decide) (K.le (by decide)) (by decide) rfl rfl (Nat.le_of_ble_eq_true rfl) dX10_addSession_7 rfl rfl ?_
    refine q_if_ne (tgt := 37) dX10_addSession_10 rfl (fun c => absurd (by decide) c) (fun _ => ?_)
    refine q_aload_n dX10_addSession_13 rfl ?_
    refine q_aload_n dX10_addSession_14 rfl ?_
    refine fRX10_9 (o := some 1062) dX10_addSession_15 rfl (by decide) (K.le (by decide)) hs ?_
    refine q_rfS ?_
    refine q_iconst (v := nI 2) dX10_addSession_18 (by decide) ?_
    refine q_ialdN (len := 830) rfl dX10_addSession_19 (by decide) (K.le (by decide)) rfl (by omega) (by decide) ?_
    refine q_tv (show _ = (nI (m.c)) from ((congrFun (q_sIn _ _ _ (by omega)) _).trans M.c)) ?_
    refine q_bipush (v := nI 40) dX10_addSession_20 (by decide) ?_
    refine q_icmp_neN (by omega) (by omega) (tgt := 29) dX10_addSession_22 rfl (fun c7 => ?_) (fun c8 => ?_)
    · refine q_iconst (v := nI 0) dX10_addSession_29 (by decide) ?_
      refine q_iconst (v := nI 2) dX10_addSession_30 (by decide) ?_
      refine q_vD (kc := 0) (ks := 0) (g_thrF (h := (h.setI 1061 12 (nI (0)))) K (a := 2)) wX10_isThrown kX10_51 iX10_isThrown eX10_isThrown rfl rfl (by decide) (K.le (by decide)) (by decide) rfl rfl (Nat.le_of_ble_eq_true rfl) dX10_addSession_31 rfl rfl ?_
      rw [q_ss]
      refine q_if_eq (tgt := 39) dX10_addSession_34 rfl (fun _ => ?_) (fun c => absurd (by decide) c)
      obtain ⟨j, hj1, hj2, rfl⟩ := q_rng (x := d) (a := 0) (b := m.t) (fun f => by first | exact f (by assumption) | exact absurd f (by assumption)) (by omega) (by omega)
      try rw [nI_clamp (show j < 2 ^ 31 by omega)]
      refine q_aload_n dX10_addSession_39 rfl ?_
      refine q_vR (kc := 0) (ks := 0) (g_X10_keeps (h := (h.setI 1061 12 (nI (0)))) K (C.thr 12 (by omega) _)) wX10_keeps kX10_55 iX10_keeps eX10_keeps rfl rfl (by decide) (K.le (by decide)) (by decide) rfl rfl (Nat.le_of_ble_eq_true rfl) dX10_addSession_40 rfl rfl ?_
      rintro v' h2 ⟨rfl, e2⟩
      obtain ⟨C2, G2a, T2a, I2⟩ := q_mr.kept (C.thr 12 (by omega) (nI 0))
      rw [← e2] at C2 G2a T2a I2
      have G2 : q_gm h h2 := (q_gm.rf.set (by omega) (by omega)).tr G2a
      have T2 : h2.I 1061 12 = nI 0 := T2a.trans (by rw [q_sI, va_us])
      have K : q_Lk Φ h2.R h2.n := K.gm G2
      have hs := C2.1
      have M := C2.2.1.1
      refine q_aload_n dX10_addSession_43 rfl ?_
      refine q_aload_n dX10_addSession_44 rfl ?_
      refine fRX10_9 (o := some 1062) dX10_addSession_45 rfl (by decide) (K.le (by decide)) hs ?_
      refine q_rfS ?_
      refine q_iconst (v := nI 2) dX10_addSession_48 (by decide) ?_
      refine q_ialdN (len := 830) rfl dX10_addSession_49 (by decide) (K.le (by decide)) rfl (by omega) (by decide) ?_
      refine q_tv (show _ = (nI (m.c)) from M.c) ?_
      refine q_vD (kc := 0) (ks := 0) (g_X10_at (h := h2) K (k := m.c)) wX10_at kX10_75 iX10_at eX10_at rfl rfl (by decide) (K.le (by decide)) (by decide) rfl rfl (Nat.le_of_ble_eq_true rfl) dX10_addSession_50 rfl rfl ?_
      refine q_istore_n (L' := [_, _, _]) dX10_addSession_53 rfl (by decide) rfl ?_
      refine q_aload_n dX10_addSession_54 rfl ?_
      refine fRX10_9 (o := some 1062) dX10_addSession_55 rfl (by decide) (K.le (by decide)) hs ?_
      refine q_rfS ?_
      refine q_iload_n dX10_addSession_58 rfl ?_
      refine q_aload_n dX10_addSession_59 rfl ?_
      refine fRX10_9 (o := some 1062) dX10_addSession_60 rfl (by decide) (K.le (by decide)) hs ?_
      refine q_rfS ?_
      refine q_iconst (v := nI 1) dX10_addSession_63 (by decide) ?_
      refine q_ialdN (len := 830) rfl dX10_addSession_64 (by decide) (K.le (by decide)) rfl (by omega) (by decide) ?_
      refine q_tv (show _ = m.nx from M.nx) ?_
      refine q_iastN (len := 830) rfl dX10_addSession_65 (by decide) (K.le (by decide)) rfl (by omega) (by decide) ?_
      refine q_aload_n dX10_addSession_66 rfl ?_
      refine fRX10_9 (o := some 1062) dX10_addSession_67 rfl (by decide) (K.le (by decide)) hs ?_
      refine q_rfS ?_
      refine q_iload_n dX10_addSession_70 rfl ?_
      refine q_iconst (v := nI 1) dX10_addSession_71 (by decide) ?_
      refine q_iaddN dX10_addSession_72 ?_
      refine q_iload_n dX10_addSession_73 rfl ?_
      refine q_iastN (len := 830) rfl dX10_addSession_74 (by decide) (K.le (by decide)) rfl (by omega) (by decide) ?_
      refine q_aload_n dX10_addSession_75 rfl ?_
      refine fRX10_9 (o := some 1062) dX10_addSession_76 rfl (by decide) (K.le (by decide)) hs ?_
      refine q_rfS ?_
      refine q_iload_n dX10_addSession_79 rfl ?_
      refine q_iconst (v := nI 2) dX10_addSession_80 (by decide) ?_
      refine q_iaddN dX10_addSession_81 ?_
      refine q_iconst (v := nI 0) dX10_addSession_82 (by decide) ?_
      refine q_iastN (len := 830) rfl dX10_addSession_83 (by decide) (K.le (by decide)) rfl (by omega) (by decide) ?_
      refine q_aload_n dX10_addSession_84 rfl ?_
      refine fRX10_9 (o := some 1062) dX10_addSession_85 rfl (by decide) (K.le (by decide)) hs ?_
      refine q_rfS ?_
      refine q_iconst (v := nI 2) dX10_addSession_88 (by decide) ?_
      refine q_dup2 dX10_addSession_89 rfl rfl ?_
      refine q_ialdN (len := 830) rfl dX10_addSession_90 (by decide) (K.le (by decide)) rfl (by omega) (by decide) ?_
      refine q_tv (show _ = (nI (m.c)) from (((congrFun (q_sI _ _ _ _) _).trans (va_un _ _ (by omega))).trans (((congrFun (q_sI _ _ _ _) _).trans (va_un _ _ (by omega))).trans (((congrFun (q_sI _ _ _ _) _).trans (va_un _ _ (by omega))).trans M.c)))) ?_
      refine q_iconst (v := nI 1) dX10_addSession_91 (by decide) ?_
      refine q_iaddN dX10_addSession_92 ?_
      refine q_iastN (len := 830) rfl dX10_addSession_93 (by decide) (K.le (by decide)) rfl (by omega) (by decide) ?_
      refine q_aload_n dX10_addSession_94 rfl ?_
      refine fRX10_9 (o := some 1062) dX10_addSession_95 rfl (by decide) (K.le (by decide)) hs ?_
      refine q_rfS ?_
      refine q_iconst (v := nI 1) dX10_addSession_98 (by decide) ?_
      refine q_dup2 dX10_addSession_99 rfl rfl ?_
      refine q_ialdN (len := 830) rfl dX10_addSession_100 (by decide) (K.le (by decide)) rfl (by omega) (by decide) ?_
      refine q_tv (show _ = m.nx from (((congrFun (q_sI _ _ _ _) _).trans (va_un _ _ (by omega))).trans (((congrFun (q_sI _ _ _ _) _).trans (va_un _ _ (by omega))).trans (((congrFun (q_sI _ _ _ _) _).trans (va_un _ _ (by omega))).trans (((congrFun (q_sI _ _ _ _) _).trans (va_un _ _ (by omega))).trans M.nx))))) ?_
      refine q_iconst (v := nI 1) dX10_addSession_101 (by decide) ?_
      refine q_iadd dX10_addSession_102 ?_
      refine q_iastN (len := 830) rfl dX10_addSession_103 (by decide) (K.le (by decide)) rfl (by omega) (by decide) ?_
      refine q_aload_n dX10_addSession_104 rfl ?_
      refine fRX10_9 (o := some 1062) dX10_addSession_105 rfl (by decide) (K.le (by decide)) hs ?_
      refine q_rfS ?_
      refine q_iload_n dX10_addSession_108 rfl ?_
      refine q_ialdN (len := 830) rfl dX10_addSession_109 (by decide) (K.le (by decide)) rfl (by omega) (by decide) ?_
      refine q_tv (show _ = m.nx from (((congrFun (q_sI _ _ _ _) _).trans (va_un _ _ (by omega))).trans (((congrFun (q_sI _ _ _ _) _).trans (va_un _ _ (by omega))).trans (((congrFun (q_sI _ _ _ _) _).trans (va_un _ _ (by omega))).trans (((congrFun (q_sI _ _ _ _) _).trans (va_un _ _ (by omega))).trans ((congrFun (q_sI _ _ _ _) _).trans (va_us _ _ _))))))) ?_
      refine q_iret dX10_addSession_110 rfl (Or.inl rfl) ?_
      rw [q_setI_row h2]
      repeat rw [q_rset]
      exact ⟨_, rfl, 0, _, (Or.inr (Or.inr ⟨(by first | assumption | exact (fun c => c (by assumption)) | exact Int32.not_lt.mpr (by assumption) | exact Int32.not_le.mpr (by assumption) | exact Int32.not_lt.mp (by assumption) | exact Int32.not_le.mp (by assumption) | omega), (by first | assumption | exact (fun c => c (by assumption)) | exact Int32.not_lt.mpr (by assumption) | exact Int32.not_le.mpr (by assumption) | exact Int32.not_lt.mp (by assumption) | exact Int32.not_le.mp (by assumption) | omega), rfl⟩)), rfl, ((congrFun (q_rIn _ _ (by omega)) _).trans T2), (G2.row (by omega) (by omega)), fun e => absurd rfl e, fun _ => ⟨rfl, q_mr.r62 C2 ⟨M.adS (by omega) (by omega), hσ⟩⟩⟩
    · refine q_iconst (v := nI 1) dX10_addSession_25 (by decide) ?_
      refine q_goto (tgt := 30) dX10_addSession_26 rfl ?_
      refine q_iconst (v := nI 2) dX10_addSession_30 (by decide) ?_
      refine q_vD (kc := 0) (ks := 0) (g_thrT (h := (h.setI 1061 12 (nI (0)))) K (a := 2)) wX10_isThrown kX10_51 iX10_isThrown eX10_isThrown rfl rfl (by decide) (K.le (by decide)) (by decide) rfl rfl (Nat.le_of_ble_eq_true rfl) dX10_addSession_31 rfl rfl ?_
      rw [q_ss]
      refine q_if_eq (tgt := 39) dX10_addSession_34 rfl (fun c => absurd c (by decide)) (fun _ => ?_)
      refine q_iconst (v := nI 0) dX10_addSession_37 (by decide) ?_
      refine q_iret dX10_addSession_38 rfl (Or.inl rfl) ?_
      first | exact ⟨_, rfl, 1, _, (Or.inl ⟨(by first | assumption | exact (fun c => c (by assumption)) | exact Int32.not_lt.mpr (by assumption) | exact Int32.not_le.mpr (by assumption) | exact Int32.not_lt.mp (by assumption) | exact Int32.not_le.mp (by assumption) | omega), rfl⟩), rfl, (by rw [q_sI, va_us]), (q_gm.rf.set (by omega) (by omega)), fun _ => (C.thr 12 (by omega) _), fun e => absurd e (by decide)⟩ | exact ⟨_, rfl, 2, _, (Or.inr (Or.inl ⟨(by first | assumption | exact (fun c => c (by assumption)) | exact Int32.not_lt.mpr (by assumption) | exact Int32.not_le.mpr (by assumption) | exact Int32.not_lt.mp (by assumption) | exact Int32.not_le.mp (by assumption) | omega), (by first | assumption | exact (fun c => c (by assumption)) | exact Int32.not_lt.mpr (by assumption) | exact Int32.not_le.mpr (by assumption) | exact Int32.not_lt.mp (by assumption) | exact Int32.not_le.mp (by assumption) | omega), rfl⟩)), rfl, (by rw [q_sI, va_us]), (q_gm.rf.set (by omega) (by omega)), fun _ => (C.thr 12 (by omega) _), fun e => absurd e (by decide)⟩
theorem g_X10_addPart {Φ : q_Fx} {h : q_Hp} (K : q_Lk Φ h.R h.n) {m : q_W} {P : q_P} (C : q_mr h m P) (v : q_val m) {x y z : Int32} : q_Ct Φ false yX10_addPart cX10_addPart mX10_addPart [.ref 1061, .int x, .int y, .int z] h (q_ex (q_pr h m P (q_k3 (m.mno x) (¬ (nI 1 ≤ y ∧ y ≤ nI 120) ∨ ¬ (nI 0 ≤ z ∧ z ≤ nI 500)) (m.pn (m.mat x) = 8 ∨ nI 240 < m.len (m.mat x) + y)) (nI (m.pn (m.mat x) + 1)) (m.addP (m.mat x) y z) (P.kept m))) := by
  refine q_enter K.st rfl rfl (by decide) rfl (Nat.le_of_ble_eq_true rfl) (L := [_, _, _, _, none, none]) rfl ?_
  have hs := C.1
  have M := C.2.1.1
  have hσ := C.2.1.2
  have ht9 := M.t9
  have hc40 := M.c40
  have hn10 := M.n10
  have hp28 := M.pc28
  have hpe1 := M.pe1
  have hpf9 := M.pf9
  have hu := C.2.2.1.2.1
  have htp := C.2.2.1.2.2.2.1
  have hwr := C.2.2.1.2.2.2.2.2.1
  have hsv := C.2.2.1.2.2.2.2.2.2.2
  refine q_aload_n dX10_addPart_0 rfl ?_
  refine q_iload_n dX10_addPart_1 rfl ?_
  refine q_vD (kc := 0) (ks := 0) (g_X10_place (h := h) K ((Or.inl rfl)) hs (M) (x := x)) wX10_place kX10_84 iX10_place eX10_place rfl rfl (by decide) (K.le (by decide)) (by decide) rfl rfl (Nat.le_of_ble_eq_true rfl) dX10_addPart_2 rfl rfl ?_
  refine q_istore (L' := [_, _, _, _, _, _]) dX10_addPart_5 rfl (by decide) rfl ?_
  refine q_aload_n dX10_addPart_7 rfl ?_
  refine q_iload dX10_addPart_8 rfl ?_
  refine q_if_ge (tgt := 17) dX10_addPart_10 rfl (fun c1 => ?_) (fun c2 => ?_)
  · refine q_iconst (v := nI 0) dX10_addPart_17 (by decide) ?_
    refine q_iconst (v := nI 1) dX10_addPart_18 (by decide) ?_
    refine q_vD (kc := 0) (ks := 0) (g_thrF (h := h) K (a := 1)) wX10_isThrown kX10_51 iX10_isThrown eX10_isThrown rfl rfl (by decide) (K.le (by decide)) (by decide) rfl rfl (Nat.le_of_ble_eq_true rfl) dX10_addPart_19 rfl rfl ?_
    refine q_if_ne (tgt := 104) dX10_addPart_22 rfl (fun c => absurd (by decide) c) (fun _ => ?_)
    refine q_aload_n dX10_addPart_25 rfl ?_
    refine q_iload_n dX10_addPart_26 rfl ?_
    refine q_iconst (v := nI 1) dX10_addPart_27 (by decide) ?_
    refine q_bipush (v := nI 120) dX10_addPart_28 (by decide) ?_
    refine q_sD (kc := 0) (ks := 0) (g_X10_isIn (h := (h.setI 1061 12 (nI (0)))) K (v := y) (lo := (nI (1))) (hi := (nI (120)))) wX10_isIn kX10_47 sX10_isIn (by decide) rfl rfl (Nat.le_of_ble_eq_true rfl) dX10_addPart_30 rfl rfl ?_
    refine q_spl (fun c5 => ?_) (fun c6 => ?_)
    · refine q_if_eq (tgt := 47) dX10_addPart_33 rfl (fun c => absurd c (by decide)) (fun _ => ?_)
      refine q_iload_n dX10_addPart_36 rfl ?_
      refine q_iconst (v := nI 0) dX10_addPart_37 (by decide) ?_
      refine q_sipush (v := nI 500) dX10_addPart_38 (by decide) ?_
      refine q_sD (kc := 0) (ks := 0) (g_X10_isIn (h := (h.setI 1061 12 (nI (0)))) K (v := z) (lo := (nI (0))) (hi := (nI (500)))) wX10_isIn kX10_47 sX10_isIn (by decide) rfl rfl (Nat.le_of_ble_eq_true rfl) dX10_addPart_41 rfl rfl ?_
      refine q_spl (fun c9 => ?_) (fun c10 => ?_)
      · refine q_if_ne (tgt := 51) dX10_addPart_44 rfl (fun _ => ?_) (fun c => absurd c (by decide))
        refine q_iconst (v := nI 0) dX10_addPart_51 (by decide) ?_
        refine q_iconst (v := nI 2) dX10_addPart_52 (by decide) ?_
        refine q_vD (kc := 0) (ks := 0) (g_thrF (h := (h.setI 1061 12 (nI (0)))) K (a := 2)) wX10_isThrown kX10_51 iX10_isThrown eX10_isThrown rfl rfl (by decide) (K.le (by decide)) (by decide) rfl rfl (Nat.le_of_ble_eq_true rfl) dX10_addPart_53 rfl rfl ?_
        rw [q_ss]
        refine q_if_ne (tgt := 104) dX10_addPart_56 rfl (fun c => absurd (by decide) c) (fun _ => ?_)
        have ng : ¬ m.mno x := by first | assumption | exact Int32.not_lt.mpr (by assumption)
        have hat := q_mat hc40 ng
        rw [hat.2.2]
        refine q_aload_n dX10_addPart_59 rfl ?_
        refine q_aload_n dX10_addPart_60 rfl ?_
        refine fRX10_9 (o := some 1062) dX10_addPart_61 rfl (by decide) (K.le (by decide)) hs ?_
        refine q_rfS ?_
        refine q_aload_n dX10_addPart_64 rfl ?_
        refine q_iload dX10_addPart_65 rfl ?_
        refine q_vD (kc := 0) (ks := 0) (g_X10_at (h := (h.setI 1061 12 (nI (0)))) K (k := m.mat x)) wX10_at kX10_75 iX10_at eX10_at rfl rfl (by decide) (K.le (by decide)) (by decide) rfl rfl (Nat.le_of_ble_eq_true rfl) dX10_addPart_67 rfl rfl ?_
        refine q_iconst (v := nI 2) dX10_addPart_70 (by decide) ?_
        refine q_iaddN dX10_addPart_71 ?_
        have hp8 := M.pn8 (k := m.mat x) (by omega)
        refine q_ialdN (len := 830) rfl dX10_addPart_72 (by decide) (K.le (by decide)) rfl (by omega) (by decide) ?_
        refine q_tv (show _ = (nI (m.pn (m.mat x))) from ((congrFun (q_sIn _ _ _ (by omega)) _).trans ((congrArg (h.I 1062) (show ((70 + 19 * (m.mat x)) + (2)) = 72 + 19 * (m.mat x) by omega)).trans (M.pn (by omega))))) ?_
        refine q_bipush (v := nI 8) dX10_addPart_73 (by decide) ?_
        refine q_icmp_eqN (by omega) (by omega) (tgt := 92) dX10_addPart_75 rfl (fun c15 => ?_) (fun c16 => ?_)
        · refine q_iconst (v := nI 1) dX10_addPart_92 (by decide) ?_
          refine q_goto (tgt := 97) dX10_addPart_93 rfl ?_
          refine q_iconst (v := nI 3) dX10_addPart_97 (by decide) ?_
          refine q_vD (kc := 0) (ks := 0) (g_thrT (h := (h.setI 1061 12 (nI (0)))) K (a := 3)) wX10_isThrown kX10_51 iX10_isThrown eX10_isThrown rfl rfl (by decide) (K.le (by decide)) (by decide) rfl rfl (Nat.le_of_ble_eq_true rfl) dX10_addPart_98 rfl rfl ?_
          rw [q_ss]
          refine q_if_eq (tgt := 106) dX10_addPart_101 rfl (fun c => absurd c (by decide)) (fun _ => ?_)
          refine q_iconst (v := nI 0) dX10_addPart_104 (by decide) ?_
          refine q_iret dX10_addPart_105 rfl (Or.inl rfl) ?_
          first | exact ⟨_, rfl, 1, _, (Or.inl ⟨(by first | assumption | exact (fun c => c (by assumption)) | exact Int32.not_lt.mpr (by assumption) | exact Int32.not_le.mpr (by assumption) | exact Int32.not_lt.mp (by assumption) | exact Int32.not_le.mp (by assumption) | omega), rfl⟩), rfl, (by rw [q_sI, va_us]), (q_gm.rf.set (by omega) (by omega)), fun _ => (C.thr 12 (by omega) _), fun e => absurd e (by decide)⟩ | exact ⟨_, rfl, 2, _, (Or.inr (Or.inl ⟨(by first | assumption | exact (fun c => c (by assumption)) | exact Int32.not_lt.mpr (by assumption) | exact Int32.not_le.mpr (by assumption) | exact Int32.not_lt.mp (by assumption) | exact Int32.not_le.mp (by assumption) | omega), (by first | exact Or.inl (by first | assumption | exact (fun c => c (by assumption)) | exact Int32.not_lt.mpr (by assumption) | exact Int32.not_le.mpr (by assumption) | exact Int32.not_lt.mp (by assumption) | exact Int32.not_le.mp (by assumption) | omega) | exact Or.inr (by first | assumption | exact (fun c => c (by assumption)) | exact Int32.not_lt.mpr (by assumption) | exact Int32.not_le.mpr (by assumption) | exact Int32.not_lt.mp (by assumption) | exact Int32.not_le.mp (by assumption) | omega)), rfl⟩)), rfl, (by rw [q_sI, va_us]), (q_gm.rf.set (by omega) (by omega)), fun _ => (C.thr 12 (by omega) _), fun e => absurd e (by decide)⟩ | exact ⟨_, rfl, 3, _, (Or.inr (Or.inr (Or.inl ⟨(by first | assumption | exact (fun c => c (by assumption)) | exact Int32.not_lt.mpr (by assumption) | exact Int32.not_le.mpr (by assumption) | exact Int32.not_lt.mp (by assumption) | exact Int32.not_le.mp (by assumption) | omega), (q_no2 (by first | assumption | exact (fun c => c (by assumption)) | exact Int32.not_lt.mpr (by assumption) | exact Int32.not_le.mpr (by assumption) | exact Int32.not_lt.mp (by assumption) | exact Int32.not_le.mp (by assumption) | omega) (by first | assumption | exact (fun c => c (by assumption)) | exact Int32.not_lt.mpr (by assumption) | exact Int32.not_le.mpr (by assumption) | exact Int32.not_lt.mp (by assumption) | exact Int32.not_le.mp (by assumption) | omega)), (by first | exact Or.inl (by first | assumption | exact (fun c => c (by assumption)) | exact Int32.not_lt.mpr (by assumption) | exact Int32.not_le.mpr (by assumption) | exact Int32.not_lt.mp (by assumption) | exact Int32.not_le.mp (by assumption) | omega) | exact Or.inr (by first | assumption | exact (fun c => c (by assumption)) | exact Int32.not_lt.mpr (by assumption) | exact Int32.not_le.mpr (by assumption) | exact Int32.not_lt.mp (by assumption) | exact Int32.not_le.mp (by assumption) | omega)), rfl⟩))), rfl, (by rw [q_sI, va_us]), (q_gm.rf.set (by omega) (by omega)), fun _ => (C.thr 12 (by omega) _), fun e => absurd e (by decide)⟩
        · refine q_aload_n dX10_addPart_78 rfl ?_
          refine q_iload dX10_addPart_79 rfl ?_
          refine q_vD (kc := 0) (ks := 0) (g_X10_minutes (h := (h.setI 1061 12 (nI (0)))) K ((Or.inl rfl)) hs ((show (h.setI 1061 12 (nI (0))).I 1062 = h.I 1062 from (q_sIn _ _ _ (by omega))).symm ▸ M) (k := m.mat x) (by omega)) wX10_minutes kX10_87 iX10_minutes eX10_minutes rfl rfl (by decide) (K.le (by decide)) (by decide) rfl rfl (Nat.le_of_ble_eq_true rfl) dX10_addPart_81 rfl rfl ?_
          refine q_iload_n dX10_addPart_84 rfl ?_
          refine q_iadd dX10_addPart_85 ?_
          refine q_sipush (v := nI 240) dX10_addPart_86 (by decide) ?_
          refine q_icmp_le (tgt := 96) dX10_addPart_89 rfl (fun c19 => ?_) (fun c20 => ?_)
          · refine q_iconst (v := nI 0) dX10_addPart_96 (by decide) ?_
            refine q_iconst (v := nI 3) dX10_addPart_97 (by decide) ?_
            refine q_vD (kc := 0) (ks := 0) (g_thrF (h := (h.setI 1061 12 (nI (0)))) K (a := 3)) wX10_isThrown kX10_51 iX10_isThrown eX10_isThrown rfl rfl (by decide) (K.le (by decide)) (by decide) rfl rfl (Nat.le_of_ble_eq_true rfl) dX10_addPart_98 rfl rfl ?_
            rw [q_ss]
            refine q_if_eq (tgt := 106) dX10_addPart_101 rfl (fun _ => ?_) (fun c => absurd (by decide) c)
            have hp8 := M.pn8 (k := m.mat x) (by omega)
            refine q_aload_n dX10_addPart_106 rfl ?_
            refine q_vR (kc := 0) (ks := 0) (g_X10_keeps (h := (h.setI 1061 12 (nI (0)))) K (C.thr 12 (by omega) _)) wX10_keeps kX10_55 iX10_keeps eX10_keeps rfl rfl (by decide) (K.le (by decide)) (by decide) rfl rfl (Nat.le_of_ble_eq_true rfl) dX10_addPart_107 rfl rfl ?_
            rintro v' h2 ⟨rfl, e2⟩
            obtain ⟨C2, G2a, T2a, I2⟩ := q_mr.kept (C.thr 12 (by omega) (nI 0))
            rw [← e2] at C2 G2a T2a I2
            have G2 : q_gm h h2 := (q_gm.rf.set (by omega) (by omega)).tr G2a
            have T2 : h2.I 1061 12 = nI 0 := T2a.trans (by rw [q_sI, va_us])
            have K : q_Lk Φ h2.R h2.n := K.gm G2
            have hs := C2.1
            have M := C2.2.1.1
            refine q_aload_n dX10_addPart_110 rfl ?_
            refine fRX10_9 (o := some 1062) dX10_addPart_111 rfl (by decide) (K.le (by decide)) hs ?_
            refine q_rfS ?_
            refine q_aload_n dX10_addPart_114 rfl ?_
            refine q_iload dX10_addPart_115 rfl ?_
            refine q_vD (kc := 0) (ks := 0) (g_X10_at (h := h2) K (k := m.mat x)) wX10_at kX10_75 iX10_at eX10_at rfl rfl (by decide) (K.le (by decide)) (by decide) rfl rfl (Nat.le_of_ble_eq_true rfl) dX10_addPart_117 rfl rfl ?_
            refine q_iconst (v := nI 2) dX10_addPart_120 (by decide) ?_
            refine q_iaddN dX10_addPart_121 ?_
            refine q_ialdN (len := 830) rfl dX10_addPart_122 (by decide) (K.le (by decide)) rfl (by omega) (by decide) ?_
            refine q_tv (show _ = (nI (m.pn (m.mat x))) from ((congrArg (h2.I 1062) (show ((70 + 19 * (m.mat x)) + (2)) = 72 + 19 * (m.mat x) by omega)).trans (M.pn (by omega)))) ?_
            refine q_istore (L' := [_, _, _, _, _, _]) dX10_addPart_123 rfl (by decide) rfl ?_
            refine q_aload_n dX10_addPart_125 rfl ?_
            refine fRX10_9 (o := some 1062) dX10_addPart_126 rfl (by decide) (K.le (by decide)) hs ?_
            refine q_rfS ?_
            refine q_aload_n dX10_addPart_129 rfl ?_
            refine q_iload dX10_addPart_130 rfl ?_
            refine q_vD (kc := 0) (ks := 0) (g_X10_at (h := h2) K (k := m.mat x)) wX10_at kX10_75 iX10_at eX10_at rfl rfl (by decide) (K.le (by decide)) (by decide) rfl rfl (Nat.le_of_ble_eq_true rfl) dX10_addPart_132 rfl rfl ?_
            refine q_iconst (v := nI 3) dX10_addPart_135 (by decide) ?_
            refine q_iaddN dX10_addPart_136 ?_
            refine q_iload dX10_addPart_137 rfl ?_
            refine q_iaddN dX10_addPart_139 ?_
            refine q_iload_n dX10_addPart_140 rfl ?_
            refine q_iastN (len := 830) rfl dX10_addPart_141 (by decide) (K.le (by decide)) rfl (by omega) (by decide) ?_
            refine q_aload_n dX10_addPart_142 rfl ?_
            refine fRX10_9 (o := some 1062) dX10_addPart_143 rfl (by decide) (K.le (by decide)) hs ?_
            refine q_rfS ?_
            refine q_aload_n dX10_addPart_146 rfl ?_
            refine q_iload dX10_addPart_147 rfl ?_
            refine q_vD (kc := 0) (ks := 0) (g_X10_at (h := (h2.setI 1062 (((70 + 19 * (m.mat x)) + (3)) + (m.pn (m.mat x))) y)) K (k := m.mat x)) wX10_at kX10_75 iX10_at eX10_at rfl rfl (by decide) (K.le (by decide)) (by decide) rfl rfl (Nat.le_of_ble_eq_true rfl) dX10_addPart_149 rfl rfl ?_
            refine q_iconst (v := nI 3) dX10_addPart_152 (by decide) ?_
            refine q_iaddN dX10_addPart_153 ?_
            refine q_bipush (v := nI 8) dX10_addPart_154 (by decide) ?_
            refine q_iaddN dX10_addPart_156 ?_
            refine q_iload dX10_addPart_157 rfl ?_
            refine q_iaddN dX10_addPart_159 ?_
            refine q_iload_n dX10_addPart_160 rfl ?_
            refine q_iastN (len := 830) rfl dX10_addPart_161 (by decide) (K.le (by decide)) rfl (by omega) (by decide) ?_
            refine q_aload_n dX10_addPart_162 rfl ?_
            refine fRX10_9 (o := some 1062) dX10_addPart_163 rfl (by decide) (K.le (by decide)) hs ?_
            refine q_rfS ?_
            refine q_aload_n dX10_addPart_166 rfl ?_
            refine q_iload dX10_addPart_167 rfl ?_
            refine q_vD (kc := 0) (ks := 0) (g_X10_at (h := ((h2.setI 1062 (((70 + 19 * (m.mat x)) + (3)) + (m.pn (m.mat x))) y).setI 1062 ((((70 + 19 * (m.mat x)) + (3)) + (8)) + (m.pn (m.mat x))) z)) K (k := m.mat x)) wX10_at kX10_75 iX10_at eX10_at rfl rfl (by decide) (K.le (by decide)) (by decide) rfl rfl (Nat.le_of_ble_eq_true rfl) dX10_addPart_169 rfl rfl ?_
            refine q_iconst (v := nI 2) dX10_addPart_172 (by decide) ?_
            refine q_iaddN dX10_addPart_173 ?_
            refine q_dup2 dX10_addPart_174 rfl rfl ?_
            refine q_ialdN (len := 830) rfl dX10_addPart_175 (by decide) (K.le (by decide)) rfl (by omega) (by decide) ?_
            refine q_tv (show _ = (nI (m.pn (m.mat x))) from (((congrFun (q_sI _ _ _ _) _).trans (va_un _ _ (by omega))).trans (((congrFun (q_sI _ _ _ _) _).trans (va_un _ _ (by omega))).trans ((congrArg (h2.I 1062) (show ((70 + 19 * (m.mat x)) + (2)) = 72 + 19 * (m.mat x) by omega)).trans (M.pn (by omega)))))) ?_
            refine q_iconst (v := nI 1) dX10_addPart_176 (by decide) ?_
            refine q_iaddN dX10_addPart_177 ?_
            refine q_iastN (len := 830) rfl dX10_addPart_178 (by decide) (K.le (by decide)) rfl (by omega) (by decide) ?_
            refine q_iload dX10_addPart_179 rfl ?_
            refine q_iconst (v := nI 1) dX10_addPart_181 (by decide) ?_
            refine q_iaddN dX10_addPart_182 ?_
            refine q_iret dX10_addPart_183 rfl (Or.inl rfl) ?_
            rw [q_setI_row h2]
            repeat rw [q_rset]
            exact ⟨_, rfl, 0, _, (Or.inr (Or.inr (Or.inr ⟨(by first | assumption | exact (fun c => c (by assumption)) | exact Int32.not_lt.mpr (by assumption) | exact Int32.not_le.mpr (by assumption) | exact Int32.not_lt.mp (by assumption) | exact Int32.not_le.mp (by assumption) | omega), (q_no2 (by first | assumption | exact (fun c => c (by assumption)) | exact Int32.not_lt.mpr (by assumption) | exact Int32.not_le.mpr (by assumption) | exact Int32.not_lt.mp (by assumption) | exact Int32.not_le.mp (by assumption) | omega) (by first | assumption | exact (fun c => c (by assumption)) | exact Int32.not_lt.mpr (by assumption) | exact Int32.not_le.mpr (by assumption) | exact Int32.not_lt.mp (by assumption) | exact Int32.not_le.mp (by assumption) | omega)), (q_no2 (by first | assumption | exact (fun c => c (by assumption)) | exact Int32.not_lt.mpr (by assumption) | exact Int32.not_le.mpr (by assumption) | exact Int32.not_lt.mp (by assumption) | exact Int32.not_le.mp (by assumption) | omega) (by first | assumption | exact (fun c => c (by assumption)) | exact Int32.not_lt.mpr (by assumption) | exact Int32.not_le.mpr (by assumption) | exact Int32.not_lt.mp (by assumption) | exact Int32.not_le.mp (by assumption) | omega)), rfl⟩))), rfl, ((congrFun (q_rIn _ _ (by omega)) _).trans T2), (G2.row (by omega) (by omega)), fun e => absurd rfl e, fun _ => ⟨rfl, q_mr.r62 C2 ⟨M.adP (by omega) (by omega), hσ⟩⟩⟩
          · refine q_iconst (v := nI 1) dX10_addPart_92 (by decide) ?_
            refine q_goto (tgt := 97) dX10_addPart_93 rfl ?_
            refine q_iconst (v := nI 3) dX10_addPart_97 (by decide) ?_
            refine q_vD (kc := 0) (ks := 0) (g_thrT (h := (h.setI 1061 12 (nI (0)))) K (a := 3)) wX10_isThrown kX10_51 iX10_isThrown eX10_isThrown rfl rfl (by decide) (K.le (by decide)) (by decide) rfl rfl (Nat.le_of_ble_eq_true rfl) dX10_addPart_98 rfl rfl ?_
            rw [q_ss]
            refine q_if_eq (tgt := 106) dX10_addPart_101 rfl (fun c => absurd c (by decide)) (fun _ => ?_)
            refine q_iconst (v := nI 0) dX10_addPart_104 (by decide) ?_
            refine q_iret dX10_addPart_105 rfl (Or.inl rfl) ?_
            first | exact ⟨_, rfl, 1, _, (Or.inl ⟨(by first | assumption | exact (fun c => c (by assumption)) | exact Int32.not_lt.mpr (by assumption) | exact Int32.not_le.mpr (by assumption) | exact Int32.not_lt.mp (by assumption) | exact Int32.not_le.mp (by assumption) | omega), rfl⟩), rfl, (by rw [q_sI, va_us]), (q_gm.rf.set (by omega) (by omega)), fun _ => (C.thr 12 (by omega) _), fun e => absurd e (by decide)⟩ | exact ⟨_, rfl, 2, _, (Or.inr (Or.inl ⟨(by first | assumption | exact (fun c => c (by assumption)) | exact Int32.not_lt.mpr (by assumption) | exact Int32.not_le.mpr (by assumption) | exact Int32.not_lt.mp (by assumption) | exact Int32.not_le.mp (by assumption) | omega), (by first | exact Or.inl (by first | assumption | exact (fun c => c (by assumption)) | exact Int32.not_lt.mpr (by assumption) | exact Int32.not_le.mpr (by assumption) | exact Int32.not_lt.mp (by assumption) | exact Int32.not_le.mp (by assumption) | omega) | exact Or.inr (by first | assumption | exact (fun c => c (by assumption)) | exact Int32.not_lt.mpr (by assumption) | exact Int32.not_le.mpr (by assumption) | exact Int32.not_lt.mp (by assumption) | exact Int32.not_le.mp (by assumption) | omega)), rfl⟩)), rfl, (by rw [q_sI, va_us]), (q_gm.rf.set (by omega) (by omega)), fun _ => (C.thr 12 (by omega) _), fun e => absurd e (by decide)⟩ | exact ⟨_, rfl, 3, _, (Or.inr (Or.inr (Or.inl ⟨(by first | assumption | exact (fun c => c (by assumption)) | exact Int32.not_lt.mpr (by assumption) | exact Int32.not_le.mpr (by assumption) | exact Int32.not_lt.mp (by assumption) | exact Int32.not_le.mp (by assumption) | omega), (q_no2 (by first | assumption | exact (fun c => c (by assumption)) | exact Int32.not_lt.mpr (by assumption) | exact Int32.not_le.mpr (by assumption) | exact Int32.not_lt.mp (by assumption) | exact Int32.not_le.mp (by assumption) | omega) (by first | assumption | exact (fun c => c (by assumption)) | exact Int32.not_lt.mpr (by assumption) | exact Int32.not_le.mpr (by assumption) | exact Int32.not_lt.mp (by assumption) | exact Int32.not_le.mp (by assumption) | omega)), (by first | exact Or.inl (by first | assumption | exact (fun c => c (by assumption)) | exact Int32.not_lt.mpr (by assumption) | exact Int32.not_le.mpr (by assumption) | exact Int32.not_lt.mp (by assumption) | exact Int32.not_le.mp (by assumption) | omega) | exact Or.inr (by first | assumption | exact (fun c => c (by assumption)) | exact Int32.not_lt.mpr (by assumption) | exact Int32.not_le.mpr (by assumption) | exact Int32.not_lt.mp (by assumption) | exact Int32.not_le.mp (by assumption) | omega)), rfl⟩))), rfl, (by rw [q_sI, va_us]), (q_gm.rf.set (by omega) (by omega)), fun _ => (C.thr 12 (by omega) _), fun e => absurd e (by decide)⟩
      · refine q_if_ne (tgt := 51) dX10_addPart_44 rfl (fun c => absurd (by decide) c) (fun _ => ?_)
        refine q_iconst (v := nI 1) dX10_addPart_47 (by decide) ?_
        refine q_goto (tgt := 52) dX10_addPart_48 rfl ?_
        refine q_iconst (v := nI 2) dX10_addPart_52 (by decide) ?_
        refine q_vD (kc := 0) (ks := 0) (g_thrT (h := (h.setI 1061 12 (nI (0)))) K (a := 2)) wX10_isThrown kX10_51 iX10_isThrown eX10_isThrown rfl rfl (by decide) (K.le (by decide)) (by decide) rfl rfl (Nat.le_of_ble_eq_true rfl) dX10_addPart_53 rfl rfl ?_
        rw [q_ss]
        refine q_if_ne (tgt := 104) dX10_addPart_56 rfl (fun _ => ?_) (fun c => absurd c (by decide))
        refine q_iconst (v := nI 0) dX10_addPart_104 (by decide) ?_
        refine q_iret dX10_addPart_105 rfl (Or.inl rfl) ?_
        first | exact ⟨_, rfl, 1, _, (Or.inl ⟨(by first | assumption | exact (fun c => c (by assumption)) | exact Int32.not_lt.mpr (by assumption) | exact Int32.not_le.mpr (by assumption) | exact Int32.not_lt.mp (by assumption) | exact Int32.not_le.mp (by assumption) | omega), rfl⟩), rfl, (by rw [q_sI, va_us]), (q_gm.rf.set (by omega) (by omega)), fun _ => (C.thr 12 (by omega) _), fun e => absurd e (by decide)⟩ | exact ⟨_, rfl, 2, _, (Or.inr (Or.inl ⟨(by first | assumption | exact (fun c => c (by assumption)) | exact Int32.not_lt.mpr (by assumption) | exact Int32.not_le.mpr (by assumption) | exact Int32.not_lt.mp (by assumption) | exact Int32.not_le.mp (by assumption) | omega), (by first | exact Or.inl (by first | assumption | exact (fun c => c (by assumption)) | exact Int32.not_lt.mpr (by assumption) | exact Int32.not_le.mpr (by assumption) | exact Int32.not_lt.mp (by assumption) | exact Int32.not_le.mp (by assumption) | omega) | exact Or.inr (by first | assumption | exact (fun c => c (by assumption)) | exact Int32.not_lt.mpr (by assumption) | exact Int32.not_le.mpr (by assumption) | exact Int32.not_lt.mp (by assumption) | exact Int32.not_le.mp (by assumption) | omega)), rfl⟩)), rfl, (by rw [q_sI, va_us]), (q_gm.rf.set (by omega) (by omega)), fun _ => (C.thr 12 (by omega) _), fun e => absurd e (by decide)⟩ | exact ⟨_, rfl, 3, _, (Or.inr (Or.inr (Or.inl ⟨(by first | assumption | exact (fun c => c (by assumption)) | exact Int32.not_lt.mpr (by assumption) | exact Int32.not_le.mpr (by assumption) | exact Int32.not_lt.mp (by assumption) | exact Int32.not_le.mp (by assumption) | omega), (q_no2 (by first | assumption | exact (fun c => c (by assumption)) | exact Int32.not_lt.mpr (by assumption) | exact Int32.not_le.mpr (by assumption) | exact Int32.not_lt.mp (by assumption) | exact Int32.not_le.mp (by assumption) | omega) (by first | assumption | exact (fun c => c (by assumption)) | exact Int32.not_lt.mpr (by assumption) | exact Int32.not_le.mpr (by assumption) | exact Int32.not_lt.mp (by assumption) | exact Int32.not_le.mp (by assumption) | omega)), (by first | exact Or.inl (by first | assumption | exact (fun c => c (by assumption)) | exact Int32.not_lt.mpr (by assumption) | exact Int32.not_le.mpr (by assumption) | exact Int32.not_lt.mp (by assumption) | exact Int32.not_le.mp (by assumption) | omega) | exact Or.inr (by first | assumption | exact (fun c => c (by assumption)) | exact Int32.not_lt.mpr (by assumption) | exact Int32.not_le.mpr (by assumption) | exact Int32.not_lt.mp (by assumption) | exact Int32.not_le.mp (by assumption) | omega)), rfl⟩))), rfl, (by rw [q_sI, va_us]), (q_gm.rf.set (by omega) (by omega)), fun _ => (C.thr 12 (by omega) _), fun e => absurd e (by decide)⟩
    · refine q_if_eq (tgt := 47) dX10_addPart_33 rfl (fun _ => ?_) (fun c => absurd (by decide) c)
      refine q_iconst (v := nI 1) dX10_addPart_47 (by decide) ?_
      refine q_goto (tgt := 52) dX10_addPart_48 rfl ?_
      refine q_iconst (v := nI 2) dX10_addPart_52 (by decide) ?_
      refine q_vD (kc := 0) (ks := 0) (g_thrT (h := (h.setI 1061 12 (nI (0)))) K (a := 2)) wX10_isThrown kX10_51 iX10_isThrown eX10_isThrown rfl rfl (by decide) (K.le (by decide)) (by decide) rfl rfl (Nat.le_of_ble_eq_true rfl) dX10_addPart_53 rfl rfl ?_
      rw [q_ss]
      refine q_if_ne (tgt := 104) dX10_addPart_56 rfl (fun _ => ?_) (fun c => absurd c (by decide))
      refine q_iconst (v := nI 0) dX10_addPart_104 (by decide) ?_
      refine q_iret dX10_addPart_105 rfl (Or.inl rfl) ?_
      first | exact ⟨_, rfl, 1, _, (Or.inl ⟨(by first | assumption | exact (fun c => c (by assumption)) | exact Int32.not_lt.mpr (by assumption) | exact Int32.not_le.mpr (by assumption) | exact Int32.not_lt.mp (by assumption) | exact Int32.not_le.mp (by assumption) | omega), rfl⟩), rfl, (by rw [q_sI, va_us]), (q_gm.rf.set (by omega) (by omega)), fun _ => (C.thr 12 (by omega) _), fun e => absurd e (by decide)⟩ | exact ⟨_, rfl, 2, _, (Or.inr (Or.inl ⟨(by first | assumption | exact (fun c => c (by assumption)) | exact Int32.not_lt.mpr (by assumption) | exact Int32.not_le.mpr (by assumption) | exact Int32.not_lt.mp (by assumption) | exact Int32.not_le.mp (by assumption) | omega), (by first | exact Or.inl (by first | assumption | exact (fun c => c (by assumption)) | exact Int32.not_lt.mpr (by assumption) | exact Int32.not_le.mpr (by assumption) | exact Int32.not_lt.mp (by assumption) | exact Int32.not_le.mp (by assumption) | omega) | exact Or.inr (by first | assumption | exact (fun c => c (by assumption)) | exact Int32.not_lt.mpr (by assumption) | exact Int32.not_le.mpr (by assumption) | exact Int32.not_lt.mp (by assumption) | exact Int32.not_le.mp (by assumption) | omega)), rfl⟩)), rfl, (by rw [q_sI, va_us]), (q_gm.rf.set (by omega) (by omega)), fun _ => (C.thr 12 (by omega) _), fun e => absurd e (by decide)⟩ | exact ⟨_, rfl, 3, _, (Or.inr (Or.inr (Or.inl ⟨(by first | assumption | exact (fun c => c (by assumption)) | exact Int32.not_lt.mpr (by assumption) | exact Int32.not_le.mpr (by assumption) | exact Int32.not_lt.mp (by assumption) | exact Int32.not_le.mp (by assumption) | omega), (q_no2 (by first | assumption | exact (fun c => c (by assumption)) | exact Int32.not_lt.mpr (by assumption) | exact Int32.not_le.mpr (by assumption) | exact Int32.not_lt.mp (by assumption) | exact Int32.not_le.mp (by assumption) | omega) (by first | assumption | exact (fun c => c (by assumption)) | exact Int32.not_lt.mpr (by assumption) | exact Int32.not_le.mpr (by assumption) | exact Int32.not_lt.mp (by assumption) | exact Int32.not_le.mp (by assumption) | omega)), (by first | exact Or.inl (by first | assumption | exact (fun c => c (by assumption)) | exact Int32.not_lt.mpr (by assumption) | exact Int32.not_le.mpr (by assumption) | exact Int32.not_lt.mp (by assumption) | exact Int32.not_le.mp (by assumption) | omega) | exact Or.inr (by first | assumption | exact (fun c => c (by assumption)) | exact Int32.not_lt.mpr (by assumption) | exact Int32.not_le.mpr (by assumption) | exact Int32.not_lt.mp (by assumption) | exact Int32.not_le.mp (by assumption) | omega)), rfl⟩))), rfl, (by rw [q_sI, va_us]), (q_gm.rf.set (by omega) (by omega)), fun _ => (C.thr 12 (by omega) _), fun e => absurd e (by decide)⟩
  · refine q_iconst (v := nI 1) dX10_addPart_13 (by decide) ?_
    refine q_goto (tgt := 18) dX10_addPart_14 rfl ?_
    refine q_iconst (v := nI 1) dX10_addPart_18 (by decide) ?_
    refine q_vD (kc := 0) (ks := 0) (g_thrT (h := h) K (a := 1)) wX10_isThrown kX10_51 iX10_isThrown eX10_isThrown rfl rfl (by decide) (K.le (by decide)) (by decide) rfl rfl (Nat.le_of_ble_eq_true rfl) dX10_addPart_19 rfl rfl ?_
    refine q_if_ne (tgt := 104) dX10_addPart_22 rfl (fun _ => ?_) (fun c => absurd c (by decide))
    refine q_iconst (v := nI 0) dX10_addPart_104 (by decide) ?_
    refine q_iret dX10_addPart_105 rfl (Or.inl rfl) ?_
    first | exact ⟨_, rfl, 1, _, (Or.inl ⟨(by first | assumption | exact (fun c => c (by assumption)) | exact Int32.not_lt.mpr (by assumption) | exact Int32.not_le.mpr (by assumption) | exact Int32.not_lt.mp (by assumption) | exact Int32.not_le.mp (by assumption) | omega), rfl⟩), rfl, (by rw [q_sI, va_us]), (q_gm.rf.set (by omega) (by omega)), fun _ => (C.thr 12 (by omega) _), fun e => absurd e (by decide)⟩ | exact ⟨_, rfl, 2, _, (Or.inr (Or.inl ⟨(by first | assumption | exact (fun c => c (by assumption)) | exact Int32.not_lt.mpr (by assumption) | exact Int32.not_le.mpr (by assumption) | exact Int32.not_lt.mp (by assumption) | exact Int32.not_le.mp (by assumption) | omega), (by first | exact Or.inl (by first | assumption | exact (fun c => c (by assumption)) | exact Int32.not_lt.mpr (by assumption) | exact Int32.not_le.mpr (by assumption) | exact Int32.not_lt.mp (by assumption) | exact Int32.not_le.mp (by assumption) | omega) | exact Or.inr (by first | assumption | exact (fun c => c (by assumption)) | exact Int32.not_lt.mpr (by assumption) | exact Int32.not_le.mpr (by assumption) | exact Int32.not_lt.mp (by assumption) | exact Int32.not_le.mp (by assumption) | omega)), rfl⟩)), rfl, (by rw [q_sI, va_us]), (q_gm.rf.set (by omega) (by omega)), fun _ => (C.thr 12 (by omega) _), fun e => absurd e (by decide)⟩ | exact ⟨_, rfl, 3, _, (Or.inr (Or.inr (Or.inl ⟨(by first | assumption | exact (fun c => c (by assumption)) | exact Int32.not_lt.mpr (by assumption) | exact Int32.not_le.mpr (by assumption) | exact Int32.not_lt.mp (by assumption) | exact Int32.not_le.mp (by assumption) | omega), (q_no2 (by first | assumption | exact (fun c => c (by assumption)) | exact Int32.not_lt.mpr (by assumption) | exact Int32.not_le.mpr (by assumption) | exact Int32.not_lt.mp (by assumption) | exact Int32.not_le.mp (by assumption) | omega) (by first | assumption | exact (fun c => c (by assumption)) | exact Int32.not_lt.mpr (by assumption) | exact Int32.not_le.mpr (by assumption) | exact Int32.not_lt.mp (by assumption) | exact Int32.not_le.mp (by assumption) | omega)), (by first | exact Or.inl (by first | assumption | exact (fun c => c (by assumption)) | exact Int32.not_lt.mpr (by assumption) | exact Int32.not_le.mpr (by assumption) | exact Int32.not_lt.mp (by assumption) | exact Int32.not_le.mp (by assumption) | omega) | exact Or.inr (by first | assumption | exact (fun c => c (by assumption)) | exact Int32.not_lt.mpr (by assumption) | exact Int32.not_le.mpr (by assumption) | exact Int32.not_lt.mp (by assumption) | exact Int32.not_le.mp (by assumption) | omega)), rfl⟩))), rfl, (by rw [q_sI, va_us]), (q_gm.rf.set (by omega) (by omega)), fun _ => (C.thr 12 (by omega) _), fun e => absurd e (by decide)⟩
theorem g_X10_clearParts {Φ : q_Fx} {h : q_Hp} (K : q_Lk Φ h.R h.n) {m : q_W} {P : q_P} (C : q_mr h m P) (v : q_val m) {x : Int32} : q_Ct Φ false yX10_clearParts cX10_clearParts mX10_clearParts [.ref 1061, .int x] h (q_ex (q_pr h m P (q_k1 (m.mno x)) (nI (m.pn (m.mat x))) (m.clrP (m.mat x)) (P.kept m))) := by
  refine q_enter K.st rfl rfl (by decide) rfl (Nat.le_of_ble_eq_true rfl) (L := [_, _, none]) rfl ?_
  have hs := C.1
  have M := C.2.1.1
  have hσ := C.2.1.2
  have ht9 := M.t9
  have hc40 := M.c40
  have hn10 := M.n10
  have hp28 := M.pc28
  have hpe1 := M.pe1
  have hpf9 := M.pf9
  have hu := C.2.2.1.2.1
  have htp := C.2.2.1.2.2.2.1
  have hwr := C.2.2.1.2.2.2.2.2.1
  have hsv := C.2.2.1.2.2.2.2.2.2.2
  refine q_aload_n dX10_clearParts_0 rfl ?_
  refine q_iload_n dX10_clearParts_1 rfl ?_
  by_cases c1 : m.mno x
  · refine q_vD (kc := 0) (ks := 0) (g_nosT (h := h) K ((Or.inl rfl)) hs (M) (x := x) c1) wX10_isNoSession kX10_90 iX10_isNoSession eX10_isNoSession rfl rfl (by decide) (K.le (by decide)) (by decide) rfl rfl (Nat.le_of_ble_eq_true rfl) dX10_clearParts_2 rfl rfl ?_
    refine q_if_eq (tgt := 10) dX10_clearParts_5 rfl (fun c => absurd c (by decide)) (fun _ => ?_)
    refine q_iconst (v := nI 0) dX10_clearParts_8 (by decide) ?_
    refine q_iret dX10_clearParts_9 rfl (Or.inl rfl) ?_
    exact ⟨_, rfl, 1, _, (Or.inl ⟨(by first | assumption | exact (fun c => c (by assumption)) | exact Int32.not_lt.mpr (by assumption) | exact Int32.not_le.mpr (by assumption) | exact Int32.not_lt.mp (by assumption) | exact Int32.not_le.mp (by assumption) | omega), rfl⟩), rfl, (by rw [q_sI, va_us]), (q_gm.rf.set (by omega) (by omega)), fun _ => (C.thr 12 (by omega) _), fun e => absurd e (by decide)⟩
  · refine q_vD (kc := 0) (ks := 0) (g_nosF (h := h) K ((Or.inl rfl)) hs (M) (x := x) c1) wX10_isNoSession kX10_90 iX10_isNoSession eX10_isNoSession rfl rfl (by decide) (K.le (by decide)) (by decide) rfl rfl (Nat.le_of_ble_eq_true rfl) dX10_clearParts_2 rfl rfl ?_
    have hat := q_mat hc40 c1
    refine q_if_eq (tgt := 10) dX10_clearParts_5 rfl (fun _ => ?_) (fun c => absurd (by decide) c)
    refine q_aload_n dX10_clearParts_10 rfl ?_
    refine q_vR (kc := 0) (ks := 0) (g_X10_keeps (h := (h.setI 1061 12 (nI 0))) K (C.thr 12 (by omega) _)) wX10_keeps kX10_55 iX10_keeps eX10_keeps rfl rfl (by decide) (K.le (by decide)) (by decide) rfl rfl (Nat.le_of_ble_eq_true rfl) dX10_clearParts_11 rfl rfl ?_
    rintro v' h2 ⟨rfl, e2⟩
    obtain ⟨C2, G2a, T2a, I2⟩ := q_mr.kept (C.thr 12 (by omega) (nI 0))
    rw [← e2] at C2 G2a T2a I2
    have G2 : q_gm h h2 := (q_gm.rf.set (by omega) (by omega)).tr G2a
    have T2 : h2.I 1061 12 = nI 0 := T2a.trans (by rw [q_sI, va_us])
    have K : q_Lk Φ h2.R h2.n := K.gm G2
    have hs := C2.1
    have M := C2.2.1.1
    refine q_aload_n dX10_clearParts_14 rfl ?_
    refine fRX10_9 (o := some 1062) dX10_clearParts_15 rfl (by decide) (K.le (by decide)) hs ?_
    refine q_rfS ?_
    refine q_aload_n dX10_clearParts_18 rfl ?_
    refine q_aload_n dX10_clearParts_19 rfl ?_
    refine q_iload_n dX10_clearParts_20 rfl ?_
    refine q_vD (kc := 0) (ks := 0) (g_X10_place (h := h2) K ((Or.inl rfl)) hs (M) (x := x)) wX10_place kX10_84 iX10_place eX10_place rfl rfl (by decide) (K.le (by decide)) (by decide) rfl rfl (Nat.le_of_ble_eq_true rfl) dX10_clearParts_21 rfl rfl ?_
    rw [hat.2.2]
    refine q_vD (kc := 0) (ks := 0) (g_X10_at (h := h2) K (k := m.mat x)) wX10_at kX10_75 iX10_at eX10_at rfl rfl (by decide) (K.le (by decide)) (by decide) rfl rfl (Nat.le_of_ble_eq_true rfl) dX10_clearParts_24 rfl rfl ?_
    refine q_iconst (v := nI 2) dX10_clearParts_27 (by decide) ?_
    refine q_iaddN dX10_clearParts_28 ?_
    refine q_ialdN (len := 830) rfl dX10_clearParts_29 (by decide) (K.le (by decide)) rfl (by omega) (by decide) ?_
    refine q_tv (show _ = (nI (m.pn (m.mat x))) from ((congrArg (h2.I 1062) (show ((70 + 19 * (m.mat x)) + (2)) = 72 + 19 * (m.mat x) by omega)).trans (M.pn (by omega)))) ?_
    refine q_istore_n (L' := [_, _, _]) dX10_clearParts_30 rfl (by decide) rfl ?_
    refine q_aload_n dX10_clearParts_31 rfl ?_
    refine fRX10_9 (o := some 1062) dX10_clearParts_32 rfl (by decide) (K.le (by decide)) hs ?_
    refine q_rfS ?_
    refine q_aload_n dX10_clearParts_35 rfl ?_
    refine q_aload_n dX10_clearParts_36 rfl ?_
    refine q_iload_n dX10_clearParts_37 rfl ?_
    refine q_vD (kc := 0) (ks := 0) (g_X10_place (h := h2) K ((Or.inl rfl)) hs (M) (x := x)) wX10_place kX10_84 iX10_place eX10_place rfl rfl (by decide) (K.le (by decide)) (by decide) rfl rfl (Nat.le_of_ble_eq_true rfl) dX10_clearParts_38 rfl rfl ?_
    rw [hat.2.2]
    refine q_vD (kc := 0) (ks := 0) (g_X10_at (h := h2) K (k := m.mat x)) wX10_at kX10_75 iX10_at eX10_at rfl rfl (by decide) (K.le (by decide)) (by decide) rfl rfl (Nat.le_of_ble_eq_true rfl) dX10_clearParts_41 rfl rfl ?_
    refine q_iconst (v := nI 2) dX10_clearParts_44 (by decide) ?_
    refine q_iaddN dX10_clearParts_45 ?_
    refine q_iconst (v := nI 0) dX10_clearParts_46 (by decide) ?_
    refine q_iastN (len := 830) rfl dX10_clearParts_47 (by decide) (K.le (by decide)) rfl (by omega) (by decide) ?_
    refine q_iload_n dX10_clearParts_48 rfl ?_
    refine q_iret dX10_clearParts_49 rfl (Or.inl rfl) ?_
    rw [q_setI_row h2]
    exact ⟨_, rfl, 0, _, (Or.inr ⟨(by first | assumption | exact (fun c => c (by assumption)) | exact Int32.not_lt.mpr (by assumption) | exact Int32.not_le.mpr (by assumption) | exact Int32.not_lt.mp (by assumption) | exact Int32.not_le.mp (by assumption) | omega), rfl⟩), rfl, ((congrFun (q_rIn _ _ (by omega)) _).trans T2), (G2.row (by omega) (by omega)), fun e => absurd rfl e, fun _ => ⟨rfl, q_mr.r62 C2 ⟨M.clr (by omega), hσ⟩⟩⟩
theorem g_X10_moveSession {Φ : q_Fx} {h : q_Hp} (K : q_Lk Φ h.R h.n) {m : q_W} {P : q_P} (C : q_mr h m P) (v : q_val m) {x d : Int32} : q_Ct Φ false yX10_moveSession cX10_moveSession mX10_moveSession [.ref 1061, .int x, .int d] h (q_ex (q_pr h m P (q_k2 (m.mno x) (¬ (nI 0 ≤ d ∧ d ≤ nI m.t))) (nI (m.dy (m.mat x))) (m.movS (m.mat x) d.toNatClampNeg) (P.kept m))) := by
  refine q_enter K.st rfl rfl (by decide) rfl (Nat.le_of_ble_eq_true rfl) (L := [_, _, _, none]) rfl ?_
  have hs := C.1
  have M := C.2.1.1
  have hσ := C.2.1.2
  have ht9 := M.t9
  have hc40 := M.c40
  have hn10 := M.n10
  have hp28 := M.pc28
  have hpe1 := M.pe1
  have hpf9 := M.pf9
  have hu := C.2.2.1.2.1
  have htp := C.2.2.1.2.2.2.1
  have hwr := C.2.2.1.2.2.2.2.2.1
  have hsv := C.2.2.1.2.2.2.2.2.2.2
  refine q_aload_n dX10_moveSession_0 rfl ?_
  refine q_iload_n dX10_moveSession_1 rfl ?_
  by_cases c1 : m.mno x
  · refine q_vD (kc := 0) (ks := 0) (g_nosT (h := h) K ((Or.inl rfl)) hs (M) (x := x) c1) wX10_isNoSession kX10_90 iX10_isNoSession eX10_isNoSession rfl rfl (by decide) (K.le (by decide)) (by decide) rfl rfl (Nat.le_of_ble_eq_true rfl) dX10_moveSession_2 rfl rfl ?_
    refine q_if_ne (tgt := 21) dX10_moveSession_5 rfl (fun _ => ?_) (fun c => absurd c (by decide))
    refine q_iconst (v := nI 0) dX10_moveSession_21 (by decide) ?_
    refine q_iret dX10_moveSession_22 rfl (Or.inl rfl) ?_
    first | exact ⟨_, rfl, 1, _, (Or.inl ⟨(by first | assumption | exact (fun c => c (by assumption)) | exact Int32.not_lt.mpr (by assumption) | exact Int32.not_le.mpr (by assumption) | exact Int32.not_lt.mp (by assumption) | exact Int32.not_le.mp (by assumption) | omega), rfl⟩), rfl, (by rw [q_sI, va_us]), (q_gm.rf.set (by omega) (by omega)), fun _ => (C.thr 12 (by omega) _), fun e => absurd e (by decide)⟩ | exact ⟨_, rfl, 2, _, (Or.inr (Or.inl ⟨(by first | assumption | exact (fun c => c (by assumption)) | exact Int32.not_lt.mpr (by assumption) | exact Int32.not_le.mpr (by assumption) | exact Int32.not_lt.mp (by assumption) | exact Int32.not_le.mp (by assumption) | omega), (by first | assumption | exact (fun c => c (by assumption)) | exact Int32.not_lt.mpr (by assumption) | exact Int32.not_le.mpr (by assumption) | exact Int32.not_lt.mp (by assumption) | exact Int32.not_le.mp (by assumption) | omega), rfl⟩)), rfl, (by rw [q_sI, va_us]), (q_gm.rf.set (by omega) (by omega)), fun _ => (C.thr 12 (by omega) _), fun e => absurd e (by decide)⟩
  · refine q_vD (kc := 0) (ks := 0) (g_nosF (h := h) K ((Or.inl rfl)) hs (M) (x := x) c1) wX10_isNoSession kX10_90 iX10_isNoSession eX10_isNoSession rfl rfl (by decide) (K.le (by decide)) (by decide) rfl rfl (Nat.le_of_ble_eq_true rfl) dX10_moveSession_2 rfl rfl ?_
    have hat := q_mat hc40 c1
    refine q_if_ne (tgt := 21) dX10_moveSession_5 rfl (fun c => absurd (by decide) c) (fun _ => ?_)
    refine q_aload_n dX10_moveSession_8 rfl ?_
    refine q_aload_n dX10_moveSession_9 rfl ?_
    refine q_iload_n dX10_moveSession_10 rfl ?_
    refine q_vD (kc := 0) (ks := 0) (g_X10_isNoDay (h := (h.setI 1061 12 (nI 0))) K ((Or.inl rfl)) hs ((show (h.setI 1061 12 (nI 0)).I 1062 = h.I 1062 from (q_sIn _ _ _ (by omega))).symm ▸ M) (d := d)) wX10_isNoDay kX10_58 iX10_isNoDay eX10_isNoDay rfl rfl (by decide) (K.le (by decide)) (by decide) rfl rfl (Nat.le_of_ble_eq_true rfl) dX10_moveSession_11 rfl rfl ?_
    refine q_spl (fun c7 => ?_) (fun c8 => ?_)
    · refine q_iconst (v := nI 2) dX10_moveSession_14 (by decide) ?_
      refine q_vD (kc := 0) (ks := 0) (g_thrT (h := (h.setI 1061 12 (nI 0))) K (a := 2)) wX10_isThrown kX10_51 iX10_isThrown eX10_isThrown rfl rfl (by decide) (K.le (by decide)) (by decide) rfl rfl (Nat.le_of_ble_eq_true rfl) dX10_moveSession_15 rfl rfl ?_
      rw [q_ss]
      refine q_if_eq (tgt := 23) dX10_moveSession_18 rfl (fun c => absurd c (by decide)) (fun _ => ?_)
      refine q_iconst (v := nI 0) dX10_moveSession_21 (by decide) ?_
      refine q_iret dX10_moveSession_22 rfl (Or.inl rfl) ?_
      first | exact ⟨_, rfl, 1, _, (Or.inl ⟨(by first | assumption | exact (fun c => c (by assumption)) | exact Int32.not_lt.mpr (by assumption) | exact Int32.not_le.mpr (by assumption) | exact Int32.not_lt.mp (by assumption) | exact Int32.not_le.mp (by assumption) | omega), rfl⟩), rfl, (by rw [q_sI, va_us]), (q_gm.rf.set (by omega) (by omega)), fun _ => (C.thr 12 (by omega) _), fun e => absurd e (by decide)⟩ | exact ⟨_, rfl, 2, _, (Or.inr (Or.inl ⟨(by first | assumption | exact (fun c => c (by assumption)) | exact Int32.not_lt.mpr (by assumption) | exact Int32.not_le.mpr (by assumption) | exact Int32.not_lt.mp (by assumption) | exact Int32.not_le.mp (by assumption) | omega), (by first | assumption | exact (fun c => c (by assumption)) | exact Int32.not_lt.mpr (by assumption) | exact Int32.not_le.mpr (by assumption) | exact Int32.not_lt.mp (by assumption) | exact Int32.not_le.mp (by assumption) | omega), rfl⟩)), rfl, (by rw [q_sI, va_us]), (q_gm.rf.set (by omega) (by omega)), fun _ => (C.thr 12 (by omega) _), fun e => absurd e (by decide)⟩
    · refine q_iconst (v := nI 2) dX10_moveSession_14 (by decide) ?_
      refine q_vD (kc := 0) (ks := 0) (g_thrF (h := (h.setI 1061 12 (nI 0))) K (a := 2)) wX10_isThrown kX10_51 iX10_isThrown eX10_isThrown rfl rfl (by decide) (K.le (by decide)) (by decide) rfl rfl (Nat.le_of_ble_eq_true rfl) dX10_moveSession_15 rfl rfl ?_
      rw [q_ss]
      refine q_if_eq (tgt := 23) dX10_moveSession_18 rfl (fun _ => ?_) (fun c => absurd (by decide) c)
      obtain ⟨j, hj1, hj2, rfl⟩ := q_rng (x := d) (a := 0) (b := m.t) (fun f => by first | exact f (by assumption) | exact absurd f (by assumption)) (by omega) (by omega)
      try rw [nI_clamp (show j < 2 ^ 31 by omega)]
      refine q_aload_n dX10_moveSession_23 rfl ?_
      refine q_vR (kc := 0) (ks := 0) (g_X10_keeps (h := (h.setI 1061 12 (nI (0)))) K (C.thr 12 (by omega) _)) wX10_keeps kX10_55 iX10_keeps eX10_keeps rfl rfl (by decide) (K.le (by decide)) (by decide) rfl rfl (Nat.le_of_ble_eq_true rfl) dX10_moveSession_24 rfl rfl ?_
      rintro v' h2 ⟨rfl, e2⟩
      obtain ⟨C2, G2a, T2a, I2⟩ := q_mr.kept (C.thr 12 (by omega) (nI 0))
      rw [← e2] at C2 G2a T2a I2
      have G2 : q_gm h h2 := (q_gm.rf.set (by omega) (by omega)).tr G2a
      have T2 : h2.I 1061 12 = nI 0 := T2a.trans (by rw [q_sI, va_us])
      have K : q_Lk Φ h2.R h2.n := K.gm G2
      have hs := C2.1
      have M := C2.2.1.1
      refine q_aload_n dX10_moveSession_27 rfl ?_
      refine fRX10_9 (o := some 1062) dX10_moveSession_28 rfl (by decide) (K.le (by decide)) hs ?_
      refine q_rfS ?_
      refine q_aload_n dX10_moveSession_31 rfl ?_
      refine q_aload_n dX10_moveSession_32 rfl ?_
      refine q_iload_n dX10_moveSession_33 rfl ?_
      refine q_vD (kc := 0) (ks := 0) (g_X10_place (h := h2) K ((Or.inl rfl)) hs (M) (x := x)) wX10_place kX10_84 iX10_place eX10_place rfl rfl (by decide) (K.le (by decide)) (by decide) rfl rfl (Nat.le_of_ble_eq_true rfl) dX10_moveSession_34 rfl rfl ?_
      rw [hat.2.2]
      refine q_vD (kc := 0) (ks := 0) (g_X10_at (h := h2) K (k := m.mat x)) wX10_at kX10_75 iX10_at eX10_at rfl rfl (by decide) (K.le (by decide)) (by decide) rfl rfl (Nat.le_of_ble_eq_true rfl) dX10_moveSession_37 rfl rfl ?_
      refine q_iconst (v := nI 1) dX10_moveSession_40 (by decide) ?_
      refine q_iaddN dX10_moveSession_41 ?_
      refine q_ialdN (len := 830) rfl dX10_moveSession_42 (by decide) (K.le (by decide)) rfl (by omega) (by decide) ?_
      refine q_tv (show _ = (nI (m.dy (m.mat x))) from ((congrArg (h2.I 1062) (show ((70 + 19 * (m.mat x)) + (1)) = 71 + 19 * (m.mat x) by omega)).trans (M.dy (by omega)))) ?_
      refine q_istore_n (L' := [_, _, _, _]) dX10_moveSession_43 rfl (by decide) rfl ?_
      refine q_aload_n dX10_moveSession_44 rfl ?_
      refine fRX10_9 (o := some 1062) dX10_moveSession_45 rfl (by decide) (K.le (by decide)) hs ?_
      refine q_rfS ?_
      refine q_aload_n dX10_moveSession_48 rfl ?_
      refine q_aload_n dX10_moveSession_49 rfl ?_
      refine q_iload_n dX10_moveSession_50 rfl ?_
      refine q_vD (kc := 0) (ks := 0) (g_X10_place (h := h2) K ((Or.inl rfl)) hs (M) (x := x)) wX10_place kX10_84 iX10_place eX10_place rfl rfl (by decide) (K.le (by decide)) (by decide) rfl rfl (Nat.le_of_ble_eq_true rfl) dX10_moveSession_51 rfl rfl ?_
      rw [hat.2.2]
      refine q_vD (kc := 0) (ks := 0) (g_X10_at (h := h2) K (k := m.mat x)) wX10_at kX10_75 iX10_at eX10_at rfl rfl (by decide) (K.le (by decide)) (by decide) rfl rfl (Nat.le_of_ble_eq_true rfl) dX10_moveSession_54 rfl rfl ?_
      refine q_iconst (v := nI 1) dX10_moveSession_57 (by decide) ?_
      refine q_iaddN dX10_moveSession_58 ?_
      refine q_iload_n dX10_moveSession_59 rfl ?_
      refine q_iastN (len := 830) rfl dX10_moveSession_60 (by decide) (K.le (by decide)) rfl (by omega) (by decide) ?_
      refine q_iload_n dX10_moveSession_61 rfl ?_
      refine q_iret dX10_moveSession_62 rfl (Or.inl rfl) ?_
      rw [q_setI_row h2]
      exact ⟨_, rfl, 0, _, (Or.inr (Or.inr ⟨(by first | assumption | exact (fun c => c (by assumption)) | exact Int32.not_lt.mpr (by assumption) | exact Int32.not_le.mpr (by assumption) | exact Int32.not_lt.mp (by assumption) | exact Int32.not_le.mp (by assumption) | omega), (by first | assumption | exact (fun c => c (by assumption)) | exact Int32.not_lt.mpr (by assumption) | exact Int32.not_le.mpr (by assumption) | exact Int32.not_lt.mp (by assumption) | exact Int32.not_le.mp (by assumption) | omega), rfl⟩)), rfl, ((congrFun (q_rIn _ _ (by omega)) _).trans T2), (G2.row (by omega) (by omega)), fun e => absurd rfl e, fun _ => ⟨rfl, q_mr.r62 C2 ⟨M.mov (by omega) (by omega), hσ⟩⟩⟩
theorem g_X10_removeSession {Φ : q_Fx} {h : q_Hp} (K : q_Lk Φ h.R h.n) {m : q_W} {P : q_P} (C : q_mr h m P) (v : q_val m) {x : Int32} : q_Ct Φ false yX10_removeSession cX10_removeSession mX10_removeSession [.ref 1061, .int x] h (q_ex (q_pr h m P (q_k1 (m.mno x)) (nI (m.c - 1)) (m.rmS (m.mat x)) (P.kept m))) := by
  refine q_enter K.st rfl rfl (by decide) rfl (Nat.le_of_ble_eq_true rfl) (L := [_, _, none]) rfl ?_
  have hs := C.1
  have M := C.2.1.1
  have hσ := C.2.1.2
  have ht9 := M.t9
  have hc40 := M.c40
  have hn10 := M.n10
  have hp28 := M.pc28
  have hpe1 := M.pe1
  have hpf9 := M.pf9
  have hu := C.2.2.1.2.1
  have htp := C.2.2.1.2.2.2.1
  have hwr := C.2.2.1.2.2.2.2.2.1
  have hsv := C.2.2.1.2.2.2.2.2.2.2
  refine q_aload_n dX10_removeSession_0 rfl ?_
  refine q_iload_n dX10_removeSession_1 rfl ?_
  by_cases c1 : m.mno x
  · refine q_vD (kc := 0) (ks := 0) (g_nosT (h := h) K ((Or.inl rfl)) hs (M) (x := x) c1) wX10_isNoSession kX10_90 iX10_isNoSession eX10_isNoSession rfl rfl (by decide) (K.le (by decide)) (by decide) rfl rfl (Nat.le_of_ble_eq_true rfl) dX10_removeSession_2 rfl rfl ?_
    refine q_if_eq (tgt := 10) dX10_removeSession_5 rfl (fun c => absurd c (by decide)) (fun _ => ?_)
    refine q_iconst (v := nI 0) dX10_removeSession_8 (by decide) ?_
    refine q_iret dX10_removeSession_9 rfl (Or.inl rfl) ?_
    exact ⟨_, rfl, 1, _, (Or.inl ⟨(by first | assumption | exact (fun c => c (by assumption)) | exact Int32.not_lt.mpr (by assumption) | exact Int32.not_le.mpr (by assumption) | exact Int32.not_lt.mp (by assumption) | exact Int32.not_le.mp (by assumption) | omega), rfl⟩), rfl, (by rw [q_sI, va_us]), (q_gm.rf.set (by omega) (by omega)), fun _ => (C.thr 12 (by omega) _), fun e => absurd e (by decide)⟩
  · refine q_vD (kc := 0) (ks := 0) (g_nosF (h := h) K ((Or.inl rfl)) hs (M) (x := x) c1) wX10_isNoSession kX10_90 iX10_isNoSession eX10_isNoSession rfl rfl (by decide) (K.le (by decide)) (by decide) rfl rfl (Nat.le_of_ble_eq_true rfl) dX10_removeSession_2 rfl rfl ?_
    have hat := q_mat hc40 c1
    refine q_if_eq (tgt := 10) dX10_removeSession_5 rfl (fun _ => ?_) (fun c => absurd (by decide) c)
    refine q_aload_n dX10_removeSession_10 rfl ?_
    refine q_vR (kc := 0) (ks := 0) (g_X10_keeps (h := (h.setI 1061 12 (nI 0))) K (C.thr 12 (by omega) _)) wX10_keeps kX10_55 iX10_keeps eX10_keeps rfl rfl (by decide) (K.le (by decide)) (by decide) rfl rfl (Nat.le_of_ble_eq_true rfl) dX10_removeSession_11 rfl rfl ?_
    rintro v' h2 ⟨rfl, e2⟩
    obtain ⟨C2, G2a, T2a, I2⟩ := q_mr.kept (C.thr 12 (by omega) (nI 0))
    rw [← e2] at C2 G2a T2a I2
    have G2 : q_gm h h2 := (q_gm.rf.set (by omega) (by omega)).tr G2a
    have T2 : h2.I 1061 12 = nI 0 := T2a.trans (by rw [q_sI, va_us])
    have K : q_Lk Φ h2.R h2.n := K.gm G2
    have hs := C2.1
    have M := C2.2.1.1
    refine q_aload_n dX10_removeSession_14 rfl ?_
    refine q_aload_n dX10_removeSession_15 rfl ?_
    refine q_iload_n dX10_removeSession_16 rfl ?_
    refine q_vD (kc := 0) (ks := 0) (g_X10_place (h := h2) K ((Or.inl rfl)) hs (M) (x := x)) wX10_place kX10_84 iX10_place eX10_place rfl rfl (by decide) (K.le (by decide)) (by decide) rfl rfl (Nat.le_of_ble_eq_true rfl) dX10_removeSession_17 rfl rfl ?_
    rw [hat.2.2]
    refine q_vD (kc := 0) (ks := 0) (g_X10_at (h := h2) K (k := m.mat x)) wX10_at kX10_75 iX10_at eX10_at rfl rfl (by decide) (K.le (by decide)) (by decide) rfl rfl (Nat.le_of_ble_eq_true rfl) dX10_removeSession_20 rfl rfl ?_
    refine q_istore_n (L' := [_, _, _]) dX10_removeSession_23 rfl (by decide) rfl ?_
    refine q_loop (ι := Nat) (μ := fun q => 70 + 19 * m.c - q) (P := fun q => 70 + 19 * m.mat x ≤ q ∧ q ≤ 70 + 19 * (m.c - 1)) (Lf := fun q => [some (.ref 1061), some (.int x), some (.int (nI (q)))]) (hf := fun q => (h2.rowI 1062 (q_sh (h2.I 1062) (70 + 19 * m.mat x) q))) (fun q hi24 ih24 => ?_) (70 + 19 * m.mat x) (⟨by omega, by omega⟩) (q_sub_s rfl (q_sub_i rfl (q_sub_i rfl q_sub_0))) (by rw [q_sh_0, q_rid])
    skip
    refine q_iload_n dX10_removeSession_24 rfl ?_
    refine q_aload_n dX10_removeSession_25 rfl ?_
    refine q_aload_n dX10_removeSession_26 rfl ?_
    refine fRX10_9 (o := some 1062) dX10_removeSession_27 rfl (by decide) (K.le (by decide)) hs ?_
    refine q_rfS ?_
    refine q_iconst (v := nI 2) dX10_removeSession_30 (by decide) ?_
    refine q_ialdN (len := 830) rfl dX10_removeSession_31 (by decide) (K.le (by decide)) rfl (by omega) (by decide) ?_
    refine q_tv (show _ = (nI (m.c)) from ((congrFun (q_rI _ _ _) _).trans ((if_neg (by omega)).trans M.c))) ?_
    refine q_iconst (v := nI 1) dX10_removeSession_32 (by decide) ?_
    refine q_isubN (by omega) dX10_removeSession_33 ?_
    refine q_vD (kc := 0) (ks := 0) (g_X10_at (h := (h2.rowI 1062 (q_sh (h2.I 1062) (70 + 19 * m.mat x) q))) K (k := (m.c) - (1))) wX10_at kX10_75 iX10_at eX10_at rfl rfl (by decide) (K.le (by decide)) (by decide) rfl rfl (Nat.le_of_ble_eq_true rfl) dX10_removeSession_34 rfl rfl ?_
    refine q_icmp_geN (by omega) (by omega) (tgt := 61) dX10_removeSession_37 rfl (fun c7 => ?_) (fun c8 => ?_)
    · refine q_aload_n dX10_removeSession_61 rfl ?_
      refine fRX10_9 (o := some 1062) dX10_removeSession_62 rfl (by decide) (K.le (by decide)) hs ?_
      refine q_rfS ?_
      refine q_iconst (v := nI 2) dX10_removeSession_65 (by decide) ?_
      refine q_dup2 dX10_removeSession_66 rfl rfl ?_
      refine q_ialdN (len := 830) rfl dX10_removeSession_67 (by decide) (K.le (by decide)) rfl (by omega) (by decide) ?_
      refine q_tv (show _ = (nI (m.c)) from ((congrFun (q_rI _ _ _) _).trans ((if_neg (by omega)).trans M.c))) ?_
      refine q_iconst (v := nI 1) dX10_removeSession_68 (by decide) ?_
      refine q_isubN (by omega) dX10_removeSession_69 ?_
      refine q_iastN (len := 830) rfl dX10_removeSession_70 (by decide) (K.le (by decide)) rfl (by omega) (by decide) ?_
      refine q_aload_n dX10_removeSession_71 rfl ?_
      refine fRX10_9 (o := some 1062) dX10_removeSession_72 rfl (by decide) (K.le (by decide)) hs ?_
      refine q_rfS ?_
      refine q_iconst (v := nI 2) dX10_removeSession_75 (by decide) ?_
      refine q_ialdN (len := 830) rfl dX10_removeSession_76 (by decide) (K.le (by decide)) rfl (by omega) (by decide) ?_
      refine q_tv (show _ = (nI ((m.c) - (1))) from ((congrFun (q_sI _ _ _ _) _).trans (va_us _ _ _))) ?_
      refine q_iret dX10_removeSession_77 rfl (Or.inl rfl) ?_
      have eq9 : q = 70 + 19 * (m.c - 1) := by omega
      rw [q_rset, eq9]
      exact ⟨_, rfl, 0, _, (Or.inr ⟨(by first | assumption | exact (fun c => c (by assumption)) | exact Int32.not_lt.mpr (by assumption) | exact Int32.not_le.mpr (by assumption) | exact Int32.not_lt.mp (by assumption) | exact Int32.not_le.mp (by assumption) | omega), rfl⟩), rfl, ((congrFun (q_rIn _ _ (by omega)) _).trans T2), (G2.row (by omega) (by omega)), fun e => absurd rfl e, fun _ => ⟨rfl, q_mr.r62 C2 ⟨M.rem (by omega), hσ⟩⟩⟩
    · refine q_aload_n dX10_removeSession_40 rfl ?_
      refine fRX10_9 (o := some 1062) dX10_removeSession_41 rfl (by decide) (K.le (by decide)) hs ?_
      refine q_rfS ?_
      refine q_iload_n dX10_removeSession_44 rfl ?_
      refine q_aload_n dX10_removeSession_45 rfl ?_
      refine fRX10_9 (o := some 1062) dX10_removeSession_46 rfl (by decide) (K.le (by decide)) hs ?_
      refine q_rfS ?_
      refine q_iload_n dX10_removeSession_49 rfl ?_
      refine q_bipush (v := nI 19) dX10_removeSession_50 (by decide) ?_
      refine q_iaddN dX10_removeSession_52 ?_
      refine q_ialdN (len := 830) rfl dX10_removeSession_53 (by decide) (K.le (by decide)) rfl (by omega) (by decide) ?_
      refine q_tv (show _ = (h2.I 1062 ((q) + (19))) from ((congrFun (q_rI _ _ _) _).trans (if_neg (by omega)))) ?_
      refine q_iastN (len := 830) rfl dX10_removeSession_54 (by decide) (K.le (by decide)) rfl (by omega) (by decide) ?_
      refine q_iincN (n := 1) (L' := [_, _, _]) (by decide) dX10_removeSession_55 rfl rfl (by decide) rfl ?_
      refine q_goto (tgt := 24) dX10_removeSession_58 rfl ?_
      exact q_to (ih24 (q + 1) (⟨by omega, by omega⟩) (by omega)) (q_sub_s rfl (q_sub_i rfl (q_sub_i rfl q_sub_0))) (by rw [q_rset, q_sh_s _ _ _ (by omega)])
theorem g_X10_startPlan {Φ : q_Fx} {h : q_Hp} (K : q_Lk Φ h.R h.n) {m : q_W} {P : q_P} (C : q_mr h m P) (v : q_val m) : q_Ct Φ false yX10_startPlan cX10_startPlan mX10_startPlan [.ref 1061] h (q_ex (q_pr h m P q_k0 (if m.pe = 1 then nI m.pc else nI 0) (m.sP 1 m.t 0 m.tg) (P.kept m))) := by
  refine q_enter K.st rfl rfl (by decide) rfl (Nat.le_of_ble_eq_true rfl) (L := [_, none]) rfl ?_
  have hs := C.1
  have M := C.2.1.1
  have hσ := C.2.1.2
  have ht9 := M.t9
  have hc40 := M.c40
  have hn10 := M.n10
  have hp28 := M.pc28
  have hpe1 := M.pe1
  have hpf9 := M.pf9
  have hu := C.2.2.1.2.1
  have htp := C.2.2.1.2.2.2.1
  have hwr := C.2.2.1.2.2.2.2.2.1
  have hsv := C.2.2.1.2.2.2.2.2.2.2
  refine q_aload_n dX10_startPlan_0 rfl ?_
  refine q_iconst (v := nI 0) dX10_startPlan_1 (by decide) ?_
  refine pIX10_31 dX10_startPlan_2 rfl (by decide) (K.le (by decide)) ?_
  refine q_aload_n dX10_startPlan_5 rfl ?_
  refine q_vR (kc := 0) (ks := 0) (g_X10_keeps (h := (h.setI 1061 12 (nI (0)))) K (C.thr 12 (by omega) _)) wX10_keeps kX10_55 iX10_keeps eX10_keeps rfl rfl (by decide) (K.le (by decide)) (by decide) rfl rfl (Nat.le_of_ble_eq_true rfl) dX10_startPlan_6 rfl rfl ?_
  rintro v' h2 ⟨rfl, e2⟩
  obtain ⟨C2, G2a, T2a, I2⟩ := q_mr.kept (C.thr 12 (by omega) (nI 0))
  rw [← e2] at C2 G2a T2a I2
  have G2 : q_gm h h2 := (q_gm.rf.set (by omega) (by omega)).tr G2a
  have T2 : h2.I 1061 12 = nI 0 := T2a.trans (by rw [q_sI, va_us])
  have K : q_Lk Φ h2.R h2.n := K.gm G2
  have hs := C2.1
  have M := C2.2.1.1
  refine q_aload_n dX10_startPlan_9 rfl ?_
  refine fRX10_9 (o := some 1062) dX10_startPlan_10 rfl (by decide) (K.le (by decide)) hs ?_
  refine q_rfS ?_
  refine q_iconst (v := nI 4) dX10_startPlan_13 (by decide) ?_
  refine q_ialdN (len := 830) rfl dX10_startPlan_14 (by decide) (K.le (by decide)) rfl (by omega) (by decide) ?_
  refine q_tv (show _ = (nI (m.pe)) from M.pe) ?_
  refine q_iconst (v := nI 1) dX10_startPlan_15 (by decide) ?_
  refine q_icmp_neN (by omega) (by omega) (tgt := 29) dX10_startPlan_16 rfl (fun c1 => ?_) (fun c2 => ?_)
  · refine q_iconst (v := nI 0) dX10_startPlan_29 (by decide) ?_
    refine q_istore_n (L' := [_, _]) dX10_startPlan_30 rfl (by decide) rfl ?_
    refine q_aload_n dX10_startPlan_31 rfl ?_
    refine fRX10_9 (o := some 1062) dX10_startPlan_32 rfl (by decide) (K.le (by decide)) hs ?_
    refine q_rfS ?_
    refine q_iconst (v := nI 4) dX10_startPlan_35 (by decide) ?_
    refine q_iconst (v := nI 1) dX10_startPlan_36 (by decide) ?_
    refine q_iastN (len := 830) rfl dX10_startPlan_37 (by decide) (K.le (by decide)) rfl (by omega) (by decide) ?_
    refine q_aload_n dX10_startPlan_38 rfl ?_
    refine fRX10_9 (o := some 1062) dX10_startPlan_39 rfl (by decide) (K.le (by decide)) hs ?_
    refine q_rfS ?_
    refine q_iconst (v := nI 5) dX10_startPlan_42 (by decide) ?_
    refine q_aload_n dX10_startPlan_43 rfl ?_
    refine fRX10_9 (o := some 1062) dX10_startPlan_44 rfl (by decide) (K.le (by decide)) hs ?_
    refine q_rfS ?_
    refine q_iconst (v := nI 0) dX10_startPlan_47 (by decide) ?_
    refine q_ialdN (len := 830) rfl dX10_startPlan_48 (by decide) (K.le (by decide)) rfl (by omega) (by decide) ?_
    refine q_tv (show _ = (nI (m.t)) from (((congrFun (q_sI _ _ _ _) _).trans (va_un _ _ (by omega))).trans M.t)) ?_
    refine q_iastN (len := 830) rfl dX10_startPlan_49 (by decide) (K.le (by decide)) rfl (by omega) (by decide) ?_
    refine q_aload_n dX10_startPlan_50 rfl ?_
    refine fRX10_9 (o := some 1062) dX10_startPlan_51 rfl (by decide) (K.le (by decide)) hs ?_
    refine q_rfS ?_
    refine q_bipush (v := nI 6) dX10_startPlan_54 (by decide) ?_
    refine q_iconst (v := nI 0) dX10_startPlan_56 (by decide) ?_
    refine q_iastN (len := 830) rfl dX10_startPlan_57 (by decide) (K.le (by decide)) rfl (by omega) (by decide) ?_
    refine q_iload_n dX10_startPlan_58 rfl ?_
    refine q_iret dX10_startPlan_59 rfl (Or.inl rfl) ?_
    rw [q_setI_row h2]
    repeat rw [q_rset]
    exact ⟨_, rfl, 0, _, rfl, rfl, ((congrFun (q_rIn _ _ (by omega)) _).trans T2), (G2.row (by omega) (by omega)), fun e => absurd rfl e, fun _ => ⟨(by first | rw [if_pos (by omega)] | rw [if_neg (by omega)]), q_mr.r62 C2 ⟨M.plan, hσ⟩⟩⟩
  · refine q_aload_n dX10_startPlan_19 rfl ?_
    refine fRX10_9 (o := some 1062) dX10_startPlan_20 rfl (by decide) (K.le (by decide)) hs ?_
    refine q_rfS ?_
    refine q_bipush (v := nI 6) dX10_startPlan_23 (by decide) ?_
    refine q_ialdN (len := 830) rfl dX10_startPlan_25 (by decide) (K.le (by decide)) rfl (by omega) (by decide) ?_
    refine q_tv (show _ = (nI (m.pc)) from M.pc) ?_
    refine q_goto (tgt := 30) dX10_startPlan_26 rfl ?_
    refine q_istore_n (L' := [_, _]) dX10_startPlan_30 rfl (by decide) rfl ?_
    refine q_aload_n dX10_startPlan_31 rfl ?_
    refine fRX10_9 (o := some 1062) dX10_startPlan_32 rfl (by decide) (K.le (by decide)) hs ?_
    refine q_rfS ?_
    refine q_iconst (v := nI 4) dX10_startPlan_35 (by decide) ?_
    refine q_iconst (v := nI 1) dX10_startPlan_36 (by decide) ?_
    refine q_iastN (len := 830) rfl dX10_startPlan_37 (by decide) (K.le (by decide)) rfl (by omega) (by decide) ?_
    refine q_aload_n dX10_startPlan_38 rfl ?_
    refine fRX10_9 (o := some 1062) dX10_startPlan_39 rfl (by decide) (K.le (by decide)) hs ?_
    refine q_rfS ?_
    refine q_iconst (v := nI 5) dX10_startPlan_42 (by decide) ?_
    refine q_aload_n dX10_startPlan_43 rfl ?_
    refine fRX10_9 (o := some 1062) dX10_startPlan_44 rfl (by decide) (K.le (by decide)) hs ?_
    refine q_rfS ?_
    refine q_iconst (v := nI 0) dX10_startPlan_47 (by decide) ?_
    refine q_ialdN (len := 830) rfl dX10_startPlan_48 (by decide) (K.le (by decide)) rfl (by omega) (by decide) ?_
    refine q_tv (show _ = (nI (m.t)) from (((congrFun (q_sI _ _ _ _) _).trans (va_un _ _ (by omega))).trans M.t)) ?_
    refine q_iastN (len := 830) rfl dX10_startPlan_49 (by decide) (K.le (by decide)) rfl (by omega) (by decide) ?_
    refine q_aload_n dX10_startPlan_50 rfl ?_
    refine fRX10_9 (o := some 1062) dX10_startPlan_51 rfl (by decide) (K.le (by decide)) hs ?_
    refine q_rfS ?_
    refine q_bipush (v := nI 6) dX10_startPlan_54 (by decide) ?_
    refine q_iconst (v := nI 0) dX10_startPlan_56 (by decide) ?_
    refine q_iastN (len := 830) rfl dX10_startPlan_57 (by decide) (K.le (by decide)) rfl (by omega) (by decide) ?_
    refine q_iload_n dX10_startPlan_58 rfl ?_
    refine q_iret dX10_startPlan_59 rfl (Or.inl rfl) ?_
    rw [q_setI_row h2]
    repeat rw [q_rset]
    exact ⟨_, rfl, 0, _, rfl, rfl, ((congrFun (q_rIn _ _ (by omega)) _).trans T2), (G2.row (by omega) (by omega)), fun e => absurd rfl e, fun _ => ⟨(by first | rw [if_pos (by omega)] | rw [if_neg (by omega)]), q_mr.r62 C2 ⟨M.plan, hσ⟩⟩⟩
theorem g_X10_addTarget {Φ : q_Fx} {h : q_Hp} (K : q_Lk Φ h.R h.n) {m : q_W} {P : q_P} (C : q_mr h m P) (v : q_val m) {x : Int32} : q_Ct Φ false yX10_addTarget cX10_addTarget mX10_addTarget [.ref 1061, .int x] h (q_ex (q_pr h m P (q_k2 (¬ (nI 0 ≤ x ∧ x ≤ nI 20000)) (m.pe = 0 ∨ ¬ m.pf = m.t ∨ m.pc = 28)) (nI (m.pc + 1)) (m.sP m.pe m.pf (m.pc + 1) (va_up m.tg m.pc x)) (P.kept m))) := by
  refine q_enter K.st rfl rfl (by decide) rfl (Nat.le_of_ble_eq_true rfl) (L := [_, _]) rfl ?_
  have hs := C.1
  have M := C.2.1.1
  have hσ := C.2.1.2
  have ht9 := M.t9
  have hc40 := M.c40
  have hn10 := M.n10
  have hp28 := M.pc28
  have hpe1 := M.pe1
  have hpf9 := M.pf9
  have hu := C.2.2.1.2.1
  have htp := C.2.2.1.2.2.2.1
  have hwr := C.2.2.1.2.2.2.2.2.1
  have hsv := C.2.2.1.2.2.2.2.2.2.2
  refine q_aload_n dX10_addTarget_0 rfl ?_
  refine q_iload_n dX10_addTarget_1 rfl ?_
  refine q_iconst (v := nI 0) dX10_addTarget_2 (by decide) ?_
  refine q_sipush (v := nI 20000) dX10_addTarget_3 (by decide) ?_
  refine q_sD (kc := 0) (ks := 0) (g_X10_isIn (h := h) K (v := x) (lo := (nI (0))) (hi := (nI (20000)))) wX10_isIn kX10_47 sX10_isIn (by decide) rfl rfl (Nat.le_of_ble_eq_true rfl) dX10_addTarget_6 rfl rfl ?_
  refine q_spl (fun c1 => ?_) (fun c2 => ?_)
  · refine q_if_ne (tgt := 16) dX10_addTarget_9 rfl (fun _ => ?_) (fun c => absurd c (by decide))
    refine q_iconst (v := nI 0) dX10_addTarget_16 (by decide) ?_
    refine q_iconst (v := nI 1) dX10_addTarget_17 (by decide) ?_
    refine q_vD (kc := 0) (ks := 0) (g_thrF (h := h) K (a := 1)) wX10_isThrown kX10_51 iX10_isThrown eX10_isThrown rfl rfl (by decide) (K.le (by decide)) (by decide) rfl rfl (Nat.le_of_ble_eq_true rfl) dX10_addTarget_18 rfl rfl ?_
    refine q_if_ne (tgt := 73) dX10_addTarget_21 rfl (fun c => absurd (by decide) c) (fun _ => ?_)
    refine q_aload_n dX10_addTarget_24 rfl ?_
    refine q_aload_n dX10_addTarget_25 rfl ?_
    refine fRX10_9 (o := some 1062) dX10_addTarget_26 rfl (by decide) (K.le (by decide)) hs ?_
    refine q_rfS ?_
    refine q_iconst (v := nI 4) dX10_addTarget_29 (by decide) ?_
    refine q_ialdN (len := 830) rfl dX10_addTarget_30 (by decide) (K.le (by decide)) rfl (by omega) (by decide) ?_
    refine q_tv (show _ = (nI (m.pe)) from ((congrFun (q_sIn _ _ _ (by omega)) _).trans M.pe)) ?_
    refine q_if_eqN (by omega) (tgt := 61) dX10_addTarget_31 rfl (fun c7 => ?_) (fun c8 => ?_)
    · refine q_iconst (v := nI 1) dX10_addTarget_61 (by decide) ?_
      refine q_goto (tgt := 66) dX10_addTarget_62 rfl ?_
      refine q_iconst (v := nI 2) dX10_addTarget_66 (by decide) ?_
      refine q_vD (kc := 0) (ks := 0) (g_thrT (h := (h.setI 1061 12 (nI (0)))) K (a := 2)) wX10_isThrown kX10_51 iX10_isThrown eX10_isThrown rfl rfl (by decide) (K.le (by decide)) (by decide) rfl rfl (Nat.le_of_ble_eq_true rfl) dX10_addTarget_67 rfl rfl ?_
      rw [q_ss]
      refine q_if_eq (tgt := 75) dX10_addTarget_70 rfl (fun c => absurd c (by decide)) (fun _ => ?_)
      refine q_iconst (v := nI 0) dX10_addTarget_73 (by decide) ?_
      refine q_iret dX10_addTarget_74 rfl (Or.inl rfl) ?_
      first | exact ⟨_, rfl, 1, _, (Or.inl ⟨(by first | assumption | exact (fun c => c (by assumption)) | exact Int32.not_lt.mpr (by assumption) | exact Int32.not_le.mpr (by assumption) | exact Int32.not_lt.mp (by assumption) | exact Int32.not_le.mp (by assumption) | omega), rfl⟩), rfl, (by rw [q_sI, va_us]), (q_gm.rf.set (by omega) (by omega)), fun _ => (C.thr 12 (by omega) _), fun e => absurd e (by decide)⟩ | exact ⟨_, rfl, 2, _, (Or.inr (Or.inl ⟨(by first | assumption | exact (fun c => c (by assumption)) | exact Int32.not_lt.mpr (by assumption) | exact Int32.not_le.mpr (by assumption) | exact Int32.not_lt.mp (by assumption) | exact Int32.not_le.mp (by assumption) | omega), (by first | assumption | exact (fun c => c (by assumption)) | exact Int32.not_lt.mpr (by assumption) | exact Int32.not_le.mpr (by assumption) | exact Int32.not_lt.mp (by assumption) | exact Int32.not_le.mp (by assumption) | omega), rfl⟩)), rfl, (by rw [q_sI, va_us]), (q_gm.rf.set (by omega) (by omega)), fun _ => (C.thr 12 (by omega) _), fun e => absurd e (by decide)⟩
    · refine q_aload_n dX10_addTarget_34 rfl ?_
      refine fRX10_9 (o := some 1062) dX10_addTarget_35 rfl (by decide) (K.le (by decide)) hs ?_
      refine q_rfS ?_
      refine q_iconst (v := nI 5) dX10_addTarget_38 (by decide) ?_
      refine q_ialdN (len := 830) rfl dX10_addTarget_39 (by decide) (K.le (by decide)) rfl (by omega) (by decide) ?_
      refine q_tv (show _ = (nI (m.pf)) from ((congrFun (q_sIn _ _ _ (by omega)) _).trans M.pf)) ?_
      refine q_aload_n dX10_addTarget_40 rfl ?_
      refine fRX10_9 (o := some 1062) dX10_addTarget_41 rfl (by decide) (K.le (by decide)) hs ?_
      refine q_rfS ?_
      refine q_iconst (v := nI 0) dX10_addTarget_44 (by decide) ?_
      refine q_ialdN (len := 830) rfl dX10_addTarget_45 (by decide) (K.le (by decide)) rfl (by omega) (by decide) ?_
      refine q_tv (show _ = (nI (m.t)) from ((congrFun (q_sIn _ _ _ (by omega)) _).trans M.t)) ?_
      refine q_icmp_neN (by omega) (by omega) (tgt := 61) dX10_addTarget_46 rfl (fun c11 => ?_) (fun c12 => ?_)
      · refine q_iconst (v := nI 1) dX10_addTarget_61 (by decide) ?_
        refine q_goto (tgt := 66) dX10_addTarget_62 rfl ?_
        refine q_iconst (v := nI 2) dX10_addTarget_66 (by decide) ?_
        refine q_vD (kc := 0) (ks := 0) (g_thrT (h := (h.setI 1061 12 (nI (0)))) K (a := 2)) wX10_isThrown kX10_51 iX10_isThrown eX10_isThrown rfl rfl (by decide) (K.le (by decide)) (by decide) rfl rfl (Nat.le_of_ble_eq_true rfl) dX10_addTarget_67 rfl rfl ?_
        rw [q_ss]
        refine q_if_eq (tgt := 75) dX10_addTarget_70 rfl (fun c => absurd c (by decide)) (fun _ => ?_)
        refine q_iconst (v := nI 0) dX10_addTarget_73 (by decide) ?_
        refine q_iret dX10_addTarget_74 rfl (Or.inl rfl) ?_
        first | exact ⟨_, rfl, 1, _, (Or.inl ⟨(by first | assumption | exact (fun c => c (by assumption)) | exact Int32.not_lt.mpr (by assumption) | exact Int32.not_le.mpr (by assumption) | exact Int32.not_lt.mp (by assumption) | exact Int32.not_le.mp (by assumption) | omega), rfl⟩), rfl, (by rw [q_sI, va_us]), (q_gm.rf.set (by omega) (by omega)), fun _ => (C.thr 12 (by omega) _), fun e => absurd e (by decide)⟩ | exact ⟨_, rfl, 2, _, (Or.inr (Or.inl ⟨(by first | assumption | exact (fun c => c (by assumption)) | exact Int32.not_lt.mpr (by assumption) | exact Int32.not_le.mpr (by assumption) | exact Int32.not_lt.mp (by assumption) | exact Int32.not_le.mp (by assumption) | omega), (by first | assumption | exact (fun c => c (by assumption)) | exact Int32.not_lt.mpr (by assumption) | exact Int32.not_le.mpr (by assumption) | exact Int32.not_lt.mp (by assumption) | exact Int32.not_le.mp (by assumption) | omega), rfl⟩)), rfl, (by rw [q_sI, va_us]), (q_gm.rf.set (by omega) (by omega)), fun _ => (C.thr 12 (by omega) _), fun e => absurd e (by decide)⟩
      · refine q_aload_n dX10_addTarget_49 rfl ?_
        refine fRX10_9 (o := some 1062) dX10_addTarget_50 rfl (by decide) (K.le (by decide)) hs ?_
        refine q_rfS ?_
        refine q_bipush (v := nI 6) dX10_addTarget_53 (by decide) ?_
        refine q_ialdN (len := 830) rfl dX10_addTarget_55 (by decide) (K.le (by decide)) rfl (by omega) (by decide) ?_
        refine q_tv (show _ = (nI (m.pc)) from ((congrFun (q_sIn _ _ _ (by omega)) _).trans M.pc)) ?_
        refine q_bipush (v := nI 28) dX10_addTarget_56 (by decide) ?_
        refine q_icmp_neN (by omega) (by omega) (tgt := 65) dX10_addTarget_58 rfl (fun c15 => ?_) (fun c16 => ?_)
        · refine q_iconst (v := nI 0) dX10_addTarget_65 (by decide) ?_
          refine q_iconst (v := nI 2) dX10_addTarget_66 (by decide) ?_
          refine q_vD (kc := 0) (ks := 0) (g_thrF (h := (h.setI 1061 12 (nI (0)))) K (a := 2)) wX10_isThrown kX10_51 iX10_isThrown eX10_isThrown rfl rfl (by decide) (K.le (by decide)) (by decide) rfl rfl (Nat.le_of_ble_eq_true rfl) dX10_addTarget_67 rfl rfl ?_
          rw [q_ss]
          refine q_if_eq (tgt := 75) dX10_addTarget_70 rfl (fun _ => ?_) (fun c => absurd (by decide) c)
          refine q_aload_n dX10_addTarget_75 rfl ?_
          refine q_vR (kc := 0) (ks := 0) (g_X10_keeps (h := (h.setI 1061 12 (nI (0)))) K (C.thr 12 (by omega) _)) wX10_keeps kX10_55 iX10_keeps eX10_keeps rfl rfl (by decide) (K.le (by decide)) (by decide) rfl rfl (Nat.le_of_ble_eq_true rfl) dX10_addTarget_76 rfl rfl ?_
          rintro v' h2 ⟨rfl, e2⟩
          obtain ⟨C2, G2a, T2a, I2⟩ := q_mr.kept (C.thr 12 (by omega) (nI 0))
          rw [← e2] at C2 G2a T2a I2
          have G2 : q_gm h h2 := (q_gm.rf.set (by omega) (by omega)).tr G2a
          have T2 : h2.I 1061 12 = nI 0 := T2a.trans (by rw [q_sI, va_us])
          have K : q_Lk Φ h2.R h2.n := K.gm G2
          have hs := C2.1
          have M := C2.2.1.1
          refine q_aload_n dX10_addTarget_79 rfl ?_
          refine fRX10_9 (o := some 1062) dX10_addTarget_80 rfl (by decide) (K.le (by decide)) hs ?_
          refine q_rfS ?_
          refine q_bipush (v := nI 40) dX10_addTarget_83 (by decide) ?_
          refine q_aload_n dX10_addTarget_85 rfl ?_
          refine fRX10_9 (o := some 1062) dX10_addTarget_86 rfl (by decide) (K.le (by decide)) hs ?_
          refine q_rfS ?_
          refine q_bipush (v := nI 6) dX10_addTarget_89 (by decide) ?_
          refine q_ialdN (len := 830) rfl dX10_addTarget_91 (by decide) (K.le (by decide)) rfl (by omega) (by decide) ?_
          refine q_tv (show _ = (nI (m.pc)) from M.pc) ?_
          refine q_iaddN dX10_addTarget_92 ?_
          refine q_iload_n dX10_addTarget_93 rfl ?_
          refine q_iastN (len := 830) rfl dX10_addTarget_94 (by decide) (K.le (by decide)) rfl (by omega) (by decide) ?_
          refine q_aload_n dX10_addTarget_95 rfl ?_
          refine fRX10_9 (o := some 1062) dX10_addTarget_96 rfl (by decide) (K.le (by decide)) hs ?_
          refine q_rfS ?_
          refine q_bipush (v := nI 6) dX10_addTarget_99 (by decide) ?_
          refine q_dup2 dX10_addTarget_101 rfl rfl ?_
          refine q_ialdN (len := 830) rfl dX10_addTarget_102 (by decide) (K.le (by decide)) rfl (by omega) (by decide) ?_
          refine q_tv (show _ = (nI (m.pc)) from (((congrFun (q_sI _ _ _ _) _).trans (va_un _ _ (by omega))).trans M.pc)) ?_
          refine q_iconst (v := nI 1) dX10_addTarget_103 (by decide) ?_
          refine q_iaddN dX10_addTarget_104 ?_
          refine q_iastN (len := 830) rfl dX10_addTarget_105 (by decide) (K.le (by decide)) rfl (by omega) (by decide) ?_
          refine q_aload_n dX10_addTarget_106 rfl ?_
          refine fRX10_9 (o := some 1062) dX10_addTarget_107 rfl (by decide) (K.le (by decide)) hs ?_
          refine q_rfS ?_
          refine q_bipush (v := nI 6) dX10_addTarget_110 (by decide) ?_
          refine q_ialdN (len := 830) rfl dX10_addTarget_112 (by decide) (K.le (by decide)) rfl (by omega) (by decide) ?_
          refine q_tv (show _ = (nI ((m.pc) + (1))) from ((congrFun (q_sI _ _ _ _) _).trans (va_us _ _ _))) ?_
          refine q_iret dX10_addTarget_113 rfl (Or.inl rfl) ?_
          rw [q_setI_row h2]
          repeat rw [q_rset]
          exact ⟨_, rfl, 0, _, (Or.inr (Or.inr ⟨(by first | assumption | exact (fun c => c (by assumption)) | exact Int32.not_lt.mpr (by assumption) | exact Int32.not_le.mpr (by assumption) | exact Int32.not_lt.mp (by assumption) | exact Int32.not_le.mp (by assumption) | omega), (by first | assumption | exact (fun c => c (by assumption)) | exact Int32.not_lt.mpr (by assumption) | exact Int32.not_le.mpr (by assumption) | exact Int32.not_lt.mp (by assumption) | exact Int32.not_le.mp (by assumption) | omega), rfl⟩)), rfl, ((congrFun (q_rIn _ _ (by omega)) _).trans T2), (G2.row (by omega) (by omega)), fun e => absurd rfl e, fun _ => ⟨rfl, q_mr.r62 C2 ⟨M.targ (by omega), hσ⟩⟩⟩
        · refine q_iconst (v := nI 1) dX10_addTarget_61 (by decide) ?_
          refine q_goto (tgt := 66) dX10_addTarget_62 rfl ?_
          refine q_iconst (v := nI 2) dX10_addTarget_66 (by decide) ?_
          refine q_vD (kc := 0) (ks := 0) (g_thrT (h := (h.setI 1061 12 (nI (0)))) K (a := 2)) wX10_isThrown kX10_51 iX10_isThrown eX10_isThrown rfl rfl (by decide) (K.le (by decide)) (by decide) rfl rfl (Nat.le_of_ble_eq_true rfl) dX10_addTarget_67 rfl rfl ?_
          rw [q_ss]
          refine q_if_eq (tgt := 75) dX10_addTarget_70 rfl (fun c => absurd c (by decide)) (fun _ => ?_)
          refine q_iconst (v := nI 0) dX10_addTarget_73 (by decide) ?_
          refine q_iret dX10_addTarget_74 rfl (Or.inl rfl) ?_
          first | exact ⟨_, rfl, 1, _, (Or.inl ⟨(by first | assumption | exact (fun c => c (by assumption)) | exact Int32.not_lt.mpr (by assumption) | exact Int32.not_le.mpr (by assumption) | exact Int32.not_lt.mp (by assumption) | exact Int32.not_le.mp (by assumption) | omega), rfl⟩), rfl, (by rw [q_sI, va_us]), (q_gm.rf.set (by omega) (by omega)), fun _ => (C.thr 12 (by omega) _), fun e => absurd e (by decide)⟩ | exact ⟨_, rfl, 2, _, (Or.inr (Or.inl ⟨(by first | assumption | exact (fun c => c (by assumption)) | exact Int32.not_lt.mpr (by assumption) | exact Int32.not_le.mpr (by assumption) | exact Int32.not_lt.mp (by assumption) | exact Int32.not_le.mp (by assumption) | omega), (by first | assumption | exact (fun c => c (by assumption)) | exact Int32.not_lt.mpr (by assumption) | exact Int32.not_le.mpr (by assumption) | exact Int32.not_lt.mp (by assumption) | exact Int32.not_le.mp (by assumption) | omega), rfl⟩)), rfl, (by rw [q_sI, va_us]), (q_gm.rf.set (by omega) (by omega)), fun _ => (C.thr 12 (by omega) _), fun e => absurd e (by decide)⟩
  · refine q_if_ne (tgt := 16) dX10_addTarget_9 rfl (fun c => absurd (by decide) c) (fun _ => ?_)
    refine q_iconst (v := nI 1) dX10_addTarget_12 (by decide) ?_
    refine q_goto (tgt := 17) dX10_addTarget_13 rfl ?_
    refine q_iconst (v := nI 1) dX10_addTarget_17 (by decide) ?_
    refine q_vD (kc := 0) (ks := 0) (g_thrT (h := h) K (a := 1)) wX10_isThrown kX10_51 iX10_isThrown eX10_isThrown rfl rfl (by decide) (K.le (by decide)) (by decide) rfl rfl (Nat.le_of_ble_eq_true rfl) dX10_addTarget_18 rfl rfl ?_
    refine q_if_ne (tgt := 73) dX10_addTarget_21 rfl (fun _ => ?_) (fun c => absurd c (by decide))
    refine q_iconst (v := nI 0) dX10_addTarget_73 (by decide) ?_
    refine q_iret dX10_addTarget_74 rfl (Or.inl rfl) ?_
    first | exact ⟨_, rfl, 1, _, (Or.inl ⟨(by first | assumption | exact (fun c => c (by assumption)) | exact Int32.not_lt.mpr (by assumption) | exact Int32.not_le.mpr (by assumption) | exact Int32.not_lt.mp (by assumption) | exact Int32.not_le.mp (by assumption) | omega), rfl⟩), rfl, (by rw [q_sI, va_us]), (q_gm.rf.set (by omega) (by omega)), fun _ => (C.thr 12 (by omega) _), fun e => absurd e (by decide)⟩ | exact ⟨_, rfl, 2, _, (Or.inr (Or.inl ⟨(by first | assumption | exact (fun c => c (by assumption)) | exact Int32.not_lt.mpr (by assumption) | exact Int32.not_le.mpr (by assumption) | exact Int32.not_lt.mp (by assumption) | exact Int32.not_le.mp (by assumption) | omega), (by first | assumption | exact (fun c => c (by assumption)) | exact Int32.not_lt.mpr (by assumption) | exact Int32.not_le.mpr (by assumption) | exact Int32.not_lt.mp (by assumption) | exact Int32.not_le.mp (by assumption) | omega), rfl⟩)), rfl, (by rw [q_sI, va_us]), (q_gm.rf.set (by omega) (by omega)), fun _ => (C.thr 12 (by omega) _), fun e => absurd e (by decide)⟩
theorem g_X10_undo {Φ : q_Fx} {h : q_Hp} (K : q_Lk Φ h.R h.n) {m : q_W} {P : q_P} (C : q_mr h m P) (v : q_val m) : q_Ct Φ false yX10_undo cX10_undo mX10_undo [.ref 1061] h (q_ex (q_pr h m P (q_k1 (P.un = 0)) (nI (P.un - 1)) (P.ob P.tp) (P.back))) := by
  refine q_enter K.st rfl rfl (by decide) rfl (Nat.le_of_ble_eq_true rfl) (L := [_, none]) rfl ?_
  have hs := C.1
  have M := C.2.1.1
  have hσ := C.2.1.2
  have ht9 := M.t9
  have hc40 := M.c40
  have hn10 := M.n10
  have hp28 := M.pc28
  have hpe1 := M.pe1
  have hpf9 := M.pf9
  have hu := C.2.2.1.2.1
  have htp := C.2.2.1.2.2.2.1
  have hwr := C.2.2.1.2.2.2.2.2.1
  have hsv := C.2.2.1.2.2.2.2.2.2.2
  refine q_aload_n dX10_undo_0 rfl ?_
  refine q_aload_n dX10_undo_1 rfl ?_
  refine fIX10_38 dX10_undo_2 rfl (by decide) (K.le (by decide)) ?_
  refine q_tv (show _ = (nI (P.un)) from C.2.2.1.1) ?_
  refine q_if_neN (by omega) (tgt := 12) dX10_undo_5 rfl (fun c1 => ?_) (fun c2 => ?_)
  · refine q_iconst (v := nI 0) dX10_undo_12 (by decide) ?_
    refine q_iconst (v := nI 1) dX10_undo_13 (by decide) ?_
    refine q_vD (kc := 0) (ks := 0) (g_thrF (h := h) K (a := 1)) wX10_isThrown kX10_51 iX10_isThrown eX10_isThrown rfl rfl (by decide) (K.le (by decide)) (by decide) rfl rfl (Nat.le_of_ble_eq_true rfl) dX10_undo_14 rfl rfl ?_
    refine q_if_eq (tgt := 22) dX10_undo_17 rfl (fun _ => ?_) (fun c => absurd (by decide) c)
    obtain ⟨h0, e0⟩ : ∃ z, z = h.setI 1061 12 (nI 0) := ⟨_, rfl⟩
    rw [← e0]
    have C0 : q_mr h0 m P := by rw [e0]; exact C.thr 12 (by omega) _
    have G0 : q_gm h h0 := by rw [e0]; exact q_gm.rf.set (by omega) (by omega)
    have T0 : h0.I 1061 12 = nI 0 := by rw [e0, q_sI, va_us]
    have K : q_Lk Φ h0.R h0.n := K.gm G0
    have hs := C0.1
    have M := C0.2.1.1
    refine q_iconst (v := nI 0) dX10_undo_22 (by decide) ?_
    refine q_istore_n (L' := [_, _]) dX10_undo_23 rfl (by decide) rfl ?_
    refine q_loop (ι := Nat) (μ := fun i => 830 - i) (P := fun i => i ≤ 830) (Lf := fun i => [some (.ref 1061), some (.int (nI (i)))]) (hf := fun i => (h0.rowI 1062 (q_cpy (h0.I (1064 + P.tp)) (h0.I 1062) i))) (fun i hi24 ih24 => ?_) 0 (by omega) (q_sub_s rfl (q_sub_i rfl q_sub_0)) (by rw [q_cpy_0, q_rid])
    skip
    refine q_iload_n dX10_undo_24 rfl ?_
    refine q_sipush (v := nI 830) dX10_undo_25 (by decide) ?_
    refine q_icmp_geN (by omega) (by omega) (tgt := 54) dX10_undo_28 rfl (fun c5 => ?_) (fun c6 => ?_)
    · refine q_aload_n dX10_undo_54 rfl ?_
      refine q_aload_n dX10_undo_55 rfl ?_
      refine fIX10_35 dX10_undo_56 rfl (by decide) (K.le (by decide)) ?_
      refine q_tv (show _ = (nI (P.tp)) from ((congrFun (q_rIn _ _ (by omega)) _).trans C0.2.2.1.2.2.1)) ?_
      refine q_bipush (v := nI 6) dX10_undo_59 (by decide) ?_
      refine q_iaddN dX10_undo_61 ?_
      refine q_iconst (v := nI 1) dX10_undo_62 (by decide) ?_
      refine q_isubN (by omega) dX10_undo_63 ?_
      refine q_bipush (v := nI 6) dX10_undo_64 (by decide) ?_
      refine q_iremN (by omega) (by omega) (by omega) dX10_undo_66 ?_
      refine pIX10_35 dX10_undo_67 rfl (by decide) (K.le (by decide)) ?_
      refine q_aload_n dX10_undo_70 rfl ?_
      refine q_dup dX10_undo_71 rfl ?_
      refine fIX10_38 dX10_undo_72 rfl (by decide) (K.le (by decide)) ?_
      refine q_tv (show _ = (nI (P.un)) from (((congrFun (q_sI _ _ _ _) _).trans (va_un _ _ (by omega))).trans ((congrFun (q_rIn _ _ (by omega)) _).trans C0.2.2.1.1))) ?_
      refine q_iconst (v := nI 1) dX10_undo_75 (by decide) ?_
      refine q_isubN (by omega) dX10_undo_76 ?_
      refine pIX10_38 dX10_undo_77 rfl (by decide) (K.le (by decide)) ?_
      refine q_aload_n dX10_undo_80 rfl ?_
      refine fIX10_38 dX10_undo_81 rfl (by decide) (K.le (by decide)) ?_
      refine q_tv (show _ = (nI ((P.un) - (1))) from ((congrFun (q_sI _ _ _ _) _).trans (va_us _ _ _))) ?_
      refine q_iret dX10_undo_84 rfl (Or.inl rfl) ?_
      have ei : i = 830 := by omega
      rw [ei]
      exact ⟨_, rfl, 0, _, (Or.inr ⟨(by first | assumption | exact (fun c => c (by assumption)) | exact Int32.not_lt.mpr (by assumption) | exact Int32.not_le.mpr (by assumption) | exact Int32.not_lt.mp (by assumption) | exact Int32.not_le.mp (by assumption) | omega), rfl⟩), rfl, (by rw [q_sI, va_un _ _ (by decide), q_sI, va_un _ _ (by decide), q_rIn _ _ (by omega)]; exact T0), G0.tr (((q_gm.rf.row (by omega) (by omega)).set (by omega) (by omega)).set (by omega) (by omega)), fun e => absurd rfl e, fun _ => ⟨rfl, C0.back⟩⟩
    · refine q_aload_n dX10_undo_31 rfl ?_
      refine fRX10_9 (o := some 1062) dX10_undo_32 rfl (by decide) (K.le (by decide)) hs ?_
      refine q_rfS ?_
      refine q_iload_n dX10_undo_35 rfl ?_
      refine q_aload_n dX10_undo_36 rfl ?_
      refine fRX10_15 (o := some 1063) dX10_undo_37 rfl (by decide) (K.le (by decide)) (K.lk rfl) ?_
      refine q_rfS ?_
      refine q_aload_n dX10_undo_40 rfl ?_
      refine fIX10_35 dX10_undo_41 rfl (by decide) (K.le (by decide)) ?_
      refine q_tv (show _ = (nI (P.tp)) from ((congrFun (q_rIn _ _ (by omega)) _).trans C0.2.2.1.2.2.1)) ?_
      refine q_aaldN (len := 6) (o := some (1064 + P.tp)) (by decide) (by decide) dX10_undo_44 (by decide) (K.le (by decide)) rfl (by omega) (by decide) (K.lk (q_lkMo htp)) ?_
      refine q_rfS ?_
      refine q_iload_n dX10_undo_45 rfl ?_
      refine q_ialdN (len := 830) (q_lkMo2 htp).1 dX10_undo_46 (by omega) (K.le (by omega)) (q_lkMo2 htp).2 (by omega) (by decide) ?_
      refine q_tv (show _ = (h0.I (1064 + P.tp) (i)) from (congrFun (q_rIn _ _ (by omega)) _)) ?_
      refine q_iastN (len := 830) rfl dX10_undo_47 (by decide) (K.le (by decide)) rfl (by omega) (by decide) ?_
      refine q_iincN (n := 1) (L' := [_, _]) (by decide) dX10_undo_48 rfl rfl (by decide) rfl ?_
      refine q_goto (tgt := 24) dX10_undo_51 rfl ?_
      exact q_to (ih24 (i + 1) (by omega) (by omega)) (q_sub_s rfl (q_sub_i rfl q_sub_0)) (by rw [q_rset, q_cpy_s (h0.I (1064 + P.tp))])
  · refine q_iconst (v := nI 1) dX10_undo_8 (by decide) ?_
    refine q_goto (tgt := 13) dX10_undo_9 rfl ?_
    refine q_iconst (v := nI 1) dX10_undo_13 (by decide) ?_
    refine q_vD (kc := 0) (ks := 0) (g_thrT (h := h) K (a := 1)) wX10_isThrown kX10_51 iX10_isThrown eX10_isThrown rfl rfl (by decide) (K.le (by decide)) (by decide) rfl rfl (Nat.le_of_ble_eq_true rfl) dX10_undo_14 rfl rfl ?_
    refine q_if_eq (tgt := 22) dX10_undo_17 rfl (fun c => absurd c (by decide)) (fun _ => ?_)
    refine q_iconst (v := nI 0) dX10_undo_20 (by decide) ?_
    refine q_iret dX10_undo_21 rfl (Or.inl rfl) ?_
    exact ⟨_, rfl, 1, _, (Or.inl ⟨(by first | assumption | exact (fun c => c (by assumption)) | exact Int32.not_lt.mpr (by assumption) | exact Int32.not_le.mpr (by assumption) | exact Int32.not_lt.mp (by assumption) | exact Int32.not_le.mp (by assumption) | omega), rfl⟩), rfl, (by rw [q_sI, va_us]), q_gm.rf.set (by omega) (by omega), fun _ => C.thr 12 (by omega) _, fun e => absurd e (by decide)⟩
theorem g_X10_save {Φ : q_Fx} {h : q_Hp} (K : q_Lk Φ h.R h.n) {m : q_W} {P : q_P} (C : q_mr h m P) (v : q_val m) : q_Ct Φ false yX10_save cX10_save mX10_save [.ref 1061] h (q_ex (q_pr h m P q_k0 (nI m.c) (m) (P.savd m))) := by
  refine q_enter K.st rfl rfl (by decide) rfl (Nat.le_of_ble_eq_true rfl) (L := [_, none]) rfl ?_
  have hs := C.1
  have M := C.2.1.1
  have hσ := C.2.1.2
  have ht9 := M.t9
  have hc40 := M.c40
  have hn10 := M.n10
  have hp28 := M.pc28
  have hpe1 := M.pe1
  have hpf9 := M.pf9
  have hu := C.2.2.1.2.1
  have htp := C.2.2.1.2.2.2.1
  have hwr := C.2.2.1.2.2.2.2.2.1
  have hsv := C.2.2.1.2.2.2.2.2.2.2
  refine q_aload_n dX10_save_0 rfl ?_
  refine q_iconst (v := nI 0) dX10_save_1 (by decide) ?_
  refine pIX10_31 dX10_save_2 rfl (by decide) (K.le (by decide)) ?_
  obtain ⟨h0, e0⟩ : ∃ z, z = h.setI 1061 12 (nI 0) := ⟨_, rfl⟩
  rw [← e0]
  have C0 : q_mr h0 m P := by rw [e0]; exact C.thr 12 (by omega) _
  have G0 : q_gm h h0 := by rw [e0]; exact q_gm.rf.set (by omega) (by omega)
  have T0 : h0.I 1061 12 = nI 0 := by rw [e0, q_sI, va_us]
  have K : q_Lk Φ h0.R h0.n := K.gm G0
  have hs := C0.1
  have M := C0.2.1.1
  refine q_iconst (v := nI 0) dX10_save_5 (by decide) ?_
  refine q_istore_n (L' := [_, _]) dX10_save_6 rfl (by decide) rfl ?_
  refine q_loop (ι := Nat) (μ := fun i => 830 - i) (P := fun i => i ≤ 830) (Lf := fun i => [some (.ref 1061), some (.int (nI (i)))]) (hf := fun i => (h0.rowI 1070 (q_cpy (h0.I 1062) (h0.I 1070) i))) (fun i hi7 ih7 => ?_) 0 (by omega) (q_sub_s rfl (q_sub_i rfl q_sub_0)) (by rw [q_cpy_0, q_rid])
  skip
  refine q_iload_n dX10_save_7 rfl ?_
  refine q_sipush (v := nI 830) dX10_save_8 (by decide) ?_
  refine q_icmp_geN (by omega) (by omega) (tgt := 32) dX10_save_11 rfl (fun c1 => ?_) (fun c2 => ?_)
  · refine q_aload_n dX10_save_32 rfl ?_
    refine q_iconst (v := nI 1) dX10_save_33 (by decide) ?_
    refine pIX10_163 dX10_save_34 (by decide) rfl (by decide) (K.le (by decide)) ?_
    refine q_aload_n dX10_save_37 rfl ?_
    refine fRX10_9 (o := some 1062) dX10_save_38 rfl (by decide) (K.le (by decide)) hs ?_
    refine q_rfS ?_
    refine q_iconst (v := nI 2) dX10_save_41 (by decide) ?_
    refine q_ialdN (len := 830) rfl dX10_save_42 (by decide) (K.le (by decide)) rfl (by omega) (by decide) ?_
    refine q_tv (show _ = (nI (m.c)) from ((congrFun (q_sIn _ _ _ (by omega)) _).trans ((congrFun (q_rIn _ _ (by omega)) _).trans M.c))) ?_
    refine q_iret dX10_save_43 rfl (Or.inl rfl) ?_
    have ei : i = 830 := by omega
    rw [ei]
    exact ⟨_, rfl, 0, _, rfl, rfl, (by rw [q_sI, va_un _ _ (by decide), q_rIn _ _ (by omega)]; exact T0), G0.tr ((q_gm.rf.row (by omega) (by omega)).set (by omega) (by omega)), fun e => absurd rfl e, fun _ => ⟨rfl, C0.savd⟩⟩
  · refine q_aload_n dX10_save_14 rfl ?_
    refine fRX10_18 (o := some 1070) dX10_save_15 rfl (by decide) (K.le (by decide)) (K.lk rfl) ?_
    refine q_rfS ?_
    refine q_iload_n dX10_save_18 rfl ?_
    refine q_aload_n dX10_save_19 rfl ?_
    refine fRX10_9 (o := some 1062) dX10_save_20 rfl (by decide) (K.le (by decide)) hs ?_
    refine q_rfS ?_
    refine q_iload_n dX10_save_23 rfl ?_
    refine q_ialdN (len := 830) rfl dX10_save_24 (by decide) (K.le (by decide)) rfl (by omega) (by decide) ?_
    refine q_tv (show _ = (h0.I 1062 (i)) from (congrFun (q_rIn _ _ (by omega)) _)) ?_
    refine q_iastN (len := 830) rfl dX10_save_25 (by decide) (K.le (by decide)) rfl (by omega) (by decide) ?_
    refine q_iincN (n := 1) (L' := [_, _]) (by decide) dX10_save_26 rfl rfl (by decide) rfl ?_
    refine q_goto (tgt := 7) dX10_save_29 rfl ?_
    exact q_to (ih7 (i + 1) (by omega) (by omega)) (q_sub_s rfl (q_sub_i rfl q_sub_0)) (by rw [q_rset, q_cpy_s (h0.I 1062)])
theorem g_X10_restore {Φ : q_Fx} {h : q_Hp} (K : q_Lk Φ h.R h.n) {m : q_W} {P : q_P} (C : q_mr h m P) (v : q_val m) : q_Ct Φ false yX10_restore cX10_restore mX10_restore [.ref 1061] h (q_ex (q_pr h m P (q_k1 (P.sv = 0)) (nI P.sn.c) (P.sn) (P.rest))) := by
  refine q_enter K.st rfl rfl (by decide) rfl (Nat.le_of_ble_eq_true rfl) (L := [_, none]) rfl ?_
  have hs := C.1
  have M := C.2.1.1
  have hσ := C.2.1.2
  have ht9 := M.t9
  have hc40 := M.c40
  have hn10 := M.n10
  have hp28 := M.pc28
  have hpe1 := M.pe1
  have hpf9 := M.pf9
  have hu := C.2.2.1.2.1
  have htp := C.2.2.1.2.2.2.1
  have hwr := C.2.2.1.2.2.2.2.2.1
  have hsv := C.2.2.1.2.2.2.2.2.2.2
  refine q_aload_n dX10_restore_0 rfl ?_
  refine q_aload_n dX10_restore_1 rfl ?_
  refine fIX10_163 dX10_restore_2 rfl (by decide) (K.le (by decide)) ?_
  refine q_tv (show _ = (nI (P.sv)) from C.2.2.1.2.2.2.2.2.2.1) ?_
  refine q_if_neN (by omega) (tgt := 12) dX10_restore_5 rfl (fun c1 => ?_) (fun c2 => ?_)
  · refine q_iconst (v := nI 0) dX10_restore_12 (by decide) ?_
    refine q_iconst (v := nI 1) dX10_restore_13 (by decide) ?_
    refine q_vD (kc := 0) (ks := 0) (g_thrF (h := h) K (a := 1)) wX10_isThrown kX10_51 iX10_isThrown eX10_isThrown rfl rfl (by decide) (K.le (by decide)) (by decide) rfl rfl (Nat.le_of_ble_eq_true rfl) dX10_restore_14 rfl rfl ?_
    refine q_if_eq (tgt := 22) dX10_restore_17 rfl (fun _ => ?_) (fun c => absurd (by decide) c)
    obtain ⟨h0, e0⟩ : ∃ z, z = h.setI 1061 12 (nI 0) := ⟨_, rfl⟩
    rw [← e0]
    have C0 : q_mr h0 m P := by rw [e0]; exact C.thr 12 (by omega) _
    have G0 : q_gm h h0 := by rw [e0]; exact q_gm.rf.set (by omega) (by omega)
    have T0 : h0.I 1061 12 = nI 0 := by rw [e0, q_sI, va_us]
    have K : q_Lk Φ h0.R h0.n := K.gm G0
    have hs := C0.1
    have M := C0.2.1.1
    refine q_iconst (v := nI 0) dX10_restore_22 (by decide) ?_
    refine q_istore_n (L' := [_, _]) dX10_restore_23 rfl (by decide) rfl ?_
    refine q_loop (ι := Nat) (μ := fun i => 830 - i) (P := fun i => i ≤ 830) (Lf := fun i => [some (.ref 1061), some (.int (nI (i)))]) (hf := fun i => (h0.rowI 1062 (q_cpy (h0.I 1070) (h0.I 1062) i))) (fun i hi24 ih24 => ?_) 0 (by omega) (q_sub_s rfl (q_sub_i rfl q_sub_0)) (by rw [q_cpy_0, q_rid])
    skip
    refine q_iload_n dX10_restore_24 rfl ?_
    refine q_sipush (v := nI 830) dX10_restore_25 (by decide) ?_
    refine q_icmp_geN (by omega) (by omega) (tgt := 49) dX10_restore_28 rfl (fun c5 => ?_) (fun c6 => ?_)
    · refine q_aload_n dX10_restore_49 rfl ?_
      refine q_iconst (v := nI 0) dX10_restore_50 (by decide) ?_
      refine pIX10_38 dX10_restore_51 rfl (by decide) (K.le (by decide)) ?_
      refine q_aload_n dX10_restore_54 rfl ?_
      refine fRX10_9 (o := some 1062) dX10_restore_55 rfl (by decide) (K.le (by decide)) hs ?_
      refine q_rfS ?_
      refine q_iconst (v := nI 2) dX10_restore_58 (by decide) ?_
      refine q_ialdN (len := 830) rfl dX10_restore_59 (by decide) (K.le (by decide)) rfl (by omega) (by decide) ?_
      refine q_tv (show _ = (nI (P.sn.c)) from ((congrFun (q_sIn _ _ _ (by omega)) _).trans ((congrFun (q_rI _ _ _) _).trans ((q_cpy_lt _ _ (by omega)).trans C0.2.2.2.2.1.1.c)))) ?_
      refine q_iret dX10_restore_60 rfl (Or.inl rfl) ?_
      have ei : i = 830 := by omega
      rw [ei]
      exact ⟨_, rfl, 0, _, (Or.inr ⟨(by first | assumption | exact (fun c => c (by assumption)) | exact Int32.not_lt.mpr (by assumption) | exact Int32.not_le.mpr (by assumption) | exact Int32.not_lt.mp (by assumption) | exact Int32.not_le.mp (by assumption) | omega), rfl⟩), rfl, (by rw [q_sI, va_un _ _ (by decide), q_rIn _ _ (by omega)]; exact T0), G0.tr ((q_gm.rf.row (by omega) (by omega)).set (by omega) (by omega)), fun e => absurd rfl e, fun _ => ⟨rfl, C0.rest⟩⟩
    · refine q_aload_n dX10_restore_31 rfl ?_
      refine fRX10_9 (o := some 1062) dX10_restore_32 rfl (by decide) (K.le (by decide)) hs ?_
      refine q_rfS ?_
      refine q_iload_n dX10_restore_35 rfl ?_
      refine q_aload_n dX10_restore_36 rfl ?_
      refine fRX10_18 (o := some 1070) dX10_restore_37 rfl (by decide) (K.le (by decide)) (K.lk rfl) ?_
      refine q_rfS ?_
      refine q_iload_n dX10_restore_40 rfl ?_
      refine q_ialdN (len := 830) rfl dX10_restore_41 (by decide) (K.le (by decide)) rfl (by omega) (by decide) ?_
      refine q_tv (show _ = (h0.I 1070 (i)) from (congrFun (q_rIn _ _ (by omega)) _)) ?_
      refine q_iastN (len := 830) rfl dX10_restore_42 (by decide) (K.le (by decide)) rfl (by omega) (by decide) ?_
      refine q_iincN (n := 1) (L' := [_, _]) (by decide) dX10_restore_43 rfl rfl (by decide) rfl ?_
      refine q_goto (tgt := 24) dX10_restore_46 rfl ?_
      exact q_to (ih24 (i + 1) (by omega) (by omega)) (q_sub_s rfl (q_sub_i rfl q_sub_0)) (by rw [q_rset, q_cpy_s (h0.I 1070)])
  · refine q_iconst (v := nI 1) dX10_restore_8 (by decide) ?_
    refine q_goto (tgt := 13) dX10_restore_9 rfl ?_
    refine q_iconst (v := nI 1) dX10_restore_13 (by decide) ?_
    refine q_vD (kc := 0) (ks := 0) (g_thrT (h := h) K (a := 1)) wX10_isThrown kX10_51 iX10_isThrown eX10_isThrown rfl rfl (by decide) (K.le (by decide)) (by decide) rfl rfl (Nat.le_of_ble_eq_true rfl) dX10_restore_14 rfl rfl ?_
    refine q_if_eq (tgt := 22) dX10_restore_17 rfl (fun c => absurd c (by decide)) (fun _ => ?_)
    refine q_iconst (v := nI 0) dX10_restore_20 (by decide) ?_
    refine q_iret dX10_restore_21 rfl (Or.inl rfl) ?_
    exact ⟨_, rfl, 1, _, (Or.inl ⟨(by first | assumption | exact (fun c => c (by assumption)) | exact Int32.not_lt.mpr (by assumption) | exact Int32.not_le.mpr (by assumption) | exact Int32.not_lt.mp (by assumption) | exact Int32.not_le.mp (by assumption) | omega), rfl⟩), rfl, (by rw [q_sI, va_us]), q_gm.rf.set (by omega) (by omega), fun _ => C.thr 12 (by omega) _, fun e => absurd e (by decide)⟩
