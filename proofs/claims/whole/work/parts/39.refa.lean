/-! THE REFERENCE'S addTest -/
theorem q_unsw {h : q_Hp} (hs : h.R 1061 0 = some 1062) (g g' : Nat → Int32) (w : Option Nat) : (((h.rowI 1072 g).setR 1061 0 w).rowI 1072 g').setR 1061 0 (some 1062) = h.rowI 1072 g' := by
  have e : (((h.rowI 1072 g).setR 1061 0 w).rowI 1072 g').setR 1061 0 (some 1062) = ((h.rowI 1072 g).rowI 1072 g') := by
    refine q_hpE rfl ?_ rfl rfl rfl
    show q_up (q_up h.R 1061 0 w) 1061 0 (some 1062) = h.R
    funext p f
    unfold q_up
    by_cases e1 : p = 1061
    · subst e1
      rw [if_pos rfl, if_pos rfl]
      unfold va_up
      by_cases e2 : f = 0
      · subst e2; rw [if_pos rfl]; exact hs.symm
      · rw [if_neg e2, if_neg e2]
    · rw [if_neg e1, if_neg e1]
  rw [e, q_rr]
theorem q_val.addT {m : q_W} (v : q_val m) {j x : Nat} (hj : j ≤ 199) (hx1 : 50 ≤ x) (hx : x ≤ 400) : q_val (m.sT (m.n + 1) (va_up m.d m.n (nI j)) (va_up m.v m.n (nI x))) := by
  obtain ⟨v1, v2, v3, v4, v5, v6, v7⟩ := v
  refine ⟨fun i hi => ?_, v2, v3, v4, fun i hi => ?_, v6, v7⟩
  · by_cases e : i = m.n
    · subst e; exact ⟨x, hx1, hx, va_us _ _ _⟩
    · obtain ⟨k, h1, h2, h3⟩ := v1 i (by have : i < m.n + 1 := hi; omega)
      exact ⟨k, h1, h2, (va_un _ _ e).trans h3⟩
  · by_cases e : i = m.n
    · subst e; exact ⟨j, hj, va_us _ _ _⟩
    · obtain ⟨k, h1, h3⟩ := v5 i (by have : i < m.n + 1 := hi; omega)
      exact ⟨k, h1, (va_un _ _ e).trans h3⟩
theorem g_X10_addTest {Φ : q_Fx} {h : q_Hp} (K : q_Lk Φ h.R h.n) {m : q_W} {P : q_P} (C : q_mr h m P) (v : q_val m) {d x : Int32} : q_Ct Φ false yX10_addTest cX10_addTest mX10_addTest [.ref 1061, .int d, .int x] h (q_ex (q_pr h m P (q_k2 (¬ (nI 0 ≤ d ∧ d ≤ nI m.t) ∨ ¬ (nI 50 ≤ x ∧ x ≤ nI 400)) (m.n = 10 ∨ 0 ≤ q_pl (fun i => decide (m.d i = d)) m.n)) (nI (q_cn (fun k => decide (m.ld k ≠ (m.sT (m.n + 1) (va_up m.d m.n d) (va_up m.v m.n x)).ld k)) m.c)) ((m.sT (m.n + 1) (va_up m.d m.n d) (va_up m.v m.n x))) (P.kept m))) := by
  refine q_enter K.st rfl rfl (by decide) rfl (Nat.le_of_ble_eq_true rfl) (L := [_, _, _, none, none, none, none]) rfl ?_
  have hs := C.1
  have M := C.2.1.1
  have hσ := C.2.1.2
  have ht9 := M.t9
  have hc40 := M.c40
  have hn10 := M.n10
  have hp28 := M.pc28
  have hpe1 := M.pe1
  have hpf9 := M.pf9
  have hu := C.2.2.1.2.1
  have htp := C.2.2.1.2.2.2.1
  have hwr := C.2.2.1.2.2.2.2.2.1
  have hsv := C.2.2.1.2.2.2.2.2.2.2
  have htm : (P.tp + 1) % 6 < 6 := Nat.mod_lt _ (by decide)
  refine q_aload_n dX10_addTest_0 rfl ?_
  refine q_aload_n dX10_addTest_1 rfl ?_
  refine q_iload_n dX10_addTest_2 rfl ?_
  refine q_vD (kc := 0) (ks := 0) (g_X10_isNoDay (h := h) K ((Or.inl rfl)) hs (M) (d := d)) wX10_isNoDay kX10_58 iX10_isNoDay eX10_isNoDay rfl rfl (by decide) (K.le (by decide)) (by decide) rfl rfl (Nat.le_of_ble_eq_true rfl) dX10_addTest_3 rfl rfl ?_
  refine q_spl (fun c1 => ?_) (fun c2 => ?_)
  · refine q_if_ne (tgt := 21) dX10_addTest_6 rfl (fun _ => ?_) (fun c => absurd c (by decide))
    refine q_iconst (v := nI 1) dX10_addTest_21 (by decide) ?_
    refine q_goto (tgt := 26) dX10_addTest_22 rfl ?_
    refine q_iconst (v := nI 1) dX10_addTest_26 (by decide) ?_
    refine q_vD (kc := 0) (ks := 0) (g_thrT (h := h) K (a := 1)) wX10_isThrown kX10_51 iX10_isThrown eX10_isThrown rfl rfl (by decide) (K.le (by decide)) (by decide) rfl rfl (Nat.le_of_ble_eq_true rfl) dX10_addTest_27 rfl rfl ?_
    refine q_if_ne (tgt := 65) dX10_addTest_30 rfl (fun _ => ?_) (fun c => absurd c (by decide))
    refine q_iconst (v := nI 0) dX10_addTest_65 (by decide) ?_
    refine q_iret dX10_addTest_66 rfl (Or.inl rfl) ?_
    first | exact ⟨_, rfl, 1, _, (Or.inl ⟨(by first | exact Or.inl (by first | assumption | exact (fun c => c (by assumption)) | exact Int32.not_lt.mpr (by assumption) | exact Int32.not_le.mpr (by assumption) | exact Int32.not_lt.mp (by assumption) | exact Int32.not_le.mp (by assumption) | omega) | exact Or.inr (by first | assumption | exact (fun c => c (by assumption)) | exact Int32.not_lt.mpr (by assumption) | exact Int32.not_le.mpr (by assumption) | exact Int32.not_lt.mp (by assumption) | exact Int32.not_le.mp (by assumption) | omega)), rfl⟩), rfl, (by rw [q_sI, va_us]), (q_gm.rf.set (by omega) (by omega)), fun _ => (C.thr 12 (by omega) _), fun e => absurd e (by decide)⟩ | exact ⟨_, rfl, 2, _, (Or.inr (Or.inl ⟨(q_no2 (by first | assumption | exact (fun c => c (by assumption)) | exact Int32.not_lt.mpr (by assumption) | exact Int32.not_le.mpr (by assumption) | exact Int32.not_lt.mp (by assumption) | exact Int32.not_le.mp (by assumption) | omega) (by first | assumption | exact (fun c => c (by assumption)) | exact Int32.not_lt.mpr (by assumption) | exact Int32.not_le.mpr (by assumption) | exact Int32.not_lt.mp (by assumption) | exact Int32.not_le.mp (by assumption) | omega)), (by first | exact Or.inl (by first | assumption | exact (fun c => c (by assumption)) | exact Int32.not_lt.mpr (by assumption) | exact Int32.not_le.mpr (by assumption) | exact Int32.not_lt.mp (by assumption) | exact Int32.not_le.mp (by assumption) | omega) | exact Or.inr (by first | assumption | exact (fun c => c (by assumption)) | exact Int32.not_lt.mpr (by assumption) | exact Int32.not_le.mpr (by assumption) | exact Int32.not_lt.mp (by assumption) | exact Int32.not_le.mp (by assumption) | omega)), rfl⟩)), rfl, (by rw [q_sI, va_us]), (q_gm.rf.set (by omega) (by omega)), fun _ => (C.thr 12 (by omega) _), fun e => absurd e (by decide)⟩
  · refine q_if_ne (tgt := 21) dX10_addTest_6 rfl (fun c => absurd (by decide) c) (fun _ => ?_)
    refine q_iload_n dX10_addTest_9 rfl ?_
    refine q_bipush (v := nI 50) dX10_addTest_10 (by decide) ?_
    refine q_sipush (v := nI 400) dX10_addTest_12 (by decide) ?_
    refine q_sD (kc := 0) (ks := 0) (g_X10_isIn (h := h) K (v := x) (lo := (nI (50))) (hi := (nI (400)))) wX10_isIn kX10_47 sX10_isIn (by decide) rfl rfl (Nat.le_of_ble_eq_true rfl) dX10_addTest_15 rfl rfl ?_
    refine q_spl (fun c9 => ?_) (fun c10 => ?_)
    · refine q_if_ne (tgt := 25) dX10_addTest_18 rfl (fun _ => ?_) (fun c => absurd c (by decide))
      refine q_iconst (v := nI 0) dX10_addTest_25 (by decide) ?_
      refine q_iconst (v := nI 1) dX10_addTest_26 (by decide) ?_
      refine q_vD (kc := 0) (ks := 0) (g_thrF (h := h) K (a := 1)) wX10_isThrown kX10_51 iX10_isThrown eX10_isThrown rfl rfl (by decide) (K.le (by decide)) (by decide) rfl rfl (Nat.le_of_ble_eq_true rfl) dX10_addTest_27 rfl rfl ?_
      refine q_if_ne (tgt := 65) dX10_addTest_30 rfl (fun c => absurd (by decide) c) (fun _ => ?_)
      refine q_aload_n dX10_addTest_33 rfl ?_
      refine q_aload_n dX10_addTest_34 rfl ?_
      refine fRX10_9 (o := some 1062) dX10_addTest_35 rfl (by decide) (K.le (by decide)) hs ?_
      refine q_rfS ?_
      refine q_iconst (v := nI 3) dX10_addTest_38 (by decide) ?_
      refine q_ialdN (len := 830) rfl dX10_addTest_39 (by decide) (K.le (by decide)) rfl (by omega) (by decide) ?_
      refine q_tv (show _ = (nI (m.n)) from ((congrFun (q_sIn _ _ _ (by omega)) _).trans M.n)) ?_
      refine q_bipush (v := nI 10) dX10_addTest_40 (by decide) ?_
      refine q_icmp_eqN (by omega) (by omega) (tgt := 53) dX10_addTest_42 rfl (fun c15 => ?_) (fun c16 => ?_)
      · refine q_iconst (v := nI 1) dX10_addTest_53 (by decide) ?_
        refine q_goto (tgt := 58) dX10_addTest_54 rfl ?_
        refine q_iconst (v := nI 2) dX10_addTest_58 (by decide) ?_
        refine q_vD (kc := 0) (ks := 0) (g_thrT (h := (h.setI 1061 12 (nI (0)))) K (a := 2)) wX10_isThrown kX10_51 iX10_isThrown eX10_isThrown rfl rfl (by decide) (K.le (by decide)) (by decide) rfl rfl (Nat.le_of_ble_eq_true rfl) dX10_addTest_59 rfl rfl ?_
        rw [q_ss]
        refine q_if_eq (tgt := 67) dX10_addTest_62 rfl (fun c => absurd c (by decide)) (fun _ => ?_)
        refine q_iconst (v := nI 0) dX10_addTest_65 (by decide) ?_
        refine q_iret dX10_addTest_66 rfl (Or.inl rfl) ?_
        first | exact ⟨_, rfl, 1, _, (Or.inl ⟨(by first | exact Or.inl (by first | assumption | exact (fun c => c (by assumption)) | exact Int32.not_lt.mpr (by assumption) | exact Int32.not_le.mpr (by assumption) | exact Int32.not_lt.mp (by assumption) | exact Int32.not_le.mp (by assumption) | omega) | exact Or.inr (by first | assumption | exact (fun c => c (by assumption)) | exact Int32.not_lt.mpr (by assumption) | exact Int32.not_le.mpr (by assumption) | exact Int32.not_lt.mp (by assumption) | exact Int32.not_le.mp (by assumption) | omega)), rfl⟩), rfl, (by rw [q_sI, va_us]), (q_gm.rf.set (by omega) (by omega)), fun _ => (C.thr 12 (by omega) _), fun e => absurd e (by decide)⟩ | exact ⟨_, rfl, 2, _, (Or.inr (Or.inl ⟨(q_no2 (by first | assumption | exact (fun c => c (by assumption)) | exact Int32.not_lt.mpr (by assumption) | exact Int32.not_le.mpr (by assumption) | exact Int32.not_lt.mp (by assumption) | exact Int32.not_le.mp (by assumption) | omega) (by first | assumption | exact (fun c => c (by assumption)) | exact Int32.not_lt.mpr (by assumption) | exact Int32.not_le.mpr (by assumption) | exact Int32.not_lt.mp (by assumption) | exact Int32.not_le.mp (by assumption) | omega)), (by first | exact Or.inl (by first | assumption | exact (fun c => c (by assumption)) | exact Int32.not_lt.mpr (by assumption) | exact Int32.not_le.mpr (by assumption) | exact Int32.not_lt.mp (by assumption) | exact Int32.not_le.mp (by assumption) | omega) | exact Or.inr (by first | assumption | exact (fun c => c (by assumption)) | exact Int32.not_lt.mpr (by assumption) | exact Int32.not_le.mpr (by assumption) | exact Int32.not_lt.mp (by assumption) | exact Int32.not_le.mp (by assumption) | omega)), rfl⟩)), rfl, (by rw [q_sI, va_us]), (q_gm.rf.set (by omega) (by omega)), fun _ => (C.thr 12 (by omega) _), fun e => absurd e (by decide)⟩
      · refine q_aload_n dX10_addTest_45 rfl ?_
        refine q_iload_n dX10_addTest_46 rfl ?_
        refine q_vD (kc := 0) (ks := 0) (g_X10_testOn (h := (h.setI 1061 12 (nI (0)))) K ((Or.inl rfl)) hs ((show (h.setI 1061 12 (nI (0))).I 1062 = h.I 1062 from (q_sIn _ _ _ (by omega))).symm ▸ M) (d := d)) wX10_testOn kX10_62 iX10_testOn eX10_testOn rfl rfl (by decide) (K.le (by decide)) (by decide) rfl rfl (Nat.le_of_ble_eq_true rfl) dX10_addTest_47 rfl rfl ?_
        refine q_if_lt (tgt := 57) dX10_addTest_50 rfl (fun c19 => ?_) (fun c20 => ?_)
        · refine q_iconst (v := nI 0) dX10_addTest_57 (by decide) ?_
          refine q_iconst (v := nI 2) dX10_addTest_58 (by decide) ?_
          refine q_vD (kc := 0) (ks := 0) (g_thrF (h := (h.setI 1061 12 (nI (0)))) K (a := 2)) wX10_isThrown kX10_51 iX10_isThrown eX10_isThrown rfl rfl (by decide) (K.le (by decide)) (by decide) rfl rfl (Nat.le_of_ble_eq_true rfl) dX10_addTest_59 rfl rfl ?_
          rw [q_ss]
          refine q_if_eq (tgt := 67) dX10_addTest_62 rfl (fun _ => ?_) (fun c => absurd (by decide) c)
          obtain ⟨j, hj1, hj2, rfl⟩ := q_rng (x := d) (a := 0) (b := m.t) (fun f => by first | exact f (by assumption) | exact absurd f (by assumption)) (by omega) (by omega)
          try rw [nI_clamp (show j < 2 ^ 31 by omega)]
          obtain ⟨xx, hxx1, hxx2, rfl⟩ := q_rng (x := x) (a := 50) (b := 400) (fun f => by first | exact f (by assumption) | exact absurd f (by assumption)) (by omega) (by omega)
          try rw [nI_clamp (show xx < 2 ^ 31 by omega)]
          have hn9 : m.n < 10 := by omega
          refine q_aload_n dX10_addTest_67 rfl ?_
          refine q_vR (kc := 0) (ks := 0) (g_X10_keeps (h := (h.setI 1061 12 (nI (0)))) K (C.thr 12 (by omega) _)) wX10_keeps kX10_55 iX10_keeps eX10_keeps rfl rfl (by decide) (K.le (by decide)) (by decide) rfl rfl (Nat.le_of_ble_eq_true rfl) dX10_addTest_68 rfl rfl ?_
          rintro v' h2 ⟨rfl, e2⟩
          obtain ⟨C2, G2a, T2a, I2⟩ := q_mr.kept (C.thr 12 (by omega) (nI 0))
          rw [← e2] at C2 G2a T2a I2
          have G2 : q_gm h h2 := (q_gm.rf.set (by omega) (by omega)).tr G2a
          have T2 : h2.I 1061 12 = nI 0 := T2a.trans (by rw [q_sI, va_us])
          have K : q_Lk Φ h2.R h2.n := K.gm G2
          have hs := C2.1
          have M := C2.2.1.1
          refine q_aload_n dX10_addTest_71 rfl ?_
          refine fRX10_9 (o := some 1062) dX10_addTest_72 rfl (by decide) (K.le (by decide)) hs ?_
          refine q_rfS ?_
          refine q_bipush (v := nI 20) dX10_addTest_75 (by decide) ?_
          refine q_iconst (v := nI 2) dX10_addTest_77 (by decide) ?_
          refine q_aload_n dX10_addTest_78 rfl ?_
          refine fRX10_9 (o := some 1062) dX10_addTest_79 rfl (by decide) (K.le (by decide)) hs ?_
          refine q_rfS ?_
          refine q_iconst (v := nI 3) dX10_addTest_82 (by decide) ?_
          refine q_ialdN (len := 830) rfl dX10_addTest_83 (by decide) (K.le (by decide)) rfl (by omega) (by decide) ?_
          refine q_tv (show _ = (nI (m.n)) from M.n) ?_
          refine q_imulN dX10_addTest_84 ?_
          refine q_iaddN dX10_addTest_85 ?_
          refine q_iload_n dX10_addTest_86 rfl ?_
          refine q_iastN (len := 830) rfl dX10_addTest_87 (by decide) (K.le (by decide)) rfl (by omega) (by decide) ?_
          refine q_aload_n dX10_addTest_88 rfl ?_
          refine fRX10_9 (o := some 1062) dX10_addTest_89 rfl (by decide) (K.le (by decide)) hs ?_
          refine q_rfS ?_
          refine q_bipush (v := nI 20) dX10_addTest_92 (by decide) ?_
          refine q_iconst (v := nI 2) dX10_addTest_94 (by decide) ?_
          refine q_aload_n dX10_addTest_95 rfl ?_
          refine fRX10_9 (o := some 1062) dX10_addTest_96 rfl (by decide) (K.le (by decide)) hs ?_
          refine q_rfS ?_
          refine q_iconst (v := nI 3) dX10_addTest_99 (by decide) ?_
          refine q_ialdN (len := 830) rfl dX10_addTest_100 (by decide) (K.le (by decide)) rfl (by omega) (by decide) ?_
          refine q_tv (show _ = (nI (m.n)) from (((congrFun (q_sI _ _ _ _) _).trans (va_un _ _ (by omega))).trans M.n)) ?_
          refine q_imulN dX10_addTest_101 ?_
          refine q_iaddN dX10_addTest_102 ?_
          refine q_iconst (v := nI 1) dX10_addTest_103 (by decide) ?_
          refine q_iaddN dX10_addTest_104 ?_
          refine q_iload_n dX10_addTest_105 rfl ?_
          refine q_iastN (len := 830) rfl dX10_addTest_106 (by decide) (K.le (by decide)) rfl (by omega) (by decide) ?_
          refine q_aload_n dX10_addTest_107 rfl ?_
          refine fRX10_9 (o := some 1062) dX10_addTest_108 rfl (by decide) (K.le (by decide)) hs ?_
          refine q_rfS ?_
          refine q_iconst (v := nI 3) dX10_addTest_111 (by decide) ?_
          refine q_dup2 dX10_addTest_112 rfl rfl ?_
          refine q_ialdN (len := 830) rfl dX10_addTest_113 (by decide) (K.le (by decide)) rfl (by omega) (by decide) ?_
          refine q_tv (show _ = (nI (m.n)) from (((congrFun (q_sI _ _ _ _) _).trans (va_un _ _ (by omega))).trans (((congrFun (q_sI _ _ _ _) _).trans (va_un _ _ (by omega))).trans M.n))) ?_
          refine q_iconst (v := nI 1) dX10_addTest_114 (by decide) ?_
          refine q_iaddN dX10_addTest_115 ?_
          refine q_iastN (len := 830) rfl dX10_addTest_116 (by decide) (K.le (by decide)) rfl (by omega) (by decide) ?_
          rw [q_setI_row h2]
          repeat rw [q_rset]
          obtain ⟨h3, e3⟩ : ∃ z, z = (h2.rowI 1062 (va_up (va_up (va_up (h2.I 1062) (20 + 2 * m.n) (nI j)) (20 + 2 * m.n + 1) (nI xx)) 3 (nI (m.n + 1)))) := ⟨_, rfl⟩
          rw [← e3]
          have C3 : q_mr h3 (m.sT (m.n + 1) (va_up m.d m.n (nI j)) (va_up m.v m.n (nI xx))) (P.kept m) := by rw [e3]; exact q_mr.r62 C2 ⟨M.addT hn9, hσ⟩
          have v2 : q_val (m.sT (m.n + 1) (va_up m.d m.n (nI j)) (va_up m.v m.n (nI xx))) := v.addT (by omega) (by omega) (by omega)
          have Mo : q_rw (h3.I (1064 + (P.tp + 1) % 6)) m := by have h9 := C3.2.2.2.1 ((P.tp + 1) % 6) htm; rw [show (P.kept m).ob ((P.tp + 1) % 6) = m from if_pos rfl] at h9; exact h9.1
          have hs := C3.1
          have M := C3.2.1.1
          have K : q_Lk Φ h3.R h3.n := by rw [e3]; exact K
          have T3 : h3.I 1061 12 = nI 0 := by rw [e3, q_rIn _ _ (by omega)]; exact T2
          have G3 : q_gm h h3 := by rw [e3]; exact G2.row (by omega) (by omega)
          have ht7 : h3.I 1061 7 = nI ((P.tp + 1) % 6) := C3.2.2.1.2.2.1
          refine q_iconst (v := nI 0) dX10_addTest_117 (by decide) ?_
          refine q_istore_n (L' := [_, _, _, _, _, _, _]) dX10_addTest_118 rfl (by decide) rfl ?_
          refine q_aload_n dX10_addTest_119 rfl ?_
          refine fRX10_9 (o := some 1062) dX10_addTest_120 rfl (by decide) (K.le (by decide)) hs ?_
          refine q_rfS ?_
          refine q_astore (L' := [_, _, _, _, _, _, _]) dX10_addTest_123 rfl (by decide) rfl ?_
          refine q_iconst (v := nI 0) dX10_addTest_125 (by decide) ?_
          refine q_istore (L' := [_, _, _, _, _, _, _]) dX10_addTest_126 rfl (by decide) rfl ?_
          refine q_loop (ι := Nat × (Nat → Int32)) (μ := fun x => m.c - x.1) (P := fun x => x.1 ≤ m.c) (Lf := fun x => [some (.ref 1061), some (.int (nI (j))), some (.int (nI (xx))), some (.int (nI (q_cn (fun k => decide (m.ld k ≠ (m.sT (m.n + 1) (va_up m.d m.n (nI j)) (va_up m.v m.n (nI xx))).ld k)) x.1))), some (.ref 1062), some (.int (nI (x.1))), none]) (hf := fun x => (h3.rowI 1072 x.2)) (fun x hi128 ih128 => ?_) (0, h3.I 1072) (Nat.zero_le _) (q_sub_s rfl (q_sub_i rfl (q_sub_i rfl (q_sub_i rfl (q_sub_s rfl (q_sub_i rfl (q_sub_n q_sub_0))))))) (q_rid h3 1072).symm
          skip
          refine q_iload dX10_addTest_128 rfl ?_
          refine q_aload dX10_addTest_130 rfl ?_
          refine q_iconst (v := nI 2) dX10_addTest_132 (by decide) ?_
          refine q_ialdN (len := 830) rfl dX10_addTest_133 (by decide) (K.le (by decide)) rfl (by omega) (by decide) ?_
          refine q_tv (show _ = (nI (m.c)) from ((congrFun (q_rIn _ _ (by omega)) _).trans M.c)) ?_
          refine q_icmp_geN (by omega) (by omega) (tgt := 189) dX10_addTest_134 rfl (fun c23 => ?_) (fun c24 => ?_)
          · refine q_iload_n dX10_addTest_189 rfl ?_
            refine q_iret dX10_addTest_190 rfl (Or.inl rfl) ?_
            exact ⟨_, rfl, 0, _, (Or.inr (Or.inr ⟨(q_no2 (by first | assumption | exact (fun c => c (by assumption)) | exact Int32.not_lt.mpr (by assumption) | exact Int32.not_le.mpr (by assumption) | exact Int32.not_lt.mp (by assumption) | exact Int32.not_le.mp (by assumption) | omega) (by first | assumption | exact (fun c => c (by assumption)) | exact Int32.not_lt.mpr (by assumption) | exact Int32.not_le.mpr (by assumption) | exact Int32.not_lt.mp (by assumption) | exact Int32.not_le.mp (by assumption) | omega)), (q_no2 (by first | assumption | exact (fun c => c (by assumption)) | exact Int32.not_lt.mpr (by assumption) | exact Int32.not_le.mpr (by assumption) | exact Int32.not_lt.mp (by assumption) | exact Int32.not_le.mp (by assumption) | omega) (by first | assumption | exact (fun c => c (by assumption)) | exact Int32.not_lt.mpr (by assumption) | exact Int32.not_le.mpr (by assumption) | exact Int32.not_lt.mp (by assumption) | exact Int32.not_le.mp (by assumption) | omega)), rfl⟩)), rfl, ((congrFun (q_rIn _ _ (by omega)) _).trans T3), G3.row (by omega) (by omega), fun e => absurd rfl e, fun _ => ⟨by rw [show x.1 = m.c by omega], C3.row _ (Or.inr rfl)⟩⟩
          · refine q_aload_n dX10_addTest_137 rfl ?_
            refine q_iload dX10_addTest_138 rfl ?_
            refine q_vR (kc := 0) (ks := 0) (g_X10_loadAt (h := (h3.rowI 1072 x.2)) K (Or.inl rfl) hs (m := (m.sT (m.n + 1) (va_up m.d m.n (nI j)) (va_up m.v m.n (nI xx)))) M v2 (k := x.1) (by omega)) wX10_loadAt kX10_66 iX10_loadAt eX10_loadAt rfl rfl (by decide) (K.le (by decide)) (by decide) rfl rfl (Nat.le_of_ble_eq_true rfl) dX10_addTest_140 rfl rfl ?_
            rintro v' h' ⟨rfl, g72, rfl⟩
            rw [q_rr]
            refine q_istore (L' := [_, _, _, _, _, _, _]) dX10_addTest_143 rfl (by decide) rfl ?_
            refine q_aload_n dX10_addTest_145 rfl ?_
            refine q_aload_n dX10_addTest_146 rfl ?_
            refine fRX10_15 (o := some 1063) dX10_addTest_147 rfl (by decide) (K.le (by decide)) (K.lk rfl) ?_
            refine q_rfS ?_
            refine q_aload_n dX10_addTest_150 rfl ?_
            refine fIX10_35 dX10_addTest_151 rfl (by decide) (K.le (by decide)) ?_
            refine q_tv (show _ = (nI ((P.tp + 1) % 6)) from ((congrFun (q_rIn _ _ (by omega)) _).trans ht7)) ?_
            refine q_aaldN (len := 6) (o := some (1064 + (P.tp + 1) % 6)) (by decide) (by decide) dX10_addTest_154 (by decide) (K.le (by decide)) rfl (by omega) (by decide) (K.lk (q_lkMo htm)) ?_
            refine q_rfS ?_
            refine pRX10_9 dX10_addTest_155 rfl (by decide) (K.le (by decide)) ?_
            refine q_iload_n dX10_addTest_158 rfl ?_
            refine q_aload_n dX10_addTest_159 rfl ?_
            refine q_iload dX10_addTest_160 rfl ?_
            refine q_vR (kc := 0) (ks := 0) (g_X10_loadAt (h := ((h3.rowI 1072 g72).setR 1061 0 (some (1064 + (P.tp + 1) % 6)))) (q_swp K _) (w := (1064 + (P.tp + 1) % 6)) (Or.inr ⟨_, htm, rfl⟩) rfl (m := m) (by show q_rw ((h3.rowI 1072 g72).I (1064 + (P.tp + 1) % 6)) m; rw [q_rIn _ _ (by omega)]; exact Mo) v (k := x.1) (by omega)) wX10_loadAt kX10_66 iX10_loadAt eX10_loadAt rfl rfl (by decide) (K.le (by decide)) (by decide) rfl rfl (Nat.le_of_ble_eq_true rfl) dX10_addTest_162 rfl rfl ?_
            rintro v' h' ⟨rfl, g73, rfl⟩
            refine q_iload dX10_addTest_165 rfl ?_
            refine q_icmp_ne (tgt := 174) dX10_addTest_167 rfl (fun c25 => ?_) (fun c26 => ?_)
            · refine q_iconst (v := nI 1) dX10_addTest_174 (by decide) ?_
              refine q_iaddN dX10_addTest_175 ?_
              refine q_istore_n (L' := [_, _, _, _, _, _, _]) dX10_addTest_176 rfl (by decide) rfl ?_
              refine q_aload_n dX10_addTest_177 rfl ?_
              refine q_aload dX10_addTest_178 rfl ?_
              refine pRX10_9 dX10_addTest_180 rfl (by decide) (K.le (by decide)) ?_
              refine q_iincN (n := 1) (L' := [_, _, _, _, _, _, _]) (by decide) dX10_addTest_183 rfl rfl (by decide) rfl ?_
              refine q_goto (tgt := 128) dX10_addTest_186 rfl ?_
              exact q_to (ih128 (x.1 + 1, g73) (by show x.1 + 1 ≤ m.c; omega) (by show m.c - (x.1 + 1) < m.c - x.1; omega)) (q_sub_s rfl (q_sub_i rfl (q_sub_i rfl (q_sub_i (by simp only [q_cn]; split <;> first | rfl | (exfalso; simp_all)) (q_sub_s rfl (q_sub_i rfl (q_sub_n q_sub_0))))))) (q_unsw hs _ _ _)
            · refine q_iconst (v := nI 0) dX10_addTest_170 (by decide) ?_
              refine q_goto (tgt := 175) dX10_addTest_171 rfl ?_
              refine q_iaddN dX10_addTest_175 ?_
              refine q_istore_n (L' := [_, _, _, _, _, _, _]) dX10_addTest_176 rfl (by decide) rfl ?_
              refine q_aload_n dX10_addTest_177 rfl ?_
              refine q_aload dX10_addTest_178 rfl ?_
              refine pRX10_9 dX10_addTest_180 rfl (by decide) (K.le (by decide)) ?_
              refine q_iincN (n := 1) (L' := [_, _, _, _, _, _, _]) (by decide) dX10_addTest_183 rfl rfl (by decide) rfl ?_
              refine q_goto (tgt := 128) dX10_addTest_186 rfl ?_
              exact q_to (ih128 (x.1 + 1, g73) (by show x.1 + 1 ≤ m.c; omega) (by show m.c - (x.1 + 1) < m.c - x.1; omega)) (q_sub_s rfl (q_sub_i rfl (q_sub_i rfl (q_sub_i (by simp only [q_cn]; split <;> first | rfl | (exfalso; simp_all)) (q_sub_s rfl (q_sub_i rfl (q_sub_n q_sub_0))))))) (q_unsw hs _ _ _)
        · refine q_iconst (v := nI 1) dX10_addTest_53 (by decide) ?_
          refine q_goto (tgt := 58) dX10_addTest_54 rfl ?_
          refine q_iconst (v := nI 2) dX10_addTest_58 (by decide) ?_
          refine q_vD (kc := 0) (ks := 0) (g_thrT (h := (h.setI 1061 12 (nI (0)))) K (a := 2)) wX10_isThrown kX10_51 iX10_isThrown eX10_isThrown rfl rfl (by decide) (K.le (by decide)) (by decide) rfl rfl (Nat.le_of_ble_eq_true rfl) dX10_addTest_59 rfl rfl ?_
          rw [q_ss]
          refine q_if_eq (tgt := 67) dX10_addTest_62 rfl (fun c => absurd c (by decide)) (fun _ => ?_)
          refine q_iconst (v := nI 0) dX10_addTest_65 (by decide) ?_
          refine q_iret dX10_addTest_66 rfl (Or.inl rfl) ?_
          first | exact ⟨_, rfl, 1, _, (Or.inl ⟨(by first | exact Or.inl (by first | assumption | exact (fun c => c (by assumption)) | exact Int32.not_lt.mpr (by assumption) | exact Int32.not_le.mpr (by assumption) | exact Int32.not_lt.mp (by assumption) | exact Int32.not_le.mp (by assumption) | omega) | exact Or.inr (by first | assumption | exact (fun c => c (by assumption)) | exact Int32.not_lt.mpr (by assumption) | exact Int32.not_le.mpr (by assumption) | exact Int32.not_lt.mp (by assumption) | exact Int32.not_le.mp (by assumption) | omega)), rfl⟩), rfl, (by rw [q_sI, va_us]), (q_gm.rf.set (by omega) (by omega)), fun _ => (C.thr 12 (by omega) _), fun e => absurd e (by decide)⟩ | exact ⟨_, rfl, 2, _, (Or.inr (Or.inl ⟨(q_no2 (by first | assumption | exact (fun c => c (by assumption)) | exact Int32.not_lt.mpr (by assumption) | exact Int32.not_le.mpr (by assumption) | exact Int32.not_lt.mp (by assumption) | exact Int32.not_le.mp (by assumption) | omega) (by first | assumption | exact (fun c => c (by assumption)) | exact Int32.not_lt.mpr (by assumption) | exact Int32.not_le.mpr (by assumption) | exact Int32.not_lt.mp (by assumption) | exact Int32.not_le.mp (by assumption) | omega)), (by first | exact Or.inl (by first | assumption | exact (fun c => c (by assumption)) | exact Int32.not_lt.mpr (by assumption) | exact Int32.not_le.mpr (by assumption) | exact Int32.not_lt.mp (by assumption) | exact Int32.not_le.mp (by assumption) | omega) | exact Or.inr (by first | assumption | exact (fun c => c (by assumption)) | exact Int32.not_lt.mpr (by assumption) | exact Int32.not_le.mpr (by assumption) | exact Int32.not_lt.mp (by assumption) | exact Int32.not_le.mp (by assumption) | omega)), rfl⟩)), rfl, (by rw [q_sI, va_us]), (q_gm.rf.set (by omega) (by omega)), fun _ => (C.thr 12 (by omega) _), fun e => absurd e (by decide)⟩
    · refine q_if_ne (tgt := 25) dX10_addTest_18 rfl (fun c => absurd (by decide) c) (fun _ => ?_)
      refine q_iconst (v := nI 1) dX10_addTest_21 (by decide) ?_
      refine q_goto (tgt := 26) dX10_addTest_22 rfl ?_
      refine q_iconst (v := nI 1) dX10_addTest_26 (by decide) ?_
      refine q_vD (kc := 0) (ks := 0) (g_thrT (h := h) K (a := 1)) wX10_isThrown kX10_51 iX10_isThrown eX10_isThrown rfl rfl (by decide) (K.le (by decide)) (by decide) rfl rfl (Nat.le_of_ble_eq_true rfl) dX10_addTest_27 rfl rfl ?_
      refine q_if_ne (tgt := 65) dX10_addTest_30 rfl (fun _ => ?_) (fun c => absurd c (by decide))
      refine q_iconst (v := nI 0) dX10_addTest_65 (by decide) ?_
      refine q_iret dX10_addTest_66 rfl (Or.inl rfl) ?_
      first | exact ⟨_, rfl, 1, _, (Or.inl ⟨(by first | exact Or.inl (by first | assumption | exact (fun c => c (by assumption)) | exact Int32.not_lt.mpr (by assumption) | exact Int32.not_le.mpr (by assumption) | exact Int32.not_lt.mp (by assumption) | exact Int32.not_le.mp (by assumption) | omega) | exact Or.inr (by first | assumption | exact (fun c => c (by assumption)) | exact Int32.not_lt.mpr (by assumption) | exact Int32.not_le.mpr (by assumption) | exact Int32.not_lt.mp (by assumption) | exact Int32.not_le.mp (by assumption) | omega)), rfl⟩), rfl, (by rw [q_sI, va_us]), (q_gm.rf.set (by omega) (by omega)), fun _ => (C.thr 12 (by omega) _), fun e => absurd e (by decide)⟩ | exact ⟨_, rfl, 2, _, (Or.inr (Or.inl ⟨(q_no2 (by first | assumption | exact (fun c => c (by assumption)) | exact Int32.not_lt.mpr (by assumption) | exact Int32.not_le.mpr (by assumption) | exact Int32.not_lt.mp (by assumption) | exact Int32.not_le.mp (by assumption) | omega) (by first | assumption | exact (fun c => c (by assumption)) | exact Int32.not_lt.mpr (by assumption) | exact Int32.not_le.mpr (by assumption) | exact Int32.not_lt.mp (by assumption) | exact Int32.not_le.mp (by assumption) | omega)), (by first | exact Or.inl (by first | assumption | exact (fun c => c (by assumption)) | exact Int32.not_lt.mpr (by assumption) | exact Int32.not_le.mpr (by assumption) | exact Int32.not_lt.mp (by assumption) | exact Int32.not_le.mp (by assumption) | omega) | exact Or.inr (by first | assumption | exact (fun c => c (by assumption)) | exact Int32.not_lt.mpr (by assumption) | exact Int32.not_le.mpr (by assumption) | exact Int32.not_lt.mp (by assumption) | exact Int32.not_le.mp (by assumption) | omega)), rfl⟩)), rfl, (by rw [q_sI, va_us]), (q_gm.rf.set (by omega) (by omega)), fun _ => (C.thr 12 (by omega) _), fun e => absurd e (by decide)⟩
