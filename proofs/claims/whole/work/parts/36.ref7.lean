/-! THE REFERENCE'S FACE: SHARES, PLAN, LINE -/
theorem g_X10_zoneShare {Φ : q_Fx} {h : q_Hp} (K : q_Lk Φ h.R h.n) {m : q_W} {P : q_P} (C : q_mr h m P) (v : q_val m) {z : Int32} : q_Ct Φ false yX10_zoneShare cX10_zoneShare mX10_zoneShare [.ref 1061, .int z] h (q_ex (q_prF h m P (q_k2 (¬ (nI 1 ≤ z ∧ z ≤ nI 5)) (m.all = 0)) (FP.fdiv (FP.i2f (m.zs z.toNatClampNeg)) (FP.i2f m.all)))) := by
  refine q_enter K.st rfl rfl (by decide) rfl (Nat.le_of_ble_eq_true rfl) (L := [_, _, none, none]) rfl ?_
  have hs := C.1
  have M := C.2.1.1
  have hσ := C.2.1.2
  have ht9 := M.t9
  have hc40 := M.c40
  have hn10 := M.n10
  have hp28 := M.pc28
  have hpe1 := M.pe1
  have hpf9 := M.pf9
  have hu := C.2.2.1.2.1
  have htp := C.2.2.1.2.2.2.1
  have hwr := C.2.2.1.2.2.2.2.2.1
  have hsv := C.2.2.1.2.2.2.2.2.2.2
  refine q_aload_n dX10_zoneShare_0 rfl ?_
  refine q_vD (kc := 0) (ks := 0) (g_X10_noZones (h := h) K) wX10_noZones kX10_78 iX10_noZones eX10_noZones rfl rfl (by decide) (K.le (by decide)) (by decide) rfl rfl (Nat.le_of_ble_eq_true rfl) dX10_zoneShare_1 rfl rfl ?_
  have hg72 : ∀ k, k < 6 → q_cpy (fun _ => nI 0) (h.I 1072) 6 k = nI 0 := fun k hk => q_cpy_lt _ _ hk
  generalize q_cpy (fun _ => nI 0) (h.I 1072) 6 = g72 at hg72 ⊢
  refine q_iconst (v := nI 0) dX10_zoneShare_4 (by decide) ?_
  refine q_istore_n (L' := [_, _, _, _]) dX10_zoneShare_5 rfl (by decide) rfl ?_
  refine q_iconst (v := nI 0) dX10_zoneShare_6 (by decide) ?_
  refine q_istore_n (L' := [_, _, _, _]) dX10_zoneShare_7 rfl (by decide) rfl ?_
  refine q_loop (ι := Nat) (μ := fun i => m.c - i) (P := fun i => i ≤ m.c) (Lf := fun i => [some (.ref 1061), some (.int z), some (.int (q_sum (fun i => m.len i) i)), some (.int (nI (i)))]) (hf := fun i => (h.rowI 1072 (m.za g72 i))) (fun i hi8 ih8 => ?_) 0 (by omega) (q_sub_s rfl (q_sub_i rfl (q_sub_i rfl (q_sub_i rfl q_sub_0)))) rfl
  skip
  refine q_iload_n dX10_zoneShare_8 rfl ?_
  refine q_aload_n dX10_zoneShare_9 rfl ?_
  refine fRX10_9 (o := some 1062) dX10_zoneShare_10 rfl (by decide) (K.le (by decide)) hs ?_
  refine q_rfS ?_
  refine q_iconst (v := nI 2) dX10_zoneShare_13 (by decide) ?_
  refine q_ialdN (len := 830) rfl dX10_zoneShare_14 (by decide) (K.le (by decide)) rfl (by omega) (by decide) ?_
  refine q_tv (show _ = (nI (m.c)) from ((congrFun (q_rIn _ _ (by omega)) _).trans M.c)) ?_
  refine q_icmp_geN (by omega) (by omega) (tgt := 37) dX10_zoneShare_15 rfl (fun c1 => ?_) (fun c2 => ?_)
  · have ei : i = m.c := by omega
    refine q_aload_n dX10_zoneShare_37 rfl ?_
    refine q_iload_n dX10_zoneShare_38 rfl ?_
    refine q_iconst (v := nI 1) dX10_zoneShare_39 (by decide) ?_
    refine q_iconst (v := nI 5) dX10_zoneShare_40 (by decide) ?_
    refine q_sD (kc := 0) (ks := 0) (g_X10_isIn (h := (h.rowI 1072 (m.za g72 i))) K (v := z) (lo := (nI (1))) (hi := (nI (5)))) wX10_isIn kX10_47 sX10_isIn (by decide) rfl rfl (Nat.le_of_ble_eq_true rfl) dX10_zoneShare_41 rfl rfl ?_
    refine q_spl (fun c3 => ?_) (fun c4 => ?_)
    · refine q_if_ne (tgt := 51) dX10_zoneShare_44 rfl (fun _ => ?_) (fun c => absurd c (by decide))
      refine q_iconst (v := nI 0) dX10_zoneShare_51 (by decide) ?_
      refine q_iconst (v := nI 1) dX10_zoneShare_52 (by decide) ?_
      refine q_vD (kc := 0) (ks := 0) (g_thrF (h := (h.rowI 1072 (m.za g72 i))) K (a := 1)) wX10_isThrown kX10_51 iX10_isThrown eX10_isThrown rfl rfl (by decide) (K.le (by decide)) (by decide) rfl rfl (Nat.le_of_ble_eq_true rfl) dX10_zoneShare_53 rfl rfl ?_
      refine q_if_ne (tgt := 76) dX10_zoneShare_56 rfl (fun c => absurd (by decide) c) (fun _ => ?_)
      refine q_aload_n dX10_zoneShare_59 rfl ?_
      refine q_iload_n dX10_zoneShare_60 rfl ?_
      refine q_if_ne (tgt := 68) dX10_zoneShare_61 rfl (fun c9 => ?_) (fun c10 => ?_)
      · refine q_iconst (v := nI 0) dX10_zoneShare_68 (by decide) ?_
        refine q_iconst (v := nI 2) dX10_zoneShare_69 (by decide) ?_
        refine q_vD (kc := 0) (ks := 0) (g_thrF (h := ((h.rowI 1072 (m.za g72 i)).setI 1061 12 (nI (0)))) K (a := 2)) wX10_isThrown kX10_51 iX10_isThrown eX10_isThrown rfl rfl (by decide) (K.le (by decide)) (by decide) rfl rfl (Nat.le_of_ble_eq_true rfl) dX10_zoneShare_70 rfl rfl ?_
        rw [q_ss]
        refine q_if_eq (tgt := 80) dX10_zoneShare_73 rfl (fun _ => ?_) (fun c => absurd (by decide) c)
        obtain ⟨j, hj1, hj2, rfl⟩ := q_rng (x := z) (a := 1) (b := 5) (fun f => by first | exact f (by assumption) | exact absurd f (by assumption)) (by omega) (by omega)
        try rw [nI_clamp (show j < 2 ^ 31 by omega)]
        refine q_aload_n dX10_zoneShare_80 rfl ?_
        refine fRX10_24 (o := some 1072) dX10_zoneShare_81 rfl (by decide) (K.le (by decide)) (K.lk rfl) ?_
        refine q_rfS ?_
        refine q_iload_n dX10_zoneShare_84 rfl ?_
        refine q_ialdN (len := 6) rfl dX10_zoneShare_85 (by decide) (K.le (by decide)) rfl (by omega) (by decide) ?_
        refine q_tv (show _ = (m.za g72 i (j)) from ((congrFun (q_sIn _ _ _ (by omega)) _).trans ((congrFun (q_rI _ _ _) _).trans rfl))) ?_
        refine q_i2f dX10_zoneShare_86 ?_
        refine q_iload_n dX10_zoneShare_87 rfl ?_
        refine q_i2f dX10_zoneShare_88 ?_
        refine q_fdiv dX10_zoneShare_89 (q_fdn (by assumption)) ?_
        refine q_fret dX10_zoneShare_90 rfl (Or.inl rfl) ?_
        have eal : q_sum (fun i => m.len i) i = m.all := by rw [ei]; exact q_sum_cong fun k hk => by rw [hσ]
        first | exact ⟨_, rfl, 0, _, Or.inr (Or.inr ⟨(by first | assumption | exact (fun c => c (by assumption)) | exact Int32.not_lt.mpr (by assumption) | exact Int32.not_le.mpr (by assumption) | exact Int32.not_lt.mp (by assumption) | exact Int32.not_le.mp (by assumption) | omega), (by rw [← eal]; assumption), rfl⟩), rfl, (by rw [q_sI, va_us]), ((q_gm.rf.row (by omega) (by omega)).set (by omega) (by omega)), ((C.row _ (Or.inr rfl)).thr 12 (by omega) _), fun _ => by rw [eal, ei, m.za_in hg72 _ _ (by omega)]; rfl⟩ | exact ⟨_, rfl, 1, _, Or.inl ⟨(by first | assumption | exact (fun c => c (by assumption)) | exact Int32.not_lt.mpr (by assumption) | exact Int32.not_le.mpr (by assumption) | exact Int32.not_lt.mp (by assumption) | exact Int32.not_le.mp (by assumption) | omega), rfl⟩, rfl, (by rw [q_sI, va_us]), ((q_gm.rf.row (by omega) (by omega)).set (by omega) (by omega)), ((C.row _ (Or.inr rfl)).thr 12 (by omega) _), fun e => absurd e (by decide)⟩ | exact ⟨_, rfl, 2, _, Or.inr (Or.inl ⟨(by first | assumption | exact (fun c => c (by assumption)) | exact Int32.not_lt.mpr (by assumption) | exact Int32.not_le.mpr (by assumption) | exact Int32.not_lt.mp (by assumption) | exact Int32.not_le.mp (by assumption) | omega), (by rw [← eal]; assumption), rfl⟩), rfl, (by rw [q_sI, va_us]), ((q_gm.rf.row (by omega) (by omega)).set (by omega) (by omega)), ((C.row _ (Or.inr rfl)).thr 12 (by omega) _), fun e => absurd e (by decide)⟩
      · refine q_iconst (v := nI 1) dX10_zoneShare_64 (by decide) ?_
        refine q_goto (tgt := 69) dX10_zoneShare_65 rfl ?_
        refine q_iconst (v := nI 2) dX10_zoneShare_69 (by decide) ?_
        refine q_vD (kc := 0) (ks := 0) (g_thrT (h := ((h.rowI 1072 (m.za g72 i)).setI 1061 12 (nI (0)))) K (a := 2)) wX10_isThrown kX10_51 iX10_isThrown eX10_isThrown rfl rfl (by decide) (K.le (by decide)) (by decide) rfl rfl (Nat.le_of_ble_eq_true rfl) dX10_zoneShare_70 rfl rfl ?_
        rw [q_ss]
        refine q_if_eq (tgt := 80) dX10_zoneShare_73 rfl (fun c => absurd c (by decide)) (fun _ => ?_)
        refine q_fconst0 dX10_zoneShare_76 ?_
        refine q_goto (tgt := 90) dX10_zoneShare_77 rfl ?_
        refine q_fret dX10_zoneShare_90 rfl (Or.inl rfl) ?_
        have eal : q_sum (fun i => m.len i) i = m.all := by rw [ei]; exact q_sum_cong fun k hk => by rw [hσ]
        first | exact ⟨_, rfl, 0, _, Or.inr (Or.inr ⟨(by first | assumption | exact (fun c => c (by assumption)) | exact Int32.not_lt.mpr (by assumption) | exact Int32.not_le.mpr (by assumption) | exact Int32.not_lt.mp (by assumption) | exact Int32.not_le.mp (by assumption) | omega), (by rw [← eal]; assumption), rfl⟩), rfl, (by rw [q_sI, va_us]), ((q_gm.rf.row (by omega) (by omega)).set (by omega) (by omega)), ((C.row _ (Or.inr rfl)).thr 12 (by omega) _), fun _ => by rw [eal, ei, m.za_in hg72 _ _ (by omega)]; rfl⟩ | exact ⟨_, rfl, 1, _, Or.inl ⟨(by first | assumption | exact (fun c => c (by assumption)) | exact Int32.not_lt.mpr (by assumption) | exact Int32.not_le.mpr (by assumption) | exact Int32.not_lt.mp (by assumption) | exact Int32.not_le.mp (by assumption) | omega), rfl⟩, rfl, (by rw [q_sI, va_us]), ((q_gm.rf.row (by omega) (by omega)).set (by omega) (by omega)), ((C.row _ (Or.inr rfl)).thr 12 (by omega) _), fun e => absurd e (by decide)⟩ | exact ⟨_, rfl, 2, _, Or.inr (Or.inl ⟨(by first | assumption | exact (fun c => c (by assumption)) | exact Int32.not_lt.mpr (by assumption) | exact Int32.not_le.mpr (by assumption) | exact Int32.not_lt.mp (by assumption) | exact Int32.not_le.mp (by assumption) | omega), (by rw [← eal]; assumption), rfl⟩), rfl, (by rw [q_sI, va_us]), ((q_gm.rf.row (by omega) (by omega)).set (by omega) (by omega)), ((C.row _ (Or.inr rfl)).thr 12 (by omega) _), fun e => absurd e (by decide)⟩
    · refine q_if_ne (tgt := 51) dX10_zoneShare_44 rfl (fun c => absurd (by decide) c) (fun _ => ?_)
      refine q_iconst (v := nI 1) dX10_zoneShare_47 (by decide) ?_
      refine q_goto (tgt := 52) dX10_zoneShare_48 rfl ?_
      refine q_iconst (v := nI 1) dX10_zoneShare_52 (by decide) ?_
      refine q_vD (kc := 0) (ks := 0) (g_thrT (h := (h.rowI 1072 (m.za g72 i))) K (a := 1)) wX10_isThrown kX10_51 iX10_isThrown eX10_isThrown rfl rfl (by decide) (K.le (by decide)) (by decide) rfl rfl (Nat.le_of_ble_eq_true rfl) dX10_zoneShare_53 rfl rfl ?_
      refine q_if_ne (tgt := 76) dX10_zoneShare_56 rfl (fun _ => ?_) (fun c => absurd c (by decide))
      refine q_fconst0 dX10_zoneShare_76 ?_
      refine q_goto (tgt := 90) dX10_zoneShare_77 rfl ?_
      refine q_fret dX10_zoneShare_90 rfl (Or.inl rfl) ?_
      have eal : q_sum (fun i => m.len i) i = m.all := by rw [ei]; exact q_sum_cong fun k hk => by rw [hσ]
      first | exact ⟨_, rfl, 0, _, Or.inr (Or.inr ⟨(by first | assumption | exact (fun c => c (by assumption)) | exact Int32.not_lt.mpr (by assumption) | exact Int32.not_le.mpr (by assumption) | exact Int32.not_lt.mp (by assumption) | exact Int32.not_le.mp (by assumption) | omega), (by rw [← eal]; assumption), rfl⟩), rfl, (by rw [q_sI, va_us]), ((q_gm.rf.row (by omega) (by omega)).set (by omega) (by omega)), ((C.row _ (Or.inr rfl)).thr 12 (by omega) _), fun _ => by rw [eal, ei, m.za_in hg72 _ _ (by omega)]; rfl⟩ | exact ⟨_, rfl, 1, _, Or.inl ⟨(by first | assumption | exact (fun c => c (by assumption)) | exact Int32.not_lt.mpr (by assumption) | exact Int32.not_le.mpr (by assumption) | exact Int32.not_lt.mp (by assumption) | exact Int32.not_le.mp (by assumption) | omega), rfl⟩, rfl, (by rw [q_sI, va_us]), ((q_gm.rf.row (by omega) (by omega)).set (by omega) (by omega)), ((C.row _ (Or.inr rfl)).thr 12 (by omega) _), fun e => absurd e (by decide)⟩ | exact ⟨_, rfl, 2, _, Or.inr (Or.inl ⟨(by first | assumption | exact (fun c => c (by assumption)) | exact Int32.not_lt.mpr (by assumption) | exact Int32.not_le.mpr (by assumption) | exact Int32.not_lt.mp (by assumption) | exact Int32.not_le.mp (by assumption) | omega), (by rw [← eal]; assumption), rfl⟩), rfl, (by rw [q_sI, va_us]), ((q_gm.rf.row (by omega) (by omega)).set (by omega) (by omega)), ((C.row _ (Or.inr rfl)).thr 12 (by omega) _), fun e => absurd e (by decide)⟩
  · refine q_aload_n dX10_zoneShare_18 rfl ?_
    refine q_iload_n dX10_zoneShare_19 rfl ?_
    refine q_vD (kc := 0) (ks := 0) (g_X10_zones (h := (h.rowI 1072 (m.za g72 i))) K ((Or.inl rfl)) hs ((show (h.rowI 1072 (m.za g72 i)).I 1062 = h.I 1062 from (q_rIn _ _ (by omega))).symm ▸ M) v (k := i) (by omega)) wX10_zones kX10_81 iX10_zones eX10_zones rfl rfl (by decide) (K.le (by decide)) (by decide) rfl rfl (Nat.le_of_ble_eq_true rfl) dX10_zoneShare_20 rfl rfl ?_
    rw [q_rr, q_rI]
    refine q_iload_n dX10_zoneShare_23 rfl ?_
    refine q_aload_n dX10_zoneShare_24 rfl ?_
    refine q_iload_n dX10_zoneShare_25 rfl ?_
    refine q_vD (kc := 0) (ks := 0) (g_X10_minutes (h := (h.rowI 1072 (q_az (m.za g72 i) (m.z i) (m.mn i) (m.pn i)))) K ((Or.inl rfl)) hs ((show (h.rowI 1072 (q_az (m.za g72 i) (m.z i) (m.mn i) (m.pn i))).I 1062 = h.I 1062 from (q_rIn _ _ (by omega))).symm ▸ M) (k := i) (by omega)) wX10_minutes kX10_87 iX10_minutes eX10_minutes rfl rfl (by decide) (K.le (by decide)) (by decide) rfl rfl (Nat.le_of_ble_eq_true rfl) dX10_zoneShare_26 rfl rfl ?_
    refine q_iadd dX10_zoneShare_29 ?_
    refine q_istore_n (L' := [_, _, _, _]) dX10_zoneShare_30 rfl (by decide) rfl ?_
    refine q_iincN (n := 1) (L' := [_, _, _, _]) (by decide) dX10_zoneShare_31 rfl rfl (by decide) rfl ?_
    refine q_goto (tgt := 8) dX10_zoneShare_34 rfl ?_
    exact q_to (ih8 (i + 1) (by omega) (by omega)) (q_sub_s rfl (q_sub_i rfl (q_sub_i rfl (q_sub_i rfl q_sub_0)))) (by rw [q_za_z m _ _ hσ])
theorem g_X10_dueEntry {Φ : q_Fx} {h : q_Hp} (K : q_Lk Φ h.R h.n) {m : q_W} {P : q_P} (C : q_mr h m P) (v : q_val m) : q_Ct Φ false yX10_dueEntry cX10_dueEntry mX10_dueEntry [.ref 1061] h (q_ex (q_pr h m P (q_k1 (¬ (m.pe = 1 ∧ m.due < m.pc))) (nI m.due) (m) (P))) := by
  refine q_enter K.st rfl rfl (by decide) rfl (Nat.le_of_ble_eq_true rfl) (L := [_]) rfl ?_
  have hs := C.1
  have M := C.2.1.1
  have hσ := C.2.1.2
  have ht9 := M.t9
  have hc40 := M.c40
  have hn10 := M.n10
  have hp28 := M.pc28
  have hpe1 := M.pe1
  have hpf9 := M.pf9
  have hu := C.2.2.1.2.1
  have htp := C.2.2.1.2.2.2.1
  have hwr := C.2.2.1.2.2.2.2.2.1
  have hsv := C.2.2.1.2.2.2.2.2.2.2
  have hdl : m.due ≤ m.pc := (m.fo_le _).1
  refine q_aload_n dX10_dueEntry_0 rfl ?_
  refine q_aload_n dX10_dueEntry_1 rfl ?_
  refine q_vR (kc := 0) (ks := 0) (g_X10_goes (h := h) K C v) wX10_goes kX10_152 iX10_goes eX10_goes rfl rfl (by decide) (K.le (by decide)) (by decide) rfl rfl (Nat.le_of_ble_eq_true rfl) dX10_dueEntry_2 rfl rfl ?_
  rintro v' h' ⟨rfl, h1, F1, e9⟩
  have hD3 : ∀ f x, q_d3 (h1.I 1061) (nI m.due) (nI m.mis) (nI m.drp) f = x → h'.I 1061 f = x := fun f x e => by rw [e9, q_rI]; exact e
  have C9 : q_mr h' m P := by rw [e9]; exact (C.lf F1).d3 _ _ _
  have G9 : q_gm h h' := by rw [e9]; exact F1.gm.row (by omega) (by omega)
  have K : q_Lk Φ h'.R h'.n := K.gm G9
  have hs := C9.1
  have M := C9.2.1.1
  have T9 : h'.I 1061 12 = h.I 1061 12 := by rw [e9, q_rI]; exact congrFun (F1.1 _ (by omega) (by omega)) 12
  refine q_spl (fun c1 => ?_) (fun c2 => ?_)
  · refine q_if_ne (tgt := 12) dX10_dueEntry_5 rfl (fun _ => ?_) (fun c => absurd c (by decide))
    refine q_iconst (v := nI 0) dX10_dueEntry_12 (by decide) ?_
    refine q_iconst (v := nI 1) dX10_dueEntry_13 (by decide) ?_
    refine q_vD (kc := 0) (ks := 0) (g_thrF (h := h') K (a := 1)) wX10_isThrown kX10_51 iX10_isThrown eX10_isThrown rfl rfl (by decide) (K.le (by decide)) (by decide) rfl rfl (Nat.le_of_ble_eq_true rfl) dX10_dueEntry_14 rfl rfl ?_
    refine q_if_eq (tgt := 24) dX10_dueEntry_17 rfl (fun _ => ?_) (fun c => absurd (by decide) c)
    refine q_aload_n dX10_dueEntry_24 rfl ?_
    refine fIX10_143 dX10_dueEntry_25 rfl (by decide) (K.le (by decide)) ?_
    refine q_tv (show _ = (nI (m.due)) from (((congrFun (q_sI _ _ _ _) _).trans (va_un _ _ (by omega))).trans (hD3 9 _ rfl))) ?_
    refine q_iret dX10_dueEntry_28 rfl (Or.inl rfl) ?_
    first | exact ⟨_, rfl, 0, _, (Or.inr ⟨(by first | assumption | exact (fun c => c (by assumption)) | exact Int32.not_lt.mpr (by assumption) | exact Int32.not_le.mpr (by assumption) | exact Int32.not_lt.mp (by assumption) | exact Int32.not_le.mp (by assumption) | omega), rfl⟩), rfl, (by rw [q_sI, va_us]), (G9.set (by omega) (by omega)), fun e => absurd rfl e, fun _ => ⟨rfl, (C9.thr 12 (by omega) _)⟩⟩ | exact ⟨_, rfl, 1, _, (Or.inl ⟨(by first | assumption | exact (fun c => c (by assumption)) | exact Int32.not_lt.mpr (by assumption) | exact Int32.not_le.mpr (by assumption) | exact Int32.not_lt.mp (by assumption) | exact Int32.not_le.mp (by assumption) | omega), rfl⟩), rfl, (by rw [q_sI, va_us]), (G9.set (by omega) (by omega)), fun _ => (C9.thr 12 (by omega) _), fun e => absurd e (by decide)⟩
  · refine q_if_ne (tgt := 12) dX10_dueEntry_5 rfl (fun c => absurd (by decide) c) (fun _ => ?_)
    refine q_iconst (v := nI 1) dX10_dueEntry_8 (by decide) ?_
    refine q_goto (tgt := 13) dX10_dueEntry_9 rfl ?_
    refine q_iconst (v := nI 1) dX10_dueEntry_13 (by decide) ?_
    refine q_vD (kc := 0) (ks := 0) (g_thrT (h := h') K (a := 1)) wX10_isThrown kX10_51 iX10_isThrown eX10_isThrown rfl rfl (by decide) (K.le (by decide)) (by decide) rfl rfl (Nat.le_of_ble_eq_true rfl) dX10_dueEntry_14 rfl rfl ?_
    refine q_if_eq (tgt := 24) dX10_dueEntry_17 rfl (fun c => absurd c (by decide)) (fun _ => ?_)
    refine q_iconst (v := nI 0) dX10_dueEntry_20 (by decide) ?_
    refine q_goto (tgt := 28) dX10_dueEntry_21 rfl ?_
    refine q_iret dX10_dueEntry_28 rfl (Or.inl rfl) ?_
    first | exact ⟨_, rfl, 0, _, (Or.inr ⟨(by first | assumption | exact (fun c => c (by assumption)) | exact Int32.not_lt.mpr (by assumption) | exact Int32.not_le.mpr (by assumption) | exact Int32.not_lt.mp (by assumption) | exact Int32.not_le.mp (by assumption) | omega), rfl⟩), rfl, (by rw [q_sI, va_us]), (G9.set (by omega) (by omega)), fun e => absurd rfl e, fun _ => ⟨rfl, (C9.thr 12 (by omega) _)⟩⟩ | exact ⟨_, rfl, 1, _, (Or.inl ⟨(by first | assumption | exact (fun c => c (by assumption)) | exact Int32.not_lt.mpr (by assumption) | exact Int32.not_le.mpr (by assumption) | exact Int32.not_lt.mp (by assumption) | exact Int32.not_le.mp (by assumption) | omega), rfl⟩), rfl, (by rw [q_sI, va_us]), (G9.set (by omega) (by omega)), fun _ => (C9.thr 12 (by omega) _), fun e => absurd e (by decide)⟩
theorem g_X10_planEnd {Φ : q_Fx} {h : q_Hp} (K : q_Lk Φ h.R h.n) {m : q_W} {P : q_P} (C : q_mr h m P) (v : q_val m) : q_Ct Φ false yX10_planEnd cX10_planEnd mX10_planEnd [.ref 1061] h (q_ex (q_pr h m P (q_k1 (¬ (m.pe = 1 ∧ m.due < m.pc))) (nI (m.t + m.pc) - nI 1 - nI m.due) (m) (P))) := by
  refine q_enter K.st rfl rfl (by decide) rfl (Nat.le_of_ble_eq_true rfl) (L := [_]) rfl ?_
  have hs := C.1
  have M := C.2.1.1
  have hσ := C.2.1.2
  have ht9 := M.t9
  have hc40 := M.c40
  have hn10 := M.n10
  have hp28 := M.pc28
  have hpe1 := M.pe1
  have hpf9 := M.pf9
  have hu := C.2.2.1.2.1
  have htp := C.2.2.1.2.2.2.1
  have hwr := C.2.2.1.2.2.2.2.2.1
  have hsv := C.2.2.1.2.2.2.2.2.2.2
  have hdl : m.due ≤ m.pc := (m.fo_le _).1
  refine q_aload_n dX10_planEnd_0 rfl ?_
  refine q_aload_n dX10_planEnd_1 rfl ?_
  refine q_vR (kc := 0) (ks := 0) (g_X10_goes (h := h) K C v) wX10_goes kX10_152 iX10_goes eX10_goes rfl rfl (by decide) (K.le (by decide)) (by decide) rfl rfl (Nat.le_of_ble_eq_true rfl) dX10_planEnd_2 rfl rfl ?_
  rintro v' h' ⟨rfl, h1, F1, e9⟩
  have hD3 : ∀ f x, q_d3 (h1.I 1061) (nI m.due) (nI m.mis) (nI m.drp) f = x → h'.I 1061 f = x := fun f x e => by rw [e9, q_rI]; exact e
  have C9 : q_mr h' m P := by rw [e9]; exact (C.lf F1).d3 _ _ _
  have G9 : q_gm h h' := by rw [e9]; exact F1.gm.row (by omega) (by omega)
  have K : q_Lk Φ h'.R h'.n := K.gm G9
  have hs := C9.1
  have M := C9.2.1.1
  have T9 : h'.I 1061 12 = h.I 1061 12 := by rw [e9, q_rI]; exact congrFun (F1.1 _ (by omega) (by omega)) 12
  refine q_spl (fun c1 => ?_) (fun c2 => ?_)
  · refine q_if_ne (tgt := 12) dX10_planEnd_5 rfl (fun _ => ?_) (fun c => absurd c (by decide))
    refine q_iconst (v := nI 0) dX10_planEnd_12 (by decide) ?_
    refine q_iconst (v := nI 1) dX10_planEnd_13 (by decide) ?_
    refine q_vD (kc := 0) (ks := 0) (g_thrF (h := h') K (a := 1)) wX10_isThrown kX10_51 iX10_isThrown eX10_isThrown rfl rfl (by decide) (K.le (by decide)) (by decide) rfl rfl (Nat.le_of_ble_eq_true rfl) dX10_planEnd_14 rfl rfl ?_
    refine q_if_eq (tgt := 24) dX10_planEnd_17 rfl (fun _ => ?_) (fun c => absurd (by decide) c)
    refine q_aload_n dX10_planEnd_24 rfl ?_
    refine fRX10_9 (o := some 1062) dX10_planEnd_25 rfl (by decide) (K.le (by decide)) hs ?_
    refine q_rfS ?_
    refine q_iconst (v := nI 0) dX10_planEnd_28 (by decide) ?_
    refine q_ialdN (len := 830) rfl dX10_planEnd_29 (by decide) (K.le (by decide)) rfl (by omega) (by decide) ?_
    refine q_tv (show _ = (nI (m.t)) from ((congrFun (q_sIn _ _ _ (by omega)) _).trans M.t)) ?_
    refine q_aload_n dX10_planEnd_30 rfl ?_
    refine fRX10_9 (o := some 1062) dX10_planEnd_31 rfl (by decide) (K.le (by decide)) hs ?_
    refine q_rfS ?_
    refine q_bipush (v := nI 6) dX10_planEnd_34 (by decide) ?_
    refine q_ialdN (len := 830) rfl dX10_planEnd_36 (by decide) (K.le (by decide)) rfl (by omega) (by decide) ?_
    refine q_tv (show _ = (nI (m.pc)) from ((congrFun (q_sIn _ _ _ (by omega)) _).trans M.pc)) ?_
    refine q_iaddN dX10_planEnd_37 ?_
    refine q_iconst (v := nI 1) dX10_planEnd_38 (by decide) ?_
    refine q_isub dX10_planEnd_39 ?_
    refine q_aload_n dX10_planEnd_40 rfl ?_
    refine fIX10_143 dX10_planEnd_41 rfl (by decide) (K.le (by decide)) ?_
    refine q_tv (show _ = (nI (m.due)) from (((congrFun (q_sI _ _ _ _) _).trans (va_un _ _ (by omega))).trans (hD3 9 _ rfl))) ?_
    refine q_isub dX10_planEnd_44 ?_
    refine q_iret dX10_planEnd_45 rfl (Or.inl rfl) ?_
    first | exact ⟨_, rfl, 0, _, (Or.inr ⟨(by first | assumption | exact (fun c => c (by assumption)) | exact Int32.not_lt.mpr (by assumption) | exact Int32.not_le.mpr (by assumption) | exact Int32.not_lt.mp (by assumption) | exact Int32.not_le.mp (by assumption) | omega), rfl⟩), rfl, (by rw [q_sI, va_us]), (G9.set (by omega) (by omega)), fun e => absurd rfl e, fun _ => ⟨rfl, (C9.thr 12 (by omega) _)⟩⟩ | exact ⟨_, rfl, 1, _, (Or.inl ⟨(by first | assumption | exact (fun c => c (by assumption)) | exact Int32.not_lt.mpr (by assumption) | exact Int32.not_le.mpr (by assumption) | exact Int32.not_lt.mp (by assumption) | exact Int32.not_le.mp (by assumption) | omega), rfl⟩), rfl, (by rw [q_sI, va_us]), (G9.set (by omega) (by omega)), fun _ => (C9.thr 12 (by omega) _), fun e => absurd e (by decide)⟩
  · refine q_if_ne (tgt := 12) dX10_planEnd_5 rfl (fun c => absurd (by decide) c) (fun _ => ?_)
    refine q_iconst (v := nI 1) dX10_planEnd_8 (by decide) ?_
    refine q_goto (tgt := 13) dX10_planEnd_9 rfl ?_
    refine q_iconst (v := nI 1) dX10_planEnd_13 (by decide) ?_
    refine q_vD (kc := 0) (ks := 0) (g_thrT (h := h') K (a := 1)) wX10_isThrown kX10_51 iX10_isThrown eX10_isThrown rfl rfl (by decide) (K.le (by decide)) (by decide) rfl rfl (Nat.le_of_ble_eq_true rfl) dX10_planEnd_14 rfl rfl ?_
    refine q_if_eq (tgt := 24) dX10_planEnd_17 rfl (fun c => absurd c (by decide)) (fun _ => ?_)
    refine q_iconst (v := nI 0) dX10_planEnd_20 (by decide) ?_
    refine q_goto (tgt := 45) dX10_planEnd_21 rfl ?_
    refine q_iret dX10_planEnd_45 rfl (Or.inl rfl) ?_
    first | exact ⟨_, rfl, 0, _, (Or.inr ⟨(by first | assumption | exact (fun c => c (by assumption)) | exact Int32.not_lt.mpr (by assumption) | exact Int32.not_le.mpr (by assumption) | exact Int32.not_lt.mp (by assumption) | exact Int32.not_le.mp (by assumption) | omega), rfl⟩), rfl, (by rw [q_sI, va_us]), (G9.set (by omega) (by omega)), fun e => absurd rfl e, fun _ => ⟨rfl, (C9.thr 12 (by omega) _)⟩⟩ | exact ⟨_, rfl, 1, _, (Or.inl ⟨(by first | assumption | exact (fun c => c (by assumption)) | exact Int32.not_lt.mpr (by assumption) | exact Int32.not_le.mpr (by assumption) | exact Int32.not_lt.mp (by assumption) | exact Int32.not_le.mp (by assumption) | omega), rfl⟩), rfl, (by rw [q_sI, va_us]), (G9.set (by omega) (by omega)), fun _ => (C9.thr 12 (by omega) _), fun e => absurd e (by decide)⟩
theorem g_X10_missedDays {Φ : q_Fx} {h : q_Hp} (K : q_Lk Φ h.R h.n) {m : q_W} {P : q_P} (C : q_mr h m P) (v : q_val m) : q_Ct Φ false yX10_missedDays cX10_missedDays mX10_missedDays [.ref 1061] h (q_ex (q_pr h m P q_k0 (nI m.mis) (m) (P))) := by
  refine q_enter K.st rfl rfl (by decide) rfl (Nat.le_of_ble_eq_true rfl) (L := [_, none]) rfl ?_
  have hs := C.1
  have M := C.2.1.1
  have hσ := C.2.1.2
  have ht9 := M.t9
  have hc40 := M.c40
  have hn10 := M.n10
  have hp28 := M.pc28
  have hpe1 := M.pe1
  have hpf9 := M.pf9
  have hu := C.2.2.1.2.1
  have htp := C.2.2.1.2.2.2.1
  have hwr := C.2.2.1.2.2.2.2.2.1
  have hsv := C.2.2.1.2.2.2.2.2.2.2
  have hdl : m.due ≤ m.pc := (m.fo_le _).1
  refine q_aload_n dX10_missedDays_0 rfl ?_
  refine q_iconst (v := nI 0) dX10_missedDays_1 (by decide) ?_
  refine pIX10_31 dX10_missedDays_2 rfl (by decide) (K.le (by decide)) ?_
  obtain ⟨h0, e0⟩ : ∃ z, z = h.setI 1061 12 (nI 0) := ⟨_, rfl⟩
  rw [← e0]
  have C0 : q_mr h0 m P := by rw [e0]; exact C.thr 12 (by omega) _
  have G0 : q_gm h h0 := by rw [e0]; exact q_gm.rf.set (by omega) (by omega)
  have T0 : h0.I 1061 12 = nI 0 := by rw [e0, q_sI, va_us]
  have K : q_Lk Φ h0.R h0.n := K.gm G0
  have hs := C0.1
  have M := C0.2.1.1
  refine q_aload_n dX10_missedDays_5 rfl ?_
  refine q_vR (kc := 0) (ks := 0) (g_X10_goes (h := h0) K C0 v) wX10_goes kX10_152 iX10_goes eX10_goes rfl rfl (by decide) (K.le (by decide)) (by decide) rfl rfl (Nat.le_of_ble_eq_true rfl) dX10_missedDays_6 rfl rfl ?_
  rintro v' h' ⟨rfl, h1, F1, e9⟩
  have hD3 : ∀ f x, q_d3 (h1.I 1061) (nI m.due) (nI m.mis) (nI m.drp) f = x → h'.I 1061 f = x := fun f x e => by rw [e9, q_rI]; exact e
  have C9 : q_mr h' m P := by rw [e9]; exact (C0.lf F1).d3 _ _ _
  have G9 : q_gm h0 h' := by rw [e9]; exact F1.gm.row (by omega) (by omega)
  have K : q_Lk Φ h'.R h'.n := K.gm G9
  have hs := C9.1
  have M := C9.2.1.1
  have T9 : h'.I 1061 12 = h0.I 1061 12 := by rw [e9, q_rI]; exact congrFun (F1.1 _ (by omega) (by omega)) 12
  refine q_spl (fun c1 => ?_) (fun c2 => ?_)
  · refine q_istore_n (L' := [_, _]) dX10_missedDays_9 rfl (by decide) rfl ?_
    refine q_aload_n dX10_missedDays_10 rfl ?_
    refine fIX10_146 dX10_missedDays_11 rfl (by decide) (K.le (by decide)) ?_
    refine q_tv (show _ = (nI (m.mis)) from (hD3 10 _ rfl)) ?_
    refine q_iret dX10_missedDays_14 rfl (Or.inl rfl) ?_
    exact ⟨_, rfl, 0, _, rfl, rfl, (T9.trans T0), (G0.tr G9), fun e => absurd rfl e, fun _ => ⟨rfl, C9⟩⟩
  · refine q_istore_n (L' := [_, _]) dX10_missedDays_9 rfl (by decide) rfl ?_
    refine q_aload_n dX10_missedDays_10 rfl ?_
    refine fIX10_146 dX10_missedDays_11 rfl (by decide) (K.le (by decide)) ?_
    refine q_tv (show _ = (nI (m.mis)) from (hD3 10 _ rfl)) ?_
    refine q_iret dX10_missedDays_14 rfl (Or.inl rfl) ?_
    exact ⟨_, rfl, 0, _, rfl, rfl, (T9.trans T0), (G0.tr G9), fun e => absurd rfl e, fun _ => ⟨rfl, C9⟩⟩
theorem g_X10_droppedEntries {Φ : q_Fx} {h : q_Hp} (K : q_Lk Φ h.R h.n) {m : q_W} {P : q_P} (C : q_mr h m P) (v : q_val m) : q_Ct Φ false yX10_droppedEntries cX10_droppedEntries mX10_droppedEntries [.ref 1061] h (q_ex (q_pr h m P q_k0 (nI m.drp) (m) (P))) := by
  refine q_enter K.st rfl rfl (by decide) rfl (Nat.le_of_ble_eq_true rfl) (L := [_, none]) rfl ?_
  have hs := C.1
  have M := C.2.1.1
  have hσ := C.2.1.2
  have ht9 := M.t9
  have hc40 := M.c40
  have hn10 := M.n10
  have hp28 := M.pc28
  have hpe1 := M.pe1
  have hpf9 := M.pf9
  have hu := C.2.2.1.2.1
  have htp := C.2.2.1.2.2.2.1
  have hwr := C.2.2.1.2.2.2.2.2.1
  have hsv := C.2.2.1.2.2.2.2.2.2.2
  have hdl : m.due ≤ m.pc := (m.fo_le _).1
  refine q_aload_n dX10_droppedEntries_0 rfl ?_
  refine q_iconst (v := nI 0) dX10_droppedEntries_1 (by decide) ?_
  refine pIX10_31 dX10_droppedEntries_2 rfl (by decide) (K.le (by decide)) ?_
  obtain ⟨h0, e0⟩ : ∃ z, z = h.setI 1061 12 (nI 0) := ⟨_, rfl⟩
  rw [← e0]
  have C0 : q_mr h0 m P := by rw [e0]; exact C.thr 12 (by omega) _
  have G0 : q_gm h h0 := by rw [e0]; exact q_gm.rf.set (by omega) (by omega)
  have T0 : h0.I 1061 12 = nI 0 := by rw [e0, q_sI, va_us]
  have K : q_Lk Φ h0.R h0.n := K.gm G0
  have hs := C0.1
  have M := C0.2.1.1
  refine q_aload_n dX10_droppedEntries_5 rfl ?_
  refine q_vR (kc := 0) (ks := 0) (g_X10_goes (h := h0) K C0 v) wX10_goes kX10_152 iX10_goes eX10_goes rfl rfl (by decide) (K.le (by decide)) (by decide) rfl rfl (Nat.le_of_ble_eq_true rfl) dX10_droppedEntries_6 rfl rfl ?_
  rintro v' h' ⟨rfl, h1, F1, e9⟩
  have hD3 : ∀ f x, q_d3 (h1.I 1061) (nI m.due) (nI m.mis) (nI m.drp) f = x → h'.I 1061 f = x := fun f x e => by rw [e9, q_rI]; exact e
  have C9 : q_mr h' m P := by rw [e9]; exact (C0.lf F1).d3 _ _ _
  have G9 : q_gm h0 h' := by rw [e9]; exact F1.gm.row (by omega) (by omega)
  have K : q_Lk Φ h'.R h'.n := K.gm G9
  have hs := C9.1
  have M := C9.2.1.1
  have T9 : h'.I 1061 12 = h0.I 1061 12 := by rw [e9, q_rI]; exact congrFun (F1.1 _ (by omega) (by omega)) 12
  refine q_spl (fun c1 => ?_) (fun c2 => ?_)
  · refine q_istore_n (L' := [_, _]) dX10_droppedEntries_9 rfl (by decide) rfl ?_
    refine q_aload_n dX10_droppedEntries_10 rfl ?_
    refine fIX10_149 dX10_droppedEntries_11 rfl (by decide) (K.le (by decide)) ?_
    refine q_tv (show _ = (nI (m.drp)) from (hD3 11 _ rfl)) ?_
    refine q_iret dX10_droppedEntries_14 rfl (Or.inl rfl) ?_
    exact ⟨_, rfl, 0, _, rfl, rfl, (T9.trans T0), (G0.tr G9), fun e => absurd rfl e, fun _ => ⟨rfl, C9⟩⟩
  · refine q_istore_n (L' := [_, _]) dX10_droppedEntries_9 rfl (by decide) rfl ?_
    refine q_aload_n dX10_droppedEntries_10 rfl ?_
    refine fIX10_149 dX10_droppedEntries_11 rfl (by decide) (K.le (by decide)) ?_
    refine q_tv (show _ = (nI (m.drp)) from (hD3 11 _ rfl)) ?_
    refine q_iret dX10_droppedEntries_14 rfl (Or.inl rfl) ?_
    exact ⟨_, rfl, 0, _, rfl, rfl, (T9.trans T0), (G0.tr G9), fun e => absurd rfl e, fun _ => ⟨rfl, C9⟩⟩
theorem g_X10_isPlanOver {Φ : q_Fx} {h : q_Hp} (K : q_Lk Φ h.R h.n) {m : q_W} {P : q_P} (C : q_mr h m P) (v : q_val m) : q_Ct Φ false yX10_isPlanOver cX10_isPlanOver mX10_isPlanOver [.ref 1061] h (q_ex (q_pr h m P q_k0 (q_bl (decide (¬ (m.pe = 1 ∧ m.due < m.pc) ∧ m.pe = 1))) (m) (P))) := by
  refine q_enter K.st rfl rfl (by decide) rfl (Nat.le_of_ble_eq_true rfl) (L := [_]) rfl ?_
  have hs := C.1
  have M := C.2.1.1
  have hσ := C.2.1.2
  have ht9 := M.t9
  have hc40 := M.c40
  have hn10 := M.n10
  have hp28 := M.pc28
  have hpe1 := M.pe1
  have hpf9 := M.pf9
  have hu := C.2.2.1.2.1
  have htp := C.2.2.1.2.2.2.1
  have hwr := C.2.2.1.2.2.2.2.2.1
  have hsv := C.2.2.1.2.2.2.2.2.2.2
  have hdl : m.due ≤ m.pc := (m.fo_le _).1
  refine q_aload_n dX10_isPlanOver_0 rfl ?_
  refine q_iconst (v := nI 0) dX10_isPlanOver_1 (by decide) ?_
  refine pIX10_31 dX10_isPlanOver_2 rfl (by decide) (K.le (by decide)) ?_
  obtain ⟨h0, e0⟩ : ∃ z, z = h.setI 1061 12 (nI 0) := ⟨_, rfl⟩
  rw [← e0]
  have C0 : q_mr h0 m P := by rw [e0]; exact C.thr 12 (by omega) _
  have G0 : q_gm h h0 := by rw [e0]; exact q_gm.rf.set (by omega) (by omega)
  have T0 : h0.I 1061 12 = nI 0 := by rw [e0, q_sI, va_us]
  have K : q_Lk Φ h0.R h0.n := K.gm G0
  have hs := C0.1
  have M := C0.2.1.1
  refine q_aload_n dX10_isPlanOver_5 rfl ?_
  refine q_vR (kc := 0) (ks := 0) (g_X10_goes (h := h0) K C0 v) wX10_goes kX10_152 iX10_goes eX10_goes rfl rfl (by decide) (K.le (by decide)) (by decide) rfl rfl (Nat.le_of_ble_eq_true rfl) dX10_isPlanOver_6 rfl rfl ?_
  rintro v' h' ⟨rfl, h1, F1, e9⟩
  have hD3 : ∀ f x, q_d3 (h1.I 1061) (nI m.due) (nI m.mis) (nI m.drp) f = x → h'.I 1061 f = x := fun f x e => by rw [e9, q_rI]; exact e
  have C9 : q_mr h' m P := by rw [e9]; exact (C0.lf F1).d3 _ _ _
  have G9 : q_gm h0 h' := by rw [e9]; exact F1.gm.row (by omega) (by omega)
  have K : q_Lk Φ h'.R h'.n := K.gm G9
  have hs := C9.1
  have M := C9.2.1.1
  have T9 : h'.I 1061 12 = h0.I 1061 12 := by rw [e9, q_rI]; exact congrFun (F1.1 _ (by omega) (by omega)) 12
  refine q_spl (fun c1 => ?_) (fun c2 => ?_)
  · refine q_if_ne (tgt := 26) dX10_isPlanOver_9 rfl (fun _ => ?_) (fun c => absurd c (by decide))
    refine q_iconst (v := nI 0) dX10_isPlanOver_26 (by decide) ?_
    refine q_zret (ty := .boolean) dX10_isPlanOver_27 rfl rfl (Or.inl rfl) ?_
    exact ⟨_, rfl, 0, _, rfl, rfl, (T9.trans T0), (G0.tr G9), fun e => absurd rfl e, fun _ => ⟨by simp only [q_bl]; split <;> first | rfl | (exfalso; simp only [decide_eq_true_eq] at *; omega), C9⟩⟩
  · refine q_if_ne (tgt := 26) dX10_isPlanOver_9 rfl (fun c => absurd (by decide) c) (fun _ => ?_)
    refine q_aload_n dX10_isPlanOver_12 rfl ?_
    refine fRX10_9 (o := some 1062) dX10_isPlanOver_13 rfl (by decide) (K.le (by decide)) hs ?_
    refine q_rfS ?_
    refine q_iconst (v := nI 4) dX10_isPlanOver_16 (by decide) ?_
    refine q_ialdN (len := 830) rfl dX10_isPlanOver_17 (by decide) (K.le (by decide)) rfl (by omega) (by decide) ?_
    refine q_tv (show _ = (nI (m.pe)) from M.pe) ?_
    refine q_iconst (v := nI 1) dX10_isPlanOver_18 (by decide) ?_
    refine q_icmp_neN (by omega) (by omega) (tgt := 26) dX10_isPlanOver_19 rfl (fun c7 => ?_) (fun c8 => ?_)
    · refine q_iconst (v := nI 0) dX10_isPlanOver_26 (by decide) ?_
      refine q_zret (ty := .boolean) dX10_isPlanOver_27 rfl rfl (Or.inl rfl) ?_
      exact ⟨_, rfl, 0, _, rfl, rfl, (T9.trans T0), (G0.tr G9), fun e => absurd rfl e, fun _ => ⟨by simp only [q_bl]; split <;> first | rfl | (exfalso; simp only [decide_eq_true_eq] at *; omega), C9⟩⟩
    · refine q_iconst (v := nI 1) dX10_isPlanOver_22 (by decide) ?_
      refine q_goto (tgt := 27) dX10_isPlanOver_23 rfl ?_
      refine q_zret (ty := .boolean) dX10_isPlanOver_27 rfl rfl (Or.inl rfl) ?_
      exact ⟨_, rfl, 0, _, rfl, rfl, (T9.trans T0), (G0.tr G9), fun e => absurd rfl e, fun _ => ⟨by simp only [q_bl]; split <;> first | rfl | (exfalso; simp only [decide_eq_true_eq] at *; omega), C9⟩⟩
theorem g_X10_told {Φ : q_Fx} {h : q_Hp} (K : q_Lk Φ h.R h.n) {m : q_W} {P : q_P} (C : q_mr h m P) (v : q_val m) {d : Nat} (hd : d ≤ 300) : q_Ct Φ false yX10_told cX10_told mX10_told [.ref 1061, .int (nI (d))] h (q_ex (fun v h' => v = some (.int (nI (m.sg2 (m.zr d) d))) ∧ ∃ g, h' = h.rowI 1072 g)) := by
  refine q_enter K.st rfl rfl (by decide) rfl (Nat.le_of_ble_eq_true rfl) (L := [_, _, none, none, none, none]) rfl ?_
  have hs := C.1
  have M := C.2.1.1
  have hσ := C.2.1.2
  have ht9 := M.t9
  have hc40 := M.c40
  have hn10 := M.n10
  have hp28 := M.pc28
  have hpe1 := M.pe1
  have hpf9 := M.pf9
  have hu := C.2.2.1.2.1
  have htp := C.2.2.1.2.2.2.1
  have hwr := C.2.2.1.2.2.2.2.2.1
  have hsv := C.2.2.1.2.2.2.2.2.2.2
  have hpn8 : ∀ k, k < 40 → m.pn k ≤ 8 := fun k hk => M.pn8 hk
  refine q_aload_n dX10_told_0 rfl ?_
  refine q_vD (kc := 0) (ks := 0) (g_X10_noZones (h := h) K) wX10_noZones kX10_78 iX10_noZones eX10_noZones rfl rfl (by decide) (K.le (by decide)) (by decide) rfl rfl (Nat.le_of_ble_eq_true rfl) dX10_told_1 rfl rfl ?_
  have hg72 : ∀ k, k < 6 → q_cpy (fun _ => nI 0) (h.I 1072) 6 k = nI 0 := fun k hk => q_cpy_lt _ _ hk
  generalize q_cpy (fun _ => nI 0) (h.I 1072) 6 = g72 at hg72 ⊢
  refine q_iconst (v := nI 0) dX10_told_4 (by decide) ?_
  refine q_istore_n (L' := [_, _, _, _, _, _]) dX10_told_5 rfl (by decide) rfl ?_
  refine q_iconst (v := nI 0) dX10_told_6 (by decide) ?_
  refine q_istore_n (L' := [_, _, _, _, _, _]) dX10_told_7 rfl (by decide) rfl ?_
  refine q_iconst (v := nI 0) dX10_told_8 (by decide) ?_
  refine q_istore (L' := [_, _, _, _, _, _]) dX10_told_9 rfl (by decide) rfl ?_
  refine q_loop (ι := Nat) (μ := fun i => m.c - i) (P := fun i => i ≤ m.c) (Lf := fun i => [some (.ref 1061), some (.int (nI (d))), some (.int (nI (q_cn (fun k => decide (m.dy k = d)) i))), some (.int (nI (m.pa d i))), some (.int (nI (i))), none]) (hf := fun i => (h.rowI 1072 (m.zd g72 d i))) (fun i hi11 ih11 => ?_) 0 (by omega) (q_sub_s rfl (q_sub_i rfl (q_sub_i rfl (q_sub_i rfl (q_sub_i rfl (q_sub_n q_sub_0)))))) rfl
  skip
  have hcl := q_cn_le (fun k => decide (m.dy k = d)) i
  refine q_iload dX10_told_11 rfl ?_
  refine q_aload_n dX10_told_13 rfl ?_
  refine fRX10_9 (o := some 1062) dX10_told_14 rfl (by decide) (K.le (by decide)) hs ?_
  refine q_rfS ?_
  refine q_iconst (v := nI 2) dX10_told_17 (by decide) ?_
  refine q_ialdN (len := 830) rfl dX10_told_18 (by decide) (K.le (by decide)) rfl (by omega) (by decide) ?_
  refine q_tv (show _ = (nI (m.c)) from ((congrFun (q_rIn _ _ (by omega)) _).trans M.c)) ?_
  refine q_icmp_geN (by omega) (by omega) (tgt := 70) dX10_told_19 rfl (fun c1 => ?_) (fun c2 => ?_)
  · refine q_iconst (v := nI 1) dX10_told_70 (by decide) ?_
    refine q_istore (L' := [_, _, _, _, _, _]) dX10_told_71 rfl (by decide) rfl ?_
    refine q_iconst (v := nI 2) dX10_told_73 (by decide) ?_
    refine q_istore (L' := [_, _, _, _, _, _]) dX10_told_74 rfl (by decide) rfl ?_
    refine q_loop (ι := Nat) (μ := fun z => 4 - z) (P := fun z => z ≤ 4) (Lf := fun z => [some (.ref 1061), some (.int (nI (d))), some (.int (nI (q_cn (fun k => decide (m.dy k = d)) m.c))), some (.int (nI (m.pa d m.c))), some (.int (nI (q_bz (m.zd g72 d m.c) z))), some (.int (nI (z + 2)))]) (hf := fun z => (h.rowI 1072 (m.zd g72 d m.c))) (fun z hi76 ih76 => ?_) 0 (by omega) (q_sub_s rfl (q_sub_i rfl (q_sub_i (by rw [show i = m.c by omega]) (q_sub_i (by rw [show i = m.c by omega]) (q_sub_i rfl (q_sub_i rfl q_sub_0)))))) (by rw [show i = m.c by omega])
    skip
    have hbz := q_bz_le (m.zd g72 d m.c) z
    refine q_iload dX10_told_76 rfl ?_
    refine q_iconst (v := nI 5) dX10_told_78 (by decide) ?_
    refine q_icmp_gtN (by omega) (by omega) (tgt := 114) dX10_told_79 rfl (fun c3 => ?_) (fun c4 => ?_)
    · have hcl := q_cn_le (fun k => decide (m.dy k = d)) m.c
      have hpl := q_W.pa_le hpn8 d m.c hc40
      refine q_iload_n dX10_told_114 rfl ?_
      refine q_aload_n dX10_told_115 rfl ?_
      refine fRX10_9 (o := some 1062) dX10_told_116 rfl (by decide) (K.le (by decide)) hs ?_
      refine q_rfS ?_
      refine q_iconst (v := nI 0) dX10_told_119 (by decide) ?_
      refine q_ialdN (len := 830) rfl dX10_told_120 (by decide) (K.le (by decide)) rfl (by omega) (by decide) ?_
      refine q_tv (show _ = (nI (m.t)) from ((congrFun (q_rIn _ _ (by omega)) _).trans M.t)) ?_
      refine q_icmp_leN (by omega) (by omega) (tgt := 129) dX10_told_121 rfl (fun c5 => ?_) (fun c6 => ?_)
      · refine q_iload_n dX10_told_129 rfl ?_
        refine q_if_neN (by omega) (tgt := 138) dX10_told_130 rfl (fun c7 => ?_) (fun c8 => ?_)
        · refine q_iload_n dX10_told_138 rfl ?_
          refine q_if_neN (by omega) (tgt := 147) dX10_told_139 rfl (fun c9 => ?_) (fun c10 => ?_)
          · have hbz4 := q_bz_le (m.zd g72 d m.c) 4
            refine q_bipush (v := nI 48) dX10_told_147 (by decide) ?_
            refine q_iload dX10_told_149 rfl ?_
            refine q_iaddN dX10_told_151 ?_
            refine q_i2c (v := (nI (48 + q_bz (m.zd g72 d m.c) 4))) dX10_told_152 (by rw [show z = 4 by omega, pk_char, pk_tn (by omega), Nat.mod_eq_of_lt (by omega)]) ?_
            refine q_zret (ty := .char) dX10_told_153 rfl (by first | rfl | exact (pk_charN (by omega)).1) (Or.inl rfl) ?_
            unfold q_W.sg2
            first | exact ⟨_, rfl, by rw [if_pos (by omega)], _, rfl⟩ | exact ⟨_, rfl, by rw [if_neg (by omega), if_pos (by omega)], _, rfl⟩ | exact ⟨_, rfl, by rw [if_neg (by omega), if_neg (by omega), if_pos (by omega)], _, rfl⟩ | exact ⟨_, rfl, by rw [if_neg (by omega), if_neg (by omega), if_neg (by omega), q_bz_cong fun k h1 h2 => m.zd_in hg72 d m.c k (by omega)]; rfl, _, rfl⟩
          · refine q_bipush (v := nI 48) dX10_told_142 (by decide) ?_
            refine q_goto (tgt := 153) dX10_told_144 rfl ?_
            refine q_zret (ty := .char) dX10_told_153 rfl (by first | rfl | exact (pk_charN (by omega)).1) (Or.inl rfl) ?_
            unfold q_W.sg2
            first | exact ⟨_, rfl, by rw [if_pos (by omega)], _, rfl⟩ | exact ⟨_, rfl, by rw [if_neg (by omega), if_pos (by omega)], _, rfl⟩ | exact ⟨_, rfl, by rw [if_neg (by omega), if_neg (by omega), if_pos (by omega)], _, rfl⟩ | exact ⟨_, rfl, by rw [if_neg (by omega), if_neg (by omega), if_neg (by omega), q_bz_cong fun k h1 h2 => m.zd_in hg72 d m.c k (by omega)]; rfl, _, rfl⟩
        · refine q_bipush (v := nI 46) dX10_told_133 (by decide) ?_
          refine q_goto (tgt := 153) dX10_told_135 rfl ?_
          refine q_zret (ty := .char) dX10_told_153 rfl (by first | rfl | exact (pk_charN (by omega)).1) (Or.inl rfl) ?_
          unfold q_W.sg2
          first | exact ⟨_, rfl, by rw [if_pos (by omega)], _, rfl⟩ | exact ⟨_, rfl, by rw [if_neg (by omega), if_pos (by omega)], _, rfl⟩ | exact ⟨_, rfl, by rw [if_neg (by omega), if_neg (by omega), if_pos (by omega)], _, rfl⟩ | exact ⟨_, rfl, by rw [if_neg (by omega), if_neg (by omega), if_neg (by omega), q_bz_cong fun k h1 h2 => m.zd_in hg72 d m.c k (by omega)]; rfl, _, rfl⟩
      · refine q_bipush (v := nI 45) dX10_told_124 (by decide) ?_
        refine q_goto (tgt := 153) dX10_told_126 rfl ?_
        refine q_zret (ty := .char) dX10_told_153 rfl (by first | rfl | exact (pk_charN (by omega)).1) (Or.inl rfl) ?_
        unfold q_W.sg2
        first | exact ⟨_, rfl, by rw [if_pos (by omega)], _, rfl⟩ | exact ⟨_, rfl, by rw [if_neg (by omega), if_pos (by omega)], _, rfl⟩ | exact ⟨_, rfl, by rw [if_neg (by omega), if_neg (by omega), if_pos (by omega)], _, rfl⟩ | exact ⟨_, rfl, by rw [if_neg (by omega), if_neg (by omega), if_neg (by omega), q_bz_cong fun k h1 h2 => m.zd_in hg72 d m.c k (by omega)]; rfl, _, rfl⟩
    · refine q_aload_n dX10_told_82 rfl ?_
      refine fRX10_24 (o := some 1072) dX10_told_83 rfl (by decide) (K.le (by decide)) (K.lk rfl) ?_
      refine q_rfS ?_
      refine q_iload dX10_told_86 rfl ?_
      refine q_ialdN (len := 6) rfl dX10_told_88 (by decide) (K.le (by decide)) rfl (by omega) (by decide) ?_
      refine q_tv (show _ = (m.zd g72 d m.c (z + 2)) from ((congrFun (q_rI _ _ _) _).trans rfl)) ?_
      refine q_aload_n dX10_told_89 rfl ?_
      refine fRX10_24 (o := some 1072) dX10_told_90 rfl (by decide) (K.le (by decide)) (K.lk rfl) ?_
      refine q_rfS ?_
      refine q_iload dX10_told_93 rfl ?_
      refine q_ialdN (len := 6) rfl dX10_told_95 (by decide) (K.le (by decide)) rfl (by omega) (by decide) ?_
      refine q_tv (show _ = (m.zd g72 d m.c (q_bz (m.zd g72 d m.c) z)) from ((congrFun (q_rI _ _ _) _).trans rfl)) ?_
      refine q_icmp_le (tgt := 104) dX10_told_96 rfl (fun c11 => ?_) (fun c12 => ?_)
      · refine q_iload dX10_told_104 rfl ?_
        refine q_istore (L' := [_, _, _, _, _, _]) dX10_told_106 rfl (by decide) rfl ?_
        refine q_iincN (n := 1) (L' := [_, _, _, _, _, _]) (by decide) dX10_told_108 rfl rfl (by decide) rfl ?_
        refine q_goto (tgt := 76) dX10_told_111 rfl ?_
        exact q_to (ih76 (z + 1) (by omega) (by omega)) (q_sub_s rfl (q_sub_i rfl (q_sub_i rfl (q_sub_i rfl (q_sub_i (by simp only [q_bz]; split <;> first | rfl | (exfalso; simp only [Int32.lt_iff_toInt_lt, Int32.le_iff_toInt_le] at *; omega)) (q_sub_i rfl q_sub_0)))))) rfl
      · refine q_iload dX10_told_99 rfl ?_
        refine q_goto (tgt := 106) dX10_told_101 rfl ?_
        refine q_istore (L' := [_, _, _, _, _, _]) dX10_told_106 rfl (by decide) rfl ?_
        refine q_iincN (n := 1) (L' := [_, _, _, _, _, _]) (by decide) dX10_told_108 rfl rfl (by decide) rfl ?_
        refine q_goto (tgt := 76) dX10_told_111 rfl ?_
        exact q_to (ih76 (z + 1) (by omega) (by omega)) (q_sub_s rfl (q_sub_i rfl (q_sub_i rfl (q_sub_i rfl (q_sub_i (by simp only [q_bz]; split <;> first | rfl | (exfalso; simp only [Int32.lt_iff_toInt_lt, Int32.le_iff_toInt_le] at *; omega)) (q_sub_i rfl q_sub_0)))))) rfl
  · refine q_aload_n dX10_told_22 rfl ?_
    refine fRX10_9 (o := some 1062) dX10_told_23 rfl (by decide) (K.le (by decide)) hs ?_
    refine q_rfS ?_
    refine q_aload_n dX10_told_26 rfl ?_
    refine q_iload dX10_told_27 rfl ?_
    refine q_vD (kc := 0) (ks := 0) (g_X10_at (h := (h.rowI 1072 (m.zd g72 d i))) K (k := i)) wX10_at kX10_75 iX10_at eX10_at rfl rfl (by decide) (K.le (by decide)) (by decide) rfl rfl (Nat.le_of_ble_eq_true rfl) dX10_told_29 rfl rfl ?_
    refine q_iconst (v := nI 1) dX10_told_32 (by decide) ?_
    refine q_iaddN dX10_told_33 ?_
    refine q_ialdN (len := 830) rfl dX10_told_34 (by decide) (K.le (by decide)) rfl (by omega) (by decide) ?_
    refine q_tv (show _ = (nI (m.dy i)) from ((congrFun (q_rIn _ _ (by omega)) _).trans ((congrArg (h.I 1062) (show ((70 + 19 * i) + (1)) = 71 + 19 * i by omega)).trans (M.dy (by omega))))) ?_
    have hdy := M.dy9 (k := i) (by omega)
    refine q_iload_n dX10_told_35 rfl ?_
    refine q_icmp_neN (by omega) (by omega) (tgt := 64) dX10_told_36 rfl (fun c13 => ?_) (fun c14 => ?_)
    · refine q_iincN (n := 1) (L' := [_, _, _, _, _, _]) (by decide) dX10_told_64 rfl rfl (by decide) rfl ?_
      refine q_goto (tgt := 11) dX10_told_67 rfl ?_
      exact q_to (ih11 (i + 1) (by omega) (by omega)) (q_sub_s rfl (q_sub_i rfl (q_sub_i (by simp only [q_cn]; split <;> first | rfl | (exfalso; simp only [decide_eq_true_eq, Int32.lt_iff_toInt_lt, Int32.le_iff_toInt_le] at *; omega)) (q_sub_i (by simp only [q_W.pa]; split <;> first | rfl | (exfalso; omega)) (q_sub_i rfl (q_sub_n q_sub_0)))))) (by rw [q_zd_z m _ _ _ hσ]; first | rw [if_pos (by omega)] | rw [if_neg (by omega)])
    · refine q_iincN (n := 1) (L' := [_, _, _, _, _, _]) (by decide) dX10_told_39 rfl rfl (by decide) rfl ?_
      refine q_aload_n dX10_told_42 rfl ?_
      refine q_iload dX10_told_43 rfl ?_
      refine q_vD (kc := 0) (ks := 0) (g_X10_zones (h := (h.rowI 1072 (m.zd g72 d i))) K ((Or.inl rfl)) hs ((show (h.rowI 1072 (m.zd g72 d i)).I 1062 = h.I 1062 from (q_rIn _ _ (by omega))).symm ▸ M) v (k := i) (by omega)) wX10_zones kX10_81 iX10_zones eX10_zones rfl rfl (by decide) (K.le (by decide)) (by decide) rfl rfl (Nat.le_of_ble_eq_true rfl) dX10_told_45 rfl rfl ?_
      rw [q_rr, q_rI]
      refine q_iload_n dX10_told_48 rfl ?_
      refine q_aload_n dX10_told_49 rfl ?_
      refine fRX10_9 (o := some 1062) dX10_told_50 rfl (by decide) (K.le (by decide)) hs ?_
      refine q_rfS ?_
      refine q_aload_n dX10_told_53 rfl ?_
      refine q_iload dX10_told_54 rfl ?_
      refine q_vD (kc := 0) (ks := 0) (g_X10_at (h := (h.rowI 1072 (q_az (m.zd g72 d i) (m.z i) (m.mn i) (m.pn i)))) K (k := i)) wX10_at kX10_75 iX10_at eX10_at rfl rfl (by decide) (K.le (by decide)) (by decide) rfl rfl (Nat.le_of_ble_eq_true rfl) dX10_told_56 rfl rfl ?_
      refine q_iconst (v := nI 2) dX10_told_59 (by decide) ?_
      refine q_iaddN dX10_told_60 ?_
      refine q_ialdN (len := 830) rfl dX10_told_61 (by decide) (K.le (by decide)) rfl (by omega) (by decide) ?_
      refine q_tv (show _ = (nI (m.pn i)) from ((congrFun (q_rIn _ _ (by omega)) _).trans ((congrArg (h.I 1062) (show ((70 + 19 * i) + (2)) = 72 + 19 * i by omega)).trans (M.pn (by omega))))) ?_
      refine q_iaddN dX10_told_62 ?_
      refine q_istore_n (L' := [_, _, _, _, _, _]) dX10_told_63 rfl (by decide) rfl ?_
      refine q_iincN (n := 1) (L' := [_, _, _, _, _, _]) (by decide) dX10_told_64 rfl rfl (by decide) rfl ?_
      refine q_goto (tgt := 11) dX10_told_67 rfl ?_
      exact q_to (ih11 (i + 1) (by omega) (by omega)) (q_sub_s rfl (q_sub_i rfl (q_sub_i (by simp only [q_cn]; split <;> first | rfl | (exfalso; simp only [decide_eq_true_eq, Int32.lt_iff_toInt_lt, Int32.le_iff_toInt_le] at *; omega)) (q_sub_i (by simp only [q_W.pa]; split <;> first | rfl | (exfalso; omega)) (q_sub_i rfl (q_sub_n q_sub_0)))))) (by rw [q_zd_z m _ _ _ hσ]; first | rw [if_pos (by omega)] | rw [if_neg (by omega)])
def q_P.wrt (P : q_P) (ln : Nat → Int32) : q_P := ((P.un, P.tp, 13, P.sv), P.ob, P.sn, ln)
theorem q_mr.lin {h : q_Hp} {m : q_W} {P : q_P} (C : q_mr h m P) (g z : Nat → Int32) : q_mr ((h.rowI 1073 g).rowI 1072 z) m ((P.un, P.tp, P.wr, P.sv), P.ob, P.sn, g) := by
  have hn : ∀ p, p ≠ 1073 → p ≠ 1072 → ((h.rowI 1073 g).rowI 1072 z).I p = h.I p := fun p a b => by rw [q_rIn _ _ b, q_rIn _ _ a]
  obtain ⟨c1, c2, c3, c4, c5, c6⟩ := C
  refine ⟨c1, by rw [hn _ (by omega) (by omega)]; exact c2, by rw [hn _ (by omega) (by omega)]; exact c3, fun j hj => by rw [hn _ (by omega) (by omega)]; exact c4 j hj, by rw [hn _ (by omega) (by omega)]; exact c5, by rw [q_rIn _ _ (by omega), q_rI]; rfl⟩
theorem q_mr.wrt {h : q_Hp} {m : q_W} {P : q_P} (C : q_mr h m P) (g z : Nat → Int32) : q_mr (((h.rowI 1073 g).rowI 1072 z).setI 1061 8 (nI 13)) m (P.wrt g) := by
  obtain ⟨c1, c2, ⟨u1, u2, u3, u4, u5, u6, u7, u8⟩, c4, c5, c6⟩ := C.lin g z
  refine ⟨c1, by rw [q_sIn _ _ _ (by omega)]; exact c2, ⟨?_, u2, ?_, u4, ?_, Nat.le_refl _, ?_, u8⟩, fun j hj => by rw [q_sIn _ _ _ (by omega)]; exact c4 j hj, by rw [q_sIn _ _ _ (by omega)]; exact c5, by rw [q_sIn _ _ _ (by omega)]; exact c6⟩
  · rw [q_sI, va_un _ _ (by decide)]; exact u1
  · rw [q_sI, va_un _ _ (by decide)]; exact u3
  · rw [q_sI, va_us]; rfl
  · rw [q_sI, va_un _ _ (by decide)]; exact u7
theorem g_X10_writeWeek {Φ : q_Fx} {h : q_Hp} (K : q_Lk Φ h.R h.n) {m : q_W} {P : q_P} (C : q_mr h m P) (v : q_val m) {d : Int32} : q_Ct Φ false yX10_writeWeek cX10_writeWeek mX10_writeWeek [.ref 1061, .int d] h (q_ex (fun v h' => ∃ (a : Nat) (b : Int32), q_k1 (¬ (nI 0 ≤ d ∧ d ≤ nI m.t)) a ∧ v = some (.int b) ∧ h'.I 1061 12 = nI a ∧ q_gm h h' ∧ (a ≠ 0 → q_mr h' m P) ∧ (a = 0 → b = nI 13 ∧ ∃ ln, (∀ k, k < 13 → ln k = if k % 2 = 1 then nI 32 else nI (m.sg2 (m.zr (d.toNatClampNeg + k / 2)) (d.toNatClampNeg + k / 2))) ∧ q_mr h' m (P.wrt ln)))) := by
  refine q_enter K.st rfl rfl (by decide) rfl (Nat.le_of_ble_eq_true rfl) (L := [_, _, none]) rfl ?_
  have hs := C.1
  have M := C.2.1.1
  have hσ := C.2.1.2
  have ht9 := M.t9
  have hc40 := M.c40
  have hn10 := M.n10
  have hp28 := M.pc28
  have hpe1 := M.pe1
  have hpf9 := M.pf9
  have hu := C.2.2.1.2.1
  have htp := C.2.2.1.2.2.2.1
  have hwr := C.2.2.1.2.2.2.2.2.1
  have hsv := C.2.2.1.2.2.2.2.2.2.2
  refine q_aload_n dX10_writeWeek_0 rfl ?_
  refine q_aload_n dX10_writeWeek_1 rfl ?_
  refine q_iload_n dX10_writeWeek_2 rfl ?_
  refine q_vD (kc := 0) (ks := 0) (g_X10_isNoDay (h := h) K ((Or.inl rfl)) hs (M) (d := d)) wX10_isNoDay kX10_58 iX10_isNoDay eX10_isNoDay rfl rfl (by decide) (K.le (by decide)) (by decide) rfl rfl (Nat.le_of_ble_eq_true rfl) dX10_writeWeek_3 rfl rfl ?_
  refine q_spl (fun c1 => ?_) (fun c2 => ?_)
  · refine q_iconst (v := nI 1) dX10_writeWeek_6 (by decide) ?_
    refine q_vD (kc := 0) (ks := 0) (g_thrT (h := h) K (a := 1)) wX10_isThrown kX10_51 iX10_isThrown eX10_isThrown rfl rfl (by decide) (K.le (by decide)) (by decide) rfl rfl (Nat.le_of_ble_eq_true rfl) dX10_writeWeek_7 rfl rfl ?_
    refine q_if_eq (tgt := 15) dX10_writeWeek_10 rfl (fun c => absurd c (by decide)) (fun _ => ?_)
    refine q_iconst (v := nI 0) dX10_writeWeek_13 (by decide) ?_
    refine q_iret dX10_writeWeek_14 rfl (Or.inl rfl) ?_
    exact ⟨_, rfl, 1, _, (Or.inl ⟨(by first | assumption | exact (fun c => c (by assumption)) | exact Int32.not_lt.mpr (by assumption) | exact Int32.not_le.mpr (by assumption) | exact Int32.not_lt.mp (by assumption) | exact Int32.not_le.mp (by assumption) | omega), rfl⟩), rfl, (by rw [q_sI, va_us]), q_gm.rf.set (by omega) (by omega), fun _ => C.thr 12 (by omega) _, fun e => absurd e (by decide)⟩
  · refine q_iconst (v := nI 1) dX10_writeWeek_6 (by decide) ?_
    refine q_vD (kc := 0) (ks := 0) (g_thrF (h := h) K (a := 1)) wX10_isThrown kX10_51 iX10_isThrown eX10_isThrown rfl rfl (by decide) (K.le (by decide)) (by decide) rfl rfl (Nat.le_of_ble_eq_true rfl) dX10_writeWeek_7 rfl rfl ?_
    refine q_if_eq (tgt := 15) dX10_writeWeek_10 rfl (fun _ => ?_) (fun c => absurd (by decide) c)
    obtain ⟨j, hj1, hj2, rfl⟩ := q_rng (x := d) (a := 0) (b := m.t) (fun f => by first | exact f (by assumption) | exact absurd f (by assumption)) (by omega) (by omega)
    try rw [nI_clamp (show j < 2 ^ 31 by omega)]
    obtain ⟨h0, e0⟩ : ∃ z, z = h.setI 1061 12 (nI 0) := ⟨_, rfl⟩
    rw [← e0]
    have C0 : q_mr h0 m P := by rw [e0]; exact C.thr 12 (by omega) _
    have G0 : q_gm h h0 := by rw [e0]; exact q_gm.rf.set (by omega) (by omega)
    have T0 : h0.I 1061 12 = nI 0 := by rw [e0, q_sI, va_us]
    have K : q_Lk Φ h0.R h0.n := K.gm G0
    have hs := C0.1
    have M := C0.2.1.1
    refine q_iconst (v := nI 0) dX10_writeWeek_15 (by decide) ?_
    refine q_istore_n (L' := [_, _, _]) dX10_writeWeek_16 rfl (by decide) rfl ?_
    refine q_loop (ι := Nat × (Nat → Int32)) (μ := fun x => 13 - x.1) (P := fun x => x.1 ≤ 13) (Lf := fun x => [some (.ref 1061), some (.int (nI (j))), some (.int (nI (x.1)))]) (hf := fun x => ((h0.rowI 1073 (q_wl2 m j (h0.I 1073) x.1)).rowI 1072 x.2)) (fun x hi17 ih17 => ?_) (0, h0.I 1072) (Nat.zero_le _) (q_sub_s rfl (q_sub_i rfl (q_sub_i rfl q_sub_0))) (by rw [show q_wl2 m j (h0.I 1073) 0 = h0.I 1073 from funext fun k => if_neg (by omega), show h0.I 1072 = (h0.rowI 1073 (h0.I 1073)).I 1072 from rfl, q_rid, q_rid])
    skip
    refine q_iload_n dX10_writeWeek_17 rfl ?_
    refine q_bipush (v := nI 13) dX10_writeWeek_18 (by decide) ?_
    refine q_icmp_geN (by omega) (by omega) (tgt := 56) dX10_writeWeek_20 rfl (fun c7 => ?_) (fun c8 => ?_)
    · refine q_aload_n dX10_writeWeek_56 rfl ?_
      refine q_bipush (v := nI 13) dX10_writeWeek_57 (by decide) ?_
      refine pIX10_160 dX10_writeWeek_59 rfl (by decide) (K.le (by decide)) ?_
      refine q_bipush (v := nI 13) dX10_writeWeek_62 (by decide) ?_
      refine q_iret dX10_writeWeek_64 rfl (Or.inl rfl) ?_
      have ex : x.1 = 13 := by omega
      exact ⟨_, rfl, 0, _, (Or.inr ⟨(by first | assumption | exact (fun c => c (by assumption)) | exact Int32.not_lt.mpr (by assumption) | exact Int32.not_le.mpr (by assumption) | exact Int32.not_lt.mp (by assumption) | exact Int32.not_le.mp (by assumption) | omega), rfl⟩), rfl, (by rw [q_sI, va_un _ _ (by decide)]; exact (congrFun ((q_rIn _ _ (by omega)).trans (q_rIn _ _ (by omega))) _).trans T0), G0.tr (((q_gm.rf.row (by omega) (by omega)).row (by omega) (by omega)).set (by omega) (by omega)), fun e => absurd rfl e, fun _ => ⟨rfl, _, fun k hk => (by show (if k < x.1 then _ else _) = _; rw [if_pos (by omega)]), C0.wrt _ _⟩⟩
    · refine q_aload_n dX10_writeWeek_23 rfl ?_
      refine fRX10_27 (o := some 1073) dX10_writeWeek_24 rfl (by decide) (K.le (by decide)) (K.lk rfl) ?_
      refine q_rfS ?_
      refine q_iload_n dX10_writeWeek_27 rfl ?_
      refine q_iload_n dX10_writeWeek_28 rfl ?_
      refine q_iconst (v := nI 2) dX10_writeWeek_29 (by decide) ?_
      refine q_iremN (by omega) (by omega) (by omega) dX10_writeWeek_30 ?_
      refine q_iconst (v := nI 1) dX10_writeWeek_31 (by decide) ?_
      refine q_icmp_neN (by omega) (by omega) (tgt := 40) dX10_writeWeek_32 rfl (fun c9 => ?_) (fun c10 => ?_)
      · refine q_aload_n dX10_writeWeek_40 rfl ?_
        refine q_iload_n dX10_writeWeek_41 rfl ?_
        refine q_iload_n dX10_writeWeek_42 rfl ?_
        refine q_iconst (v := nI 2) dX10_writeWeek_43 (by decide) ?_
        refine q_idivN (by omega) (by omega) (by omega) dX10_writeWeek_44 ?_
        refine q_iaddN dX10_writeWeek_45 ?_
        refine q_vR (kc := 0) (ks := 0) (g_X10_told (h := ((h0.rowI 1073 (q_wl2 m j (h0.I 1073) x.1)).rowI 1072 x.2)) K (C0.lin _ _) v (d := (j) + ((x.1) / (2))) (by omega)) wX10_told kX10_156 iX10_told eX10_told rfl rfl (by decide) (K.le (by decide)) (by decide) rfl rfl (Nat.le_of_ble_eq_true rfl) dX10_writeWeek_46 rfl rfl ?_
        rintro v' h' ⟨rfl, g72, rfl⟩
        refine q_castN (len := 13) rfl dX10_writeWeek_49 (by decide) (K.le (by decide)) rfl (by omega) (by decide) (by first | decide | exact q_char (q_sg2_lt _ _ _)) ?_
        refine q_iincN (n := 1) (L' := [_, _, _]) (by decide) dX10_writeWeek_50 rfl rfl (by decide) rfl ?_
        refine q_goto (tgt := 17) dX10_writeWeek_53 rfl ?_
        exact q_to (ih17 (x.1 + 1, g72) (by show x.1 + 1 ≤ 13; omega) (by show 13 - (x.1 + 1) < 13 - x.1; omega)) (q_sub_s rfl (q_sub_i rfl (q_sub_i rfl q_sub_0))) (by (try rw [q_rr]); rw [q_rset2 _ _ _ _ _ (by decide), q_wl2_s _ _ _ _ _ (by first | rw [if_pos (by omega)] | rw [if_neg (by omega)])])
      · refine q_bipush (v := nI 32) dX10_writeWeek_35 (by decide) ?_
        refine q_goto (tgt := 49) dX10_writeWeek_37 rfl ?_
        refine q_castN (len := 13) rfl dX10_writeWeek_49 (by decide) (K.le (by decide)) rfl (by omega) (by decide) (by first | decide | exact q_char (q_sg2_lt _ _ _)) ?_
        refine q_iincN (n := 1) (L' := [_, _, _]) (by decide) dX10_writeWeek_50 rfl rfl (by decide) rfl ?_
        refine q_goto (tgt := 17) dX10_writeWeek_53 rfl ?_
        exact q_to (ih17 (x.1 + 1, x.2) (by show x.1 + 1 ≤ 13; omega) (by show 13 - (x.1 + 1) < 13 - x.1; omega)) (q_sub_s rfl (q_sub_i rfl (q_sub_i rfl q_sub_0))) (by (try rw [q_rr]); rw [q_rset2 _ _ _ _ _ (by decide), q_wl2_s _ _ _ _ _ (by first | rw [if_pos (by omega)] | rw [if_neg (by omega)])])
