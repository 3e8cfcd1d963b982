/-! THE LAW'S CHANGES -/
theorem g_L_isTarget {Φ : q_Fx} {h : q_Hp} (K : q_Lk Φ h.R h.n) {a : Nat} (hN : q_n9 h a) {m : q_W} {ρ : Nat → Nat} (R : q_nr (h.I a) m ρ) (B : q_bd m) (u9 : h.I a 899 = nI 0) {W : q_W} {O : q_O} (C : q_clX h W O) {c : Nat} (s : q_smc c W m) (hcc : c ≤ 500) {x : Nat} (hx : x ≤ 20000) : q_Ct Φ false yL_isTarget cL_isTarget mL_isTarget [.ref 1, .ref a, .int (nI (x))] h (q_ex (q_pX h a c m O)) := by
  refine q_enter K.st rfl rfl (by decide) rfl (Nat.le_of_ble_eq_true rfl) (L := [_, _, _]) rfl ?_
  obtain ⟨bt, bn, bc, bpe, bpf, bpc, bpn⟩ := id B
  obtain ⟨⟨N0, hN0, a0, ⟨τ0, b0⟩, k0⟩, dd⟩ := id s
  have v := k0.2.2.2.2.2.2.2
  have ha2 := hN.2.1
  refine q_aload_n dL_isTarget_0 rfl ?_
  refine q_iconst (v := nI 4) dL_isTarget_1 (by decide) ?_
  refine q_ialdD (k := 4) hN.1 hN.t hN.l (by omega) (by decide) dL_isTarget_2 ?_
  refine q_tv (show _ = (nI (m.pe)) from R.pe) ?_
  refine q_if_eqN (by omega) (tgt := 24) dL_isTarget_3 rfl (fun c1 => ?_) (fun c2 => ?_)
  · refine q_aload_n dL_isTarget_24 rfl ?_
    refine q_iload_n dL_isTarget_25 rfl ?_
    refine q_callH (kc := 0) (ks := 0) (g_L_addTarget (h := h) K C  (x := (nI (x)))) wL_addTarget kL_221 sL_addTarget (by decide) rfl rfl (Nat.le_of_ble_eq_true rfl) dL_isTarget_26 rfl rfl (fun E h9 q9 => (by obtain ⟨_, q9, _⟩ := q9; exact nomatch q9)) ?_
    intro v9 h9 hq
    obtain ⟨x9, ex9, hj9⟩ := j_addTarget C B s a0 b0 k0 dd (by omega) hq
    clear hq
    cases ex9
    rcases hj9 with ⟨d1, ex8, rd⟩ | ⟨y1, d2, ex8, rd⟩ | ⟨y1, y2, hp⟩
    · exact absurd d1 ((q_rin (Nat.zero_le _) hx (by decide)))
    rotate_left
    · exact absurd ((by first | exact Or.inl (by omega) | exact Or.inr (Or.inl (by assumption)) | exact Or.inr (Or.inr (by omega)))) y2
    subst ex8
    refine q_ldc dL_isTarget_29 kcL_20 ?_
    refine q_icmp_ne (tgt := 38) dL_isTarget_31 rfl (fun c => absurd (by decide) c) (fun _ => ?_)
    refine q_iconst (v := nI 1) dL_isTarget_34 (by decide) ?_
    refine q_goto (tgt := 39) dL_isTarget_35 rfl ?_
    refine q_zret (ty := .boolean) dL_isTarget_39 rfl rfl (Or.inl rfl) ?_
    exact ⟨_, rfl, q_pX.no hN R B u9 s rd⟩
  · refine q_aload_n dL_isTarget_6 rfl ?_
    refine q_iconst (v := nI 5) dL_isTarget_7 (by decide) ?_
    refine q_ialdD (k := 5) hN.1 hN.t hN.l (by omega) (by decide) dL_isTarget_8 ?_
    refine q_tv (show _ = (nI (m.pf)) from R.pf) ?_
    refine q_aload_n dL_isTarget_9 rfl ?_
    refine q_iconst (v := nI 0) dL_isTarget_10 (by decide) ?_
    refine q_ialdD (k := 0) hN.1 hN.t hN.l (by omega) (by decide) dL_isTarget_11 ?_
    refine q_tv (show _ = (nI (m.t)) from R.t) ?_
    refine q_icmp_neN (by omega) (by omega) (tgt := 24) dL_isTarget_12 rfl (fun c5 => ?_) (fun c6 => ?_)
    · refine q_aload_n dL_isTarget_24 rfl ?_
      refine q_iload_n dL_isTarget_25 rfl ?_
      refine q_callH (kc := 0) (ks := 0) (g_L_addTarget (h := h) K C  (x := (nI (x)))) wL_addTarget kL_221 sL_addTarget (by decide) rfl rfl (Nat.le_of_ble_eq_true rfl) dL_isTarget_26 rfl rfl (fun E h9 q9 => (by obtain ⟨_, q9, _⟩ := q9; exact nomatch q9)) ?_
      intro v9 h9 hq
      obtain ⟨x9, ex9, hj9⟩ := j_addTarget C B s a0 b0 k0 dd (by omega) hq
      clear hq
      cases ex9
      rcases hj9 with ⟨d1, ex8, rd⟩ | ⟨y1, d2, ex8, rd⟩ | ⟨y1, y2, hp⟩
      · exact absurd d1 ((q_rin (Nat.zero_le _) hx (by decide)))
      rotate_left
      · exact absurd ((by first | exact Or.inl (by omega) | exact Or.inr (Or.inl (by assumption)) | exact Or.inr (Or.inr (by omega)))) y2
      subst ex8
      refine q_ldc dL_isTarget_29 kcL_20 ?_
      refine q_icmp_ne (tgt := 38) dL_isTarget_31 rfl (fun c => absurd (by decide) c) (fun _ => ?_)
      refine q_iconst (v := nI 1) dL_isTarget_34 (by decide) ?_
      refine q_goto (tgt := 39) dL_isTarget_35 rfl ?_
      refine q_zret (ty := .boolean) dL_isTarget_39 rfl rfl (Or.inl rfl) ?_
      exact ⟨_, rfl, q_pX.no hN R B u9 s rd⟩
    · refine q_aload_n dL_isTarget_15 rfl ?_
      refine q_bipush (v := nI 6) dL_isTarget_16 (by decide) ?_
      refine q_ialdD (k := 6) hN.1 hN.t hN.l (by omega) (by decide) dL_isTarget_18 ?_
      refine q_tv (show _ = (nI (m.pc)) from R.pc) ?_
      refine q_bipush (v := nI 28) dL_isTarget_19 (by decide) ?_
      refine q_icmp_neN (by omega) (by omega) (tgt := 40) dL_isTarget_21 rfl (fun c9 => ?_) (fun c10 => ?_)
      · refine q_aload_n dL_isTarget_40 rfl ?_
        refine q_bipush (v := nI 60) dL_isTarget_41 (by decide) ?_
        refine q_aload_n dL_isTarget_43 rfl ?_
        refine q_bipush (v := nI 6) dL_isTarget_44 (by decide) ?_
        refine q_ialdD (k := 6) hN.1 hN.t hN.l (by omega) (by decide) dL_isTarget_46 ?_
        refine q_tv (show _ = (nI (m.pc)) from R.pc) ?_
        refine q_iaddN dL_isTarget_47 ?_
        refine q_iload_n dL_isTarget_48 rfl ?_
        refine q_iastD (k := (60) + (m.pc)) hN.1 hN.t hN.l (by omega) (by decide) dL_isTarget_49 ?_
        refine q_aload_n dL_isTarget_50 rfl ?_
        refine q_bipush (v := nI 6) dL_isTarget_51 (by decide) ?_
        refine q_dup2 dL_isTarget_53 rfl rfl ?_
        refine q_ialdD (k := 6) hN.1 hN.t hN.l (by omega) (by decide) dL_isTarget_54 ?_
        refine q_tv (show _ = (nI (m.pc)) from (((congrFun (q_sI _ _ _ _) _).trans (va_un _ _ (by omega))).trans R.pc)) ?_
        refine q_iconst (v := nI 1) dL_isTarget_55 (by decide) ?_
        refine q_iaddN dL_isTarget_56 ?_
        refine q_iastD (k := 6) hN.1 hN.t hN.l (by omega) (by decide) dL_isTarget_57 ?_
        refine q_aload_n dL_isTarget_58 rfl ?_
        refine q_sipush (v := nI 899) dL_isTarget_59 (by decide) ?_
        refine q_iconst (v := nI 1) dL_isTarget_62 (by decide) ?_
        refine q_iastD (k := 899) hN.1 hN.t hN.l (by omega) (by decide) dL_isTarget_63 ?_
        have hpc : m.pc < 28 := by omega
        have F2 : q_lf h (((h.setI a ((60) + (m.pc)) (nI (x))).setI a (6) (nI ((m.pc) + (1)))).setI a (899) (nI (1))) a := (((q_lf.rf.set).set).set)
        have RB : (q_nr (((((h.setI a ((60) + (m.pc)) (nI (x))).setI a (6) (nI ((m.pc) + (1)))).setI a (899) (nI (1)))).I a) (m.sP m.pe m.pf (m.pc + 1) (va_up m.tg m.pc (nI x))) ρ ∧ q_bd (m.sP m.pe m.pf (m.pc + 1) (va_up m.tg m.pc (nI x)))) := by rw [q_sI, q_sI, q_sI]; exact q_nTarg R B hpc
        have u2 : ((((h.setI a ((60) + (m.pc)) (nI (x))).setI a (6) (nI ((m.pc) + (1)))).setI a (899) (nI (1)))).I a 899 = nI 1 := by rw [q_sI]; exact va_us _ _ _
        have C2 : q_clX (((h.setI a ((60) + (m.pc)) (nI (x))).setI a (6) (nI ((m.pc) + (1)))).setI a (899) (nI (1))) W O := (((C.setD ha2).setD ha2).setD ha2)
        have K2 : q_Lk Φ ((((h.setI a ((60) + (m.pc)) (nI (x))).setI a (6) (nI ((m.pc) + (1)))).setI a (899) (nI (1)))).R ((((h.setI a ((60) + (m.pc)) (nI (x))).setI a (6) (nI ((m.pc) + (1)))).setI a (899) (nI (1)))).n := K
        have N2 : q_n9 (((h.setI a ((60) + (m.pc)) (nI (x))).setI a (6) (nI ((m.pc) + (1)))).setI a (899) (nI (1))) a := hN
        obtain ⟨h2, e2⟩ : ∃ hh, hh = (((h.setI a ((60) + (m.pc)) (nI (x))).setI a (6) (nI ((m.pc) + (1)))).setI a (899) (nI (1))) := ⟨_, rfl⟩
        rw [← e2] at F2 RB u2 C2 K2 N2  ⊢
        obtain ⟨R2, B2⟩ := RB
        refine q_aload_n dL_isTarget_64 rfl ?_
        refine q_iload_n dL_isTarget_65 rfl ?_
        refine q_callH (kc := 0) (ks := 0) (g_L_addTarget (h := h2) K2 C2  (x := (nI (x)))) wL_addTarget kL_221 sL_addTarget (by decide) rfl rfl (Nat.le_of_ble_eq_true rfl) dL_isTarget_66 rfl rfl (fun E h9 q9 => (by obtain ⟨_, q9, _⟩ := q9; exact nomatch q9)) ?_
        intro v9 h9 hq
        obtain ⟨x9, ex9, hj9⟩ := j_addTarget C2 B s a0 b0 k0 dd (by omega) hq
        clear hq
        cases ex9
        rcases hj9 with ⟨d1, ex8, rd⟩ | ⟨y1, d2, ex8, rd⟩ | ⟨y1, y2, hp⟩
        · exact absurd d1 ((q_rin (Nat.zero_le _) hx (by decide)))
        · exact absurd d2 ((by rintro (e | e | e) <;> omega))
        obtain ⟨ev9, fr, W1, O1, C1, S1, Y, yY, rfl⟩ := hp
        cases ev9
        have R9 : q_nr (h9.I a) (m.sP m.pe m.pf (m.pc + 1) (va_up m.tg m.pc (nI x))) ρ := by rw [fr.1 a (by omega)]; exact R2
        have N9 : q_n9 h9 a := N2.fr fr.2.2.1
        refine q_aload_n dL_isTarget_69 rfl ?_
        refine q_bipush (v := nI 6) dL_isTarget_70 (by decide) ?_
        refine q_ialdD (k := 6) N9.1 N9.t N9.l (by omega) (by decide) dL_isTarget_72 ?_
        refine q_tv (show _ = (nI (m.pc + 1)) from R9.pc) ?_
        refine q_icmp_neN (by omega) (by omega) (tgt := 80) dL_isTarget_73 rfl (fun c => absurd rfl c) (fun c11 => ?_)
        refine q_iconst (v := nI 1) dL_isTarget_76 (by decide) ?_
        refine q_goto (tgt := 81) dL_isTarget_77 rfl ?_
        refine q_zret (ty := .boolean) dL_isTarget_81 rfl rfl (Or.inl rfl) ?_
        exact ⟨_, rfl, q_pX.yes F2 N2 R2 B2 u2 fr C1 S1 yY id⟩
      · refine q_aload_n dL_isTarget_24 rfl ?_
        refine q_iload_n dL_isTarget_25 rfl ?_
        refine q_callH (kc := 0) (ks := 0) (g_L_addTarget (h := h) K C  (x := (nI (x)))) wL_addTarget kL_221 sL_addTarget (by decide) rfl rfl (Nat.le_of_ble_eq_true rfl) dL_isTarget_26 rfl rfl (fun E h9 q9 => (by obtain ⟨_, q9, _⟩ := q9; exact nomatch q9)) ?_
        intro v9 h9 hq
        obtain ⟨x9, ex9, hj9⟩ := j_addTarget C B s a0 b0 k0 dd (by omega) hq
        clear hq
        cases ex9
        rcases hj9 with ⟨d1, ex8, rd⟩ | ⟨y1, d2, ex8, rd⟩ | ⟨y1, y2, hp⟩
        · exact absurd d1 ((q_rin (Nat.zero_le _) hx (by decide)))
        rotate_left
        · exact absurd ((by first | exact Or.inl (by omega) | exact Or.inr (Or.inl (by assumption)) | exact Or.inr (Or.inr (by omega)))) y2
        subst ex8
        refine q_ldc dL_isTarget_29 kcL_20 ?_
        refine q_icmp_ne (tgt := 38) dL_isTarget_31 rfl (fun c => absurd (by decide) c) (fun _ => ?_)
        refine q_iconst (v := nI 1) dL_isTarget_34 (by decide) ?_
        refine q_goto (tgt := 39) dL_isTarget_35 rfl ?_
        refine q_zret (ty := .boolean) dL_isTarget_39 rfl rfl (Or.inl rfl) ?_
        exact ⟨_, rfl, q_pX.no hN R B u9 s rd⟩
theorem g_L_isMoved {Φ : q_Fx} {h : q_Hp} (K : q_Lk Φ h.R h.n) {a : Nat} (hN : q_n9 h a) {m : q_W} {ρ : Nat → Nat} (R : q_nr (h.I a) m ρ) (B : q_bd m) (u9 : h.I a 899 = nI 0) {W : q_W} {O : q_O} (C : q_clX h W O) {c : Nat} (s : q_smc c W m) (hcc : c ≤ 500) {x : Int32} {d : Nat} (hd : d ≤ m.t) : q_Ct Φ false yL_isMoved cL_isMoved mL_isMoved [.ref 1, .ref a, .int x, .int (nI (d))] h (q_ex (q_pX h a c m O)) := by
  refine q_enter K.st rfl rfl (by decide) rfl (Nat.le_of_ble_eq_true rfl) (L := [_, _, _, _, none, none]) rfl ?_
  obtain ⟨bt, bn, bc, bpe, bpf, bpc, bpn⟩ := id B
  obtain ⟨⟨N0, hN0, a0, ⟨τ0, b0⟩, k0⟩, dd⟩ := id s
  have v := k0.2.2.2.2.2.2.2
  have ha2 := hN.2.1
  refine q_aload_n dL_isMoved_0 rfl ?_
  refine q_iload_n dL_isMoved_1 rfl ?_
  refine q_sD (kc := 2) (ks := 12) (g_L_place (h := h) K hN R B (x := x)) wL_place kL_206 sL_place (by decide) rfl rfl (Nat.le_of_ble_eq_true rfl) dL_isMoved_2 rfl rfl ?_
  refine q_istore (L' := [_, _, _, _, _, _]) dL_isMoved_5 rfl (by decide) rfl ?_
  refine q_iload dL_isMoved_7 rfl ?_
  refine q_if_ge (tgt := 29) dL_isMoved_9 rfl (fun c1 => ?_) (fun c2 => ?_)
  · have hnn : ¬ (q_pl (fun k => decide (m.id k = x)) m.c) < 0 := Int32.not_lt.mpr (by assumption)
    obtain ⟨k, hk1, hk2, hk3, hk4⟩ := q_pl_at (by omega) hnn
    have hkp := bpn k hk1
    rw [hk3]
    refine q_aload_n dL_isMoved_29 rfl ?_
    refine q_bipush (v := nI 101) dL_isMoved_30 (by decide) ?_
    refine q_bipush (v := nI 20) dL_isMoved_32 (by decide) ?_
    refine q_iload dL_isMoved_34 rfl ?_
    refine q_imulN dL_isMoved_36 ?_
    refine q_iaddN dL_isMoved_37 ?_
    refine q_ialdD (k := (101) + ((20) * (k))) hN.1 hN.t hN.l (by omega) (by decide) dL_isMoved_38 ?_
    refine q_tv (show _ = (nI (m.dy k)) from ((congrArg (h.I a) (show ((101) + ((20) * (k))) = 101 + 20 * k by omega)).trans (R.dy (k := k) (by omega)))) ?_
    refine q_istore (L' := [_, _, _, _, _, _]) dL_isMoved_39 rfl (by decide) rfl ?_
    refine q_aload_n dL_isMoved_41 rfl ?_
    refine q_bipush (v := nI 101) dL_isMoved_42 (by decide) ?_
    refine q_bipush (v := nI 20) dL_isMoved_44 (by decide) ?_
    refine q_iload dL_isMoved_46 rfl ?_
    refine q_imulN dL_isMoved_48 ?_
    refine q_iaddN dL_isMoved_49 ?_
    refine q_iload_n dL_isMoved_50 rfl ?_
    refine q_iastD (k := (101) + ((20) * (k))) hN.1 hN.t hN.l (by omega) (by decide) dL_isMoved_51 ?_
    refine q_aload_n dL_isMoved_52 rfl ?_
    refine q_sipush (v := nI 899) dL_isMoved_53 (by decide) ?_
    refine q_iconst (v := nI 1) dL_isMoved_56 (by decide) ?_
    refine q_iastD (k := 899) hN.1 hN.t hN.l (by omega) (by decide) dL_isMoved_57 ?_
    have F2 : q_lf h ((h.setI a ((101) + ((20) * (k))) (nI (d))).setI a (899) (nI (1))) a := ((q_lf.rf.set).set)
    have RB : (q_nr ((((h.setI a ((101) + ((20) * (k))) (nI (d))).setI a (899) (nI (1)))).I a) (m.movS k d) ρ ∧ q_bd (m.movS k d)) := by rw [q_sI, q_sI]; exact q_nMove R B hk1 (by omega)
    have u2 : (((h.setI a ((101) + ((20) * (k))) (nI (d))).setI a (899) (nI (1)))).I a 899 = nI 1 := by rw [q_sI]; exact va_us _ _ _
    have C2 : q_clX ((h.setI a ((101) + ((20) * (k))) (nI (d))).setI a (899) (nI (1))) W O := ((C.setD ha2).setD ha2)
    have K2 : q_Lk Φ (((h.setI a ((101) + ((20) * (k))) (nI (d))).setI a (899) (nI (1)))).R (((h.setI a ((101) + ((20) * (k))) (nI (d))).setI a (899) (nI (1)))).n := K
    have N2 : q_n9 ((h.setI a ((101) + ((20) * (k))) (nI (d))).setI a (899) (nI (1))) a := hN
    obtain ⟨h2, e2⟩ : ∃ hh, hh = ((h.setI a ((101) + ((20) * (k))) (nI (d))).setI a (899) (nI (1))) := ⟨_, rfl⟩
    rw [← e2] at F2 RB u2 C2 K2 N2  ⊢
    obtain ⟨R2, B2⟩ := RB
    refine q_aload_n dL_isMoved_58 rfl ?_
    refine q_iload_n dL_isMoved_59 rfl ?_
    refine q_iload_n dL_isMoved_60 rfl ?_
    refine q_callH (kc := 0) (ks := 0) (g_L_moveSession (h := h2) K2 C2  (x := x) (d := (nI (d)))) wL_moveSession kL_215 sL_moveSession (by decide) rfl rfl (Nat.le_of_ble_eq_true rfl) dL_isMoved_61 rfl rfl (fun E h9 q9 => (by obtain ⟨_, q9, _⟩ := q9; exact nomatch q9)) ?_
    intro v9 h9 hq
    obtain ⟨x9, ex9, hj9⟩ := j_moveSession C2 B s a0 b0 k0 dd (by omega) hq
    clear hq
    cases ex9
    rcases hj9 with ⟨d1, ex8, rd⟩ | ⟨y1, d2, ex8, rd⟩ | ⟨y1, y2, hp⟩
    · exact absurd d1 (hnn)
    · exact absurd d2 ((q_rin (Nat.zero_le _) hd (by omega)))
    rw [hk4, nI_clamp (by omega)] at hp
    obtain ⟨ev9, fr, W1, O1, C1, S1, Y, yY, rfl⟩ := hp
    cases ev9
    have R9 : q_nr (h9.I a) (m.movS k d) ρ := by rw [fr.1 a (by omega)]; exact R2
    have N9 : q_n9 h9 a := N2.fr fr.2.2.1
    refine q_iload dL_isMoved_64 rfl ?_
    refine q_icmp_neN (by omega) (by omega) (tgt := 73) dL_isMoved_66 rfl (fun c => absurd rfl c) (fun c3 => ?_)
    refine q_iconst (v := nI 1) dL_isMoved_69 (by decide) ?_
    refine q_goto (tgt := 74) dL_isMoved_70 rfl ?_
    refine q_zret (ty := .boolean) dL_isMoved_74 rfl rfl (Or.inl rfl) ?_
    exact ⟨_, rfl, q_pX.yes F2 N2 R2 B2 u2 fr C1 S1 yY id⟩
  · refine q_aload_n dL_isMoved_12 rfl ?_
    refine q_iload_n dL_isMoved_13 rfl ?_
    refine q_iconst (v := (-1)) dL_isMoved_14 (by decide) ?_
    refine q_callH (kc := 0) (ks := 0) (g_L_moveSession (h := h) K C  (x := x) (d := (-1))) wL_moveSession kL_215 sL_moveSession (by decide) rfl rfl (Nat.le_of_ble_eq_true rfl) dL_isMoved_15 rfl rfl (fun E h9 q9 => (by obtain ⟨_, q9, _⟩ := q9; exact nomatch q9)) ?_
    intro v9 h9 hq
    obtain ⟨x9, ex9, hj9⟩ := j_moveSession C B s a0 b0 k0 dd (by omega) hq
    clear hq
    cases ex9
    rcases hj9 with ⟨d1, ex8, rd⟩ | ⟨y1, d2, ex8, rd⟩ | ⟨y1, y2, hp⟩
    rotate_left
    · exact absurd ((Int32.not_le.mp (by assumption))) y1
    · exact absurd ((Int32.not_le.mp (by assumption))) y1
    subst ex8
    refine q_ldc dL_isMoved_18 kcL_17 ?_
    refine q_icmp_ne (tgt := 27) dL_isMoved_20 rfl (fun c => absurd (by decide) c) (fun _ => ?_)
    refine q_iconst (v := nI 1) dL_isMoved_23 (by decide) ?_
    refine q_goto (tgt := 28) dL_isMoved_24 rfl ?_
    refine q_zret (ty := .boolean) dL_isMoved_28 rfl rfl (Or.inl rfl) ?_
    exact ⟨_, rfl, q_pX.no hN R B u9 s rd⟩
theorem g_L_isRemoved1 {Φ : q_Fx} {h : q_Hp} (K : q_Lk Φ h.R h.n) {a : Nat} (hN : q_n9 h a) {m : q_W} {ρ : Nat → Nat} (R : q_nr (h.I a) m ρ) (B : q_bd m) (u9 : h.I a 899 = nI 0) {W : q_W} {O : q_O} (C : q_clX h W O) {c : Nat} (s : q_smc c W m) (hcc : c ≤ 500) {x : Int32} : q_Ct Φ false yL_isRemoved cL_isRemoved mL_isRemoved [.ref 1, .ref a, .int x, .int (nI (1))] h (q_ex (q_pX h a c m O)) := by
  refine q_enter K.st rfl rfl (by decide) rfl (Nat.le_of_ble_eq_true rfl) (L := [_, _, _, _, none, none]) rfl ?_
  obtain ⟨bt, bn, bc, bpe, bpf, bpc, bpn⟩ := id B
  obtain ⟨⟨N0, hN0, a0, ⟨τ0, b0⟩, k0⟩, dd⟩ := id s
  have v := k0.2.2.2.2.2.2.2
  have ha2 := hN.2.1
  refine q_aload_n dL_isRemoved_0 rfl ?_
  refine q_iload_n dL_isRemoved_1 rfl ?_
  refine q_sD (kc := 1) (ks := 6) (g_L_place (h := h) K hN R B (x := x)) wL_place kL_206 sL_place (by decide) rfl rfl (Nat.le_of_ble_eq_true rfl) dL_isRemoved_2 rfl rfl ?_
  refine q_istore (L' := [_, _, _, _, _, _]) dL_isRemoved_5 rfl (by decide) rfl ?_
  refine q_iload dL_isRemoved_7 rfl ?_
  refine q_if_ge (tgt := 40) dL_isRemoved_9 rfl (fun c1 => ?_) (fun c2 => ?_)
  · have hnn : ¬ (q_pl (fun k => decide (m.id k = x)) m.c) < 0 := Int32.not_lt.mpr (by assumption)
    obtain ⟨k, hk1, hk2, hk3, hk4⟩ := q_pl_at (by omega) hnn
    have hkp := bpn k hk1
    rw [hk3]
    refine q_aload_n dL_isRemoved_40 rfl ?_
    refine q_sipush (v := nI 899) dL_isRemoved_41 (by decide) ?_
    refine q_iconst (v := nI 1) dL_isRemoved_44 (by decide) ?_
    refine q_iastD (k := 899) hN.1 hN.t hN.l (by omega) (by decide) dL_isRemoved_45 ?_
    refine q_iload_n dL_isRemoved_46 rfl ?_
    refine q_if_eq (tgt := 89) dL_isRemoved_47 rfl (fun c => absurd c (by decide)) (fun _ => ?_)
    refine q_aload_n dL_isRemoved_50 rfl ?_
    refine q_bipush (v := nI 102) dL_isRemoved_51 (by decide) ?_
    refine q_bipush (v := nI 20) dL_isRemoved_53 (by decide) ?_
    refine q_iload dL_isRemoved_55 rfl ?_
    refine q_imulN dL_isRemoved_57 ?_
    refine q_iaddN dL_isRemoved_58 ?_
    refine q_ialdD (k := (102) + ((20) * (k))) hN.1 hN.t hN.l (by omega) (by decide) dL_isRemoved_59 ?_
    refine q_tv (show _ = (nI (m.pn k)) from (((congrFun (q_sI _ _ _ _) _).trans (va_un _ _ (by omega))).trans ((congrArg (h.I a) (show ((102) + ((20) * (k))) = 102 + 20 * k by omega)).trans (R.pn (k := k) (by omega))))) ?_
    refine q_istore (L' := [_, _, _, _, _, _]) dL_isRemoved_60 rfl (by decide) rfl ?_
    refine q_aload_n dL_isRemoved_62 rfl ?_
    refine q_bipush (v := nI 102) dL_isRemoved_63 (by decide) ?_
    refine q_bipush (v := nI 20) dL_isRemoved_65 (by decide) ?_
    refine q_iload dL_isRemoved_67 rfl ?_
    refine q_imulN dL_isRemoved_69 ?_
    refine q_iaddN dL_isRemoved_70 ?_
    refine q_iconst (v := nI 0) dL_isRemoved_71 (by decide) ?_
    refine q_iastD (k := (102) + ((20) * (k))) hN.1 hN.t hN.l (by omega) (by decide) dL_isRemoved_72 ?_
    have F2 : q_lf h ((h.setI a (899) (nI (1))).setI a ((102) + ((20) * (k))) (nI (0))) a := ((q_lf.rf.set).set)
    have RB : (q_nr ((((h.setI a (899) (nI (1))).setI a ((102) + ((20) * (k))) (nI (0)))).I a) (m.clrP k) ρ ∧ q_bd (m.clrP k)) := by rw [q_sI, q_sI]; exact q_nClr R B hk1
    have u2 : (((h.setI a (899) (nI (1))).setI a ((102) + ((20) * (k))) (nI (0)))).I a 899 = nI 1 := by rw [q_sI, va_un _ _ (by omega), q_sI]; exact va_us _ _ _
    have C2 : q_clX ((h.setI a (899) (nI (1))).setI a ((102) + ((20) * (k))) (nI (0))) W O := ((C.setD ha2).setD ha2)
    have K2 : q_Lk Φ (((h.setI a (899) (nI (1))).setI a ((102) + ((20) * (k))) (nI (0)))).R (((h.setI a (899) (nI (1))).setI a ((102) + ((20) * (k))) (nI (0)))).n := K
    have N2 : q_n9 ((h.setI a (899) (nI (1))).setI a ((102) + ((20) * (k))) (nI (0))) a := hN
    obtain ⟨h2, e2⟩ : ∃ hh, hh = ((h.setI a (899) (nI (1))).setI a ((102) + ((20) * (k))) (nI (0))) := ⟨_, rfl⟩
    rw [← e2] at F2 RB u2 C2 K2 N2  ⊢
    obtain ⟨R2, B2⟩ := RB
    refine q_aload_n dL_isRemoved_73 rfl ?_
    refine q_iload_n dL_isRemoved_74 rfl ?_
    refine q_callH (kc := 0) (ks := 0) (g_L_clearParts (h := h2) K2 C2  (x := x)) wL_clearParts kL_217 sL_clearParts (by decide) rfl rfl (Nat.le_of_ble_eq_true rfl) dL_isRemoved_75 rfl rfl (fun E h9 q9 => (by obtain ⟨_, q9, _⟩ := q9; exact nomatch q9)) ?_
    intro v9 h9 hq
    obtain ⟨x9, ex9, hj9⟩ := j_clearParts C2 B s a0 b0 k0 dd (by omega) hq
    clear hq
    cases ex9
    rcases hj9 with ⟨d1, ex8, rd⟩ | ⟨y1, hp⟩
    · exact absurd d1 (hnn)
    rw [hk4] at hp
    obtain ⟨ev9, fr, W1, O1, C1, S1, Y, yY, rfl⟩ := hp
    cases ev9
    have R9 : q_nr (h9.I a) (m.clrP k) ρ := by rw [fr.1 a (by omega)]; exact R2
    have N9 : q_n9 h9 a := N2.fr fr.2.2.1
    refine q_iload dL_isRemoved_78 rfl ?_
    refine q_icmp_neN (by omega) (by omega) (tgt := 87) dL_isRemoved_80 rfl (fun c => absurd rfl c) (fun c5 => ?_)
    refine q_iconst (v := nI 1) dL_isRemoved_83 (by decide) ?_
    refine q_goto (tgt := 88) dL_isRemoved_84 rfl ?_
    refine q_zret (ty := .boolean) dL_isRemoved_88 rfl rfl (Or.inl rfl) ?_
    exact ⟨_, rfl, q_pX.yes F2 N2 R2 B2 u2 fr C1 S1 yY id⟩
  · refine q_iload_n dL_isRemoved_12 rfl ?_
    refine q_if_eq (tgt := 24) dL_isRemoved_13 rfl (fun c => absurd c (by decide)) (fun _ => ?_)
    refine q_aload_n dL_isRemoved_16 rfl ?_
    refine q_iload_n dL_isRemoved_17 rfl ?_
    refine q_callH (kc := 0) (ks := 0) (g_L_clearParts (h := h) K C  (x := x)) wL_clearParts kL_217 sL_clearParts (by decide) rfl rfl (Nat.le_of_ble_eq_true rfl) dL_isRemoved_18 rfl rfl (fun E h9 q9 => (by obtain ⟨_, q9, _⟩ := q9; exact nomatch q9)) ?_
    intro v9 h9 hq
    obtain ⟨x9, ex9, hj9⟩ := j_clearParts C B s a0 b0 k0 dd (by omega) hq
    clear hq
    cases ex9
    rcases hj9 with ⟨d1, ex8, rd⟩ | ⟨y1, hp⟩
    rotate_left
    · exact absurd ((Int32.not_le.mp (by assumption))) y1
    subst ex8
    refine q_goto (tgt := 29) dL_isRemoved_21 rfl ?_
    refine q_ldc dL_isRemoved_29 kcL_17 ?_
    refine q_icmp_ne (tgt := 38) dL_isRemoved_31 rfl (fun c => absurd (by decide) c) (fun _ => ?_)
    refine q_iconst (v := nI 1) dL_isRemoved_34 (by decide) ?_
    refine q_goto (tgt := 39) dL_isRemoved_35 rfl ?_
    refine q_zret (ty := .boolean) dL_isRemoved_39 rfl rfl (Or.inl rfl) ?_
    exact ⟨_, rfl, q_pX.no hN R B u9 s rd⟩
theorem g_L_isRemoved0 {Φ : q_Fx} {h : q_Hp} (K : q_Lk Φ h.R h.n) {a : Nat} (hN : q_n9 h a) {m : q_W} {ρ : Nat → Nat} (R : q_nr (h.I a) m ρ) (B : q_bd m) (u9 : h.I a 899 = nI 0) {W : q_W} {O : q_O} (C : q_clX h W O) {c : Nat} (s : q_smc c W m) (hcc : c ≤ 500) {x : Int32} : q_Ct Φ false yL_isRemoved cL_isRemoved mL_isRemoved [.ref 1, .ref a, .int x, .int (nI (0))] h (q_ex (q_pX h a c m O)) := by
  refine q_enter K.st rfl rfl (by decide) rfl (Nat.le_of_ble_eq_true rfl) (L := [_, _, _, _, none, none]) rfl ?_
  obtain ⟨bt, bn, bc, bpe, bpf, bpc, bpn⟩ := id B
  obtain ⟨⟨N0, hN0, a0, ⟨τ0, b0⟩, k0⟩, dd⟩ := id s
  have v := k0.2.2.2.2.2.2.2
  have ha2 := hN.2.1
  refine q_aload_n dL_isRemoved_0 rfl ?_
  refine q_iload_n dL_isRemoved_1 rfl ?_
  refine q_sD (kc := 1) (ks := 6) (g_L_place (h := h) K hN R B (x := x)) wL_place kL_206 sL_place (by decide) rfl rfl (Nat.le_of_ble_eq_true rfl) dL_isRemoved_2 rfl rfl ?_
  refine q_istore (L' := [_, _, _, _, _, _]) dL_isRemoved_5 rfl (by decide) rfl ?_
  refine q_iload dL_isRemoved_7 rfl ?_
  refine q_if_ge (tgt := 40) dL_isRemoved_9 rfl (fun c1 => ?_) (fun c2 => ?_)
  · have hnn : ¬ (q_pl (fun k => decide (m.id k = x)) m.c) < 0 := Int32.not_lt.mpr (by assumption)
    obtain ⟨k, hk1, hk2, hk3, hk4⟩ := q_pl_at (by omega) hnn
    have hkp := bpn k hk1
    rw [hk3]
    refine q_aload_n dL_isRemoved_40 rfl ?_
    refine q_sipush (v := nI 899) dL_isRemoved_41 (by decide) ?_
    refine q_iconst (v := nI 1) dL_isRemoved_44 (by decide) ?_
    refine q_iastD (k := 899) hN.1 hN.t hN.l (by omega) (by decide) dL_isRemoved_45 ?_
    refine q_iload_n dL_isRemoved_46 rfl ?_
    refine q_if_eq (tgt := 89) dL_isRemoved_47 rfl (fun _ => ?_) (fun c => absurd (by decide) c)
    refine q_bipush (v := nI 100) dL_isRemoved_89 (by decide) ?_
    refine q_bipush (v := nI 20) dL_isRemoved_91 (by decide) ?_
    refine q_iload dL_isRemoved_93 rfl ?_
    refine q_imulN dL_isRemoved_95 ?_
    refine q_iaddN dL_isRemoved_96 ?_
    refine q_istore (L' := [_, _, _, _, _, _]) dL_isRemoved_97 rfl (by decide) rfl ?_
    refine q_loop (ι := Nat) (μ := fun j => 80 + 20 * m.c - j) (P := fun j => 100 + 20 * k ≤ j ∧ j ≤ 80 + 20 * m.c) (Lf := fun j => [some (.ref 1), some (.ref a), some (.int x), some (.int (nI (0))), some (.int (nI (k))), some (.int (nI (j)))]) (hf := fun j => (h.rowI a (q_shf (va_up (h.I a) 899 (nI 1)) (100 + 20 * k) j 20))) (fun j hi99 ih99 => ?_) (100 + 20 * k) (⟨Nat.le_refl _, by omega⟩) (q_sub_s rfl (q_sub_s rfl (q_sub_i rfl (q_sub_i rfl (q_sub_i rfl (q_sub_i rfl q_sub_0)))))) (by rw [q_shf_0]; rfl)
    skip
    refine q_iload dL_isRemoved_99 rfl ?_
    refine q_bipush (v := nI 80) dL_isRemoved_101 (by decide) ?_
    refine q_bipush (v := nI 20) dL_isRemoved_103 (by decide) ?_
    refine q_aload_n dL_isRemoved_105 rfl ?_
    refine q_iconst (v := nI 2) dL_isRemoved_106 (by decide) ?_
    refine q_ialdD (k := 2) hN.1 hN.t hN.l (by omega) (by decide) dL_isRemoved_107 ?_
    refine q_tv (show _ = (nI (m.c)) from ((congrFun (q_rI _ _ _) _).trans ((q_shf_o _ (by omega)).trans ((va_un _ _ (by omega)).trans R.c)))) ?_
    refine q_imulN dL_isRemoved_108 ?_
    refine q_iaddN dL_isRemoved_109 ?_
    refine q_icmp_geN (by omega) (by omega) (tgt := 130) dL_isRemoved_110 rfl (fun c5 => ?_) (fun c6 => ?_)
    · obtain rfl : j = 80 + 20 * m.c := by omega
      refine q_aload_n dL_isRemoved_130 rfl ?_
      refine q_iconst (v := nI 2) dL_isRemoved_131 (by decide) ?_
      refine q_dup2 dL_isRemoved_132 rfl rfl ?_
      refine q_ialdD (k := 2) hN.1 hN.t hN.l (by omega) (by decide) dL_isRemoved_133 ?_
      refine q_tv (show _ = (nI (m.c)) from ((congrFun (q_rI _ _ _) _).trans ((q_shf_o _ (by omega)).trans ((va_un _ _ (by omega)).trans R.c)))) ?_
      refine q_iconst (v := nI 1) dL_isRemoved_134 (by decide) ?_
      refine q_isubN (by omega) dL_isRemoved_135 ?_
      refine q_iastD (k := 2) hN.1 hN.t hN.l (by omega) (by decide) dL_isRemoved_136 ?_
      have F2 : q_lf h ((h.rowI a (q_shf (va_up (h.I a) 899 (nI 1)) (100 + 20 * k) (80 + 20 * m.c) 20)).setI a (2) (nI ((m.c) - (1)))) a := ((q_lf.rf.row).set)
      have RB : (q_nr ((((h.rowI a (q_shf (va_up (h.I a) 899 (nI 1)) (100 + 20 * k) (80 + 20 * m.c) 20)).setI a (2) (nI ((m.c) - (1))))).I a) (m.rmS k) ρ ∧ q_bd (m.rmS k)) := by rw [q_sI, q_rI]; exact q_nRemS R B hk1
      have u2 : (((h.rowI a (q_shf (va_up (h.I a) 899 (nI 1)) (100 + 20 * k) (80 + 20 * m.c) 20)).setI a (2) (nI ((m.c) - (1))))).I a 899 = nI 1 := by rw [q_sI, va_un _ _ (by omega), q_rI, q_shf_o _ (Or.inr (by omega)), va_us]
      have C2 : q_clX ((h.rowI a (q_shf (va_up (h.I a) 899 (nI 1)) (100 + 20 * k) (80 + 20 * m.c) 20)).setI a (2) (nI ((m.c) - (1)))) W O := ((C.rowD ha2).setD ha2)
      have K2 : q_Lk Φ (((h.rowI a (q_shf (va_up (h.I a) 899 (nI 1)) (100 + 20 * k) (80 + 20 * m.c) 20)).setI a (2) (nI ((m.c) - (1))))).R (((h.rowI a (q_shf (va_up (h.I a) 899 (nI 1)) (100 + 20 * k) (80 + 20 * m.c) 20)).setI a (2) (nI ((m.c) - (1))))).n := K
      have N2 : q_n9 ((h.rowI a (q_shf (va_up (h.I a) 899 (nI 1)) (100 + 20 * k) (80 + 20 * m.c) 20)).setI a (2) (nI ((m.c) - (1)))) a := hN
      obtain ⟨h2, e2⟩ : ∃ hh, hh = ((h.rowI a (q_shf (va_up (h.I a) 899 (nI 1)) (100 + 20 * k) (80 + 20 * m.c) 20)).setI a (2) (nI ((m.c) - (1)))) := ⟨_, rfl⟩
      rw [← e2] at F2 RB u2 C2 K2 N2  ⊢
      obtain ⟨R2, B2⟩ := RB
      refine q_aload_n dL_isRemoved_137 rfl ?_
      refine q_iload_n dL_isRemoved_138 rfl ?_
      refine q_callH (kc := 0) (ks := 0) (g_L_removeSession (h := h2) K2 C2  (x := x)) wL_removeSession kL_219 sL_removeSession (by decide) rfl rfl (Nat.le_of_ble_eq_true rfl) dL_isRemoved_139 rfl rfl (fun E h9 q9 => (by obtain ⟨_, q9, _⟩ := q9; exact nomatch q9)) ?_
      intro v9 h9 hq
      obtain ⟨x9, ex9, hj9⟩ := j_removeSession C2 B s a0 b0 k0 dd (by omega) hq
      clear hq
      cases ex9
      rcases hj9 with ⟨d1, ex8, rd⟩ | ⟨y1, hp⟩
      · exact absurd d1 (hnn)
      rw [hk4] at hp
      obtain ⟨ev9, fr, W1, O1, C1, S1, Y, yY, rfl⟩ := hp
      cases ev9
      have R9 : q_nr (h9.I a) (m.rmS k) ρ := by rw [fr.1 a (by omega)]; exact R2
      have N9 : q_n9 h9 a := N2.fr fr.2.2.1
      refine q_aload_n dL_isRemoved_142 rfl ?_
      refine q_iconst (v := nI 2) dL_isRemoved_143 (by decide) ?_
      refine q_ialdD (k := 2) N9.1 N9.t N9.l (by omega) (by decide) dL_isRemoved_144 ?_
      refine q_tv (show _ = (nI (m.c - 1)) from R9.c) ?_
      refine q_icmp_neN (by omega) (by omega) (tgt := 152) dL_isRemoved_145 rfl (fun c => absurd rfl c) (fun c7 => ?_)
      refine q_iconst (v := nI 1) dL_isRemoved_148 (by decide) ?_
      refine q_goto (tgt := 153) dL_isRemoved_149 rfl ?_
      refine q_zret (ty := .boolean) dL_isRemoved_153 rfl rfl (Or.inl rfl) ?_
      exact ⟨_, rfl, q_pX.yes F2 N2 R2 B2 u2 fr C1 S1 yY id⟩
    · refine q_aload_n dL_isRemoved_113 rfl ?_
      refine q_iload dL_isRemoved_114 rfl ?_
      refine q_aload_n dL_isRemoved_116 rfl ?_
      refine q_iload dL_isRemoved_117 rfl ?_
      refine q_bipush (v := nI 20) dL_isRemoved_119 (by decide) ?_
      refine q_iaddN dL_isRemoved_121 ?_
      refine q_ialdD (k := (j) + (20)) hN.1 hN.t hN.l (by omega) (by decide) dL_isRemoved_122 ?_
      refine q_tv (show _ = ((va_up (h.I a) 899 (nI 1)) (j + 20)) from ((congrFun (q_rI _ _ _) _).trans (q_shf_o _ (Or.inr (by omega))))) ?_
      refine q_iastD (k := j) hN.1 hN.t hN.l (by omega) (by decide) dL_isRemoved_123 ?_
      refine q_iincN (n := 1) (L' := [_, _, _, _, _, _]) (by decide) dL_isRemoved_124 rfl rfl (by decide) rfl ?_
      refine q_goto (tgt := 99) dL_isRemoved_127 rfl ?_
      exact q_to (ih99 (j + 1) (by omega) (by omega)) (q_sub_s rfl (q_sub_s rfl (q_sub_i rfl (q_sub_i rfl (q_sub_i rfl (q_sub_i rfl q_sub_0)))))) (by rw [q_rset, q_shf_s (N := (va_up (h.I a) 899 (nI 1))) (by omega)])
  · refine q_iload_n dL_isRemoved_12 rfl ?_
    refine q_if_eq (tgt := 24) dL_isRemoved_13 rfl (fun _ => ?_) (fun c => absurd (by decide) c)
    refine q_aload_n dL_isRemoved_24 rfl ?_
    refine q_iload_n dL_isRemoved_25 rfl ?_
    refine q_callH (kc := 0) (ks := 0) (g_L_removeSession (h := h) K C  (x := x)) wL_removeSession kL_219 sL_removeSession (by decide) rfl rfl (Nat.le_of_ble_eq_true rfl) dL_isRemoved_26 rfl rfl (fun E h9 q9 => (by obtain ⟨_, q9, _⟩ := q9; exact nomatch q9)) ?_
    intro v9 h9 hq
    obtain ⟨x9, ex9, hj9⟩ := j_removeSession C B s a0 b0 k0 dd (by omega) hq
    clear hq
    cases ex9
    rcases hj9 with ⟨d1, ex8, rd⟩ | ⟨y1, hp⟩
    rotate_left
    · exact absurd ((Int32.not_le.mp (by assumption))) y1
    subst ex8
    refine q_ldc dL_isRemoved_29 kcL_17 ?_
    refine q_icmp_ne (tgt := 38) dL_isRemoved_31 rfl (fun c => absurd (by decide) c) (fun _ => ?_)
    refine q_iconst (v := nI 1) dL_isRemoved_34 (by decide) ?_
    refine q_goto (tgt := 39) dL_isRemoved_35 rfl ?_
    refine q_zret (ty := .boolean) dL_isRemoved_39 rfl rfl (Or.inl rfl) ?_
    exact ⟨_, rfl, q_pX.no hN R B u9 s rd⟩
theorem g_L_isPart {Φ : q_Fx} {h : q_Hp} (K : q_Lk Φ h.R h.n) {a : Nat} (hN : q_n9 h a) {m : q_W} {ρ : Nat → Nat} (R : q_nr (h.I a) m ρ) (B : q_bd m) (u9 : h.I a 899 = nI 0) {W : q_W} {O : q_O} (C : q_clX h W O) {c : Nat} (s : q_smc c W m) (hcc : c ≤ 500) {x : Int32} {i y : Nat} (hi1 : 1 ≤ i) (hi2 : i ≤ 120) (hy : y ≤ 500) : q_Ct Φ false yL_isPart cL_isPart mL_isPart [.ref 1, .ref a, .int x, .int (nI (i)), .int (nI (y))] h (q_ex (q_pX h a c m O)) := by
  refine q_enter K.st rfl rfl (by decide) rfl (Nat.le_of_ble_eq_true rfl) (L := [_, _, _, _, _, none, none]) rfl ?_
  obtain ⟨bt, bn, bc, bpe, bpf, bpc, bpn⟩ := id B
  obtain ⟨⟨N0, hN0, a0, ⟨τ0, b0⟩, k0⟩, dd⟩ := id s
  have v := k0.2.2.2.2.2.2.2
  have ha2 := hN.2.1
  refine q_aload_n dL_isPart_0 rfl ?_
  refine q_iload_n dL_isPart_1 rfl ?_
  refine q_sD (kc := 4) (ks := 24) (g_L_place (h := h) K hN R B (x := x)) wL_place kL_206 sL_place (by decide) rfl rfl (Nat.le_of_ble_eq_true rfl) dL_isPart_2 rfl rfl ?_
  refine q_istore (L' := [_, _, _, _, _, _, _]) dL_isPart_5 rfl (by decide) rfl ?_
  refine q_iload dL_isPart_7 rfl ?_
  refine q_if_ge (tgt := 30) dL_isPart_9 rfl (fun c1 => ?_) (fun c2 => ?_)
  · have hnn : ¬ (q_pl (fun k => decide (m.id k = x)) m.c) < 0 := Int32.not_lt.mpr (by assumption)
    obtain ⟨k, hk1, hk2, hk3, hk4⟩ := q_pl_at (by omega) hnn
    have hkp := bpn k hk1
    rw [hk3]
    refine q_bipush (v := nI 100) dL_isPart_30 (by decide) ?_
    refine q_bipush (v := nI 20) dL_isPart_32 (by decide) ?_
    refine q_iload dL_isPart_34 rfl ?_
    refine q_imulN dL_isPart_36 ?_
    refine q_iaddN dL_isPart_37 ?_
    refine q_istore (L' := [_, _, _, _, _, _, _]) dL_isPart_38 rfl (by decide) rfl ?_
    refine q_aload_n dL_isPart_40 rfl ?_
    refine q_iload dL_isPart_41 rfl ?_
    refine q_iconst (v := nI 2) dL_isPart_43 (by decide) ?_
    refine q_iaddN dL_isPart_44 ?_
    refine q_ialdD (k := ((100) + ((20) * (k))) + (2)) hN.1 hN.t hN.l (by omega) (by decide) dL_isPart_45 ?_
    refine q_tv (show _ = (nI (m.pn k)) from ((congrArg (h.I a) (show (((100) + ((20) * (k))) + (2)) = 102 + 20 * k by omega)).trans (R.pn (k := k) (by omega)))) ?_
    refine q_bipush (v := nI 8) dL_isPart_46 (by decide) ?_
    refine q_icmp_eqN (by omega) (by omega) (tgt := 66) dL_isPart_48 rfl (fun c3 => ?_) (fun c4 => ?_)
    · refine q_aload_n dL_isPart_66 rfl ?_
      refine q_iload_n dL_isPart_67 rfl ?_
      refine q_iload_n dL_isPart_68 rfl ?_
      refine q_iload dL_isPart_69 rfl ?_
      refine q_callH (kc := 0) (ks := 0) (g_L_addPart (h := h) K C  (x := x) (m := (nI (i))) (y := (nI (y)))) wL_addPart kL_209 sL_addPart (by decide) rfl rfl (Nat.le_of_ble_eq_true rfl) dL_isPart_71 rfl rfl (fun E h9 q9 => (by obtain ⟨_, q9, _⟩ := q9; exact nomatch q9)) ?_
      intro v9 h9 hq
      obtain ⟨x9, ex9, hj9⟩ := j_addPart C B s a0 b0 k0 dd (by omega) hq
      clear hq
      cases ex9
      rcases hj9 with ⟨d1, ex8, rd⟩ | ⟨y1, d2, ex8, rd⟩ | ⟨y1, y2, d3, ex8, rd⟩ | ⟨y1, y2, y3, hp⟩
      · exact absurd d1 (hnn)
      · exact absurd d2 ((by rintro (e | e); exact absurd e (q_rin hi1 hi2 (by decide)); exact absurd e (q_rin (Nat.zero_le _) hy (by decide))))
      rotate_left
      · exact absurd ((by rw [hk4]; first | exact Or.inl (by omega) | exact Or.inr (by rw [← q_ms_0]; exact Int32.not_le.mp (by assumption)))) y3
      subst ex8
      refine q_ldc dL_isPart_74 kcL_55 ?_
      refine q_icmp_ne (tgt := 83) dL_isPart_76 rfl (fun c => absurd (by decide) c) (fun _ => ?_)
      refine q_iconst (v := nI 1) dL_isPart_79 (by decide) ?_
      refine q_goto (tgt := 84) dL_isPart_80 rfl ?_
      refine q_zret (ty := .boolean) dL_isPart_84 rfl rfl (Or.inl rfl) ?_
      exact ⟨_, rfl, q_pX.no hN R B u9 s rd⟩
    · refine q_aload_n dL_isPart_51 rfl ?_
      refine q_iload dL_isPart_52 rfl ?_
      refine q_iconst (v := nI 0) dL_isPart_54 (by decide) ?_
      refine q_sD (kc := 4) (ks := 24) (g_L_minutes (h := h) K hN R B v dd (k := k) (z := 0) (by omega) (by omega)) wL_minutes kL_212 sL_minutes (by decide) rfl rfl (Nat.le_of_ble_eq_true rfl) dL_isPart_55 rfl rfl ?_
      refine q_iload_n dL_isPart_58 rfl ?_
      refine q_iadd dL_isPart_59 ?_
      refine q_sipush (v := nI 240) dL_isPart_60 (by decide) ?_
      refine q_icmp_le (tgt := 85) dL_isPart_63 rfl (fun c7 => ?_) (fun c8 => ?_)
      · refine q_aload_n dL_isPart_85 rfl ?_
        refine q_iload dL_isPart_86 rfl ?_
        refine q_iconst (v := nI 3) dL_isPart_88 (by decide) ?_
        refine q_iaddN dL_isPart_89 ?_
        refine q_aload_n dL_isPart_90 rfl ?_
        refine q_iload dL_isPart_91 rfl ?_
        refine q_iconst (v := nI 2) dL_isPart_93 (by decide) ?_
        refine q_iaddN dL_isPart_94 ?_
        refine q_ialdD (k := ((100) + ((20) * (k))) + (2)) hN.1 hN.t hN.l (by omega) (by decide) dL_isPart_95 ?_
        refine q_tv (show _ = (nI (m.pn k)) from ((congrArg (h.I a) (show (((100) + ((20) * (k))) + (2)) = 102 + 20 * k by omega)).trans (R.pn (k := k) (by omega)))) ?_
        refine q_iaddN dL_isPart_96 ?_
        refine q_iload_n dL_isPart_97 rfl ?_
        refine q_iastD (k := (((100) + ((20) * (k))) + (3)) + (m.pn k)) hN.1 hN.t hN.l (by omega) (by decide) dL_isPart_98 ?_
        refine q_aload_n dL_isPart_99 rfl ?_
        refine q_iload dL_isPart_100 rfl ?_
        refine q_bipush (v := nI 11) dL_isPart_102 (by decide) ?_
        refine q_iaddN dL_isPart_104 ?_
        refine q_aload_n dL_isPart_105 rfl ?_
        refine q_iload dL_isPart_106 rfl ?_
        refine q_iconst (v := nI 2) dL_isPart_108 (by decide) ?_
        refine q_iaddN dL_isPart_109 ?_
        refine q_ialdD (k := ((100) + ((20) * (k))) + (2)) hN.1 hN.t hN.l (by omega) (by decide) dL_isPart_110 ?_
        refine q_tv (show _ = (nI (m.pn k)) from (((congrFun (q_sI _ _ _ _) _).trans (va_un _ _ (by omega))).trans ((congrArg (h.I a) (show (((100) + ((20) * (k))) + (2)) = 102 + 20 * k by omega)).trans (R.pn (k := k) (by omega))))) ?_
        refine q_iaddN dL_isPart_111 ?_
        refine q_iload dL_isPart_112 rfl ?_
        refine q_iastD (k := (((100) + ((20) * (k))) + (11)) + (m.pn k)) hN.1 hN.t hN.l (by omega) (by decide) dL_isPart_114 ?_
        refine q_aload_n dL_isPart_115 rfl ?_
        refine q_iload dL_isPart_116 rfl ?_
        refine q_iconst (v := nI 2) dL_isPart_118 (by decide) ?_
        refine q_iaddN dL_isPart_119 ?_
        refine q_dup2 dL_isPart_120 rfl rfl ?_
        refine q_ialdD (k := ((100) + ((20) * (k))) + (2)) hN.1 hN.t hN.l (by omega) (by decide) dL_isPart_121 ?_
        refine q_tv (show _ = (nI (m.pn k)) from (((congrFun (q_sI _ _ _ _) _).trans (va_un _ _ (by omega))).trans (((congrFun (q_sI _ _ _ _) _).trans (va_un _ _ (by omega))).trans ((congrArg (h.I a) (show (((100) + ((20) * (k))) + (2)) = 102 + 20 * k by omega)).trans (R.pn (k := k) (by omega)))))) ?_
        refine q_iconst (v := nI 1) dL_isPart_122 (by decide) ?_
        refine q_iaddN dL_isPart_123 ?_
        refine q_iastD (k := ((100) + ((20) * (k))) + (2)) hN.1 hN.t hN.l (by omega) (by decide) dL_isPart_124 ?_
        refine q_aload_n dL_isPart_125 rfl ?_
        refine q_sipush (v := nI 899) dL_isPart_126 (by decide) ?_
        refine q_iconst (v := nI 1) dL_isPart_129 (by decide) ?_
        refine q_iastD (k := 899) hN.1 hN.t hN.l (by omega) (by decide) dL_isPart_130 ?_
        have F2 : q_lf h ((((h.setI a ((((100) + ((20) * (k))) + (3)) + (m.pn k)) (nI (i))).setI a ((((100) + ((20) * (k))) + (11)) + (m.pn k)) (nI (y))).setI a (((100) + ((20) * (k))) + (2)) (nI ((m.pn k) + (1)))).setI a (899) (nI (1))) a := ((((q_lf.rf.set).set).set).set)
        have RB : (q_nr ((((((h.setI a ((((100) + ((20) * (k))) + (3)) + (m.pn k)) (nI (i))).setI a ((((100) + ((20) * (k))) + (11)) + (m.pn k)) (nI (y))).setI a (((100) + ((20) * (k))) + (2)) (nI ((m.pn k) + (1)))).setI a (899) (nI (1)))).I a) (m.addP k (nI i) (nI y)) ρ ∧ q_bd (m.addP k (nI i) (nI y))) := by rw [q_sI, q_sI, q_sI, q_sI]; exact q_nPart R B hk1 (by omega)
        have u2 : (((((h.setI a ((((100) + ((20) * (k))) + (3)) + (m.pn k)) (nI (i))).setI a ((((100) + ((20) * (k))) + (11)) + (m.pn k)) (nI (y))).setI a (((100) + ((20) * (k))) + (2)) (nI ((m.pn k) + (1)))).setI a (899) (nI (1)))).I a 899 = nI 1 := by rw [q_sI]; exact va_us _ _ _
        have C2 : q_clX ((((h.setI a ((((100) + ((20) * (k))) + (3)) + (m.pn k)) (nI (i))).setI a ((((100) + ((20) * (k))) + (11)) + (m.pn k)) (nI (y))).setI a (((100) + ((20) * (k))) + (2)) (nI ((m.pn k) + (1)))).setI a (899) (nI (1))) W O := ((((C.setD ha2).setD ha2).setD ha2).setD ha2)
        have K2 : q_Lk Φ (((((h.setI a ((((100) + ((20) * (k))) + (3)) + (m.pn k)) (nI (i))).setI a ((((100) + ((20) * (k))) + (11)) + (m.pn k)) (nI (y))).setI a (((100) + ((20) * (k))) + (2)) (nI ((m.pn k) + (1)))).setI a (899) (nI (1)))).R (((((h.setI a ((((100) + ((20) * (k))) + (3)) + (m.pn k)) (nI (i))).setI a ((((100) + ((20) * (k))) + (11)) + (m.pn k)) (nI (y))).setI a (((100) + ((20) * (k))) + (2)) (nI ((m.pn k) + (1)))).setI a (899) (nI (1)))).n := K
        have N2 : q_n9 ((((h.setI a ((((100) + ((20) * (k))) + (3)) + (m.pn k)) (nI (i))).setI a ((((100) + ((20) * (k))) + (11)) + (m.pn k)) (nI (y))).setI a (((100) + ((20) * (k))) + (2)) (nI ((m.pn k) + (1)))).setI a (899) (nI (1))) a := hN
        obtain ⟨h2, e2⟩ : ∃ hh, hh = ((((h.setI a ((((100) + ((20) * (k))) + (3)) + (m.pn k)) (nI (i))).setI a ((((100) + ((20) * (k))) + (11)) + (m.pn k)) (nI (y))).setI a (((100) + ((20) * (k))) + (2)) (nI ((m.pn k) + (1)))).setI a (899) (nI (1))) := ⟨_, rfl⟩
        rw [← e2] at F2 RB u2 C2 K2 N2  ⊢
        obtain ⟨R2, B2⟩ := RB
        refine q_aload_n dL_isPart_131 rfl ?_
        refine q_iload_n dL_isPart_132 rfl ?_
        refine q_iload_n dL_isPart_133 rfl ?_
        refine q_iload dL_isPart_134 rfl ?_
        refine q_callH (kc := 0) (ks := 0) (g_L_addPart (h := h2) K2 C2  (x := x) (m := (nI (i))) (y := (nI (y)))) wL_addPart kL_209 sL_addPart (by decide) rfl rfl (Nat.le_of_ble_eq_true rfl) dL_isPart_136 rfl rfl (fun E h9 q9 => (by obtain ⟨_, q9, _⟩ := q9; exact nomatch q9)) ?_
        intro v9 h9 hq
        obtain ⟨x9, ex9, hj9⟩ := j_addPart C2 B s a0 b0 k0 dd (by omega) hq
        clear hq
        cases ex9
        rcases hj9 with ⟨d1, ex8, rd⟩ | ⟨y1, d2, ex8, rd⟩ | ⟨y1, y2, d3, ex8, rd⟩ | ⟨y1, y2, y3, hp⟩
        · exact absurd d1 (hnn)
        · exact absurd d2 ((by rintro (e | e); exact absurd e (q_rin hi1 hi2 (by decide)); exact absurd e (q_rin (Nat.zero_le _) hy (by decide))))
        · exact absurd d3 ((by rw [hk4]; rintro (e | e); omega; rw [← q_ms_0] at e; exact absurd e (Int32.not_lt.mpr (by assumption))))
        rw [hk4] at hp
        obtain ⟨ev9, fr, W1, O1, C1, S1, Y, yY, rfl⟩ := hp
        cases ev9
        have R9 : q_nr (h9.I a) (m.addP k (nI i) (nI y)) ρ := by rw [fr.1 a (by omega)]; exact R2
        have N9 : q_n9 h9 a := N2.fr fr.2.2.1
        refine q_aload_n dL_isPart_139 rfl ?_
        refine q_iload dL_isPart_140 rfl ?_
        refine q_iconst (v := nI 2) dL_isPart_142 (by decide) ?_
        refine q_iaddN dL_isPart_143 ?_
        refine q_ialdD (k := ((100) + ((20) * (k))) + (2)) N9.1 N9.t N9.l (by omega) (by decide) dL_isPart_144 ?_
        refine q_tv (show _ = (nI (m.pn k + 1)) from ((congrArg (h9.I a) (show (((100) + ((20) * (k))) + (2)) = 102 + 20 * k by omega)).trans ((R9.pn (k := k) hk1).trans (congrArg nI (va_us m.pn k (m.pn k + 1)))))) ?_
        refine q_icmp_neN (by omega) (by omega) (tgt := 152) dL_isPart_145 rfl (fun c => absurd rfl c) (fun c9 => ?_)
        refine q_iconst (v := nI 1) dL_isPart_148 (by decide) ?_
        refine q_goto (tgt := 153) dL_isPart_149 rfl ?_
        refine q_zret (ty := .boolean) dL_isPart_153 rfl rfl (Or.inl rfl) ?_
        exact ⟨_, rfl, q_pX.yes F2 N2 R2 B2 u2 fr C1 S1 yY id⟩
      · refine q_aload_n dL_isPart_66 rfl ?_
        refine q_iload_n dL_isPart_67 rfl ?_
        refine q_iload_n dL_isPart_68 rfl ?_
        refine q_iload dL_isPart_69 rfl ?_
        refine q_callH (kc := 0) (ks := 0) (g_L_addPart (h := h) K C  (x := x) (m := (nI (i))) (y := (nI (y)))) wL_addPart kL_209 sL_addPart (by decide) rfl rfl (Nat.le_of_ble_eq_true rfl) dL_isPart_71 rfl rfl (fun E h9 q9 => (by obtain ⟨_, q9, _⟩ := q9; exact nomatch q9)) ?_
        intro v9 h9 hq
        obtain ⟨x9, ex9, hj9⟩ := j_addPart C B s a0 b0 k0 dd (by omega) hq
        clear hq
        cases ex9
        rcases hj9 with ⟨d1, ex8, rd⟩ | ⟨y1, d2, ex8, rd⟩ | ⟨y1, y2, d3, ex8, rd⟩ | ⟨y1, y2, y3, hp⟩
        · exact absurd d1 (hnn)
        · exact absurd d2 ((by rintro (e | e); exact absurd e (q_rin hi1 hi2 (by decide)); exact absurd e (q_rin (Nat.zero_le _) hy (by decide))))
        rotate_left
        · exact absurd ((by rw [hk4]; first | exact Or.inl (by omega) | exact Or.inr (by rw [← q_ms_0]; exact Int32.not_le.mp (by assumption)))) y3
        subst ex8
        refine q_ldc dL_isPart_74 kcL_55 ?_
        refine q_icmp_ne (tgt := 83) dL_isPart_76 rfl (fun c => absurd (by decide) c) (fun _ => ?_)
        refine q_iconst (v := nI 1) dL_isPart_79 (by decide) ?_
        refine q_goto (tgt := 84) dL_isPart_80 rfl ?_
        refine q_zret (ty := .boolean) dL_isPart_84 rfl rfl (Or.inl rfl) ?_
        exact ⟨_, rfl, q_pX.no hN R B u9 s rd⟩
  · refine q_aload_n dL_isPart_12 rfl ?_
    refine q_iload_n dL_isPart_13 rfl ?_
    refine q_iconst (v := nI 0) dL_isPart_14 (by decide) ?_
    refine q_iconst (v := nI 0) dL_isPart_15 (by decide) ?_
    refine q_callH (kc := 0) (ks := 0) (g_L_addPart (h := h) K C  (x := x) (m := (nI (0))) (y := (nI (0)))) wL_addPart kL_209 sL_addPart (by decide) rfl rfl (Nat.le_of_ble_eq_true rfl) dL_isPart_16 rfl rfl (fun E h9 q9 => (by obtain ⟨_, q9, _⟩ := q9; exact nomatch q9)) ?_
    intro v9 h9 hq
    obtain ⟨x9, ex9, hj9⟩ := j_addPart C B s a0 b0 k0 dd (by omega) hq
    clear hq
    cases ex9
    rcases hj9 with ⟨d1, ex8, rd⟩ | ⟨y1, d2, ex8, rd⟩ | ⟨y1, y2, d3, ex8, rd⟩ | ⟨y1, y2, y3, hp⟩
    rotate_left
    · exact absurd ((Int32.not_le.mp (by assumption))) y1
    · exact absurd ((Int32.not_le.mp (by assumption))) y1
    · exact absurd ((Int32.not_le.mp (by assumption))) y1
    subst ex8
    refine q_ldc dL_isPart_19 kcL_17 ?_
    refine q_icmp_ne (tgt := 28) dL_isPart_21 rfl (fun c => absurd (by decide) c) (fun _ => ?_)
    refine q_iconst (v := nI 1) dL_isPart_24 (by decide) ?_
    refine q_goto (tgt := 29) dL_isPart_25 rfl ?_
    refine q_zret (ty := .boolean) dL_isPart_29 rfl rfl (Or.inl rfl) ?_
    exact ⟨_, rfl, q_pX.no hN R B u9 s rd⟩
theorem g_L_isSession {Φ : q_Fx} {h : q_Hp} (K : q_Lk Φ h.R h.n) {a : Nat} (hN : q_n9 h a) {m : q_W} {ρ : Nat → Nat} (R : q_nr (h.I a) m ρ) (B : q_bd m) (u9 : h.I a 899 = nI 0) {W : q_W} {O : q_O} (C : q_clX h W O) {c : Nat} (s : q_smc c W m) (hcc : c ≤ 500) {d : Nat} (hd : d ≤ m.t) : q_Ct Φ false yL_isSession cL_isSession mL_isSession [.ref 1, .ref a, .int (nI (d))] h (q_ex (q_pX h a c m O)) := by
  refine q_enter K.st rfl rfl (by decide) rfl (Nat.le_of_ble_eq_true rfl) (L := [_, _, _, none]) rfl ?_
  obtain ⟨bt, bn, bc, bpe, bpf, bpc, bpn⟩ := id B
  obtain ⟨⟨N0, hN0, a0, ⟨τ0, b0⟩, k0⟩, dd⟩ := id s
  have v := k0.2.2.2.2.2.2.2
  have ha2 := hN.2.1
  refine q_aload_n dL_isSession_0 rfl ?_
  refine q_iconst (v := nI 2) dL_isSession_1 (by decide) ?_
  refine q_ialdD (k := 2) hN.1 hN.t hN.l (by omega) (by decide) dL_isSession_2 ?_
  refine q_tv (show _ = (nI (m.c)) from R.c) ?_
  refine q_bipush (v := nI 38) dL_isSession_3 (by decide) ?_
  refine q_icmp_neN (by omega) (by omega) (tgt := 28) dL_isSession_5 rfl (fun c1 => ?_) (fun c2 => ?_)
  · refine q_bipush (v := nI 100) dL_isSession_28 (by decide) ?_
    refine q_bipush (v := nI 20) dL_isSession_30 (by decide) ?_
    refine q_aload_n dL_isSession_32 rfl ?_
    refine q_iconst (v := nI 2) dL_isSession_33 (by decide) ?_
    refine q_ialdD (k := 2) hN.1 hN.t hN.l (by omega) (by decide) dL_isSession_34 ?_
    refine q_tv (show _ = (nI (m.c)) from R.c) ?_
    refine q_imulN dL_isSession_35 ?_
    refine q_iaddN dL_isSession_36 ?_
    refine q_istore_n (L' := [_, _, _, _]) dL_isSession_37 rfl (by decide) rfl ?_
    refine q_aload_n dL_isSession_38 rfl ?_
    refine q_iload_n dL_isSession_39 rfl ?_
    refine q_aload_n dL_isSession_40 rfl ?_
    refine q_iconst (v := nI 1) dL_isSession_41 (by decide) ?_
    refine q_ialdD (k := 1) hN.1 hN.t hN.l (by omega) (by decide) dL_isSession_42 ?_
    refine q_tv (show _ = m.nx from R.nx) ?_
    refine q_iastD (k := (100) + ((20) * (m.c))) hN.1 hN.t hN.l (by omega) (by decide) dL_isSession_43 ?_
    refine q_aload_n dL_isSession_44 rfl ?_
    refine q_iload_n dL_isSession_45 rfl ?_
    refine q_iconst (v := nI 1) dL_isSession_46 (by decide) ?_
    refine q_iaddN dL_isSession_47 ?_
    refine q_iload_n dL_isSession_48 rfl ?_
    refine q_iastD (k := ((100) + ((20) * (m.c))) + (1)) hN.1 hN.t hN.l (by omega) (by decide) dL_isSession_49 ?_
    refine q_aload_n dL_isSession_50 rfl ?_
    refine q_iload_n dL_isSession_51 rfl ?_
    refine q_iconst (v := nI 2) dL_isSession_52 (by decide) ?_
    refine q_iaddN dL_isSession_53 ?_
    refine q_iconst (v := nI 0) dL_isSession_54 (by decide) ?_
    refine q_iastD (k := ((100) + ((20) * (m.c))) + (2)) hN.1 hN.t hN.l (by omega) (by decide) dL_isSession_55 ?_
    refine q_aload_n dL_isSession_56 rfl ?_
    refine q_iconst (v := nI 2) dL_isSession_57 (by decide) ?_
    refine q_dup2 dL_isSession_58 rfl rfl ?_
    refine q_ialdD (k := 2) hN.1 hN.t hN.l (by omega) (by decide) dL_isSession_59 ?_
    refine q_tv (show _ = (nI (m.c)) from (((congrFun (q_sI _ _ _ _) _).trans (va_un _ _ (by omega))).trans (((congrFun (q_sI _ _ _ _) _).trans (va_un _ _ (by omega))).trans (((congrFun (q_sI _ _ _ _) _).trans (va_un _ _ (by omega))).trans R.c)))) ?_
    refine q_iconst (v := nI 1) dL_isSession_60 (by decide) ?_
    refine q_iaddN dL_isSession_61 ?_
    refine q_iastD (k := 2) hN.1 hN.t hN.l (by omega) (by decide) dL_isSession_62 ?_
    refine q_aload_n dL_isSession_63 rfl ?_
    refine q_iconst (v := nI 1) dL_isSession_64 (by decide) ?_
    refine q_dup2 dL_isSession_65 rfl rfl ?_
    refine q_ialdD (k := 1) hN.1 hN.t hN.l (by omega) (by decide) dL_isSession_66 ?_
    refine q_tv (show _ = m.nx from (((congrFun (q_sI _ _ _ _) _).trans (va_un _ _ (by omega))).trans (((congrFun (q_sI _ _ _ _) _).trans (va_un _ _ (by omega))).trans (((congrFun (q_sI _ _ _ _) _).trans (va_un _ _ (by omega))).trans (((congrFun (q_sI _ _ _ _) _).trans (va_un _ _ (by omega))).trans R.nx))))) ?_
    refine q_iconst (v := nI 1) dL_isSession_67 (by decide) ?_
    refine q_iadd dL_isSession_68 ?_
    refine q_iastD (k := 1) hN.1 hN.t hN.l (by omega) (by decide) dL_isSession_69 ?_
    refine q_aload_n dL_isSession_70 rfl ?_
    refine q_sipush (v := nI 899) dL_isSession_71 (by decide) ?_
    refine q_iconst (v := nI 1) dL_isSession_74 (by decide) ?_
    refine q_iastD (k := 899) hN.1 hN.t hN.l (by omega) (by decide) dL_isSession_75 ?_
    have F2 : q_lf h ((((((h.setI a ((100) + ((20) * (m.c))) m.nx).setI a (((100) + ((20) * (m.c))) + (1)) (nI (d))).setI a (((100) + ((20) * (m.c))) + (2)) (nI (0))).setI a (2) (nI ((m.c) + (1)))).setI a (1) (m.nx + (nI (1)))).setI a (899) (nI (1))) a := ((((((q_lf.rf.set).set).set).set).set).set)
    have RB : (q_nr ((((((((h.setI a ((100) + ((20) * (m.c))) m.nx).setI a (((100) + ((20) * (m.c))) + (1)) (nI (d))).setI a (((100) + ((20) * (m.c))) + (2)) (nI (0))).setI a (2) (nI ((m.c) + (1)))).setI a (1) (m.nx + (nI (1)))).setI a (899) (nI (1)))).I a) (m.adS d) ρ ∧ q_bd (m.adS d)) := by rw [q_sI, q_sI, q_sI, q_sI, q_sI, q_sI]; exact q_nSess R B (by omega) (by omega)
    have u2 : (((((((h.setI a ((100) + ((20) * (m.c))) m.nx).setI a (((100) + ((20) * (m.c))) + (1)) (nI (d))).setI a (((100) + ((20) * (m.c))) + (2)) (nI (0))).setI a (2) (nI ((m.c) + (1)))).setI a (1) (m.nx + (nI (1)))).setI a (899) (nI (1)))).I a 899 = nI 1 := by rw [q_sI]; exact va_us _ _ _
    have C2 : q_clX ((((((h.setI a ((100) + ((20) * (m.c))) m.nx).setI a (((100) + ((20) * (m.c))) + (1)) (nI (d))).setI a (((100) + ((20) * (m.c))) + (2)) (nI (0))).setI a (2) (nI ((m.c) + (1)))).setI a (1) (m.nx + (nI (1)))).setI a (899) (nI (1))) W O := ((((((C.setD ha2).setD ha2).setD ha2).setD ha2).setD ha2).setD ha2)
    have K2 : q_Lk Φ (((((((h.setI a ((100) + ((20) * (m.c))) m.nx).setI a (((100) + ((20) * (m.c))) + (1)) (nI (d))).setI a (((100) + ((20) * (m.c))) + (2)) (nI (0))).setI a (2) (nI ((m.c) + (1)))).setI a (1) (m.nx + (nI (1)))).setI a (899) (nI (1)))).R (((((((h.setI a ((100) + ((20) * (m.c))) m.nx).setI a (((100) + ((20) * (m.c))) + (1)) (nI (d))).setI a (((100) + ((20) * (m.c))) + (2)) (nI (0))).setI a (2) (nI ((m.c) + (1)))).setI a (1) (m.nx + (nI (1)))).setI a (899) (nI (1)))).n := K
    have N2 : q_n9 ((((((h.setI a ((100) + ((20) * (m.c))) m.nx).setI a (((100) + ((20) * (m.c))) + (1)) (nI (d))).setI a (((100) + ((20) * (m.c))) + (2)) (nI (0))).setI a (2) (nI ((m.c) + (1)))).setI a (1) (m.nx + (nI (1)))).setI a (899) (nI (1))) a := hN
    obtain ⟨h2, e2⟩ : ∃ hh, hh = ((((((h.setI a ((100) + ((20) * (m.c))) m.nx).setI a (((100) + ((20) * (m.c))) + (1)) (nI (d))).setI a (((100) + ((20) * (m.c))) + (2)) (nI (0))).setI a (2) (nI ((m.c) + (1)))).setI a (1) (m.nx + (nI (1)))).setI a (899) (nI (1))) := ⟨_, rfl⟩
    rw [← e2] at F2 RB u2 C2 K2 N2  ⊢
    obtain ⟨R2, B2⟩ := RB
    refine q_aload_n dL_isSession_76 rfl ?_
    refine q_iload_n dL_isSession_77 rfl ?_
    refine q_callH (kc := 0) (ks := 0) (g_L_addSession (h := h2) K2 C2  (d := (nI (d)))) wL_addSession kL_201 sL_addSession (by decide) rfl rfl (Nat.le_of_ble_eq_true rfl) dL_isSession_78 rfl rfl (fun E h9 q9 => (by obtain ⟨_, q9, _⟩ := q9; exact nomatch q9)) ?_
    intro v9 h9 hq
    obtain ⟨x9, ex9, hj9⟩ := j_addSession C2 B s a0 b0 k0 dd (by omega) hq
    clear hq
    cases ex9
    rcases hj9 with ⟨d1, ex8, rd⟩ | ⟨y1, d2, ex8, rd⟩ | ⟨y1, y2, hp⟩
    · exact absurd d1 ((q_rin (Nat.zero_le _) hd (by omega)))
    · exact absurd d2 ((by omega))
    rw [nI_clamp (by omega)] at hp
    obtain ⟨ev9, fr, W1, O1, C1, S1, Y, yY, rfl⟩ := hp
    cases ev9
    have R9 : q_nr (h9.I a) (m.adS d) ρ := by rw [fr.1 a (by omega)]; exact R2
    have N9 : q_n9 h9 a := N2.fr fr.2.2.1
    refine q_aload_n dL_isSession_81 rfl ?_
    refine q_iload_n dL_isSession_82 rfl ?_
    refine q_ialdD (k := (100) + ((20) * (m.c))) N9.1 N9.t N9.l (by omega) (by decide) dL_isSession_83 ?_
    refine q_tv (show _ = m.nx from ((R9.id (k := m.c) (Nat.lt_succ_self _)).trans (va_us m.id m.c m.nx))) ?_
    refine q_icmp_ne (tgt := 101) dL_isSession_84 rfl (fun c => absurd rfl c) (fun c3 => ?_)
    refine q_aload_n dL_isSession_87 rfl ?_
    have K9 : q_Lk Φ h9.R h9.n := (q_lf.fr (a := a) fr).Lk K2
    refine q_vR (kc := 0) (ks := 0) (g_X9_sessionCount (h := h9) K9 C1) wX9_sessionCount kL_203 iX9_sessionCount eX9_sessionCount rfl rfl (by decide) (K9.le (by decide)) (by decide) rfl rfl (Nat.le_of_ble_eq_true rfl) dL_isSession_88 rfl rfl ?_
    intro v8 h10 hq
    obtain ⟨⟨N1, hN1, a1, ⟨τ1, b1⟩, k1⟩, dd1⟩ := id S1
    obtain ⟨ev10, rd⟩ := j_sessionCount C1 B2 S1 a1 b1 k1 dd1 (by omega) hq
    subst ev10
    have R10 : q_nr (h10.I a) (m.adS d) ρ := by rw [rd.2.1 a (by omega)]; exact R9
    have N10 : q_n9 h10 a := N9.fr rd.2.2.2.1
    refine q_tv (show _ = (nI (m.c + 1)) from rfl) ?_
    refine q_aload_n dL_isSession_91 rfl ?_
    refine q_iconst (v := nI 2) dL_isSession_92 (by decide) ?_
    refine q_ialdD (k := 2) N10.1 N10.t N10.l (by omega) (by decide) dL_isSession_93 ?_
    refine q_tv (show _ = (nI (m.c + 1)) from R10.c) ?_
    refine q_icmp_neN (by omega) (by omega) (tgt := 101) dL_isSession_94 rfl (fun c => absurd rfl c) (fun c5 => ?_)
    refine q_iconst (v := nI 1) dL_isSession_97 (by decide) ?_
    refine q_goto (tgt := 102) dL_isSession_98 rfl ?_
    refine q_zret (ty := .boolean) dL_isSession_102 rfl rfl (Or.inl rfl) ?_
    exact ⟨_, rfl, q_pX.yes F2 N2 R2 B2 u2 (fr.tr rd.2) rd.1 S1 yY id⟩
  · refine q_aload_n dL_isSession_8 rfl ?_
    refine q_aload_n dL_isSession_9 rfl ?_
    refine q_iconst (v := nI 0) dL_isSession_10 (by decide) ?_
    refine q_ialdD (k := 0) hN.1 hN.t hN.l (by omega) (by decide) dL_isSession_11 ?_
    refine q_tv (show _ = (nI (m.t)) from R.t) ?_
    refine q_iconst (v := nI 1) dL_isSession_12 (by decide) ?_
    refine q_iaddN dL_isSession_13 ?_
    refine q_callH (kc := 0) (ks := 0) (g_L_addSession (h := h) K C  (d := (nI ((m.t) + (1))))) wL_addSession kL_201 sL_addSession (by decide) rfl rfl (Nat.le_of_ble_eq_true rfl) dL_isSession_14 rfl rfl (fun E h9 q9 => (by obtain ⟨_, q9, _⟩ := q9; exact nomatch q9)) ?_
    intro v9 h9 hq
    obtain ⟨x9, ex9, hj9⟩ := j_addSession C B s a0 b0 k0 dd (by omega) hq
    clear hq
    cases ex9
    rcases hj9 with ⟨d1, ex8, rd⟩ | ⟨y1, d2, ex8, rd⟩ | ⟨y1, y2, hp⟩
    rotate_left
    · exact absurd ((q_rout (Or.inr (Nat.lt_succ_self _)) (by omega) (by omega) (by omega))) y1
    · exact absurd ((q_rout (Or.inr (Nat.lt_succ_self _)) (by omega) (by omega) (by omega))) y1
    subst ex8
    refine q_ldc dL_isSession_17 kcL_17 ?_
    refine q_icmp_ne (tgt := 26) dL_isSession_19 rfl (fun c => absurd (by decide) c) (fun _ => ?_)
    refine q_iconst (v := nI 1) dL_isSession_22 (by decide) ?_
    refine q_goto (tgt := 27) dL_isSession_23 rfl ?_
    refine q_zret (ty := .boolean) dL_isSession_27 rfl rfl (Or.inl rfl) ?_
    exact ⟨_, rfl, q_pX.no hN R B u9 s rd⟩
theorem g_L_isBound {Φ : q_Fx} {h : q_Hp} (K : q_Lk Φ h.R h.n) {a : Nat} (hN : q_n9 h a) {m : q_W} {ρ : Nat → Nat} (R : q_nr (h.I a) m ρ) (B : q_bd m) (u9 : h.I a 899 = nI 0) {W : q_W} {O : q_O} (C : q_clX h W O) {c : Nat} (s : q_smc c W m) (hcc : c ≤ 500) (hi : q_inc m) {z x : Nat} (hz2 : 2 ≤ z) (hz5 : z ≤ 5) (hx1 : 1 ≤ x) (hx2 : x ≤ 300) : q_Ct Φ false yL_isBound cL_isBound mL_isBound [.ref 1, .ref a, .int (nI (z)), .int (nI (x))] h (q_ex (q_pX h a c m O)) := by
  refine q_enter K.st rfl rfl (by decide) rfl (Nat.le_of_ble_eq_true rfl) (L := [_, _, _, _, none, none]) rfl ?_
  obtain ⟨bt, bn, bc, bpe, bpf, bpc, bpn⟩ := id B
  obtain ⟨⟨N0, hN0, a0, ⟨τ0, b0⟩, k0⟩, dd⟩ := id s
  have v := k0.2.2.2.2.2.2.2
  have ha2 := hN.2.1
  refine q_aload_n dL_isBound_0 rfl ?_
  refine q_sR (kc := 3) (ks := 24) (g_L_copy (h := h) K hN) wL_copy kL_136 sL_copy (by decide) rfl rfl (Nat.le_of_ble_eq_true rfl) dL_isBound_1 rfl rfl ?_
  rintro v9 h9 ⟨cz, g9, cz1, cz2, cz3, rfl, rfl, hg9⟩
  have hac : a ≠ cz := fun e9 => cz3 (e9 ▸ hN.1)
  have F1 : q_lf h ((h.add cz).rowI cz g9) a := q_lf.add cz1 cz3
  have C1 : q_clX ((h.add cz).rowI cz g9) W O := C.addD cz1
  have K1 : q_Lk Φ ((h.add cz).rowI cz g9).R ((h.add cz).rowI cz g9).n := F1.Lk K
  have N1 : q_n9 ((h.add cz).rowI cz g9) a := F1.n9 hN
  have Nc : q_n9 ((h.add cz).rowI cz g9) cz := ⟨List.mem_append_right _ (List.mem_singleton_self _), cz1, cz2⟩
  have ea : ((h.add cz).rowI cz g9).I a = h.I a := (q_rIn _ _ hac).trans (h.add_I hac)
  have R1 : q_nr (((h.add cz).rowI cz g9).I a) m ρ := by rw [ea]; exact R
  have Rc : q_nr (((h.add cz).rowI cz g9).I cz) m ρ := by rw [q_rI]; exact R.cong B fun k hk => hg9 k (by omega)
  have u1 : ((h.add cz).rowI cz g9).I a 899 = nI 0 := by rw [ea]; exact u9
  generalize (h.add cz).rowI cz g9 = h1 at F1 C1 K1 N1 Nc ea R1 Rc u1 ⊢
  refine q_astore (L' := [_, _, _, _, _, _]) dL_isBound_4 rfl (by decide) rfl ?_
  refine q_aload dL_isBound_6 rfl ?_
  refine q_bipush (v := nI 20) dL_isBound_8 (by decide) ?_
  refine q_iload_n dL_isBound_10 rfl ?_
  refine q_iaddN dL_isBound_11 ?_
  refine q_iload_n dL_isBound_12 rfl ?_
  refine q_iastD (k := (20) + (z)) Nc.1 Nc.t Nc.l (by omega) (by decide) dL_isBound_13 ?_
  refine q_aload dL_isBound_14 rfl ?_
  refine q_bipush (v := nI 22) dL_isBound_16 (by decide) ?_
  refine q_ialdD (k := 22) Nc.1 Nc.t Nc.l (by omega) (by decide) dL_isBound_18 ?_
  refine q_tv (show _ = (va_up m.bd z (nI x) 2) from ((congrFun (q_sI _ _ _ _) _).trans (by by_cases e9 : z = 2; (subst e9; rw [va_us, va_us]); (rw [va_un _ _ (by omega), va_un m.bd _ (by omega)]; exact Rc.bd (z := 2) (by omega) (by omega))))) ?_
  refine q_aload dL_isBound_19 rfl ?_
  refine q_bipush (v := nI 23) dL_isBound_21 (by decide) ?_
  refine q_ialdD (k := 23) Nc.1 Nc.t Nc.l (by omega) (by decide) dL_isBound_23 ?_
  refine q_tv (show _ = (va_up m.bd z (nI x) 3) from ((congrFun (q_sI _ _ _ _) _).trans (by by_cases e9 : z = 3; (subst e9; rw [va_us, va_us]); (rw [va_un _ _ (by omega), va_un m.bd _ (by omega)]; exact Rc.bd (z := 3) (by omega) (by omega))))) ?_
  refine q_icmp_ge (tgt := 53) dL_isBound_24 rfl (fun c1 => ?_) (fun c2 => ?_)
  · have D2 : (2 < z ∧ nI x ≤ m.bd (z - 1)) ∨ (z < 5 ∧ m.bd (z + 1) ≤ nI x) := Classical.byContradiction fun e9 => by obtain ⟨g1, g2, g3⟩ := (q_bnd_iff hi hz2 hz5 (nI x)).mp e9; first | exact absurd g1 (Int32.not_lt.mpr (by assumption)) | exact absurd g2 (Int32.not_lt.mpr (by assumption)) | exact absurd g3 (Int32.not_lt.mpr (by assumption)) | exact absurd g3 (by assumption)
    have F3 : q_lf h (h1.setI cz (20 + z) (nI x)) a := ⟨fun p h9 h8 h7 => ⟨(q_sIn _ _ _ (fun (e9 : p = cz) => cz3 (e9 ▸ h9))).trans (F1.1 p h9 h8 h7).1, (F1.1 p h9 h8 h7).2⟩, F1.2.1, F1.2.2.1, F1.2.2.2⟩
    have C3 : q_clX (h1.setI cz (20 + z) (nI x)) W O := C1.setD cz1
    have K3 : q_Lk Φ (h1.setI cz (20 + z) (nI x)).R (h1.setI cz (20 + z) (nI x)).n := K1
    have N3 : q_n9 (h1.setI cz (20 + z) (nI x)) a := N1
    have R3 : q_nr ((h1.setI cz (20 + z) (nI x)).I a) m ρ := by rw [q_sIn _ _ _ hac]; exact R1
    have u3 : (h1.setI cz (20 + z) (nI x)).I a 899 = nI 0 := by rw [q_sIn _ _ _ hac]; exact u1
    generalize (h1.setI cz (20 + z) (nI x)) = h3 at F3 C3 K3 N3 R3 u3 ⊢
    refine q_aload_n dL_isBound_53 rfl ?_
    refine q_iload_n dL_isBound_54 rfl ?_
    refine q_iload_n dL_isBound_55 rfl ?_
    refine q_callH (kc := 0) (ks := 6) (g_L_setBound (h := h3) K3 C3  (z := (nI (z))) (x := (nI (x)))) wL_setBound kL_199 sL_setBound (by decide) rfl rfl (Nat.le_of_ble_eq_true rfl) dL_isBound_56 rfl rfl (fun E h9 q9 => (by obtain ⟨_, q9, _⟩ := q9; exact nomatch q9)) ?_
    intro v9 h9 hq
    obtain ⟨x9, ex9, hj9⟩ := j_setBound C3 B s a0 b0 k0 dd (by omega) hq
    clear hq
    cases ex9
    rcases hj9 with ⟨d1, ex8, rd⟩ | ⟨y1, d2, ex8, rd⟩ | ⟨y1, y2, hp⟩
    · exact absurd d1 ((by rintro (e | e); exact absurd e (q_rin hz2 hz5 (by decide)); exact absurd e (q_rin (by omega) (by omega) (by decide))))
    rotate_left
    · exact absurd ((by rw [nI_clamp (by omega)]; exact D2)) y2
    subst ex8
    refine q_ldc dL_isBound_59 kcL_20 ?_
    refine q_icmp_ne (tgt := 68) dL_isBound_61 rfl (fun c => absurd (by decide) c) (fun _ => ?_)
    refine q_iconst (v := nI 1) dL_isBound_64 (by decide) ?_
    refine q_goto (tgt := 69) dL_isBound_65 rfl ?_
    refine q_zret (ty := .boolean) dL_isBound_69 rfl rfl (Or.inl rfl) ?_
    exact ⟨_, rfl, q_pX.pre F3 (q_pX.no N3 R3 B u3 s rd)⟩
  · refine q_aload dL_isBound_27 rfl ?_
    refine q_bipush (v := nI 23) dL_isBound_29 (by decide) ?_
    refine q_ialdD (k := 23) Nc.1 Nc.t Nc.l (by omega) (by decide) dL_isBound_31 ?_
    refine q_tv (show _ = (va_up m.bd z (nI x) 3) from ((congrFun (q_sI _ _ _ _) _).trans (by by_cases e9 : z = 3; (subst e9; rw [va_us, va_us]); (rw [va_un _ _ (by omega), va_un m.bd _ (by omega)]; exact Rc.bd (z := 3) (by omega) (by omega))))) ?_
    refine q_aload dL_isBound_32 rfl ?_
    refine q_bipush (v := nI 24) dL_isBound_34 (by decide) ?_
    refine q_ialdD (k := 24) Nc.1 Nc.t Nc.l (by omega) (by decide) dL_isBound_36 ?_
    refine q_tv (show _ = (va_up m.bd z (nI x) 4) from ((congrFun (q_sI _ _ _ _) _).trans (by by_cases e9 : z = 4; (subst e9; rw [va_us, va_us]); (rw [va_un _ _ (by omega), va_un m.bd _ (by omega)]; exact Rc.bd (z := 4) (by omega) (by omega))))) ?_
    refine q_icmp_ge (tgt := 53) dL_isBound_37 rfl (fun c5 => ?_) (fun c6 => ?_)
    · have D2 : (2 < z ∧ nI x ≤ m.bd (z - 1)) ∨ (z < 5 ∧ m.bd (z + 1) ≤ nI x) := Classical.byContradiction fun e9 => by obtain ⟨g1, g2, g3⟩ := (q_bnd_iff hi hz2 hz5 (nI x)).mp e9; first | exact absurd g1 (Int32.not_lt.mpr (by assumption)) | exact absurd g2 (Int32.not_lt.mpr (by assumption)) | exact absurd g3 (Int32.not_lt.mpr (by assumption)) | exact absurd g3 (by assumption)
      have F3 : q_lf h (h1.setI cz (20 + z) (nI x)) a := ⟨fun p h9 h8 h7 => ⟨(q_sIn _ _ _ (fun (e9 : p = cz) => cz3 (e9 ▸ h9))).trans (F1.1 p h9 h8 h7).1, (F1.1 p h9 h8 h7).2⟩, F1.2.1, F1.2.2.1, F1.2.2.2⟩
      have C3 : q_clX (h1.setI cz (20 + z) (nI x)) W O := C1.setD cz1
      have K3 : q_Lk Φ (h1.setI cz (20 + z) (nI x)).R (h1.setI cz (20 + z) (nI x)).n := K1
      have N3 : q_n9 (h1.setI cz (20 + z) (nI x)) a := N1
      have R3 : q_nr ((h1.setI cz (20 + z) (nI x)).I a) m ρ := by rw [q_sIn _ _ _ hac]; exact R1
      have u3 : (h1.setI cz (20 + z) (nI x)).I a 899 = nI 0 := by rw [q_sIn _ _ _ hac]; exact u1
      generalize (h1.setI cz (20 + z) (nI x)) = h3 at F3 C3 K3 N3 R3 u3 ⊢
      refine q_aload_n dL_isBound_53 rfl ?_
      refine q_iload_n dL_isBound_54 rfl ?_
      refine q_iload_n dL_isBound_55 rfl ?_
      refine q_callH (kc := 0) (ks := 6) (g_L_setBound (h := h3) K3 C3  (z := (nI (z))) (x := (nI (x)))) wL_setBound kL_199 sL_setBound (by decide) rfl rfl (Nat.le_of_ble_eq_true rfl) dL_isBound_56 rfl rfl (fun E h9 q9 => (by obtain ⟨_, q9, _⟩ := q9; exact nomatch q9)) ?_
      intro v9 h9 hq
      obtain ⟨x9, ex9, hj9⟩ := j_setBound C3 B s a0 b0 k0 dd (by omega) hq
      clear hq
      cases ex9
      rcases hj9 with ⟨d1, ex8, rd⟩ | ⟨y1, d2, ex8, rd⟩ | ⟨y1, y2, hp⟩
      · exact absurd d1 ((by rintro (e | e); exact absurd e (q_rin hz2 hz5 (by decide)); exact absurd e (q_rin (by omega) (by omega) (by decide))))
      rotate_left
      · exact absurd ((by rw [nI_clamp (by omega)]; exact D2)) y2
      subst ex8
      refine q_ldc dL_isBound_59 kcL_20 ?_
      refine q_icmp_ne (tgt := 68) dL_isBound_61 rfl (fun c => absurd (by decide) c) (fun _ => ?_)
      refine q_iconst (v := nI 1) dL_isBound_64 (by decide) ?_
      refine q_goto (tgt := 69) dL_isBound_65 rfl ?_
      refine q_zret (ty := .boolean) dL_isBound_69 rfl rfl (Or.inl rfl) ?_
      exact ⟨_, rfl, q_pX.pre F3 (q_pX.no N3 R3 B u3 s rd)⟩
    · refine q_aload dL_isBound_40 rfl ?_
      refine q_bipush (v := nI 24) dL_isBound_42 (by decide) ?_
      refine q_ialdD (k := 24) Nc.1 Nc.t Nc.l (by omega) (by decide) dL_isBound_44 ?_
      refine q_tv (show _ = (va_up m.bd z (nI x) 4) from ((congrFun (q_sI _ _ _ _) _).trans (by by_cases e9 : z = 4; (subst e9; rw [va_us, va_us]); (rw [va_un _ _ (by omega), va_un m.bd _ (by omega)]; exact Rc.bd (z := 4) (by omega) (by omega))))) ?_
      refine q_aload dL_isBound_45 rfl ?_
      refine q_bipush (v := nI 25) dL_isBound_47 (by decide) ?_
      refine q_ialdD (k := 25) Nc.1 Nc.t Nc.l (by omega) (by decide) dL_isBound_49 ?_
      refine q_tv (show _ = (va_up m.bd z (nI x) 5) from ((congrFun (q_sI _ _ _ _) _).trans (by by_cases e9 : z = 5; (subst e9; rw [va_us, va_us]); (rw [va_un _ _ (by omega), va_un m.bd _ (by omega)]; exact Rc.bd (z := 5) (by omega) (by omega))))) ?_
      refine q_icmp_lt (tgt := 70) dL_isBound_50 rfl (fun c9 => ?_) (fun c10 => ?_)
      · have hi2 : va_up m.bd z (nI x) 2 < va_up m.bd z (nI x) 3 ∧ va_up m.bd z (nI x) 3 < va_up m.bd z (nI x) 4 ∧ va_up m.bd z (nI x) 4 < va_up m.bd z (nI x) 5 := ⟨Int32.not_le.mp (by assumption), Int32.not_le.mp (by assumption), by assumption⟩
        have F3 : q_lf h (h1.setI cz (20 + z) (nI x)) a := ⟨fun p h9 h8 h7 => ⟨(q_sIn _ _ _ (fun (e9 : p = cz) => cz3 (e9 ▸ h9))).trans (F1.1 p h9 h8 h7).1, (F1.1 p h9 h8 h7).2⟩, F1.2.1, F1.2.2.1, F1.2.2.2⟩
        have C3 : q_clX (h1.setI cz (20 + z) (nI x)) W O := C1.setD cz1
        have K3 : q_Lk Φ (h1.setI cz (20 + z) (nI x)).R (h1.setI cz (20 + z) (nI x)).n := K1
        have N3 : q_n9 (h1.setI cz (20 + z) (nI x)) a := N1
        have R3 : q_nr ((h1.setI cz (20 + z) (nI x)).I a) m ρ := by rw [q_sIn _ _ _ hac]; exact R1
        have u3 : (h1.setI cz (20 + z) (nI x)).I a 899 = nI 0 := by rw [q_sIn _ _ _ hac]; exact u1
        generalize (h1.setI cz (20 + z) (nI x)) = h3 at F3 C3 K3 N3 R3 u3 ⊢
        refine q_aload_n dL_isBound_70 rfl ?_
        refine q_bipush (v := nI 20) dL_isBound_71 (by decide) ?_
        refine q_iload_n dL_isBound_73 rfl ?_
        refine q_iaddN dL_isBound_74 ?_
        refine q_ialdD (k := (20) + (z)) N3.1 N3.t N3.l (by omega) (by decide) dL_isBound_75 ?_
        refine q_tv (show _ = (m.bd z) from ((congrArg (h3.I a) (show ((20) + (z)) = 20 + z by omega)).trans (R3.bd (z := z) (by omega) (by omega)))) ?_
        refine q_istore (L' := [_, _, _, _, _, _]) dL_isBound_76 rfl (by decide) rfl ?_
        refine q_aload_n dL_isBound_78 rfl ?_
        refine q_bipush (v := nI 20) dL_isBound_79 (by decide) ?_
        refine q_iload_n dL_isBound_81 rfl ?_
        refine q_iaddN dL_isBound_82 ?_
        refine q_iload_n dL_isBound_83 rfl ?_
        refine q_iastD (k := (20) + (z)) N3.1 N3.t N3.l (by omega) (by decide) dL_isBound_84 ?_
        refine q_aload_n dL_isBound_85 rfl ?_
        refine q_sipush (v := nI 899) dL_isBound_86 (by decide) ?_
        refine q_iconst (v := nI 1) dL_isBound_89 (by decide) ?_
        refine q_iastD (k := 899) N3.1 N3.t N3.l (by omega) (by decide) dL_isBound_90 ?_
        have FB := F3
        have F2 : q_lf h ((h3.setI a ((20) + (z)) (nI (x))).setI a (899) (nI (1))) a := ((F3.set).set)
        have RB : (q_nr ((((h3.setI a ((20) + (z)) (nI (x))).setI a (899) (nI (1)))).I a) (m.sZ (va_up m.bd z (nI x)) m.wt) ρ ∧ q_bd (m.sZ (va_up m.bd z (nI x)) m.wt)) := by rw [q_sI, q_sI]; exact q_nBd R3 B hz2 hz5
        have u2 : (((h3.setI a ((20) + (z)) (nI (x))).setI a (899) (nI (1)))).I a 899 = nI 1 := by rw [q_sI]; exact va_us _ _ _
        have C2 : q_clX ((h3.setI a ((20) + (z)) (nI (x))).setI a (899) (nI (1))) W O := ((C3.setD ha2).setD ha2)
        have K2 : q_Lk Φ (((h3.setI a ((20) + (z)) (nI (x))).setI a (899) (nI (1)))).R (((h3.setI a ((20) + (z)) (nI (x))).setI a (899) (nI (1)))).n := K3
        have N2 : q_n9 ((h3.setI a ((20) + (z)) (nI (x))).setI a (899) (nI (1))) a := N3
        obtain ⟨h2, e2⟩ : ∃ hh, hh = ((h3.setI a ((20) + (z)) (nI (x))).setI a (899) (nI (1))) := ⟨_, rfl⟩
        rw [← e2] at F2 RB u2 C2 K2 N2  ⊢
        obtain ⟨R2, B2⟩ := RB
        refine q_aload_n dL_isBound_91 rfl ?_
        refine q_iload_n dL_isBound_92 rfl ?_
        refine q_iload_n dL_isBound_93 rfl ?_
        refine q_callH (kc := 0) (ks := 6) (g_L_setBound (h := h2) K2 C2  (z := (nI (z))) (x := (nI (x)))) wL_setBound kL_199 sL_setBound (by decide) rfl rfl (Nat.le_of_ble_eq_true rfl) dL_isBound_94 rfl rfl (fun E h9 q9 => (by obtain ⟨_, q9, _⟩ := q9; exact nomatch q9)) ?_
        intro v9 h9 hq
        obtain ⟨x9, ex9, hj9⟩ := j_setBound C2 B s a0 b0 k0 dd (by omega) hq
        clear hq
        cases ex9
        rcases hj9 with ⟨d1, ex8, rd⟩ | ⟨y1, d2, ex8, rd⟩ | ⟨y1, y2, hp⟩
        · exact absurd d1 ((by rintro (e | e); exact absurd e (q_rin hz2 hz5 (by decide)); exact absurd e (q_rin (by omega) (by omega) (by decide))))
        · exact absurd d2 ((by rw [nI_clamp (by omega)]; exact (q_bnd_iff hi hz2 hz5 (nI x)).mpr hi2))
        rw [nI_clamp (by omega)] at hp
        obtain ⟨ev9, fr, W1, O1, C1, S1, Y, yY, rfl⟩ := hp
        cases ev9
        have R9 : q_nr (h9.I a) (m.sZ (va_up m.bd z (nI x)) m.wt) ρ := by rw [fr.1 a (by omega)]; exact R2
        have N9 : q_n9 h9 a := N2.fr fr.2.2.1
        refine q_iload dL_isBound_97 rfl ?_
        refine q_icmp_ne (tgt := 106) dL_isBound_99 rfl (fun c => absurd rfl c) (fun c11 => ?_)
        refine q_iconst (v := nI 1) dL_isBound_102 (by decide) ?_
        refine q_goto (tgt := 107) dL_isBound_103 rfl ?_
        refine q_zret (ty := .boolean) dL_isBound_107 rfl rfl (Or.inl rfl) ?_
        exact ⟨_, rfl, q_pX.yes F2 N2 R2 B2 u2 fr C1 S1 yY fun _ => hi2⟩
      · have D2 : (2 < z ∧ nI x ≤ m.bd (z - 1)) ∨ (z < 5 ∧ m.bd (z + 1) ≤ nI x) := Classical.byContradiction fun e9 => by obtain ⟨g1, g2, g3⟩ := (q_bnd_iff hi hz2 hz5 (nI x)).mp e9; first | exact absurd g1 (Int32.not_lt.mpr (by assumption)) | exact absurd g2 (Int32.not_lt.mpr (by assumption)) | exact absurd g3 (Int32.not_lt.mpr (by assumption)) | exact absurd g3 (by assumption)
        have F3 : q_lf h (h1.setI cz (20 + z) (nI x)) a := ⟨fun p h9 h8 h7 => ⟨(q_sIn _ _ _ (fun (e9 : p = cz) => cz3 (e9 ▸ h9))).trans (F1.1 p h9 h8 h7).1, (F1.1 p h9 h8 h7).2⟩, F1.2.1, F1.2.2.1, F1.2.2.2⟩
        have C3 : q_clX (h1.setI cz (20 + z) (nI x)) W O := C1.setD cz1
        have K3 : q_Lk Φ (h1.setI cz (20 + z) (nI x)).R (h1.setI cz (20 + z) (nI x)).n := K1
        have N3 : q_n9 (h1.setI cz (20 + z) (nI x)) a := N1
        have R3 : q_nr ((h1.setI cz (20 + z) (nI x)).I a) m ρ := by rw [q_sIn _ _ _ hac]; exact R1
        have u3 : (h1.setI cz (20 + z) (nI x)).I a 899 = nI 0 := by rw [q_sIn _ _ _ hac]; exact u1
        generalize (h1.setI cz (20 + z) (nI x)) = h3 at F3 C3 K3 N3 R3 u3 ⊢
        refine q_aload_n dL_isBound_53 rfl ?_
        refine q_iload_n dL_isBound_54 rfl ?_
        refine q_iload_n dL_isBound_55 rfl ?_
        refine q_callH (kc := 0) (ks := 6) (g_L_setBound (h := h3) K3 C3  (z := (nI (z))) (x := (nI (x)))) wL_setBound kL_199 sL_setBound (by decide) rfl rfl (Nat.le_of_ble_eq_true rfl) dL_isBound_56 rfl rfl (fun E h9 q9 => (by obtain ⟨_, q9, _⟩ := q9; exact nomatch q9)) ?_
        intro v9 h9 hq
        obtain ⟨x9, ex9, hj9⟩ := j_setBound C3 B s a0 b0 k0 dd (by omega) hq
        clear hq
        cases ex9
        rcases hj9 with ⟨d1, ex8, rd⟩ | ⟨y1, d2, ex8, rd⟩ | ⟨y1, y2, hp⟩
        · exact absurd d1 ((by rintro (e | e); exact absurd e (q_rin hz2 hz5 (by decide)); exact absurd e (q_rin (by omega) (by omega) (by decide))))
        rotate_left
        · exact absurd ((by rw [nI_clamp (by omega)]; exact D2)) y2
        subst ex8
        refine q_ldc dL_isBound_59 kcL_20 ?_
        refine q_icmp_ne (tgt := 68) dL_isBound_61 rfl (fun c => absurd (by decide) c) (fun _ => ?_)
        refine q_iconst (v := nI 1) dL_isBound_64 (by decide) ?_
        refine q_goto (tgt := 69) dL_isBound_65 rfl ?_
        refine q_zret (ty := .boolean) dL_isBound_69 rfl rfl (Or.inl rfl) ?_
        exact ⟨_, rfl, q_pX.pre F3 (q_pX.no N3 R3 B u3 s rd)⟩
theorem g_L_isNoTest {Φ : q_Fx} {h : q_Hp} (K : q_Lk Φ h.R h.n) {a : Nat} (hN : q_n9 h a) {m : q_W} {ρ : Nat → Nat} (R : q_nr (h.I a) m ρ) (B : q_bd m) (u9 : h.I a 899 = nI 0) {W : q_W} {O : q_O} (C : q_clX h W O) {c : Nat} (s : q_smc c W m) (hcc : c ≤ 500) {d : Nat} (hd : d ≤ 199) : q_Ct Φ false yL_isNoTest cL_isNoTest mL_isNoTest [.ref 1, .ref a, .int (nI (d))] h (q_ex (q_pX h a c m O)) := by
  refine q_enter K.st rfl rfl (by decide) rfl (Nat.le_of_ble_eq_true rfl) (L := [_, _, _, none, none, none]) rfl ?_
  obtain ⟨bt, bn, bc, bpe, bpf, bpc, bpn⟩ := id B
  obtain ⟨⟨N0, hN0, a0, ⟨τ0, b0⟩, k0⟩, dd⟩ := id s
  have v := k0.2.2.2.2.2.2.2
  have ha2 := hN.2.1
  have htd : q_td W := fun j hj => by obtain ⟨x, x1, x2⟩ := v.2.2.2.2.1 j (by rw [← a0.2.2.2.1]; exact hj); exact ⟨x, x1, ((a0.2.2.2.2.1 j (by rw [← a0.2.2.2.1]; exact hj)).1).trans x2⟩
  refine q_aload_n dL_isNoTest_0 rfl ?_
  refine q_iconst (v := nI 3) dL_isNoTest_1 (by decide) ?_
  refine q_ialdD (k := 3) hN.1 hN.t hN.l (by omega) (by decide) dL_isNoTest_2 ?_
  refine q_tv (show _ = (nI (m.n)) from R.n) ?_
  refine q_iconst (v := nI 1) dL_isNoTest_3 (by decide) ?_
  refine q_isub dL_isNoTest_4 ?_
  refine q_istore_n (L' := [_, _, _, _, _, _]) dL_isNoTest_5 rfl (by decide) rfl ?_
  refine q_loop (ι := Nat) (μ := fun j => j) (P := fun j => j ≤ m.n ∧ ∀ u, j ≤ u → u < m.n → m.d (ρ u) ≠ nI d) (Lf := fun j => [some (.ref 1), some (.ref a), some (.int (nI (d))), some (.int (nI j - nI 1)), none, none]) (hf := fun j => h) (fun j hi6 ih6 => ?_) m.n (⟨Nat.le_refl _, fun u h1 h2 => by omega⟩) (q_sub_s rfl (q_sub_s rfl (q_sub_i rfl (q_sub_i rfl (q_sub_n (q_sub_n q_sub_0)))))) rfl
  skip
  refine q_iload_n dL_isNoTest_6 rfl ?_
  refine q_if_lt (tgt := 28) dL_isNoTest_7 rfl (fun c1 => ?_) (fun c2 => ?_)
  · refine q_iload_n dL_isNoTest_28 rfl ?_
    refine q_if_ge (tgt := 48) dL_isNoTest_29 rfl (fun c => absurd (by assumption) (Int32.not_lt.mpr c)) (fun c3 => ?_)
    have hj0 : j = 0 := (Nat.eq_zero_or_pos j).resolve_right (fun e8 => absurd (show nI j - nI 1 < 0 by assumption) (by rw [show nI j - nI 1 = nI (j - 1) from pk_sub (by omega)]; exact nI_pos (by omega)))
    have hno : ∀ u, u < m.n → m.d (ρ u) ≠ nI d := fun u hu => hi6.2 u (by omega) hu
    refine q_aload_n dL_isNoTest_32 rfl ?_
    refine q_iload_n dL_isNoTest_33 rfl ?_
    refine q_callH (kc := 0) (ks := 0) (g_L_removeTest (h := h) K C htd (x := (nI (d)))) wL_removeTest kL_194 sL_removeTest (by decide) rfl rfl (Nat.le_of_ble_eq_true rfl) dL_isNoTest_34 rfl rfl (fun E h9 q9 => (by obtain ⟨_, q9, _⟩ := q9; exact nomatch q9)) ?_
    intro v9 h9 hq
    obtain ⟨x9, ex9, hj9⟩ := j_removeTest C B s a0 b0 k0 dd (by omega) hq
    clear hq
    cases ex9
    rcases hj9 with ⟨d1, ex8, rd⟩ | ⟨y1, hp⟩
    rotate_left
    · exact absurd ((by rw [q_pl_neg (by omega)]; intro i hi; obtain ⟨u, hu, rfl⟩ := q_bij_sur _ _ R.bij i hi; exact decide_eq_false (hno u hu))) y1
    subst ex8
    refine q_ldc dL_isNoTest_37 kcL_17 ?_
    refine q_icmp_ne (tgt := 46) dL_isNoTest_39 rfl (fun c => absurd (by decide) c) (fun _ => ?_)
    refine q_iconst (v := nI 1) dL_isNoTest_42 (by decide) ?_
    refine q_goto (tgt := 47) dL_isNoTest_43 rfl ?_
    refine q_zret (ty := .boolean) dL_isNoTest_47 rfl rfl (Or.inl rfl) ?_
    exact ⟨_, rfl, q_pX.no hN R B u9 s rd⟩
  · have hj0 : 1 ≤ j := Nat.pos_of_ne_zero fun e9 => (by subst e9; exact absurd (show nI 0 - nI 1 < 0 by decide) (by assumption))
    obtain ⟨t, rfl⟩ : ∃ t, j = t + 1 := ⟨j - 1, by omega⟩
    rw [show nI (t + 1) - nI 1 = nI t from pk_sub (by omega)]
    refine q_aload_n dL_isNoTest_10 rfl ?_
    refine q_bipush (v := nI 40) dL_isNoTest_11 (by decide) ?_
    refine q_iconst (v := nI 2) dL_isNoTest_13 (by decide) ?_
    refine q_iload_n dL_isNoTest_14 rfl ?_
    refine q_imulN dL_isNoTest_15 ?_
    refine q_iaddN dL_isNoTest_16 ?_
    refine q_ialdD (k := (40) + ((2) * (t))) hN.1 hN.t hN.l (by omega) (by decide) dL_isNoTest_17 ?_
    refine q_tv (show _ = (m.d (ρ t)) from ((congrArg (h.I a) (show ((40) + ((2) * (t))) = 40 + 2 * t by omega)).trans (R.d (t := t) (by omega)))) ?_
    refine q_iload_n dL_isNoTest_18 rfl ?_
    refine q_icmp_eq (tgt := 28) dL_isNoTest_19 rfl (fun c7 => ?_) (fun c8 => ?_)
    · refine q_iload_n dL_isNoTest_28 rfl ?_
      refine q_if_ge (tgt := 48) dL_isNoTest_29 rfl (fun c9 => ?_) (fun c => absurd (nI_pos' (by omega)) c)
      have ht9 : m.d (ρ t) = nI d := by assumption
      have htn : t < m.n := by omega
      have hrt := R.bij.1 t htn
      have hpl := q_pl_t dd hrt ht9
      refine q_aload_n dL_isNoTest_48 rfl ?_
      refine q_bipush (v := nI 41) dL_isNoTest_49 (by decide) ?_
      refine q_iconst (v := nI 2) dL_isNoTest_51 (by decide) ?_
      refine q_iload_n dL_isNoTest_52 rfl ?_
      refine q_imulN dL_isNoTest_53 ?_
      refine q_iaddN dL_isNoTest_54 ?_
      refine q_ialdD (k := (41) + ((2) * (t))) hN.1 hN.t hN.l (by omega) (by decide) dL_isNoTest_55 ?_
      refine q_tv (show _ = (m.v (ρ t)) from ((congrArg (h.I a) (show ((41) + ((2) * (t))) = 41 + 2 * t by omega)).trans (R.v (t := t) (by omega)))) ?_
      refine q_istore (L' := [_, _, _, _, _, _]) dL_isNoTest_56 rfl (by decide) rfl ?_
      refine q_bipush (v := nI 40) dL_isNoTest_58 (by decide) ?_
      refine q_iconst (v := nI 2) dL_isNoTest_60 (by decide) ?_
      refine q_iload_n dL_isNoTest_61 rfl ?_
      refine q_imulN dL_isNoTest_62 ?_
      refine q_iaddN dL_isNoTest_63 ?_
      refine q_istore (L' := [_, _, _, _, _, _]) dL_isNoTest_64 rfl (by decide) rfl ?_
      refine q_loop (ι := Nat) (μ := fun j => 38 + 2 * m.n - j) (P := fun j => 40 + 2 * t ≤ j ∧ j ≤ 38 + 2 * m.n) (Lf := fun j => [some (.ref 1), some (.ref a), some (.int (nI (d))), some (.int (nI (t))), some (.int (m.v (ρ t))), some (.int (nI (j)))]) (hf := fun j => (h.rowI a (q_shf (h.I a) (40 + 2 * t) j 2))) (fun j hi66 ih66 => ?_) (40 + 2 * t) (⟨Nat.le_refl _, by omega⟩) (q_sub_s rfl (q_sub_s rfl (q_sub_i rfl (q_sub_i rfl (q_sub_i rfl (q_sub_i rfl q_sub_0)))))) (by rw [q_shf_0, q_rid])
      skip
      refine q_iload dL_isNoTest_66 rfl ?_
      refine q_bipush (v := nI 38) dL_isNoTest_68 (by decide) ?_
      refine q_iconst (v := nI 2) dL_isNoTest_70 (by decide) ?_
      refine q_aload_n dL_isNoTest_71 rfl ?_
      refine q_iconst (v := nI 3) dL_isNoTest_72 (by decide) ?_
      refine q_ialdD (k := 3) hN.1 hN.t hN.l (by omega) (by decide) dL_isNoTest_73 ?_
      refine q_tv (show _ = (nI (m.n)) from ((congrFun (q_rI _ _ _) _).trans ((q_shf_o _ (by omega)).trans R.n))) ?_
      refine q_imulN dL_isNoTest_74 ?_
      refine q_iaddN dL_isNoTest_75 ?_
      refine q_icmp_geN (by omega) (by omega) (tgt := 95) dL_isNoTest_76 rfl (fun c11 => ?_) (fun c12 => ?_)
      · obtain rfl : j = 38 + 2 * m.n := by omega
        refine q_aload_n dL_isNoTest_95 rfl ?_
        refine q_iconst (v := nI 3) dL_isNoTest_96 (by decide) ?_
        refine q_dup2 dL_isNoTest_97 rfl rfl ?_
        refine q_ialdD (k := 3) hN.1 hN.t hN.l (by omega) (by decide) dL_isNoTest_98 ?_
        refine q_tv (show _ = (nI (m.n)) from ((congrFun (q_rI _ _ _) _).trans ((q_shf_o _ (by omega)).trans R.n))) ?_
        refine q_iconst (v := nI 1) dL_isNoTest_99 (by decide) ?_
        refine q_isubN (by omega) dL_isNoTest_100 ?_
        refine q_iastD (k := 3) hN.1 hN.t hN.l (by omega) (by decide) dL_isNoTest_101 ?_
        refine q_aload_n dL_isNoTest_102 rfl ?_
        refine q_sipush (v := nI 899) dL_isNoTest_103 (by decide) ?_
        refine q_iconst (v := nI 1) dL_isNoTest_106 (by decide) ?_
        refine q_iastD (k := 899) hN.1 hN.t hN.l (by omega) (by decide) dL_isNoTest_107 ?_
        have F2 : q_lf h (((h.rowI a (q_shf (h.I a) (40 + 2 * t) (38 + 2 * m.n) 2)).setI a (3) (nI ((m.n) - (1)))).setI a (899) (nI (1))) a := (((q_lf.rf.row).set).set)
        have RB : ((∃ ρ1, q_nr (((((h.rowI a (q_shf (h.I a) (40 + 2 * t) (38 + 2 * m.n) 2)).setI a (3) (nI ((m.n) - (1)))).setI a (899) (nI (1)))).I a) (m.sT (m.n - 1) (va_up m.d (ρ t) (m.d (m.n - 1))) (va_up m.v (ρ t) (m.v (m.n - 1)))) ρ1) ∧ q_bd (m.sT (m.n - 1) (va_up m.d (ρ t) (m.d (m.n - 1))) (va_up m.v (ρ t) (m.v (m.n - 1))))) := by rw [q_sI, q_sI, q_rI]; exact q_nRemT R B htn
        have u2 : ((((h.rowI a (q_shf (h.I a) (40 + 2 * t) (38 + 2 * m.n) 2)).setI a (3) (nI ((m.n) - (1)))).setI a (899) (nI (1)))).I a 899 = nI 1 := by rw [q_sI]; exact va_us _ _ _
        have C2 : q_clX (((h.rowI a (q_shf (h.I a) (40 + 2 * t) (38 + 2 * m.n) 2)).setI a (3) (nI ((m.n) - (1)))).setI a (899) (nI (1))) W O := (((C.rowD ha2).setD ha2).setD ha2)
        have K2 : q_Lk Φ ((((h.rowI a (q_shf (h.I a) (40 + 2 * t) (38 + 2 * m.n) 2)).setI a (3) (nI ((m.n) - (1)))).setI a (899) (nI (1)))).R ((((h.rowI a (q_shf (h.I a) (40 + 2 * t) (38 + 2 * m.n) 2)).setI a (3) (nI ((m.n) - (1)))).setI a (899) (nI (1)))).n := K
        have N2 : q_n9 (((h.rowI a (q_shf (h.I a) (40 + 2 * t) (38 + 2 * m.n) 2)).setI a (3) (nI ((m.n) - (1)))).setI a (899) (nI (1))) a := hN
        obtain ⟨h2, e2⟩ : ∃ hh, hh = (((h.rowI a (q_shf (h.I a) (40 + 2 * t) (38 + 2 * m.n) 2)).setI a (3) (nI ((m.n) - (1)))).setI a (899) (nI (1))) := ⟨_, rfl⟩
        rw [← e2] at F2 RB u2 C2 K2 N2  ⊢
        obtain ⟨⟨ρ1, R2⟩, B2⟩ := RB
        refine q_aload_n dL_isNoTest_108 rfl ?_
        refine q_iload_n dL_isNoTest_109 rfl ?_
        refine q_callH (kc := 0) (ks := 0) (g_L_removeTest (h := h2) K2 C2 htd (x := (nI (d)))) wL_removeTest kL_194 sL_removeTest (by decide) rfl rfl (Nat.le_of_ble_eq_true rfl) dL_isNoTest_110 rfl rfl (fun E h9 q9 => (by obtain ⟨_, q9, _⟩ := q9; exact nomatch q9)) ?_
        intro v9 h9 hq
        obtain ⟨x9, ex9, hj9⟩ := j_removeTest C2 B s a0 b0 k0 dd (by omega) hq
        clear hq
        cases ex9
        rcases hj9 with ⟨d1, ex8, rd⟩ | ⟨y1, hp⟩
        · exact absurd d1 ((by rw [hpl]; exact nI_pos (by omega)))
        rw [hpl, nI_clamp (by omega)] at hp
        obtain ⟨ev9, fr, W1, O1, C1, S1, Y, yY, rfl⟩ := hp
        cases ev9
        have R9 : q_nr (h9.I a) (m.sT (m.n - 1) (va_up m.d (ρ t) (m.d (m.n - 1))) (va_up m.v (ρ t) (m.v (m.n - 1)))) ρ1 := by rw [fr.1 a (by omega)]; exact R2
        have N9 : q_n9 h9 a := N2.fr fr.2.2.1
        refine q_iload dL_isNoTest_113 rfl ?_
        refine q_icmp_ne (tgt := 132) dL_isNoTest_115 rfl (fun c => absurd rfl c) (fun c13 => ?_)
        refine q_aload_n dL_isNoTest_118 rfl ?_
        have K9 : q_Lk Φ h9.R h9.n := (q_lf.fr (a := a) fr).Lk K2
        refine q_vR (kc := 0) (ks := 0) (g_X9_testCount (h := h9) K9 C1) wX9_testCount kL_196 iX9_testCount eX9_testCount rfl rfl (by decide) (K9.le (by decide)) (by decide) rfl rfl (Nat.le_of_ble_eq_true rfl) dL_isNoTest_119 rfl rfl ?_
        intro v8 h10 hq
        obtain ⟨⟨N1, hN1, a1, ⟨τ1, b1⟩, k1⟩, dd1⟩ := id S1
        obtain ⟨ev10, rd⟩ := j_testCount C1 B2 S1 a1 b1 k1 dd1 (by omega) hq
        subst ev10
        have R10 : q_nr (h10.I a) (m.sT (m.n - 1) (va_up m.d (ρ t) (m.d (m.n - 1))) (va_up m.v (ρ t) (m.v (m.n - 1)))) ρ1 := by rw [rd.2.1 a (by omega)]; exact R9
        have N10 : q_n9 h10 a := N9.fr rd.2.2.2.1
        refine q_tv (show _ = (nI (m.n - 1)) from rfl) ?_
        refine q_aload_n dL_isNoTest_122 rfl ?_
        refine q_iconst (v := nI 3) dL_isNoTest_123 (by decide) ?_
        refine q_ialdD (k := 3) N10.1 N10.t N10.l (by omega) (by decide) dL_isNoTest_124 ?_
        refine q_tv (show _ = (nI (m.n - 1)) from R10.n) ?_
        refine q_icmp_neN (by omega) (by omega) (tgt := 132) dL_isNoTest_125 rfl (fun c => absurd rfl c) (fun c15 => ?_)
        refine q_iconst (v := nI 1) dL_isNoTest_128 (by decide) ?_
        refine q_goto (tgt := 133) dL_isNoTest_129 rfl ?_
        refine q_zret (ty := .boolean) dL_isNoTest_133 rfl rfl (Or.inl rfl) ?_
        exact ⟨_, rfl, q_pX.yes F2 N2 R2 B2 u2 (fr.tr rd.2) rd.1 S1 yY id⟩
      · refine q_aload_n dL_isNoTest_79 rfl ?_
        refine q_iload dL_isNoTest_80 rfl ?_
        refine q_aload_n dL_isNoTest_82 rfl ?_
        refine q_iload dL_isNoTest_83 rfl ?_
        refine q_iconst (v := nI 2) dL_isNoTest_85 (by decide) ?_
        refine q_iaddN dL_isNoTest_86 ?_
        refine q_ialdD (k := (j) + (2)) hN.1 hN.t hN.l (by omega) (by decide) dL_isNoTest_87 ?_
        refine q_tv (show _ = (h.I a (j + 2)) from ((congrFun (q_rI _ _ _) _).trans (q_shf_o _ (Or.inr (by omega))))) ?_
        refine q_iastD (k := j) hN.1 hN.t hN.l (by omega) (by decide) dL_isNoTest_88 ?_
        refine q_iincN (n := 1) (L' := [_, _, _, _, _, _]) (by decide) dL_isNoTest_89 rfl rfl (by decide) rfl ?_
        refine q_goto (tgt := 66) dL_isNoTest_92 rfl ?_
        exact q_to (ih66 (j + 1) (by omega) (by omega)) (q_sub_s rfl (q_sub_s rfl (q_sub_i rfl (q_sub_i rfl (q_sub_i rfl (q_sub_i rfl q_sub_0)))))) (by rw [q_rset, q_shf_s (N := h.I a) (by omega)])
    · refine q_iinc (v := nI (t) - nI 1) (L' := [_, _, _, _, _, _]) dL_isNoTest_22 rfl (q_pm1 _) rfl (by decide) rfl ?_
      refine q_goto (tgt := 6) dL_isNoTest_25 rfl ?_
      exact q_to (ih6 t (⟨by omega, fun u h1 h2 => if e9 : u = t then (by rw [e9]; assumption) else hi6.2 u (by omega) h2⟩) (by omega)) (q_sub_s rfl (q_sub_s rfl (q_sub_i rfl (q_sub_i rfl (q_sub_n (q_sub_n q_sub_0)))))) rfl
theorem g_L_isTest {Φ : q_Fx} {h : q_Hp} (K : q_Lk Φ h.R h.n) {a : Nat} (hN : q_n9 h a) {m : q_W} {ρ : Nat → Nat} (R : q_nr (h.I a) m ρ) (B : q_bd m) (u9 : h.I a 899 = nI 0) {W : q_W} {O : q_O} (C : q_clX h W O) {c : Nat} (s : q_smc c W m) (hcc : c ≤ 500) {d x : Nat} (hd : d ≤ m.t) (hx1 : 50 ≤ x) (hx2 : x ≤ 400) : q_Ct Φ false yL_isTest cL_isTest mL_isTest [.ref 1, .ref a, .int (nI (d)), .int (nI (x))] h (q_ex (q_pX h a c m O)) := by
  refine q_enter K.st rfl rfl (by decide) rfl (Nat.le_of_ble_eq_true rfl) (L := [_, _, _, _, none, none, none, none]) rfl ?_
  obtain ⟨bt, bn, bc, bpe, bpf, bpc, bpn⟩ := id B
  obtain ⟨⟨N0, hN0, a0, ⟨τ0, b0⟩, k0⟩, dd⟩ := id s
  have v := k0.2.2.2.2.2.2.2
  have ha2 := hN.2.1
  refine q_iconst (v := nI 0) dL_isTest_0 (by decide) ?_
  refine q_istore (L' := [_, _, _, _, _, _, _, _]) dL_isTest_1 rfl (by decide) rfl ?_
  refine q_iconst (v := nI 0) dL_isTest_3 (by decide) ?_
  refine q_istore (L' := [_, _, _, _, _, _, _, _]) dL_isTest_4 rfl (by decide) rfl ?_
  refine q_loop (ι := Nat) (μ := fun t => m.n - t) (P := fun t => t ≤ m.n) (Lf := fun t => [some (.ref 1), some (.ref a), some (.int (nI (d))), some (.int (nI (x))), some (.int (q_bl (q_any (fun u => decide (m.d (ρ u) = nI d)) t))), some (.int (nI (t))), none, none]) (hf := fun t => h) (fun t hi6 ih6 => ?_) 0 (by omega) (q_sub_s rfl (q_sub_s rfl (q_sub_i rfl (q_sub_i rfl (q_sub_i (by rw [q_any_0]; rfl) (q_sub_i rfl (q_sub_n (q_sub_n q_sub_0)))))))) rfl
  skip
  refine q_iload dL_isTest_6 rfl ?_
  refine q_aload_n dL_isTest_8 rfl ?_
  refine q_iconst (v := nI 3) dL_isTest_9 (by decide) ?_
  refine q_ialdD (k := 3) hN.1 hN.t hN.l (by omega) (by decide) dL_isTest_10 ?_
  refine q_tv (show _ = (nI (m.n)) from R.n) ?_
  refine q_icmp_geN (by omega) (by omega) (tgt := 43) dL_isTest_11 rfl (fun c1 => ?_) (fun c2 => ?_)
  · refine q_iload dL_isTest_43 rfl ?_
    refine q_if_ne (tgt := 56) dL_isTest_45 rfl (fun c3 => ?_) (fun c4 => ?_)
    · have D2 : m.n = 10 ∨ 0 ≤ q_pl (fun i => decide (m.d i = nI d)) m.n := by first | exact Or.inl (by omega) | exact Or.inr ((q_has_pl R.bij (by omega)).mp (by rw [show m.n = t by omega]; exact q_bl_ne (by assumption)))
      refine q_aload_n dL_isTest_56 rfl ?_
      refine q_iload_n dL_isTest_57 rfl ?_
      refine q_iload_n dL_isTest_58 rfl ?_
      refine q_callH (kc := 1) (ks := 906) (g_L_addTest (h := h) K C  (d := (nI (d))) (x := (nI (x)))) wL_addTest kL_192 sL_addTest (by decide) rfl rfl (Nat.le_of_ble_eq_true rfl) dL_isTest_59 rfl rfl (fun E h9 q9 => (by obtain ⟨_, q9, _⟩ := q9; exact nomatch q9)) ?_
      intro v9 h9 hq
      obtain ⟨x9, ex9, hj9⟩ := j_addTest C B s a0 b0 k0 dd (by omega) hq
      clear hq
      cases ex9
      rcases hj9 with ⟨d1, ex8, rd⟩ | ⟨y1, d2, ex8, rd⟩ | ⟨y1, y2, hp⟩
      · exact absurd d1 ((by rintro (e | e); exact absurd e (q_rin (Nat.zero_le _) hd (by omega)); exact absurd e (q_rin hx1 hx2 (by decide))))
      rotate_left
      · exact absurd (D2) y2
      subst ex8
      refine q_ldc dL_isTest_62 kcL_20 ?_
      refine q_icmp_ne (tgt := 71) dL_isTest_64 rfl (fun c => absurd (by decide) c) (fun _ => ?_)
      refine q_iconst (v := nI 1) dL_isTest_67 (by decide) ?_
      refine q_goto (tgt := 72) dL_isTest_68 rfl ?_
      refine q_zret (ty := .boolean) dL_isTest_72 rfl rfl (Or.inl rfl) ?_
      exact ⟨_, rfl, q_pX.no hN R B u9 s rd⟩
    · refine q_aload_n dL_isTest_48 rfl ?_
      refine q_iconst (v := nI 3) dL_isTest_49 (by decide) ?_
      refine q_ialdD (k := 3) hN.1 hN.t hN.l (by omega) (by decide) dL_isTest_50 ?_
      refine q_tv (show _ = (nI (m.n)) from R.n) ?_
      refine q_bipush (v := nI 10) dL_isTest_51 (by decide) ?_
      refine q_icmp_neN (by omega) (by omega) (tgt := 73) dL_isTest_53 rfl (fun c7 => ?_) (fun c8 => ?_)
      · have htn : t = m.n := by omega
        subst htn
        have ND : ¬ (m.n = 10 ∨ 0 ≤ q_pl (fun i => decide (m.d i = nI d)) m.n) := by rintro (e | e); omega; have e1 := (q_has_pl R.bij (by omega)).mpr e; rw [q_bl_eq (b := q_any (fun u => decide (m.d (ρ u) = nI d)) m.n) (by assumption)] at e1; cases e1
        have hf : ∀ i, i < m.n → m.d i ≠ nI d := fun i hi => of_decide_eq_false ((q_pl_neg (by omega)).mp (Int32.not_le.mp fun e => ND (Or.inr e)) i hi)
        have S0 := s.addT (j := d) (x := x) (by omega) hx1 hx2 hf
        obtain ⟨⟨Nx, hNx, ax, ⟨τx, bx⟩, kx⟩, ddx⟩ := id S0
        have vx := kx.2.2.2.2.2.2.2
        refine q_aload_n dL_isTest_73 rfl ?_
        refine q_sR (kc := 3) (ks := 24) (g_L_copy (h := h) K hN) wL_copy kL_136 sL_copy (by decide) rfl rfl (Nat.le_of_ble_eq_true rfl) dL_isTest_74 rfl rfl ?_
        rintro v9 h9 ⟨cz, g9, cz1, cz2, cz3, rfl, rfl, hg9⟩
        have hac : a ≠ cz := fun e9 => cz3 (e9 ▸ hN.1)
        have F1 : q_lf h ((h.add cz).rowI cz g9) a := q_lf.add cz1 cz3
        have C1 : q_clX ((h.add cz).rowI cz g9) W O := C.addD cz1
        have K1 : q_Lk Φ ((h.add cz).rowI cz g9).R ((h.add cz).rowI cz g9).n := F1.Lk K
        have N1 : q_n9 ((h.add cz).rowI cz g9) a := F1.n9 hN
        have Nc : q_n9 ((h.add cz).rowI cz g9) cz := ⟨List.mem_append_right _ (List.mem_singleton_self _), cz1, cz2⟩
        have ea : ((h.add cz).rowI cz g9).I a = h.I a := (q_rIn _ _ hac).trans (h.add_I hac)
        have R1 : q_nr (((h.add cz).rowI cz g9).I a) m ρ := by rw [ea]; exact R
        have Rc : q_nr (((h.add cz).rowI cz g9).I cz) m ρ := by rw [q_rI]; exact R.cong B fun k hk => hg9 k (by omega)
        have u1 : ((h.add cz).rowI cz g9).I a 899 = nI 0 := by rw [ea]; exact u9
        generalize (h.add cz).rowI cz g9 = h1 at F1 C1 K1 N1 Nc ea R1 Rc u1 ⊢
        refine q_astore (L' := [_, _, _, _, _, _, _, _]) dL_isTest_77 rfl (by decide) rfl ?_
        refine q_aload_n dL_isTest_79 rfl ?_
        refine q_bipush (v := nI 40) dL_isTest_80 (by decide) ?_
        refine q_iconst (v := nI 2) dL_isTest_82 (by decide) ?_
        refine q_aload_n dL_isTest_83 rfl ?_
        refine q_iconst (v := nI 3) dL_isTest_84 (by decide) ?_
        refine q_ialdD (k := 3) N1.1 N1.t N1.l (by omega) (by decide) dL_isTest_85 ?_
        refine q_tv (show _ = (nI (m.n)) from R1.n) ?_
        refine q_imulN dL_isTest_86 ?_
        refine q_iaddN dL_isTest_87 ?_
        refine q_iload_n dL_isTest_88 rfl ?_
        refine q_iastD (k := (40) + ((2) * (m.n))) N1.1 N1.t N1.l (by omega) (by decide) dL_isTest_89 ?_
        refine q_aload_n dL_isTest_90 rfl ?_
        refine q_bipush (v := nI 41) dL_isTest_91 (by decide) ?_
        refine q_iconst (v := nI 2) dL_isTest_93 (by decide) ?_
        refine q_aload_n dL_isTest_94 rfl ?_
        refine q_iconst (v := nI 3) dL_isTest_95 (by decide) ?_
        refine q_ialdD (k := 3) N1.1 N1.t N1.l (by omega) (by decide) dL_isTest_96 ?_
        refine q_tv (show _ = (nI (m.n)) from (((congrFun (q_sI _ _ _ _) _).trans (va_un _ _ (by omega))).trans R1.n)) ?_
        refine q_imulN dL_isTest_97 ?_
        refine q_iaddN dL_isTest_98 ?_
        refine q_iload_n dL_isTest_99 rfl ?_
        refine q_iastD (k := (41) + ((2) * (m.n))) N1.1 N1.t N1.l (by omega) (by decide) dL_isTest_100 ?_
        refine q_aload_n dL_isTest_101 rfl ?_
        refine q_iconst (v := nI 3) dL_isTest_102 (by decide) ?_
        refine q_dup2 dL_isTest_103 rfl rfl ?_
        refine q_ialdD (k := 3) N1.1 N1.t N1.l (by omega) (by decide) dL_isTest_104 ?_
        refine q_tv (show _ = (nI (m.n)) from (((congrFun (q_sI _ _ _ _) _).trans (va_un _ _ (by omega))).trans (((congrFun (q_sI _ _ _ _) _).trans (va_un _ _ (by omega))).trans R1.n))) ?_
        refine q_iconst (v := nI 1) dL_isTest_105 (by decide) ?_
        refine q_iaddN dL_isTest_106 ?_
        refine q_iastD (k := 3) N1.1 N1.t N1.l (by omega) (by decide) dL_isTest_107 ?_
        refine q_aload_n dL_isTest_108 rfl ?_
        refine q_sipush (v := nI 899) dL_isTest_109 (by decide) ?_
        refine q_iconst (v := nI 1) dL_isTest_112 (by decide) ?_
        refine q_iastD (k := 899) N1.1 N1.t N1.l (by omega) (by decide) dL_isTest_113 ?_
        have F2 : q_lf h ((((h1.setI a ((40) + ((2) * (m.n))) (nI (d))).setI a ((41) + ((2) * (m.n))) (nI (x))).setI a (3) (nI ((m.n) + (1)))).setI a (899) (nI (1))) a := ((((F1.set).set).set).set)
        have RB : (q_nr ((((((h1.setI a ((40) + ((2) * (m.n))) (nI (d))).setI a ((41) + ((2) * (m.n))) (nI (x))).setI a (3) (nI ((m.n) + (1)))).setI a (899) (nI (1)))).I a) (m.sT (m.n + 1) (va_up m.d m.n (nI d)) (va_up m.v m.n (nI x))) (fun t => if t = m.n then m.n else ρ t) ∧ q_bd (m.sT (m.n + 1) (va_up m.d m.n (nI d)) (va_up m.v m.n (nI x)))) := by rw [q_sI, q_sI, q_sI, q_sI]; exact q_nTest R1 B (by omega)
        have u2 : (((((h1.setI a ((40) + ((2) * (m.n))) (nI (d))).setI a ((41) + ((2) * (m.n))) (nI (x))).setI a (3) (nI ((m.n) + (1)))).setI a (899) (nI (1)))).I a 899 = nI 1 := by rw [q_sI]; exact va_us _ _ _
        have C2 : q_clX ((((h1.setI a ((40) + ((2) * (m.n))) (nI (d))).setI a ((41) + ((2) * (m.n))) (nI (x))).setI a (3) (nI ((m.n) + (1)))).setI a (899) (nI (1))) W O := ((((C1.setD ha2).setD ha2).setD ha2).setD ha2)
        have K2 : q_Lk Φ (((((h1.setI a ((40) + ((2) * (m.n))) (nI (d))).setI a ((41) + ((2) * (m.n))) (nI (x))).setI a (3) (nI ((m.n) + (1)))).setI a (899) (nI (1)))).R (((((h1.setI a ((40) + ((2) * (m.n))) (nI (d))).setI a ((41) + ((2) * (m.n))) (nI (x))).setI a (3) (nI ((m.n) + (1)))).setI a (899) (nI (1)))).n := K1
        have N2 : q_n9 ((((h1.setI a ((40) + ((2) * (m.n))) (nI (d))).setI a ((41) + ((2) * (m.n))) (nI (x))).setI a (3) (nI ((m.n) + (1)))).setI a (899) (nI (1))) a := N1
        have Nc2 : q_n9 ((((h1.setI a ((40) + ((2) * (m.n))) (nI (d))).setI a ((41) + ((2) * (m.n))) (nI (x))).setI a (3) (nI ((m.n) + (1)))).setI a (899) (nI (1))) cz := Nc
        have Rc2 : q_nr ((((((h1.setI a ((40) + ((2) * (m.n))) (nI (d))).setI a ((41) + ((2) * (m.n))) (nI (x))).setI a (3) (nI ((m.n) + (1)))).setI a (899) (nI (1)))).I cz) m ρ := by rw [q_sIn _ _ _ (Ne.symm hac), q_sIn _ _ _ (Ne.symm hac), q_sIn _ _ _ (Ne.symm hac), q_sIn _ _ _ (Ne.symm hac)]; exact Rc
        obtain ⟨h2, e2⟩ : ∃ hh, hh = ((((h1.setI a ((40) + ((2) * (m.n))) (nI (d))).setI a ((41) + ((2) * (m.n))) (nI (x))).setI a (3) (nI ((m.n) + (1)))).setI a (899) (nI (1))) := ⟨_, rfl⟩
        rw [← e2] at F2 RB u2 C2 K2 N2 Nc2 Rc2 ⊢
        obtain ⟨R2, B2⟩ := RB
        refine q_iconst (v := nI 0) dL_isTest_114 (by decide) ?_
        refine q_istore (L' := [_, _, _, _, _, _, _, _]) dL_isTest_115 rfl (by decide) rfl ?_
        refine q_iconst (v := nI 0) dL_isTest_117 (by decide) ?_
        refine q_istore (L' := [_, _, _, _, _, _, _, _]) dL_isTest_118 rfl (by decide) rfl ?_
        refine q_loop (ι := Nat) (μ := fun k => m.c - k) (P := fun k => k ≤ m.c) (Lf := fun k => [some (.ref 1), some (.ref a), some (.int (nI (d))), some (.int (nI (x))), none, some (.ref cz), some (.int (nI (q_cn (fun k => decide (m.ld k ≠ (m.sT (m.n + 1) (va_up m.d m.n (nI d)) (va_up m.v m.n (nI x))).ld k)) k))), some (.int (nI (k)))]) (hf := fun k => h2) (fun k hi120 ih120 => ?_) 0 (by omega) (q_sub_s rfl (q_sub_s rfl (q_sub_i rfl (q_sub_i rfl (q_sub_n (q_sub_s rfl (q_sub_i rfl (q_sub_i rfl q_sub_0)))))))) rfl
        skip
        have hkn := q_cn_le (fun k => decide (m.ld k ≠ (m.sT (m.n + 1) (va_up m.d m.n (nI d)) (va_up m.v m.n (nI x))).ld k)) k
        have hkm := q_cn_le (fun k => decide (m.ld k ≠ (m.sT (m.n + 1) (va_up m.d m.n (nI d)) (va_up m.v m.n (nI x))).ld k)) m.c
        refine q_iload dL_isTest_120 rfl ?_
        refine q_aload_n dL_isTest_122 rfl ?_
        refine q_iconst (v := nI 2) dL_isTest_123 (by decide) ?_
        refine q_ialdD (k := 2) N2.1 N2.t N2.l (by omega) (by decide) dL_isTest_124 ?_
        refine q_tv (show _ = (nI (m.c)) from R2.c) ?_
        refine q_icmp_geN (by omega) (by omega) (tgt := 160) dL_isTest_125 rfl (fun c9 => ?_) (fun c10 => ?_)
        · refine q_aload_n dL_isTest_160 rfl ?_
          refine q_iload_n dL_isTest_161 rfl ?_
          refine q_iload_n dL_isTest_162 rfl ?_
          refine q_callH (kc := 0) (ks := 6) (g_L_addTest (h := h2) K2 C2  (d := (nI (d))) (x := (nI (x)))) wL_addTest kL_192 sL_addTest (by decide) rfl rfl (Nat.le_of_ble_eq_true rfl) dL_isTest_163 rfl rfl (fun E h9 q9 => (by obtain ⟨_, q9, _⟩ := q9; exact nomatch q9)) ?_
          intro v9 h9 hq
          obtain ⟨x9, ex9, hj9⟩ := j_addTest C2 B s a0 b0 k0 dd (by omega) hq
          clear hq
          cases ex9
          rcases hj9 with ⟨d1, ex8, rd⟩ | ⟨y1, d2, ex8, rd⟩ | ⟨y1, y2, hp⟩
          · exact absurd d1 ((by rintro (e | e); exact absurd e (q_rin (Nat.zero_le _) hd (by omega)); exact absurd e (q_rin hx1 hx2 (by decide))))
          · exact absurd d2 (ND)
          obtain ⟨ev9, fr, W1, O1, C1, S1, Y, yY, rfl⟩ := hp
          cases ev9
          have R9 : q_nr (h9.I a) (m.sT (m.n + 1) (va_up m.d m.n (nI d)) (va_up m.v m.n (nI x))) (fun t => if t = m.n then m.n else ρ t) := by rw [fr.1 a (by omega)]; exact R2
          have N9 : q_n9 h9 a := N2.fr fr.2.2.1
          refine q_iload dL_isTest_166 rfl ?_
          refine q_icmp_neN (by omega) (by omega) (tgt := 175) dL_isTest_168 rfl (fun c => absurd (by rw [show k = m.c by omega]) c) (fun c11 => ?_)
          refine q_iconst (v := nI 1) dL_isTest_171 (by decide) ?_
          refine q_goto (tgt := 176) dL_isTest_172 rfl ?_
          refine q_zret (ty := .boolean) dL_isTest_176 rfl rfl (Or.inl rfl) ?_
          exact ⟨_, rfl, q_pX.yes F2 N2 R2 B2 u2 fr C1 S1 yY id⟩
        · refine q_iload dL_isTest_128 rfl ?_
          refine q_aload_n dL_isTest_130 rfl ?_
          refine q_iload dL_isTest_131 rfl ?_
          refine q_sD (kc := 3) (ks := 24) (g_L_load (h := h2) K2 N2 R2 B2 vx ddx (k := k) (show k < m.c by omega)) wL_load kL_133 sL_load (by decide) rfl rfl (Nat.le_of_ble_eq_true rfl) dL_isTest_133 rfl rfl ?_
          refine q_aload dL_isTest_136 rfl ?_
          refine q_iload dL_isTest_138 rfl ?_
          refine q_sD (kc := 3) (ks := 24) (g_L_load (h := h2) K2 Nc2 Rc2 B v dd (k := k) (by omega)) wL_load kL_133 sL_load (by decide) rfl rfl (Nat.le_of_ble_eq_true rfl) dL_isTest_140 rfl rfl ?_
          refine q_icmp_eq (tgt := 150) dL_isTest_143 rfl (fun c13 => ?_) (fun c14 => ?_)
          · refine q_iconst (v := nI 0) dL_isTest_150 (by decide) ?_
            refine q_iaddN dL_isTest_151 ?_
            refine q_istore (L' := [_, _, _, _, _, _, _, _]) dL_isTest_152 rfl (by decide) rfl ?_
            refine q_iincN (n := 1) (L' := [_, _, _, _, _, _, _, _]) (by decide) dL_isTest_154 rfl rfl (by decide) rfl ?_
            refine q_goto (tgt := 120) dL_isTest_157 rfl ?_
            exact q_to (ih120 (k + 1) (by omega) (by omega)) (q_sub_s rfl (q_sub_s rfl (q_sub_i rfl (q_sub_i rfl (q_sub_n (q_sub_s rfl (q_sub_i (by rw [q_cn_flip]; first | rw [if_pos (by assumption)]; rfl | rw [if_neg (by assumption)]) (q_sub_i rfl q_sub_0)))))))) rfl
          · refine q_iconst (v := nI 1) dL_isTest_146 (by decide) ?_
            refine q_goto (tgt := 151) dL_isTest_147 rfl ?_
            refine q_iaddN dL_isTest_151 ?_
            refine q_istore (L' := [_, _, _, _, _, _, _, _]) dL_isTest_152 rfl (by decide) rfl ?_
            refine q_iincN (n := 1) (L' := [_, _, _, _, _, _, _, _]) (by decide) dL_isTest_154 rfl rfl (by decide) rfl ?_
            refine q_goto (tgt := 120) dL_isTest_157 rfl ?_
            exact q_to (ih120 (k + 1) (by omega) (by omega)) (q_sub_s rfl (q_sub_s rfl (q_sub_i rfl (q_sub_i rfl (q_sub_n (q_sub_s rfl (q_sub_i (by rw [q_cn_flip]; first | rw [if_pos (by assumption)]; rfl | rw [if_neg (by assumption)]) (q_sub_i rfl q_sub_0)))))))) rfl
      · have D2 : m.n = 10 ∨ 0 ≤ q_pl (fun i => decide (m.d i = nI d)) m.n := by first | exact Or.inl (by omega) | exact Or.inr ((q_has_pl R.bij (by omega)).mp (by rw [show m.n = t by omega]; exact q_bl_ne (by assumption)))
        refine q_aload_n dL_isTest_56 rfl ?_
        refine q_iload_n dL_isTest_57 rfl ?_
        refine q_iload_n dL_isTest_58 rfl ?_
        refine q_callH (kc := 1) (ks := 906) (g_L_addTest (h := h) K C  (d := (nI (d))) (x := (nI (x)))) wL_addTest kL_192 sL_addTest (by decide) rfl rfl (Nat.le_of_ble_eq_true rfl) dL_isTest_59 rfl rfl (fun E h9 q9 => (by obtain ⟨_, q9, _⟩ := q9; exact nomatch q9)) ?_
        intro v9 h9 hq
        obtain ⟨x9, ex9, hj9⟩ := j_addTest C B s a0 b0 k0 dd (by omega) hq
        clear hq
        cases ex9
        rcases hj9 with ⟨d1, ex8, rd⟩ | ⟨y1, d2, ex8, rd⟩ | ⟨y1, y2, hp⟩
        · exact absurd d1 ((by rintro (e | e); exact absurd e (q_rin (Nat.zero_le _) hd (by omega)); exact absurd e (q_rin hx1 hx2 (by decide))))
        rotate_left
        · exact absurd (D2) y2
        subst ex8
        refine q_ldc dL_isTest_62 kcL_20 ?_
        refine q_icmp_ne (tgt := 71) dL_isTest_64 rfl (fun c => absurd (by decide) c) (fun _ => ?_)
        refine q_iconst (v := nI 1) dL_isTest_67 (by decide) ?_
        refine q_goto (tgt := 72) dL_isTest_68 rfl ?_
        refine q_zret (ty := .boolean) dL_isTest_72 rfl rfl (Or.inl rfl) ?_
        exact ⟨_, rfl, q_pX.no hN R B u9 s rd⟩
  · refine q_iload dL_isTest_14 rfl ?_
    refine q_aload_n dL_isTest_16 rfl ?_
    refine q_bipush (v := nI 40) dL_isTest_17 (by decide) ?_
    refine q_iconst (v := nI 2) dL_isTest_19 (by decide) ?_
    refine q_iload dL_isTest_20 rfl ?_
    refine q_imulN dL_isTest_22 ?_
    refine q_iaddN dL_isTest_23 ?_
    refine q_ialdD (k := (40) + ((2) * (t))) hN.1 hN.t hN.l (by omega) (by decide) dL_isTest_24 ?_
    refine q_tv (show _ = (m.d (ρ t)) from ((congrArg (h.I a) (show ((40) + ((2) * (t))) = 40 + 2 * t by omega)).trans (R.d (t := t) (by omega)))) ?_
    refine q_iload_n dL_isTest_25 rfl ?_
    refine q_icmp_ne (tgt := 33) dL_isTest_26 rfl (fun c17 => ?_) (fun c18 => ?_)
    · refine q_iconst (v := nI 0) dL_isTest_33 (by decide) ?_
      refine q_ior dL_isTest_34 ?_
      refine q_istore (L' := [_, _, _, _, _, _, _, _]) dL_isTest_35 rfl (by decide) rfl ?_
      refine q_iincN (n := 1) (L' := [_, _, _, _, _, _, _, _]) (by decide) dL_isTest_37 rfl rfl (by decide) rfl ?_
      refine q_goto (tgt := 6) dL_isTest_40 rfl ?_
      exact q_to (ih6 (t + 1) (by omega) (by omega)) (q_sub_s rfl (q_sub_s rfl (q_sub_i rfl (q_sub_i rfl (q_sub_i (by first | rw [q_bl_1, q_bl_or, q_any_s, show decide (m.d (ρ t) = nI d) = true from decide_eq_true (by assumption)] | rw [q_bl_f, q_bl_or, q_any_s, show decide (m.d (ρ t) = nI d) = false from decide_eq_false (by assumption)]) (q_sub_i rfl (q_sub_n (q_sub_n q_sub_0)))))))) rfl
    · refine q_iconst (v := nI 1) dL_isTest_29 (by decide) ?_
      refine q_goto (tgt := 34) dL_isTest_30 rfl ?_
      refine q_ior dL_isTest_34 ?_
      refine q_istore (L' := [_, _, _, _, _, _, _, _]) dL_isTest_35 rfl (by decide) rfl ?_
      refine q_iincN (n := 1) (L' := [_, _, _, _, _, _, _, _]) (by decide) dL_isTest_37 rfl rfl (by decide) rfl ?_
      refine q_goto (tgt := 6) dL_isTest_40 rfl ?_
      exact q_to (ih6 (t + 1) (by omega) (by omega)) (q_sub_s rfl (q_sub_s rfl (q_sub_i rfl (q_sub_i rfl (q_sub_i (by first | rw [q_bl_1, q_bl_or, q_any_s, show decide (m.d (ρ t) = nI d) = true from decide_eq_true (by assumption)] | rw [q_bl_f, q_bl_or, q_any_s, show decide (m.d (ρ t) = nI d) = false from decide_eq_false (by assumption)]) (q_sub_i rfl (q_sub_n (q_sub_n q_sub_0)))))))) rfl
