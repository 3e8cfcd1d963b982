/-! WHAT THE LAW TELLS -/
theorem q_told {Φ : q_Fx} {xb : Bool} {own : String} {M : q_M} {Z : Program → Env → State → MethodId → Array Value → List Frame → State → Prop} {L : List (Option Value)} {S : List Value} {h : q_Hp} {kc ks x : Nat} (hx : x < 20) (K0 : q_G Φ xb cL_isTold own M Z 120 L S h kc ks) (K1 : q_G Φ xb cL_isTold own M Z 219 L S h kc ks) (K2 : q_G Φ xb cL_isTold own M Z 240 L S h kc ks) (K3 : q_G Φ xb cL_isTold own M Z 285 L S h kc ks) (K4 : q_G Φ xb cL_isTold own M Z 313 L S h kc ks) (K5 : q_G Φ xb cL_isTold own M Z 380 L S h kc ks) (K6 : q_G Φ xb cL_isTold own M Z 405 L S h kc ks) (K7 : q_G Φ xb cL_isTold own M Z 415 L S h kc ks) (K8 : q_G Φ xb cL_isTold own M Z 439 L S h kc ks) (K9 : q_G Φ xb cL_isTold own M Z 492 L S h kc ks) (K10 : q_G Φ xb cL_isTold own M Z 532 L S h kc ks) : q_G Φ xb cL_isTold own M Z 43 L (.int (nI x) :: S) h kc ks := by
  by_cases h16 : 16 ≤ x
  · exact q_tableOut dL_isTold_43 (Or.inr (by rw [nI_toInt (by omega)]; omega)) (tgt := 532) rfl K10
  rcases (by omega : x = 0 ∨ x = 1 ∨ x = 2 ∨ x = 3 ∨ x = 4 ∨ x = 5 ∨ x = 6 ∨ x = 7 ∨ x = 8 ∨ x = 9 ∨ x = 10 ∨ x = 11 ∨ x = 12 ∨ x = 13 ∨ x = 14 ∨ x = 15) with rfl | rfl | rfl | rfl | rfl | rfl | rfl | rfl | rfl | rfl | rfl | rfl | rfl | rfl | rfl | rfl
  · exact q_tableIn dL_isTold_43 (by decide) (by decide) (off := 77) rfl (tgt := 120) rfl K0
  · exact q_tableIn dL_isTold_43 (by decide) (by decide) (off := 77) rfl (tgt := 120) rfl K0
  · exact q_tableIn dL_isTold_43 (by decide) (by decide) (off := 77) rfl (tgt := 120) rfl K0
  · exact q_tableIn dL_isTold_43 (by decide) (by decide) (off := 176) rfl (tgt := 219) rfl K1
  · exact q_tableIn dL_isTold_43 (by decide) (by decide) (off := 197) rfl (tgt := 240) rfl K2
  · exact q_tableIn dL_isTold_43 (by decide) (by decide) (off := 242) rfl (tgt := 285) rfl K3
  · exact q_tableIn dL_isTold_43 (by decide) (by decide) (off := 270) rfl (tgt := 313) rfl K4
  · exact q_tableIn dL_isTold_43 (by decide) (by decide) (off := 337) rfl (tgt := 380) rfl K5
  · exact q_tableIn dL_isTold_43 (by decide) (by decide) (off := 337) rfl (tgt := 380) rfl K5
  · exact q_tableIn dL_isTold_43 (by decide) (by decide) (off := 337) rfl (tgt := 380) rfl K5
  · exact q_tableIn dL_isTold_43 (by decide) (by decide) (off := 337) rfl (tgt := 380) rfl K5
  · exact q_tableIn dL_isTold_43 (by decide) (by decide) (off := 362) rfl (tgt := 405) rfl K6
  · exact q_tableIn dL_isTold_43 (by decide) (by decide) (off := 372) rfl (tgt := 415) rfl K7
  · exact q_tableIn dL_isTold_43 (by decide) (by decide) (off := 396) rfl (tgt := 439) rfl K8
  · exact q_tableIn dL_isTold_43 (by decide) (by decide) (off := 449) rfl (tgt := 492) rfl K9
  · exact q_tableIn dL_isTold_43 (by decide) (by decide) (off := 449) rfl (tgt := 492) rfl K9
theorem g_L_isTold {Φ : q_Fx} {h : q_Hp} (K : q_Lk Φ h.R h.n) {a : Nat} (hN : q_n9 h a) {m : q_W} {ρ : Nat → Nat} (R : q_nr (h.I a) m ρ) (B : q_bd m) (u9 : h.I a 899 = nI 0) {W : q_W} {O : q_O} (C : q_clX h W O) {c : Nat} (s : q_smc c W m) (hcc : c ≤ 500) (hL : Φ.L ≤ 2048) (hi : q_inc m) {i : Nat} (hi9 : i ≤ 990) : q_Ct Φ false yL_isTold cL_isTold mL_isTold [.ref 1, .ref a, .ref 0, .int (nI (i))] h (q_ex (q_pX h a c m O)) := by
  refine q_enter K.st rfl rfl (by decide) rfl (Nat.le_of_ble_eq_true rfl) (L := [_, _, _, _, none, none, none, none]) rfl ?_
  obtain ⟨bt, bn, bc, bpe, bpf, bpc, bpn⟩ := id B
  obtain ⟨⟨N0, hN0, a0, ⟨τ0, b0⟩, k0⟩, dd⟩ := id s
  have v := k0.2.2.2.2.2.2.2
  have ha2 := hN.2.1
  refine q_aload_n dL_isTold_0 rfl ?_
  refine q_iconst (v := nI 1) dL_isTold_1 (by decide) ?_
  refine q_ialdD (k := 1) hN.1 hN.t hN.l (by omega) (by decide) dL_isTold_2 ?_
  refine q_tv (show _ = (nI (N0)) from (R.nx.trans k0.2.2.1)) ?_
  refine q_if_neN (by omega) (tgt := 10) dL_isTold_3 rfl (fun c1 => ?_) (fun c2 => ?_)
  · refine q_aload_n dL_isTold_10 rfl ?_
    refine q_iload_n dL_isTold_11 rfl ?_
    refine q_iconst (v := nI 1) dL_isTold_12 (by decide) ?_
    refine q_iaddN dL_isTold_13 ?_
    refine q_aload_n dL_isTold_14 rfl ?_
    refine q_iconst (v := nI 1) dL_isTold_15 (by decide) ?_
    refine q_ialdD (k := 1) hN.1 hN.t hN.l (by omega) (by decide) dL_isTold_16 ?_
    refine q_tv (show _ = (nI (N0)) from (R.nx.trans k0.2.2.1)) ?_
    refine q_sR (kc := 4) (ks := 924) (g_L_in (h := h) K hL (i := (i) + (1)) (n := N0) (by omega) (by omega) (by omega)) wL_in kL_149 sL_in (by decide) rfl rfl (Nat.le_of_ble_eq_true rfl) dL_isTold_17 rfl rfl ?_
    intro v9 h9 hq
    obtain ⟨e9, x17, hx17, rfl⟩ := hq
    have e8 := e9.symm
    clear e9
    subst e8
    refine q_istore (L' := [_, _, _, _, _, _, _, _]) dL_isTold_20 rfl (by decide) rfl ?_
    refine q_aload_n dL_isTold_22 rfl ?_
    refine q_iload_n dL_isTold_23 rfl ?_
    refine q_iconst (v := nI 2) dL_isTold_24 (by decide) ?_
    refine q_iaddN dL_isTold_25 ?_
    refine q_aload_n dL_isTold_26 rfl ?_
    refine q_iconst (v := nI 0) dL_isTold_27 (by decide) ?_
    refine q_ialdD (k := 0) hN.1 hN.t hN.l (by omega) (by decide) dL_isTold_28 ?_
    refine q_tv (show _ = (nI (m.t)) from R.t) ?_
    refine q_iconst (v := nI 1) dL_isTold_29 (by decide) ?_
    refine q_iaddN dL_isTold_30 ?_
    refine q_sR (kc := 4) (ks := 924) (g_L_in (h := h) K hL (i := (i) + (2)) (n := (m.t) + (1)) (by omega) (by omega) (by omega)) wL_in kL_149 sL_in (by decide) rfl rfl (Nat.le_of_ble_eq_true rfl) dL_isTold_31 rfl rfl ?_
    intro v9 h9 hq
    obtain ⟨e9, x31, hx31, rfl⟩ := hq
    have e8 := e9.symm
    clear e9
    subst e8
    refine q_istore (L' := [_, _, _, _, _, _, _, _]) dL_isTold_34 rfl (by decide) rfl ?_
    refine q_aload_n dL_isTold_36 rfl ?_
    refine q_iload_n dL_isTold_37 rfl ?_
    refine q_bipush (v := nI 20) dL_isTold_38 (by decide) ?_
    refine q_sR (kc := 4) (ks := 924) (g_L_in (h := h) K hL (i := i) (n := 20) (by omega) (by omega) (by omega)) wL_in kL_149 sL_in (by decide) rfl rfl (Nat.le_of_ble_eq_true rfl) dL_isTold_40 rfl rfl ?_
    intro v9 h9 hq
    obtain ⟨e9, x40, hx40, rfl⟩ := hq
    have e8 := e9.symm
    clear e9
    subst e8
    refine q_told hx40 ?_ ?_ ?_ ?_ ?_ ?_ ?_ ?_ ?_ ?_ ?_
    · refine q_iconst (v := nI 1) dL_isTold_120 (by decide) ?_
      refine q_aload_n dL_isTold_121 rfl ?_
      refine q_iload_n dL_isTold_122 rfl ?_
      refine q_iconst (v := nI 1) dL_isTold_123 (by decide) ?_
      refine q_iaddN dL_isTold_124 ?_
      refine q_aload_n dL_isTold_125 rfl ?_
      refine q_iload_n dL_isTold_126 rfl ?_
      refine q_iconst (v := nI 2) dL_isTold_127 (by decide) ?_
      refine q_iaddN dL_isTold_128 ?_
      refine q_iconst (v := nI 5) dL_isTold_129 (by decide) ?_
      refine q_sR (kc := 4) (ks := 924) (g_L_in (h := h) K hL (i := (i) + (2)) (n := 5) (by omega) (by omega) (by omega)) wL_in kL_149 sL_in (by decide) rfl rfl (Nat.le_of_ble_eq_true rfl) dL_isTold_130 rfl rfl ?_
      intro v9 h9 hq
      obtain ⟨e9, x130, hx130, rfl⟩ := hq
      have e8 := e9.symm
      clear e9
      subst e8
      refine q_if_neN (by omega) (tgt := 141) dL_isTold_133 rfl (fun c3 => ?_) (fun c4 => ?_)
      · refine q_iconst (v := nI 4) dL_isTold_141 (by decide) ?_
        refine q_sR (kc := 4) (ks := 924) (g_L_in (h := h) K hL (i := (i) + (1)) (n := 4) (by omega) (by omega) (by omega)) wL_in kL_149 sL_in (by decide) rfl rfl (Nat.le_of_ble_eq_true rfl) dL_isTold_142 rfl rfl ?_
        intro v9 h9 hq
        obtain ⟨e9, x142, hx142, rfl⟩ := hq
        have e8 := e9.symm
        clear e9
        subst e8
        refine q_iaddN dL_isTold_145 ?_
        refine q_istore (L' := [_, _, _, _, _, _, _, _]) dL_isTold_146 rfl (by decide) rfl ?_
        refine q_aload_n dL_isTold_148 rfl ?_
        refine q_iconst (v := nI 0) dL_isTold_149 (by decide) ?_
        refine q_ialdD (k := 0) hN.1 hN.t hN.l (by omega) (by decide) dL_isTold_150 ?_
        refine q_tv (show _ = (nI (m.t)) from R.t) ?_
        refine q_iload dL_isTold_151 rfl ?_
        refine q_iaddN dL_isTold_153 ?_
        refine q_sipush (v := nI 199) dL_isTold_154 (by decide) ?_
        refine q_icmp_leN (by omega) (by omega) (tgt := 177) dL_isTold_157 rfl (fun c5 => ?_) (fun c6 => ?_)
        · refine q_aload_n dL_isTold_177 rfl ?_
          refine q_iconst (v := nI 0) dL_isTold_178 (by decide) ?_
          refine q_dup2 dL_isTold_179 rfl rfl ?_
          refine q_ialdD (k := 0) hN.1 hN.t hN.l (by omega) (by decide) dL_isTold_180 ?_
          refine q_tv (show _ = (nI (m.t)) from R.t) ?_
          refine q_iload dL_isTold_181 rfl ?_
          refine q_iaddN dL_isTold_183 ?_
          refine q_iastD (k := 0) hN.1 hN.t hN.l (by omega) (by decide) dL_isTold_184 ?_
          refine q_aload_n dL_isTold_185 rfl ?_
          refine q_sipush (v := nI 899) dL_isTold_186 (by decide) ?_
          refine q_iconst (v := nI 1) dL_isTold_189 (by decide) ?_
          refine q_iastD (k := 899) hN.1 hN.t hN.l (by omega) (by decide) dL_isTold_190 ?_
          have F2 : q_lf h ((h.setI a (0) (nI ((m.t) + ((1) + (x142))))).setI a (899) (nI (1))) a := ((q_lf.rf.set).set)
          have RB : (q_nr ((((h.setI a (0) (nI ((m.t) + ((1) + (x142))))).setI a (899) (nI (1)))).I a) (m.sA (m.t + (1 + x142))) ρ ∧ q_bd (m.sA (m.t + (1 + x142)))) := by rw [q_sI, q_sI]; exact q_nPass R B (by omega)
          have u2 : (((h.setI a (0) (nI ((m.t) + ((1) + (x142))))).setI a (899) (nI (1)))).I a 899 = nI 1 := by rw [q_sI]; exact va_us _ _ _
          have C2 : q_clX ((h.setI a (0) (nI ((m.t) + ((1) + (x142))))).setI a (899) (nI (1))) W O := ((C.setD ha2).setD ha2)
          have K2 : q_Lk Φ (((h.setI a (0) (nI ((m.t) + ((1) + (x142))))).setI a (899) (nI (1)))).R (((h.setI a (0) (nI ((m.t) + ((1) + (x142))))).setI a (899) (nI (1)))).n := K
          have N2 : q_n9 ((h.setI a (0) (nI ((m.t) + ((1) + (x142))))).setI a (899) (nI (1))) a := hN
          obtain ⟨h2, e2⟩ : ∃ hh, hh = ((h.setI a (0) (nI ((m.t) + ((1) + (x142))))).setI a (899) (nI (1))) := ⟨_, rfl⟩
          rw [← e2] at F2 RB u2 C2 K2 N2  ⊢
          obtain ⟨R2, B2⟩ := RB
          refine q_aload_n dL_isTold_191 rfl ?_
          refine q_iload dL_isTold_192 rfl ?_
          refine q_callH (kc := 2) (ks := 912) (g_L_pass (h := h2) K2 C2  (x := (nI ((1) + (x142))))) wL_pass kL_152 sL_pass (by decide) rfl rfl (Nat.le_of_ble_eq_true rfl) dL_isTold_194 rfl rfl (fun E h9 q9 => (by obtain ⟨_, q9, _⟩ := q9; exact nomatch q9)) ?_
          intro v9 h9 hq
          obtain ⟨x9, ex9, hj9⟩ := j_pass C2 B s a0 b0 k0 dd (by omega) hq
          clear hq
          cases ex9
          rcases hj9 with ⟨d1, ex8, rd⟩ | ⟨y1, d2, ex8, rd⟩ | ⟨y1, y2, hp⟩
          · exact absurd d1 ((q_rin (by omega) (by omega) (by decide)))
          · exact absurd d2 ((by rw [nI_add, nI_ltI (by omega) (by omega)]; omega))
          rw [nI_clamp (by omega)] at hp
          obtain ⟨ev9, fr, W1, O1, C1, S1, Y, yY, rfl⟩ := hp
          cases ev9
          have R9 : q_nr (h9.I a) (m.sA (m.t + (1 + x142))) ρ := by rw [fr.1 a (by omega)]; exact R2
          have N9 : q_n9 h9 a := N2.fr fr.2.2.1
          refine q_aload_n dL_isTold_197 rfl ?_
          refine q_iconst (v := nI 0) dL_isTold_198 (by decide) ?_
          refine q_ialdD (k := 0) N9.1 N9.t N9.l (by omega) (by decide) dL_isTold_199 ?_
          refine q_tv (show _ = (nI (m.t + (1 + x142))) from R9.t) ?_
          refine q_icmp_neN (by omega) (by omega) (tgt := 217) dL_isTold_200 rfl (fun c => absurd rfl c) (fun c7 => ?_)
          refine q_aload_n dL_isTold_203 rfl ?_
          have K9 : q_Lk Φ h9.R h9.n := (q_lf.fr (a := a) fr).Lk K2
          refine q_vR (kc := 2) (ks := 912) (g_X9_today (h := h9) K9 C1) wX9_today kL_155 iX9_today eX9_today rfl rfl (by decide) (K9.le (by decide)) (by decide) rfl rfl (Nat.le_of_ble_eq_true rfl) dL_isTold_204 rfl rfl ?_
          intro v8 h10 hq
          obtain ⟨⟨N1, hN1, a1, ⟨τ1, b1⟩, k1⟩, dd1⟩ := id S1
          obtain ⟨ev10, rd⟩ := j_today C1 B2 S1 a1 b1 k1 dd1 (by omega) hq
          subst ev10
          have R10 : q_nr (h10.I a) (m.sA (m.t + (1 + x142))) ρ := by rw [rd.2.1 a (by omega)]; exact R9
          have N10 : q_n9 h10 a := N9.fr rd.2.2.2.1
          refine q_tv (show _ = (nI (m.t + (1 + x142))) from rfl) ?_
          refine q_aload_n dL_isTold_207 rfl ?_
          refine q_iconst (v := nI 0) dL_isTold_208 (by decide) ?_
          refine q_ialdD (k := 0) N10.1 N10.t N10.l (by omega) (by decide) dL_isTold_209 ?_
          refine q_tv (show _ = (nI (m.t + (1 + x142))) from R10.t) ?_
          refine q_icmp_neN (by omega) (by omega) (tgt := 217) dL_isTold_210 rfl (fun c => absurd rfl c) (fun c9 => ?_)
          refine q_iconst (v := nI 1) dL_isTold_213 (by decide) ?_
          refine q_goto (tgt := 218) dL_isTold_214 rfl ?_
          refine q_zret (ty := .boolean) dL_isTold_218 rfl rfl (Or.inl rfl) ?_
          exact ⟨_, rfl, q_pX.yes F2 N2 R2 B2 u2 (fr.tr rd.2) rd.1 S1 yY id⟩
        · refine q_aload_n dL_isTold_160 rfl ?_
          refine q_iload dL_isTold_161 rfl ?_
          refine q_callH (kc := 2) (ks := 912) (g_L_pass (h := h) K C  (x := (nI ((1) + (x142))))) wL_pass kL_152 sL_pass (by decide) rfl rfl (Nat.le_of_ble_eq_true rfl) dL_isTold_163 rfl rfl (fun E h9 q9 => (by obtain ⟨_, q9, _⟩ := q9; exact nomatch q9)) ?_
          intro v9 h9 hq
          obtain ⟨x9, ex9, hj9⟩ := j_pass C B s a0 b0 k0 dd (by omega) hq
          clear hq
          cases ex9
          rcases hj9 with ⟨d1, ex8, rd⟩ | ⟨y1, d2, ex8, rd⟩ | ⟨y1, y2, hp⟩
          · exact absurd d1 ((q_rin (by omega) (by omega) (by decide)))
          rotate_left
          · exact absurd ((by rw [nI_add]; exact (nI_ltI (by omega) (by omega)).mpr (by omega))) y2
          subst ex8
          refine q_ldc dL_isTold_166 kcL_20 ?_
          refine q_icmp_ne (tgt := 175) dL_isTold_168 rfl (fun c => absurd (by decide) c) (fun _ => ?_)
          refine q_iconst (v := nI 1) dL_isTold_171 (by decide) ?_
          refine q_goto (tgt := 176) dL_isTold_172 rfl ?_
          refine q_zret (ty := .boolean) dL_isTold_176 rfl rfl (Or.inl rfl) ?_
          exact ⟨_, rfl, q_pX.no hN R B u9 s rd⟩
      · refine q_bipush (v := nI 30) dL_isTold_136 (by decide) ?_
        refine q_goto (tgt := 142) dL_isTold_138 rfl ?_
        refine q_sR (kc := 4) (ks := 924) (g_L_in (h := h) K hL (i := (i) + (1)) (n := 30) (by omega) (by omega) (by omega)) wL_in kL_149 sL_in (by decide) rfl rfl (Nat.le_of_ble_eq_true rfl) dL_isTold_142 rfl rfl ?_
        intro v9 h9 hq
        obtain ⟨e9, x142, hx142, rfl⟩ := hq
        have e8 := e9.symm
        clear e9
        subst e8
        refine q_iaddN dL_isTold_145 ?_
        refine q_istore (L' := [_, _, _, _, _, _, _, _]) dL_isTold_146 rfl (by decide) rfl ?_
        refine q_aload_n dL_isTold_148 rfl ?_
        refine q_iconst (v := nI 0) dL_isTold_149 (by decide) ?_
        refine q_ialdD (k := 0) hN.1 hN.t hN.l (by omega) (by decide) dL_isTold_150 ?_
        refine q_tv (show _ = (nI (m.t)) from R.t) ?_
        refine q_iload dL_isTold_151 rfl ?_
        refine q_iaddN dL_isTold_153 ?_
        refine q_sipush (v := nI 199) dL_isTold_154 (by decide) ?_
        refine q_icmp_leN (by omega) (by omega) (tgt := 177) dL_isTold_157 rfl (fun c13 => ?_) (fun c14 => ?_)
        · refine q_aload_n dL_isTold_177 rfl ?_
          refine q_iconst (v := nI 0) dL_isTold_178 (by decide) ?_
          refine q_dup2 dL_isTold_179 rfl rfl ?_
          refine q_ialdD (k := 0) hN.1 hN.t hN.l (by omega) (by decide) dL_isTold_180 ?_
          refine q_tv (show _ = (nI (m.t)) from R.t) ?_
          refine q_iload dL_isTold_181 rfl ?_
          refine q_iaddN dL_isTold_183 ?_
          refine q_iastD (k := 0) hN.1 hN.t hN.l (by omega) (by decide) dL_isTold_184 ?_
          refine q_aload_n dL_isTold_185 rfl ?_
          refine q_sipush (v := nI 899) dL_isTold_186 (by decide) ?_
          refine q_iconst (v := nI 1) dL_isTold_189 (by decide) ?_
          refine q_iastD (k := 899) hN.1 hN.t hN.l (by omega) (by decide) dL_isTold_190 ?_
          have F2 : q_lf h ((h.setI a (0) (nI ((m.t) + ((1) + (x142))))).setI a (899) (nI (1))) a := ((q_lf.rf.set).set)
          have RB : (q_nr ((((h.setI a (0) (nI ((m.t) + ((1) + (x142))))).setI a (899) (nI (1)))).I a) (m.sA (m.t + (1 + x142))) ρ ∧ q_bd (m.sA (m.t + (1 + x142)))) := by rw [q_sI, q_sI]; exact q_nPass R B (by omega)
          have u2 : (((h.setI a (0) (nI ((m.t) + ((1) + (x142))))).setI a (899) (nI (1)))).I a 899 = nI 1 := by rw [q_sI]; exact va_us _ _ _
          have C2 : q_clX ((h.setI a (0) (nI ((m.t) + ((1) + (x142))))).setI a (899) (nI (1))) W O := ((C.setD ha2).setD ha2)
          have K2 : q_Lk Φ (((h.setI a (0) (nI ((m.t) + ((1) + (x142))))).setI a (899) (nI (1)))).R (((h.setI a (0) (nI ((m.t) + ((1) + (x142))))).setI a (899) (nI (1)))).n := K
          have N2 : q_n9 ((h.setI a (0) (nI ((m.t) + ((1) + (x142))))).setI a (899) (nI (1))) a := hN
          obtain ⟨h2, e2⟩ : ∃ hh, hh = ((h.setI a (0) (nI ((m.t) + ((1) + (x142))))).setI a (899) (nI (1))) := ⟨_, rfl⟩
          rw [← e2] at F2 RB u2 C2 K2 N2  ⊢
          obtain ⟨R2, B2⟩ := RB
          refine q_aload_n dL_isTold_191 rfl ?_
          refine q_iload dL_isTold_192 rfl ?_
          refine q_callH (kc := 2) (ks := 912) (g_L_pass (h := h2) K2 C2  (x := (nI ((1) + (x142))))) wL_pass kL_152 sL_pass (by decide) rfl rfl (Nat.le_of_ble_eq_true rfl) dL_isTold_194 rfl rfl (fun E h9 q9 => (by obtain ⟨_, q9, _⟩ := q9; exact nomatch q9)) ?_
          intro v9 h9 hq
          obtain ⟨x9, ex9, hj9⟩ := j_pass C2 B s a0 b0 k0 dd (by omega) hq
          clear hq
          cases ex9
          rcases hj9 with ⟨d1, ex8, rd⟩ | ⟨y1, d2, ex8, rd⟩ | ⟨y1, y2, hp⟩
          · exact absurd d1 ((q_rin (by omega) (by omega) (by decide)))
          · exact absurd d2 ((by rw [nI_add, nI_ltI (by omega) (by omega)]; omega))
          rw [nI_clamp (by omega)] at hp
          obtain ⟨ev9, fr, W1, O1, C1, S1, Y, yY, rfl⟩ := hp
          cases ev9
          have R9 : q_nr (h9.I a) (m.sA (m.t + (1 + x142))) ρ := by rw [fr.1 a (by omega)]; exact R2
          have N9 : q_n9 h9 a := N2.fr fr.2.2.1
          refine q_aload_n dL_isTold_197 rfl ?_
          refine q_iconst (v := nI 0) dL_isTold_198 (by decide) ?_
          refine q_ialdD (k := 0) N9.1 N9.t N9.l (by omega) (by decide) dL_isTold_199 ?_
          refine q_tv (show _ = (nI (m.t + (1 + x142))) from R9.t) ?_
          refine q_icmp_neN (by omega) (by omega) (tgt := 217) dL_isTold_200 rfl (fun c => absurd rfl c) (fun c15 => ?_)
          refine q_aload_n dL_isTold_203 rfl ?_
          have K9 : q_Lk Φ h9.R h9.n := (q_lf.fr (a := a) fr).Lk K2
          refine q_vR (kc := 2) (ks := 912) (g_X9_today (h := h9) K9 C1) wX9_today kL_155 iX9_today eX9_today rfl rfl (by decide) (K9.le (by decide)) (by decide) rfl rfl (Nat.le_of_ble_eq_true rfl) dL_isTold_204 rfl rfl ?_
          intro v8 h10 hq
          obtain ⟨⟨N1, hN1, a1, ⟨τ1, b1⟩, k1⟩, dd1⟩ := id S1
          obtain ⟨ev10, rd⟩ := j_today C1 B2 S1 a1 b1 k1 dd1 (by omega) hq
          subst ev10
          have R10 : q_nr (h10.I a) (m.sA (m.t + (1 + x142))) ρ := by rw [rd.2.1 a (by omega)]; exact R9
          have N10 : q_n9 h10 a := N9.fr rd.2.2.2.1
          refine q_tv (show _ = (nI (m.t + (1 + x142))) from rfl) ?_
          refine q_aload_n dL_isTold_207 rfl ?_
          refine q_iconst (v := nI 0) dL_isTold_208 (by decide) ?_
          refine q_ialdD (k := 0) N10.1 N10.t N10.l (by omega) (by decide) dL_isTold_209 ?_
          refine q_tv (show _ = (nI (m.t + (1 + x142))) from R10.t) ?_
          refine q_icmp_neN (by omega) (by omega) (tgt := 217) dL_isTold_210 rfl (fun c => absurd rfl c) (fun c17 => ?_)
          refine q_iconst (v := nI 1) dL_isTold_213 (by decide) ?_
          refine q_goto (tgt := 218) dL_isTold_214 rfl ?_
          refine q_zret (ty := .boolean) dL_isTold_218 rfl rfl (Or.inl rfl) ?_
          exact ⟨_, rfl, q_pX.yes F2 N2 R2 B2 u2 (fr.tr rd.2) rd.1 S1 yY id⟩
        · refine q_aload_n dL_isTold_160 rfl ?_
          refine q_iload dL_isTold_161 rfl ?_
          refine q_callH (kc := 2) (ks := 912) (g_L_pass (h := h) K C  (x := (nI ((1) + (x142))))) wL_pass kL_152 sL_pass (by decide) rfl rfl (Nat.le_of_ble_eq_true rfl) dL_isTold_163 rfl rfl (fun E h9 q9 => (by obtain ⟨_, q9, _⟩ := q9; exact nomatch q9)) ?_
          intro v9 h9 hq
          obtain ⟨x9, ex9, hj9⟩ := j_pass C B s a0 b0 k0 dd (by omega) hq
          clear hq
          cases ex9
          rcases hj9 with ⟨d1, ex8, rd⟩ | ⟨y1, d2, ex8, rd⟩ | ⟨y1, y2, hp⟩
          · exact absurd d1 ((q_rin (by omega) (by omega) (by decide)))
          rotate_left
          · exact absurd ((by rw [nI_add]; exact (nI_ltI (by omega) (by omega)).mpr (by omega))) y2
          subst ex8
          refine q_ldc dL_isTold_166 kcL_20 ?_
          refine q_icmp_ne (tgt := 175) dL_isTold_168 rfl (fun c => absurd (by decide) c) (fun _ => ?_)
          refine q_iconst (v := nI 1) dL_isTold_171 (by decide) ?_
          refine q_goto (tgt := 176) dL_isTold_172 rfl ?_
          refine q_zret (ty := .boolean) dL_isTold_176 rfl rfl (Or.inl rfl) ?_
          exact ⟨_, rfl, q_pX.no hN R B u9 s rd⟩
    · refine q_aload_n dL_isTold_219 rfl ?_
      refine q_aload_n dL_isTold_220 rfl ?_
      refine q_iload dL_isTold_221 rfl ?_
      refine q_bipush (v := nI 50) dL_isTold_223 (by decide) ?_
      refine q_aload_n dL_isTold_225 rfl ?_
      refine q_iload_n dL_isTold_226 rfl ?_
      refine q_iconst (v := nI 1) dL_isTold_227 (by decide) ?_
      refine q_iaddN dL_isTold_228 ?_
      refine q_sipush (v := nI 351) dL_isTold_229 (by decide) ?_
      refine q_sR (kc := 4) (ks := 924) (g_L_in (h := h) K hL (i := (i) + (1)) (n := 351) (by omega) (by omega) (by omega)) wL_in kL_149 sL_in (by decide) rfl rfl (Nat.le_of_ble_eq_true rfl) dL_isTold_232 rfl rfl ?_
      intro v9 h9 hq
      obtain ⟨e9, x232, hx232, rfl⟩ := hq
      have e8 := e9.symm
      clear e9
      subst e8
      refine q_iaddN dL_isTold_235 ?_
      refine q_sR (kc := 0) (ks := 0) (g_L_isTest (h := h) K hN R B u9 C s hcc (d := x31) (x := 50 + x232) (by omega) (by omega) (by omega)) wL_isTest kL_158 sL_isTest (by decide) rfl rfl (Nat.le_of_ble_eq_true rfl) dL_isTold_236 rfl rfl ?_
      intro v9 h9 hq
      have hq9 := hq
      obtain ⟨e9, -⟩ := hq9
      subst e9
      refine q_zret (ty := .boolean) dL_isTold_239 rfl rfl (Or.inl rfl) ?_
      exact ⟨_, rfl, hq⟩
    · refine q_aload_n dL_isTold_240 rfl ?_
      refine q_aload_n dL_isTold_241 rfl ?_
      refine q_aload_n dL_isTold_242 rfl ?_
      refine q_iload_n dL_isTold_243 rfl ?_
      refine q_iconst (v := nI 1) dL_isTold_244 (by decide) ?_
      refine q_iaddN dL_isTold_245 ?_
      refine q_iconst (v := nI 2) dL_isTold_246 (by decide) ?_
      refine q_sR (kc := 4) (ks := 924) (g_L_in (h := h) K hL (i := (i) + (1)) (n := 2) (by omega) (by omega) (by omega)) wL_in kL_149 sL_in (by decide) rfl rfl (Nat.le_of_ble_eq_true rfl) dL_isTold_247 rfl rfl ?_
      intro v9 h9 hq
      obtain ⟨e9, x247, hx247, rfl⟩ := hq
      have e8 := e9.symm
      clear e9
      subst e8
      refine q_if_eqN (by omega) (tgt := 259) dL_isTold_250 rfl (fun c21 => ?_) (fun c22 => ?_)
      · refine q_iload dL_isTold_259 rfl ?_
        refine q_goto (tgt := 281) dL_isTold_261 rfl ?_
        have hd9 : x31 ≤ 199 := by omega
        refine q_sR (kc := 3) (ks := 918) (g_L_isNoTest (h := h) K hN R B u9 C s hcc hd9) wL_isNoTest kL_162 sL_isNoTest (by decide) rfl rfl (Nat.le_of_ble_eq_true rfl) dL_isTold_281 rfl rfl ?_
        intro v9 h9 hq
        have hq9 := hq
        obtain ⟨e9, -⟩ := hq9
        subst e9
        refine q_zret (ty := .boolean) dL_isTold_284 rfl rfl (Or.inl rfl) ?_
        exact ⟨_, rfl, hq⟩
      · refine q_aload_n dL_isTold_253 rfl ?_
        refine q_iconst (v := nI 3) dL_isTold_254 (by decide) ?_
        refine q_ialdD (k := 3) hN.1 hN.t hN.l (by omega) (by decide) dL_isTold_255 ?_
        refine q_tv (show _ = (nI (m.n)) from R.n) ?_
        refine q_if_neN (by omega) (tgt := 264) dL_isTold_256 rfl (fun c23 => ?_) (fun c24 => ?_)
        · refine q_aload_n dL_isTold_264 rfl ?_
          refine q_bipush (v := nI 40) dL_isTold_265 (by decide) ?_
          refine q_iconst (v := nI 2) dL_isTold_267 (by decide) ?_
          refine q_aload_n dL_isTold_268 rfl ?_
          refine q_iload_n dL_isTold_269 rfl ?_
          refine q_iconst (v := nI 3) dL_isTold_270 (by decide) ?_
          refine q_iaddN dL_isTold_271 ?_
          refine q_aload_n dL_isTold_272 rfl ?_
          refine q_iconst (v := nI 3) dL_isTold_273 (by decide) ?_
          refine q_ialdD (k := 3) hN.1 hN.t hN.l (by omega) (by decide) dL_isTold_274 ?_
          refine q_tv (show _ = (nI (m.n)) from R.n) ?_
          refine q_sR (kc := 4) (ks := 924) (g_L_in (h := h) K hL (i := (i) + (3)) (n := m.n) (by omega) (by omega) (by omega)) wL_in kL_149 sL_in (by decide) rfl rfl (Nat.le_of_ble_eq_true rfl) dL_isTold_275 rfl rfl ?_
          intro v9 h9 hq
          obtain ⟨e9, x275, hx275, rfl⟩ := hq
          have e8 := e9.symm
          clear e9
          subst e8
          refine q_imulN dL_isTold_278 ?_
          refine q_iaddN dL_isTold_279 ?_
          refine q_ialdD (k := (40) + ((2) * (x275))) hN.1 hN.t hN.l (by omega) (by decide) dL_isTold_280 ?_
          refine q_tv (show _ = (m.d (ρ x275)) from ((congrArg (h.I a) (show ((40) + ((2) * (x275))) = 40 + 2 * x275 by omega)).trans (R.d (t := x275) (by omega)))) ?_
          obtain ⟨k9, hk9, ek9⟩ := v.2.2.2.2.1 (ρ x275) (R.bij.1 _ (by omega))
          rw [ek9]
          have hd9 := hk9
          refine q_sR (kc := 3) (ks := 918) (g_L_isNoTest (h := h) K hN R B u9 C s hcc hd9) wL_isNoTest kL_162 sL_isNoTest (by decide) rfl rfl (Nat.le_of_ble_eq_true rfl) dL_isTold_281 rfl rfl ?_
          intro v9 h9 hq
          have hq9 := hq
          obtain ⟨e9, -⟩ := hq9
          subst e9
          refine q_zret (ty := .boolean) dL_isTold_284 rfl rfl (Or.inl rfl) ?_
          exact ⟨_, rfl, hq⟩
        · refine q_iload dL_isTold_259 rfl ?_
          refine q_goto (tgt := 281) dL_isTold_261 rfl ?_
          have hd9 : x31 ≤ 199 := by omega
          refine q_sR (kc := 3) (ks := 918) (g_L_isNoTest (h := h) K hN R B u9 C s hcc hd9) wL_isNoTest kL_162 sL_isNoTest (by decide) rfl rfl (Nat.le_of_ble_eq_true rfl) dL_isTold_281 rfl rfl ?_
          intro v9 h9 hq
          have hq9 := hq
          obtain ⟨e9, -⟩ := hq9
          subst e9
          refine q_zret (ty := .boolean) dL_isTold_284 rfl rfl (Or.inl rfl) ?_
          exact ⟨_, rfl, hq⟩
    · refine q_aload_n dL_isTold_285 rfl ?_
      refine q_aload_n dL_isTold_286 rfl ?_
      refine q_iconst (v := nI 2) dL_isTold_287 (by decide) ?_
      refine q_aload_n dL_isTold_288 rfl ?_
      refine q_iload_n dL_isTold_289 rfl ?_
      refine q_iconst (v := nI 1) dL_isTold_290 (by decide) ?_
      refine q_iaddN dL_isTold_291 ?_
      refine q_iconst (v := nI 4) dL_isTold_292 (by decide) ?_
      refine q_sR (kc := 4) (ks := 924) (g_L_in (h := h) K hL (i := (i) + (1)) (n := 4) (by omega) (by omega) (by omega)) wL_in kL_149 sL_in (by decide) rfl rfl (Nat.le_of_ble_eq_true rfl) dL_isTold_293 rfl rfl ?_
      intro v9 h9 hq
      obtain ⟨e9, x293, hx293, rfl⟩ := hq
      have e8 := e9.symm
      clear e9
      subst e8
      refine q_iaddN dL_isTold_296 ?_
      refine q_bipush (v := nI 60) dL_isTold_297 (by decide) ?_
      refine q_aload_n dL_isTold_299 rfl ?_
      refine q_iload_n dL_isTold_300 rfl ?_
      refine q_iconst (v := nI 2) dL_isTold_301 (by decide) ?_
      refine q_iaddN dL_isTold_302 ?_
      refine q_bipush (v := nI 80) dL_isTold_303 (by decide) ?_
      refine q_sR (kc := 4) (ks := 924) (g_L_in (h := h) K hL (i := (i) + (2)) (n := 80) (by omega) (by omega) (by omega)) wL_in kL_149 sL_in (by decide) rfl rfl (Nat.le_of_ble_eq_true rfl) dL_isTold_305 rfl rfl ?_
      intro v9 h9 hq
      obtain ⟨e9, x305, hx305, rfl⟩ := hq
      have e8 := e9.symm
      clear e9
      subst e8
      refine q_iaddN dL_isTold_308 ?_
      refine q_sR (kc := 0) (ks := 0) (g_L_isBound (h := h) K hN R B u9 C s hcc hi (z := 2 + x293) (x := 60 + x305) (by omega) (by omega) (by omega) (by omega)) wL_isBound kL_166 sL_isBound (by decide) rfl rfl (Nat.le_of_ble_eq_true rfl) dL_isTold_309 rfl rfl ?_
      intro v9 h9 hq
      have hq9 := hq
      obtain ⟨e9, -⟩ := hq9
      subst e9
      refine q_zret (ty := .boolean) dL_isTold_312 rfl rfl (Or.inl rfl) ?_
      exact ⟨_, rfl, hq⟩
    · refine q_iconst (v := nI 1) dL_isTold_313 (by decide) ?_
      refine q_aload_n dL_isTold_314 rfl ?_
      refine q_iload_n dL_isTold_315 rfl ?_
      refine q_iconst (v := nI 1) dL_isTold_316 (by decide) ?_
      refine q_iaddN dL_isTold_317 ?_
      refine q_iconst (v := nI 5) dL_isTold_318 (by decide) ?_
      refine q_sR (kc := 4) (ks := 924) (g_L_in (h := h) K hL (i := (i) + (1)) (n := 5) (by omega) (by omega) (by omega)) wL_in kL_149 sL_in (by decide) rfl rfl (Nat.le_of_ble_eq_true rfl) dL_isTold_319 rfl rfl ?_
      intro v9 h9 hq
      obtain ⟨e9, x319, hx319, rfl⟩ := hq
      have e8 := e9.symm
      clear e9
      subst e8
      refine q_iaddN dL_isTold_322 ?_
      refine q_istore (L' := [_, _, _, _, _, _, _, _]) dL_isTold_323 rfl (by decide) rfl ?_
      refine q_aload_n dL_isTold_325 rfl ?_
      refine q_bipush (v := nI 30) dL_isTold_326 (by decide) ?_
      refine q_iload dL_isTold_328 rfl ?_
      refine q_iaddN dL_isTold_330 ?_
      refine q_ialdD (k := (30) + ((1) + (x319))) hN.1 hN.t hN.l (by omega) (by decide) dL_isTold_331 ?_
      refine q_tv (show _ = (m.wt (1 + x319)) from (R.wt (z := 1 + x319) (by omega) (by omega))) ?_
      refine q_istore (L' := [_, _, _, _, _, _, _, _]) dL_isTold_332 rfl (by decide) rfl ?_
      refine q_aload_n dL_isTold_334 rfl ?_
      refine q_bipush (v := nI 30) dL_isTold_335 (by decide) ?_
      refine q_iload dL_isTold_337 rfl ?_
      refine q_iaddN dL_isTold_339 ?_
      refine q_aload_n dL_isTold_340 rfl ?_
      refine q_iload_n dL_isTold_341 rfl ?_
      refine q_iconst (v := nI 2) dL_isTold_342 (by decide) ?_
      refine q_iaddN dL_isTold_343 ?_
      refine q_bipush (v := nI 12) dL_isTold_344 (by decide) ?_
      refine q_sR (kc := 4) (ks := 924) (g_L_in (h := h) K hL (i := (i) + (2)) (n := 12) (by omega) (by omega) (by omega)) wL_in kL_149 sL_in (by decide) rfl rfl (Nat.le_of_ble_eq_true rfl) dL_isTold_346 rfl rfl ?_
      intro v9 h9 hq
      obtain ⟨e9, x346, hx346, rfl⟩ := hq
      have e8 := e9.symm
      clear e9
      subst e8
      refine q_iastD (k := (30) + ((1) + (x319))) hN.1 hN.t hN.l (by omega) (by decide) dL_isTold_349 ?_
      refine q_aload_n dL_isTold_350 rfl ?_
      refine q_sipush (v := nI 899) dL_isTold_351 (by decide) ?_
      refine q_iconst (v := nI 1) dL_isTold_354 (by decide) ?_
      refine q_iastD (k := 899) hN.1 hN.t hN.l (by omega) (by decide) dL_isTold_355 ?_
      refine q_aload_n dL_isTold_356 rfl ?_
      refine q_iload dL_isTold_357 rfl ?_
      refine q_aload_n dL_isTold_359 rfl ?_
      refine q_bipush (v := nI 30) dL_isTold_360 (by decide) ?_
      refine q_iload dL_isTold_362 rfl ?_
      refine q_iaddN dL_isTold_364 ?_
      refine q_ialdD (k := (30) + ((1) + (x319))) hN.1 hN.t hN.l (by omega) (by decide) dL_isTold_365 ?_
      refine q_tv (show _ = (nI (x346)) from (((congrFun (q_sI _ _ _ _) _).trans (va_un _ _ (by omega))).trans ((congrFun (q_sI _ _ _ _) _).trans (va_us _ _ _)))) ?_
      have F2 : q_lf h ((h.setI a ((30) + ((1) + (x319))) (nI (x346))).setI a (899) (nI (1))) a := ((q_lf.rf.set).set)
      have RB : (q_nr ((((h.setI a ((30) + ((1) + (x319))) (nI (x346))).setI a (899) (nI (1)))).I a) (m.sZ m.bd (va_up m.wt (1 + x319) (nI x346))) ρ ∧ q_bd (m.sZ m.bd (va_up m.wt (1 + x319) (nI x346)))) := by rw [q_sI, q_sI]; exact q_nWt R B (by omega) (by omega)
      have u2 : (((h.setI a ((30) + ((1) + (x319))) (nI (x346))).setI a (899) (nI (1)))).I a 899 = nI 1 := by rw [q_sI]; exact va_us _ _ _
      have C2 : q_clX ((h.setI a ((30) + ((1) + (x319))) (nI (x346))).setI a (899) (nI (1))) W O := ((C.setD ha2).setD ha2)
      have K2 : q_Lk Φ (((h.setI a ((30) + ((1) + (x319))) (nI (x346))).setI a (899) (nI (1)))).R (((h.setI a ((30) + ((1) + (x319))) (nI (x346))).setI a (899) (nI (1)))).n := K
      have N2 : q_n9 ((h.setI a ((30) + ((1) + (x319))) (nI (x346))).setI a (899) (nI (1))) a := hN
      obtain ⟨h2, e2⟩ : ∃ hh, hh = ((h.setI a ((30) + ((1) + (x319))) (nI (x346))).setI a (899) (nI (1))) := ⟨_, rfl⟩
      rw [← e2] at F2 RB u2 C2 K2 N2  ⊢
      obtain ⟨R2, B2⟩ := RB
      refine q_callH (kc := 2) (ks := 912) (g_L_setWeight (h := h2) K2 C2  (z := (nI ((1) + (x319)))) (x := (nI (x346)))) wL_setWeight kL_169 sL_setWeight (by decide) rfl rfl (Nat.le_of_ble_eq_true rfl) dL_isTold_366 rfl rfl (fun E h9 q9 => (by obtain ⟨_, q9, _⟩ := q9; exact nomatch q9)) ?_
      intro v9 h9 hq
      obtain ⟨x9, ex9, hj9⟩ := j_setWeight C2 B s a0 b0 k0 dd (by omega) hq
      clear hq
      cases ex9
      rcases hj9 with ⟨d1, ex8, rd⟩ | ⟨y1, hp⟩
      · exact absurd d1 ((by rintro (e | e); exact absurd e (q_rin (by omega) (by omega) (by decide)); exact absurd e (q_rin (by omega) (by omega) (by decide))))
      rw [nI_clamp (by omega)] at hp
      obtain ⟨ev9, fr, W1, O1, C1, S1, Y, yY, rfl⟩ := hp
      cases ev9
      have R9 : q_nr (h9.I a) (m.sZ m.bd (va_up m.wt (1 + x319) (nI x346))) ρ := by rw [fr.1 a (by omega)]; exact R2
      have N9 : q_n9 h9 a := N2.fr fr.2.2.1
      refine q_iload dL_isTold_369 rfl ?_
      refine q_icmp_ne (tgt := 378) dL_isTold_371 rfl (fun c => absurd rfl c) (fun c25 => ?_)
      refine q_iconst (v := nI 1) dL_isTold_374 (by decide) ?_
      refine q_goto (tgt := 379) dL_isTold_375 rfl ?_
      refine q_zret (ty := .boolean) dL_isTold_379 rfl rfl (Or.inl rfl) ?_
      exact ⟨_, rfl, q_pX.yes F2 N2 R2 B2 u2 fr C1 S1 yY id⟩
    · refine q_aload_n dL_isTold_380 rfl ?_
      refine q_aload_n dL_isTold_381 rfl ?_
      refine q_aload_n dL_isTold_382 rfl ?_
      refine q_iload_n dL_isTold_383 rfl ?_
      refine q_iconst (v := nI 1) dL_isTold_384 (by decide) ?_
      refine q_iaddN dL_isTold_385 ?_
      refine q_iconst (v := nI 2) dL_isTold_386 (by decide) ?_
      refine q_sR (kc := 4) (ks := 924) (g_L_in (h := h) K hL (i := (i) + (1)) (n := 2) (by omega) (by omega) (by omega)) wL_in kL_149 sL_in (by decide) rfl rfl (Nat.le_of_ble_eq_true rfl) dL_isTold_387 rfl rfl ?_
      intro v9 h9 hq
      obtain ⟨e9, x387, hx387, rfl⟩ := hq
      have e8 := e9.symm
      clear e9
      subst e8
      refine q_if_neN (by omega) (tgt := 399) dL_isTold_390 rfl (fun c27 => ?_) (fun c28 => ?_)
      · refine q_iload dL_isTold_399 rfl ?_
        refine q_sR (kc := 2) (ks := 912) (g_L_isSession (h := h) K hN R B u9 C s hcc (d := x31) (by omega)) wL_isSession kL_172 sL_isSession (by decide) rfl rfl (Nat.le_of_ble_eq_true rfl) dL_isTold_401 rfl rfl ?_
        intro v9 h9 hq
        have hq9 := hq
        obtain ⟨e9, -⟩ := hq9
        subst e9
        refine q_zret (ty := .boolean) dL_isTold_404 rfl rfl (Or.inl rfl) ?_
        exact ⟨_, rfl, hq⟩
      · refine q_aload_n dL_isTold_393 rfl ?_
        refine q_iconst (v := nI 0) dL_isTold_394 (by decide) ?_
        refine q_ialdD (k := 0) hN.1 hN.t hN.l (by omega) (by decide) dL_isTold_395 ?_
        refine q_tv (show _ = (nI (m.t)) from R.t) ?_
        refine q_goto (tgt := 401) dL_isTold_396 rfl ?_
        refine q_sR (kc := 2) (ks := 912) (g_L_isSession (h := h) K hN R B u9 C s hcc (d := m.t) (by omega)) wL_isSession kL_172 sL_isSession (by decide) rfl rfl (Nat.le_of_ble_eq_true rfl) dL_isTold_401 rfl rfl ?_
        intro v9 h9 hq
        have hq9 := hq
        obtain ⟨e9, -⟩ := hq9
        subst e9
        refine q_zret (ty := .boolean) dL_isTold_404 rfl rfl (Or.inl rfl) ?_
        exact ⟨_, rfl, hq⟩
    · refine q_aload_n dL_isTold_405 rfl ?_
      refine q_aload_n dL_isTold_406 rfl ?_
      refine q_iload dL_isTold_407 rfl ?_
      refine q_iload dL_isTold_409 rfl ?_
      refine q_sR (kc := 2) (ks := 912) (g_L_isMoved (h := h) K hN R B u9 C s hcc (x := (nI (x17))) (d := x31) (by omega)) wL_isMoved kL_175 sL_isMoved (by decide) rfl rfl (Nat.le_of_ble_eq_true rfl) dL_isTold_411 rfl rfl ?_
      intro v9 h9 hq
      have hq9 := hq
      obtain ⟨e9, -⟩ := hq9
      subst e9
      refine q_zret (ty := .boolean) dL_isTold_414 rfl rfl (Or.inl rfl) ?_
      exact ⟨_, rfl, hq⟩
    · refine q_aload_n dL_isTold_415 rfl ?_
      refine q_aload_n dL_isTold_416 rfl ?_
      refine q_iload dL_isTold_417 rfl ?_
      refine q_aload_n dL_isTold_419 rfl ?_
      refine q_iload_n dL_isTold_420 rfl ?_
      refine q_iconst (v := nI 2) dL_isTold_421 (by decide) ?_
      refine q_iaddN dL_isTold_422 ?_
      refine q_iconst (v := nI 2) dL_isTold_423 (by decide) ?_
      refine q_sR (kc := 4) (ks := 924) (g_L_in (h := h) K hL (i := (i) + (2)) (n := 2) (by omega) (by omega) (by omega)) wL_in kL_149 sL_in (by decide) rfl rfl (Nat.le_of_ble_eq_true rfl) dL_isTold_424 rfl rfl ?_
      intro v9 h9 hq
      obtain ⟨e9, x424, hx424, rfl⟩ := hq
      have e8 := e9.symm
      clear e9
      subst e8
      refine q_if_neN (by omega) (tgt := 434) dL_isTold_427 rfl (fun c29 => ?_) (fun c30 => ?_)
      · refine q_iconst (v := nI 0) dL_isTold_434 (by decide) ?_
        refine q_sR (kc := 3) (ks := 918) (g_L_isRemoved0 (h := h) K hN R B u9 C s hcc (x := (nI (x17)))) wL_isRemoved kL_178 sL_isRemoved (by decide) rfl rfl (Nat.le_of_ble_eq_true rfl) dL_isTold_435 rfl rfl ?_
        intro v9 h9 hq
        have hq9 := hq
        obtain ⟨e9, -⟩ := hq9
        subst e9
        refine q_zret (ty := .boolean) dL_isTold_438 rfl rfl (Or.inl rfl) ?_
        exact ⟨_, rfl, hq⟩
      · refine q_iconst (v := nI 1) dL_isTold_430 (by decide) ?_
        refine q_goto (tgt := 435) dL_isTold_431 rfl ?_
        refine q_sR (kc := 3) (ks := 918) (g_L_isRemoved1 (h := h) K hN R B u9 C s hcc (x := (nI (x17)))) wL_isRemoved kL_178 sL_isRemoved (by decide) rfl rfl (Nat.le_of_ble_eq_true rfl) dL_isTold_435 rfl rfl ?_
        intro v9 h9 hq
        have hq9 := hq
        obtain ⟨e9, -⟩ := hq9
        subst e9
        refine q_zret (ty := .boolean) dL_isTold_438 rfl rfl (Or.inl rfl) ?_
        exact ⟨_, rfl, hq⟩
    · refine q_aload_n dL_isTold_439 rfl ?_
      refine q_iconst (v := nI 4) dL_isTold_440 (by decide) ?_
      refine q_ialdD (k := 4) hN.1 hN.t hN.l (by omega) (by decide) dL_isTold_441 ?_
      refine q_tv (show _ = (nI (m.pe)) from R.pe) ?_
      refine q_iconst (v := nI 1) dL_isTold_442 (by decide) ?_
      refine q_icmp_neN (by omega) (by omega) (tgt := 453) dL_isTold_443 rfl (fun c31 => ?_) (fun c32 => ?_)
      · refine q_iconst (v := nI 0) dL_isTold_453 (by decide) ?_
        refine q_istore (L' := [_, _, _, _, _, _, _, _]) dL_isTold_454 rfl (by decide) rfl ?_
        refine q_aload_n dL_isTold_456 rfl ?_
        refine q_iconst (v := nI 4) dL_isTold_457 (by decide) ?_
        refine q_iconst (v := nI 1) dL_isTold_458 (by decide) ?_
        refine q_iastD (k := 4) hN.1 hN.t hN.l (by omega) (by decide) dL_isTold_459 ?_
        refine q_aload_n dL_isTold_460 rfl ?_
        refine q_iconst (v := nI 5) dL_isTold_461 (by decide) ?_
        refine q_aload_n dL_isTold_462 rfl ?_
        refine q_iconst (v := nI 0) dL_isTold_463 (by decide) ?_
        refine q_ialdD (k := 0) hN.1 hN.t hN.l (by omega) (by decide) dL_isTold_464 ?_
        refine q_tv (show _ = (nI (m.t)) from (((congrFun (q_sI _ _ _ _) _).trans (va_un _ _ (by omega))).trans R.t)) ?_
        refine q_iastD (k := 5) hN.1 hN.t hN.l (by omega) (by decide) dL_isTold_465 ?_
        refine q_aload_n dL_isTold_466 rfl ?_
        refine q_bipush (v := nI 6) dL_isTold_467 (by decide) ?_
        refine q_iconst (v := nI 0) dL_isTold_469 (by decide) ?_
        refine q_iastD (k := 6) hN.1 hN.t hN.l (by omega) (by decide) dL_isTold_470 ?_
        refine q_aload_n dL_isTold_471 rfl ?_
        refine q_sipush (v := nI 899) dL_isTold_472 (by decide) ?_
        refine q_iconst (v := nI 1) dL_isTold_475 (by decide) ?_
        refine q_iastD (k := 899) hN.1 hN.t hN.l (by omega) (by decide) dL_isTold_476 ?_
        have F2 : q_lf h ((((h.setI a (4) (nI (1))).setI a (5) (nI (m.t))).setI a (6) (nI (0))).setI a (899) (nI (1))) a := ((((q_lf.rf.set).set).set).set)
        have RB : (q_nr ((((((h.setI a (4) (nI (1))).setI a (5) (nI (m.t))).setI a (6) (nI (0))).setI a (899) (nI (1)))).I a) (m.sP 1 m.t 0 m.tg) ρ ∧ q_bd (m.sP 1 m.t 0 m.tg)) := by rw [q_sI, q_sI, q_sI, q_sI]; exact q_nPlan R B
        have u2 : (((((h.setI a (4) (nI (1))).setI a (5) (nI (m.t))).setI a (6) (nI (0))).setI a (899) (nI (1)))).I a 899 = nI 1 := by rw [q_sI]; exact va_us _ _ _
        have C2 : q_clX ((((h.setI a (4) (nI (1))).setI a (5) (nI (m.t))).setI a (6) (nI (0))).setI a (899) (nI (1))) W O := ((((C.setD ha2).setD ha2).setD ha2).setD ha2)
        have K2 : q_Lk Φ (((((h.setI a (4) (nI (1))).setI a (5) (nI (m.t))).setI a (6) (nI (0))).setI a (899) (nI (1)))).R (((((h.setI a (4) (nI (1))).setI a (5) (nI (m.t))).setI a (6) (nI (0))).setI a (899) (nI (1)))).n := K
        have N2 : q_n9 ((((h.setI a (4) (nI (1))).setI a (5) (nI (m.t))).setI a (6) (nI (0))).setI a (899) (nI (1))) a := hN
        obtain ⟨h2, e2⟩ : ∃ hh, hh = ((((h.setI a (4) (nI (1))).setI a (5) (nI (m.t))).setI a (6) (nI (0))).setI a (899) (nI (1))) := ⟨_, rfl⟩
        rw [← e2] at F2 RB u2 C2 K2 N2  ⊢
        obtain ⟨R2, B2⟩ := RB
        refine q_aload_n dL_isTold_477 rfl ?_
        refine q_vR (kc := 4) (ks := 924) (g_X9_startPlan (h := h2) K2 C2) wX9_startPlan kL_182 iX9_startPlan eX9_startPlan rfl rfl (by decide) (K2.le (by decide)) (by decide) rfl rfl (Nat.le_of_ble_eq_true rfl) dL_isTold_478 rfl rfl ?_
        intro v9 h9 hq
        obtain ⟨ev9, fr, W1, O1, C1, S1, Y, yY, rfl⟩ := j_startPlan C2 B s a0 b0 k0 dd (by omega) hq
        subst ev9
        refine q_tv (show _ = nI 0 from if_neg (by omega)) ?_
        refine q_iload dL_isTold_481 rfl ?_
        refine q_icmp_ne (tgt := 490) dL_isTold_483 rfl (fun c => absurd (by decide) c) (fun _ => ?_)
        refine q_iconst (v := nI 1) dL_isTold_486 (by decide) ?_
        refine q_goto (tgt := 491) dL_isTold_487 rfl ?_
        refine q_zret (ty := .boolean) dL_isTold_491 rfl rfl (Or.inl rfl) ?_
        exact ⟨_, rfl, q_pX.yes F2 N2 R2 B2 u2 fr C1 S1 yY id⟩
      · refine q_aload_n dL_isTold_446 rfl ?_
        refine q_bipush (v := nI 6) dL_isTold_447 (by decide) ?_
        refine q_ialdD (k := 6) hN.1 hN.t hN.l (by omega) (by decide) dL_isTold_449 ?_
        refine q_tv (show _ = (nI (m.pc)) from R.pc) ?_
        refine q_goto (tgt := 454) dL_isTold_450 rfl ?_
        refine q_istore (L' := [_, _, _, _, _, _, _, _]) dL_isTold_454 rfl (by decide) rfl ?_
        refine q_aload_n dL_isTold_456 rfl ?_
        refine q_iconst (v := nI 4) dL_isTold_457 (by decide) ?_
        refine q_iconst (v := nI 1) dL_isTold_458 (by decide) ?_
        refine q_iastD (k := 4) hN.1 hN.t hN.l (by omega) (by decide) dL_isTold_459 ?_
        refine q_aload_n dL_isTold_460 rfl ?_
        refine q_iconst (v := nI 5) dL_isTold_461 (by decide) ?_
        refine q_aload_n dL_isTold_462 rfl ?_
        refine q_iconst (v := nI 0) dL_isTold_463 (by decide) ?_
        refine q_ialdD (k := 0) hN.1 hN.t hN.l (by omega) (by decide) dL_isTold_464 ?_
        refine q_tv (show _ = (nI (m.t)) from (((congrFun (q_sI _ _ _ _) _).trans (va_un _ _ (by omega))).trans R.t)) ?_
        refine q_iastD (k := 5) hN.1 hN.t hN.l (by omega) (by decide) dL_isTold_465 ?_
        refine q_aload_n dL_isTold_466 rfl ?_
        refine q_bipush (v := nI 6) dL_isTold_467 (by decide) ?_
        refine q_iconst (v := nI 0) dL_isTold_469 (by decide) ?_
        refine q_iastD (k := 6) hN.1 hN.t hN.l (by omega) (by decide) dL_isTold_470 ?_
        refine q_aload_n dL_isTold_471 rfl ?_
        refine q_sipush (v := nI 899) dL_isTold_472 (by decide) ?_
        refine q_iconst (v := nI 1) dL_isTold_475 (by decide) ?_
        refine q_iastD (k := 899) hN.1 hN.t hN.l (by omega) (by decide) dL_isTold_476 ?_
        have F2 : q_lf h ((((h.setI a (4) (nI (1))).setI a (5) (nI (m.t))).setI a (6) (nI (0))).setI a (899) (nI (1))) a := ((((q_lf.rf.set).set).set).set)
        have RB : (q_nr ((((((h.setI a (4) (nI (1))).setI a (5) (nI (m.t))).setI a (6) (nI (0))).setI a (899) (nI (1)))).I a) (m.sP 1 m.t 0 m.tg) ρ ∧ q_bd (m.sP 1 m.t 0 m.tg)) := by rw [q_sI, q_sI, q_sI, q_sI]; exact q_nPlan R B
        have u2 : (((((h.setI a (4) (nI (1))).setI a (5) (nI (m.t))).setI a (6) (nI (0))).setI a (899) (nI (1)))).I a 899 = nI 1 := by rw [q_sI]; exact va_us _ _ _
        have C2 : q_clX ((((h.setI a (4) (nI (1))).setI a (5) (nI (m.t))).setI a (6) (nI (0))).setI a (899) (nI (1))) W O := ((((C.setD ha2).setD ha2).setD ha2).setD ha2)
        have K2 : q_Lk Φ (((((h.setI a (4) (nI (1))).setI a (5) (nI (m.t))).setI a (6) (nI (0))).setI a (899) (nI (1)))).R (((((h.setI a (4) (nI (1))).setI a (5) (nI (m.t))).setI a (6) (nI (0))).setI a (899) (nI (1)))).n := K
        have N2 : q_n9 ((((h.setI a (4) (nI (1))).setI a (5) (nI (m.t))).setI a (6) (nI (0))).setI a (899) (nI (1))) a := hN
        obtain ⟨h2, e2⟩ : ∃ hh, hh = ((((h.setI a (4) (nI (1))).setI a (5) (nI (m.t))).setI a (6) (nI (0))).setI a (899) (nI (1))) := ⟨_, rfl⟩
        rw [← e2] at F2 RB u2 C2 K2 N2  ⊢
        obtain ⟨R2, B2⟩ := RB
        refine q_aload_n dL_isTold_477 rfl ?_
        refine q_vR (kc := 4) (ks := 924) (g_X9_startPlan (h := h2) K2 C2) wX9_startPlan kL_182 iX9_startPlan eX9_startPlan rfl rfl (by decide) (K2.le (by decide)) (by decide) rfl rfl (Nat.le_of_ble_eq_true rfl) dL_isTold_478 rfl rfl ?_
        intro v9 h9 hq
        obtain ⟨ev9, fr, W1, O1, C1, S1, Y, yY, rfl⟩ := j_startPlan C2 B s a0 b0 k0 dd (by omega) hq
        subst ev9
        refine q_tv (show _ = nI m.pc from if_pos (by omega)) ?_
        refine q_iload dL_isTold_481 rfl ?_
        refine q_icmp_neN (by omega) (by omega) (tgt := 490) dL_isTold_483 rfl (fun c => absurd rfl c) (fun c35 => ?_)
        refine q_iconst (v := nI 1) dL_isTold_486 (by decide) ?_
        refine q_goto (tgt := 491) dL_isTold_487 rfl ?_
        refine q_zret (ty := .boolean) dL_isTold_491 rfl rfl (Or.inl rfl) ?_
        exact ⟨_, rfl, q_pX.yes F2 N2 R2 B2 u2 fr C1 S1 yY id⟩
    · refine q_aload_n dL_isTold_492 rfl ?_
      refine q_aload_n dL_isTold_493 rfl ?_
      refine q_aload_n dL_isTold_494 rfl ?_
      refine q_iload_n dL_isTold_495 rfl ?_
      refine q_iconst (v := nI 1) dL_isTold_496 (by decide) ?_
      refine q_iaddN dL_isTold_497 ?_
      refine q_iconst (v := nI 3) dL_isTold_498 (by decide) ?_
      refine q_sR (kc := 4) (ks := 924) (g_L_in (h := h) K hL (i := (i) + (1)) (n := 3) (by omega) (by omega) (by omega)) wL_in kL_149 sL_in (by decide) rfl rfl (Nat.le_of_ble_eq_true rfl) dL_isTold_499 rfl rfl ?_
      intro v9 h9 hq
      obtain ⟨e9, x499, hx499, rfl⟩ := hq
      have e8 := e9.symm
      clear e9
      subst e8
      refine q_if_neN (by omega) (tgt := 518) dL_isTold_502 rfl (fun c37 => ?_) (fun c38 => ?_)
      · refine q_aload_n dL_isTold_518 rfl ?_
        refine q_iload_n dL_isTold_519 rfl ?_
        refine q_iconst (v := nI 2) dL_isTold_520 (by decide) ?_
        refine q_iaddN dL_isTold_521 ?_
        refine q_sipush (v := nI 900) dL_isTold_522 (by decide) ?_
        refine q_sR (kc := 4) (ks := 924) (g_L_in (h := h) K hL (i := (i) + (2)) (n := 900) (by omega) (by omega) (by omega)) wL_in kL_149 sL_in (by decide) rfl rfl (Nat.le_of_ble_eq_true rfl) dL_isTold_525 rfl rfl ?_
        intro v9 h9 hq
        obtain ⟨e9, x525, hx525, rfl⟩ := hq
        have e8 := e9.symm
        clear e9
        subst e8
        refine q_sR (kc := 2) (ks := 912) (g_L_isTarget (h := h) K hN R B u9 C s hcc (x := x525) (by omega)) wL_isTarget kL_185 sL_isTarget (by decide) rfl rfl (Nat.le_of_ble_eq_true rfl) dL_isTold_528 rfl rfl ?_
        intro v9 h9 hq
        have hq9 := hq
        obtain ⟨e9, -⟩ := hq9
        subst e9
        refine q_zret (ty := .boolean) dL_isTold_531 rfl rfl (Or.inl rfl) ?_
        exact ⟨_, rfl, hq⟩
      · refine q_aload_n dL_isTold_505 rfl ?_
        refine q_iload_n dL_isTold_506 rfl ?_
        refine q_iconst (v := nI 2) dL_isTold_507 (by decide) ?_
        refine q_iaddN dL_isTold_508 ?_
        refine q_sipush (v := nI 20001) dL_isTold_509 (by decide) ?_
        refine q_sR (kc := 4) (ks := 924) (g_L_in (h := h) K hL (i := (i) + (2)) (n := 20001) (by omega) (by omega) (by omega)) wL_in kL_149 sL_in (by decide) rfl rfl (Nat.le_of_ble_eq_true rfl) dL_isTold_512 rfl rfl ?_
        intro v9 h9 hq
        obtain ⟨e9, x512, hx512, rfl⟩ := hq
        have e8 := e9.symm
        clear e9
        subst e8
        refine q_goto (tgt := 528) dL_isTold_515 rfl ?_
        refine q_sR (kc := 2) (ks := 912) (g_L_isTarget (h := h) K hN R B u9 C s hcc (x := x512) (by omega)) wL_isTarget kL_185 sL_isTarget (by decide) rfl rfl (Nat.le_of_ble_eq_true rfl) dL_isTold_528 rfl rfl ?_
        intro v9 h9 hq
        have hq9 := hq
        obtain ⟨e9, -⟩ := hq9
        subst e9
        refine q_zret (ty := .boolean) dL_isTold_531 rfl rfl (Or.inl rfl) ?_
        exact ⟨_, rfl, hq⟩
    · refine q_aload_n dL_isTold_532 rfl ?_
      refine q_aload_n dL_isTold_533 rfl ?_
      refine q_iload dL_isTold_534 rfl ?_
      refine q_iconst (v := nI 1) dL_isTold_536 (by decide) ?_
      refine q_aload_n dL_isTold_537 rfl ?_
      refine q_iload_n dL_isTold_538 rfl ?_
      refine q_iconst (v := nI 2) dL_isTold_539 (by decide) ?_
      refine q_iaddN dL_isTold_540 ?_
      refine q_bipush (v := nI 120) dL_isTold_541 (by decide) ?_
      refine q_sR (kc := 4) (ks := 924) (g_L_in (h := h) K hL (i := (i) + (2)) (n := 120) (by omega) (by omega) (by omega)) wL_in kL_149 sL_in (by decide) rfl rfl (Nat.le_of_ble_eq_true rfl) dL_isTold_543 rfl rfl ?_
      intro v9 h9 hq
      obtain ⟨e9, x543, hx543, rfl⟩ := hq
      have e8 := e9.symm
      clear e9
      subst e8
      refine q_iaddN dL_isTold_546 ?_
      refine q_aload_n dL_isTold_547 rfl ?_
      refine q_iload_n dL_isTold_548 rfl ?_
      refine q_iconst (v := nI 3) dL_isTold_549 (by decide) ?_
      refine q_iaddN dL_isTold_550 ?_
      refine q_sipush (v := nI 420) dL_isTold_551 (by decide) ?_
      refine q_sR (kc := 4) (ks := 924) (g_L_in (h := h) K hL (i := (i) + (3)) (n := 420) (by omega) (by omega) (by omega)) wL_in kL_149 sL_in (by decide) rfl rfl (Nat.le_of_ble_eq_true rfl) dL_isTold_554 rfl rfl ?_
      intro v9 h9 hq
      obtain ⟨e9, x554, hx554, rfl⟩ := hq
      have e8 := e9.symm
      clear e9
      subst e8
      refine q_sR (kc := 0) (ks := 900) (g_L_isPart (h := h) K hN R B u9 C s hcc (x := (nI (x17))) (i := 1 + x543) (y := x554) (by omega) (by omega) (by omega)) wL_isPart kL_188 sL_isPart (by decide) rfl rfl (Nat.le_of_ble_eq_true rfl) dL_isTold_557 rfl rfl ?_
      intro v9 h9 hq
      have hq9 := hq
      obtain ⟨e9, -⟩ := hq9
      subst e9
      refine q_zret (ty := .boolean) dL_isTold_560 rfl rfl (Or.inl rfl) ?_
      exact ⟨_, rfl, hq⟩
  · refine q_iconst (v := nI 0) dL_isTold_6 (by decide) ?_
    refine q_goto (tgt := 20) dL_isTold_7 rfl ?_
    refine q_istore (L' := [_, _, _, _, _, _, _, _]) dL_isTold_20 rfl (by decide) rfl ?_
    refine q_aload_n dL_isTold_22 rfl ?_
    refine q_iload_n dL_isTold_23 rfl ?_
    refine q_iconst (v := nI 2) dL_isTold_24 (by decide) ?_
    refine q_iaddN dL_isTold_25 ?_
    refine q_aload_n dL_isTold_26 rfl ?_
    refine q_iconst (v := nI 0) dL_isTold_27 (by decide) ?_
    refine q_ialdD (k := 0) hN.1 hN.t hN.l (by omega) (by decide) dL_isTold_28 ?_
    refine q_tv (show _ = (nI (m.t)) from R.t) ?_
    refine q_iconst (v := nI 1) dL_isTold_29 (by decide) ?_
    refine q_iaddN dL_isTold_30 ?_
    refine q_sR (kc := 4) (ks := 924) (g_L_in (h := h) K hL (i := (i) + (2)) (n := (m.t) + (1)) (by omega) (by omega) (by omega)) wL_in kL_149 sL_in (by decide) rfl rfl (Nat.le_of_ble_eq_true rfl) dL_isTold_31 rfl rfl ?_
    intro v9 h9 hq
    obtain ⟨e9, x31, hx31, rfl⟩ := hq
    have e8 := e9.symm
    clear e9
    subst e8
    refine q_istore (L' := [_, _, _, _, _, _, _, _]) dL_isTold_34 rfl (by decide) rfl ?_
    refine q_aload_n dL_isTold_36 rfl ?_
    refine q_iload_n dL_isTold_37 rfl ?_
    refine q_bipush (v := nI 20) dL_isTold_38 (by decide) ?_
    refine q_sR (kc := 4) (ks := 924) (g_L_in (h := h) K hL (i := i) (n := 20) (by omega) (by omega) (by omega)) wL_in kL_149 sL_in (by decide) rfl rfl (Nat.le_of_ble_eq_true rfl) dL_isTold_40 rfl rfl ?_
    intro v9 h9 hq
    obtain ⟨e9, x40, hx40, rfl⟩ := hq
    have e8 := e9.symm
    clear e9
    subst e8
    refine q_told hx40 ?_ ?_ ?_ ?_ ?_ ?_ ?_ ?_ ?_ ?_ ?_
    · refine q_iconst (v := nI 1) dL_isTold_120 (by decide) ?_
      refine q_aload_n dL_isTold_121 rfl ?_
      refine q_iload_n dL_isTold_122 rfl ?_
      refine q_iconst (v := nI 1) dL_isTold_123 (by decide) ?_
      refine q_iaddN dL_isTold_124 ?_
      refine q_aload_n dL_isTold_125 rfl ?_
      refine q_iload_n dL_isTold_126 rfl ?_
      refine q_iconst (v := nI 2) dL_isTold_127 (by decide) ?_
      refine q_iaddN dL_isTold_128 ?_
      refine q_iconst (v := nI 5) dL_isTold_129 (by decide) ?_
      refine q_sR (kc := 4) (ks := 924) (g_L_in (h := h) K hL (i := (i) + (2)) (n := 5) (by omega) (by omega) (by omega)) wL_in kL_149 sL_in (by decide) rfl rfl (Nat.le_of_ble_eq_true rfl) dL_isTold_130 rfl rfl ?_
      intro v9 h9 hq
      obtain ⟨e9, x130, hx130, rfl⟩ := hq
      have e8 := e9.symm
      clear e9
      subst e8
      refine q_if_neN (by omega) (tgt := 141) dL_isTold_133 rfl (fun c39 => ?_) (fun c40 => ?_)
      · refine q_iconst (v := nI 4) dL_isTold_141 (by decide) ?_
        refine q_sR (kc := 4) (ks := 924) (g_L_in (h := h) K hL (i := (i) + (1)) (n := 4) (by omega) (by omega) (by omega)) wL_in kL_149 sL_in (by decide) rfl rfl (Nat.le_of_ble_eq_true rfl) dL_isTold_142 rfl rfl ?_
        intro v9 h9 hq
        obtain ⟨e9, x142, hx142, rfl⟩ := hq
        have e8 := e9.symm
        clear e9
        subst e8
        refine q_iaddN dL_isTold_145 ?_
        refine q_istore (L' := [_, _, _, _, _, _, _, _]) dL_isTold_146 rfl (by decide) rfl ?_
        refine q_aload_n dL_isTold_148 rfl ?_
        refine q_iconst (v := nI 0) dL_isTold_149 (by decide) ?_
        refine q_ialdD (k := 0) hN.1 hN.t hN.l (by omega) (by decide) dL_isTold_150 ?_
        refine q_tv (show _ = (nI (m.t)) from R.t) ?_
        refine q_iload dL_isTold_151 rfl ?_
        refine q_iaddN dL_isTold_153 ?_
        refine q_sipush (v := nI 199) dL_isTold_154 (by decide) ?_
        refine q_icmp_leN (by omega) (by omega) (tgt := 177) dL_isTold_157 rfl (fun c41 => ?_) (fun c42 => ?_)
        · refine q_aload_n dL_isTold_177 rfl ?_
          refine q_iconst (v := nI 0) dL_isTold_178 (by decide) ?_
          refine q_dup2 dL_isTold_179 rfl rfl ?_
          refine q_ialdD (k := 0) hN.1 hN.t hN.l (by omega) (by decide) dL_isTold_180 ?_
          refine q_tv (show _ = (nI (m.t)) from R.t) ?_
          refine q_iload dL_isTold_181 rfl ?_
          refine q_iaddN dL_isTold_183 ?_
          refine q_iastD (k := 0) hN.1 hN.t hN.l (by omega) (by decide) dL_isTold_184 ?_
          refine q_aload_n dL_isTold_185 rfl ?_
          refine q_sipush (v := nI 899) dL_isTold_186 (by decide) ?_
          refine q_iconst (v := nI 1) dL_isTold_189 (by decide) ?_
          refine q_iastD (k := 899) hN.1 hN.t hN.l (by omega) (by decide) dL_isTold_190 ?_
          have F2 : q_lf h ((h.setI a (0) (nI ((m.t) + ((1) + (x142))))).setI a (899) (nI (1))) a := ((q_lf.rf.set).set)
          have RB : (q_nr ((((h.setI a (0) (nI ((m.t) + ((1) + (x142))))).setI a (899) (nI (1)))).I a) (m.sA (m.t + (1 + x142))) ρ ∧ q_bd (m.sA (m.t + (1 + x142)))) := by rw [q_sI, q_sI]; exact q_nPass R B (by omega)
          have u2 : (((h.setI a (0) (nI ((m.t) + ((1) + (x142))))).setI a (899) (nI (1)))).I a 899 = nI 1 := by rw [q_sI]; exact va_us _ _ _
          have C2 : q_clX ((h.setI a (0) (nI ((m.t) + ((1) + (x142))))).setI a (899) (nI (1))) W O := ((C.setD ha2).setD ha2)
          have K2 : q_Lk Φ (((h.setI a (0) (nI ((m.t) + ((1) + (x142))))).setI a (899) (nI (1)))).R (((h.setI a (0) (nI ((m.t) + ((1) + (x142))))).setI a (899) (nI (1)))).n := K
          have N2 : q_n9 ((h.setI a (0) (nI ((m.t) + ((1) + (x142))))).setI a (899) (nI (1))) a := hN
          obtain ⟨h2, e2⟩ : ∃ hh, hh = ((h.setI a (0) (nI ((m.t) + ((1) + (x142))))).setI a (899) (nI (1))) := ⟨_, rfl⟩
          rw [← e2] at F2 RB u2 C2 K2 N2  ⊢
          obtain ⟨R2, B2⟩ := RB
          refine q_aload_n dL_isTold_191 rfl ?_
          refine q_iload dL_isTold_192 rfl ?_
          refine q_callH (kc := 2) (ks := 912) (g_L_pass (h := h2) K2 C2  (x := (nI ((1) + (x142))))) wL_pass kL_152 sL_pass (by decide) rfl rfl (Nat.le_of_ble_eq_true rfl) dL_isTold_194 rfl rfl (fun E h9 q9 => (by obtain ⟨_, q9, _⟩ := q9; exact nomatch q9)) ?_
          intro v9 h9 hq
          obtain ⟨x9, ex9, hj9⟩ := j_pass C2 B s a0 b0 k0 dd (by omega) hq
          clear hq
          cases ex9
          rcases hj9 with ⟨d1, ex8, rd⟩ | ⟨y1, d2, ex8, rd⟩ | ⟨y1, y2, hp⟩
          · exact absurd d1 ((q_rin (by omega) (by omega) (by decide)))
          · exact absurd d2 ((by rw [nI_add, nI_ltI (by omega) (by omega)]; omega))
          rw [nI_clamp (by omega)] at hp
          obtain ⟨ev9, fr, W1, O1, C1, S1, Y, yY, rfl⟩ := hp
          cases ev9
          have R9 : q_nr (h9.I a) (m.sA (m.t + (1 + x142))) ρ := by rw [fr.1 a (by omega)]; exact R2
          have N9 : q_n9 h9 a := N2.fr fr.2.2.1
          refine q_aload_n dL_isTold_197 rfl ?_
          refine q_iconst (v := nI 0) dL_isTold_198 (by decide) ?_
          refine q_ialdD (k := 0) N9.1 N9.t N9.l (by omega) (by decide) dL_isTold_199 ?_
          refine q_tv (show _ = (nI (m.t + (1 + x142))) from R9.t) ?_
          refine q_icmp_neN (by omega) (by omega) (tgt := 217) dL_isTold_200 rfl (fun c => absurd rfl c) (fun c43 => ?_)
          refine q_aload_n dL_isTold_203 rfl ?_
          have K9 : q_Lk Φ h9.R h9.n := (q_lf.fr (a := a) fr).Lk K2
          refine q_vR (kc := 2) (ks := 912) (g_X9_today (h := h9) K9 C1) wX9_today kL_155 iX9_today eX9_today rfl rfl (by decide) (K9.le (by decide)) (by decide) rfl rfl (Nat.le_of_ble_eq_true rfl) dL_isTold_204 rfl rfl ?_
          intro v8 h10 hq
          obtain ⟨⟨N1, hN1, a1, ⟨τ1, b1⟩, k1⟩, dd1⟩ := id S1
          obtain ⟨ev10, rd⟩ := j_today C1 B2 S1 a1 b1 k1 dd1 (by omega) hq
          subst ev10
          have R10 : q_nr (h10.I a) (m.sA (m.t + (1 + x142))) ρ := by rw [rd.2.1 a (by omega)]; exact R9
          have N10 : q_n9 h10 a := N9.fr rd.2.2.2.1
          refine q_tv (show _ = (nI (m.t + (1 + x142))) from rfl) ?_
          refine q_aload_n dL_isTold_207 rfl ?_
          refine q_iconst (v := nI 0) dL_isTold_208 (by decide) ?_
          refine q_ialdD (k := 0) N10.1 N10.t N10.l (by omega) (by decide) dL_isTold_209 ?_
          refine q_tv (show _ = (nI (m.t + (1 + x142))) from R10.t) ?_
          refine q_icmp_neN (by omega) (by omega) (tgt := 217) dL_isTold_210 rfl (fun c => absurd rfl c) (fun c45 => ?_)
          refine q_iconst (v := nI 1) dL_isTold_213 (by decide) ?_
          refine q_goto (tgt := 218) dL_isTold_214 rfl ?_
          refine q_zret (ty := .boolean) dL_isTold_218 rfl rfl (Or.inl rfl) ?_
          exact ⟨_, rfl, q_pX.yes F2 N2 R2 B2 u2 (fr.tr rd.2) rd.1 S1 yY id⟩
        · refine q_aload_n dL_isTold_160 rfl ?_
          refine q_iload dL_isTold_161 rfl ?_
          refine q_callH (kc := 2) (ks := 912) (g_L_pass (h := h) K C  (x := (nI ((1) + (x142))))) wL_pass kL_152 sL_pass (by decide) rfl rfl (Nat.le_of_ble_eq_true rfl) dL_isTold_163 rfl rfl (fun E h9 q9 => (by obtain ⟨_, q9, _⟩ := q9; exact nomatch q9)) ?_
          intro v9 h9 hq
          obtain ⟨x9, ex9, hj9⟩ := j_pass C B s a0 b0 k0 dd (by omega) hq
          clear hq
          cases ex9
          rcases hj9 with ⟨d1, ex8, rd⟩ | ⟨y1, d2, ex8, rd⟩ | ⟨y1, y2, hp⟩
          · exact absurd d1 ((q_rin (by omega) (by omega) (by decide)))
          rotate_left
          · exact absurd ((by rw [nI_add]; exact (nI_ltI (by omega) (by omega)).mpr (by omega))) y2
          subst ex8
          refine q_ldc dL_isTold_166 kcL_20 ?_
          refine q_icmp_ne (tgt := 175) dL_isTold_168 rfl (fun c => absurd (by decide) c) (fun _ => ?_)
          refine q_iconst (v := nI 1) dL_isTold_171 (by decide) ?_
          refine q_goto (tgt := 176) dL_isTold_172 rfl ?_
          refine q_zret (ty := .boolean) dL_isTold_176 rfl rfl (Or.inl rfl) ?_
          exact ⟨_, rfl, q_pX.no hN R B u9 s rd⟩
      · refine q_bipush (v := nI 30) dL_isTold_136 (by decide) ?_
        refine q_goto (tgt := 142) dL_isTold_138 rfl ?_
        refine q_sR (kc := 4) (ks := 924) (g_L_in (h := h) K hL (i := (i) + (1)) (n := 30) (by omega) (by omega) (by omega)) wL_in kL_149 sL_in (by decide) rfl rfl (Nat.le_of_ble_eq_true rfl) dL_isTold_142 rfl rfl ?_
        intro v9 h9 hq
        obtain ⟨e9, x142, hx142, rfl⟩ := hq
        have e8 := e9.symm
        clear e9
        subst e8
        refine q_iaddN dL_isTold_145 ?_
        refine q_istore (L' := [_, _, _, _, _, _, _, _]) dL_isTold_146 rfl (by decide) rfl ?_
        refine q_aload_n dL_isTold_148 rfl ?_
        refine q_iconst (v := nI 0) dL_isTold_149 (by decide) ?_
        refine q_ialdD (k := 0) hN.1 hN.t hN.l (by omega) (by decide) dL_isTold_150 ?_
        refine q_tv (show _ = (nI (m.t)) from R.t) ?_
        refine q_iload dL_isTold_151 rfl ?_
        refine q_iaddN dL_isTold_153 ?_
        refine q_sipush (v := nI 199) dL_isTold_154 (by decide) ?_
        refine q_icmp_leN (by omega) (by omega) (tgt := 177) dL_isTold_157 rfl (fun c49 => ?_) (fun c50 => ?_)
        · refine q_aload_n dL_isTold_177 rfl ?_
          refine q_iconst (v := nI 0) dL_isTold_178 (by decide) ?_
          refine q_dup2 dL_isTold_179 rfl rfl ?_
          refine q_ialdD (k := 0) hN.1 hN.t hN.l (by omega) (by decide) dL_isTold_180 ?_
          refine q_tv (show _ = (nI (m.t)) from R.t) ?_
          refine q_iload dL_isTold_181 rfl ?_
          refine q_iaddN dL_isTold_183 ?_
          refine q_iastD (k := 0) hN.1 hN.t hN.l (by omega) (by decide) dL_isTold_184 ?_
          refine q_aload_n dL_isTold_185 rfl ?_
          refine q_sipush (v := nI 899) dL_isTold_186 (by decide) ?_
          refine q_iconst (v := nI 1) dL_isTold_189 (by decide) ?_
          refine q_iastD (k := 899) hN.1 hN.t hN.l (by omega) (by decide) dL_isTold_190 ?_
          have F2 : q_lf h ((h.setI a (0) (nI ((m.t) + ((1) + (x142))))).setI a (899) (nI (1))) a := ((q_lf.rf.set).set)
          have RB : (q_nr ((((h.setI a (0) (nI ((m.t) + ((1) + (x142))))).setI a (899) (nI (1)))).I a) (m.sA (m.t + (1 + x142))) ρ ∧ q_bd (m.sA (m.t + (1 + x142)))) := by rw [q_sI, q_sI]; exact q_nPass R B (by omega)
          have u2 : (((h.setI a (0) (nI ((m.t) + ((1) + (x142))))).setI a (899) (nI (1)))).I a 899 = nI 1 := by rw [q_sI]; exact va_us _ _ _
          have C2 : q_clX ((h.setI a (0) (nI ((m.t) + ((1) + (x142))))).setI a (899) (nI (1))) W O := ((C.setD ha2).setD ha2)
          have K2 : q_Lk Φ (((h.setI a (0) (nI ((m.t) + ((1) + (x142))))).setI a (899) (nI (1)))).R (((h.setI a (0) (nI ((m.t) + ((1) + (x142))))).setI a (899) (nI (1)))).n := K
          have N2 : q_n9 ((h.setI a (0) (nI ((m.t) + ((1) + (x142))))).setI a (899) (nI (1))) a := hN
          obtain ⟨h2, e2⟩ : ∃ hh, hh = ((h.setI a (0) (nI ((m.t) + ((1) + (x142))))).setI a (899) (nI (1))) := ⟨_, rfl⟩
          rw [← e2] at F2 RB u2 C2 K2 N2  ⊢
          obtain ⟨R2, B2⟩ := RB
          refine q_aload_n dL_isTold_191 rfl ?_
          refine q_iload dL_isTold_192 rfl ?_
          refine q_callH (kc := 2) (ks := 912) (g_L_pass (h := h2) K2 C2  (x := (nI ((1) + (x142))))) wL_pass kL_152 sL_pass (by decide) rfl rfl (Nat.le_of_ble_eq_true rfl) dL_isTold_194 rfl rfl (fun E h9 q9 => (by obtain ⟨_, q9, _⟩ := q9; exact nomatch q9)) ?_
          intro v9 h9 hq
          obtain ⟨x9, ex9, hj9⟩ := j_pass C2 B s a0 b0 k0 dd (by omega) hq
          clear hq
          cases ex9
          rcases hj9 with ⟨d1, ex8, rd⟩ | ⟨y1, d2, ex8, rd⟩ | ⟨y1, y2, hp⟩
          · exact absurd d1 ((q_rin (by omega) (by omega) (by decide)))
          · exact absurd d2 ((by rw [nI_add, nI_ltI (by omega) (by omega)]; omega))
          rw [nI_clamp (by omega)] at hp
          obtain ⟨ev9, fr, W1, O1, C1, S1, Y, yY, rfl⟩ := hp
          cases ev9
          have R9 : q_nr (h9.I a) (m.sA (m.t + (1 + x142))) ρ := by rw [fr.1 a (by omega)]; exact R2
          have N9 : q_n9 h9 a := N2.fr fr.2.2.1
          refine q_aload_n dL_isTold_197 rfl ?_
          refine q_iconst (v := nI 0) dL_isTold_198 (by decide) ?_
          refine q_ialdD (k := 0) N9.1 N9.t N9.l (by omega) (by decide) dL_isTold_199 ?_
          refine q_tv (show _ = (nI (m.t + (1 + x142))) from R9.t) ?_
          refine q_icmp_neN (by omega) (by omega) (tgt := 217) dL_isTold_200 rfl (fun c => absurd rfl c) (fun c51 => ?_)
          refine q_aload_n dL_isTold_203 rfl ?_
          have K9 : q_Lk Φ h9.R h9.n := (q_lf.fr (a := a) fr).Lk K2
          refine q_vR (kc := 2) (ks := 912) (g_X9_today (h := h9) K9 C1) wX9_today kL_155 iX9_today eX9_today rfl rfl (by decide) (K9.le (by decide)) (by decide) rfl rfl (Nat.le_of_ble_eq_true rfl) dL_isTold_204 rfl rfl ?_
          intro v8 h10 hq
          obtain ⟨⟨N1, hN1, a1, ⟨τ1, b1⟩, k1⟩, dd1⟩ := id S1
          obtain ⟨ev10, rd⟩ := j_today C1 B2 S1 a1 b1 k1 dd1 (by omega) hq
          subst ev10
          have R10 : q_nr (h10.I a) (m.sA (m.t + (1 + x142))) ρ := by rw [rd.2.1 a (by omega)]; exact R9
          have N10 : q_n9 h10 a := N9.fr rd.2.2.2.1
          refine q_tv (show _ = (nI (m.t + (1 + x142))) from rfl) ?_
          refine q_aload_n dL_isTold_207 rfl ?_
          refine q_iconst (v := nI 0) dL_isTold_208 (by decide) ?_
          refine q_ialdD (k := 0) N10.1 N10.t N10.l (by omega) (by decide) dL_isTold_209 ?_
          refine q_tv (show _ = (nI (m.t + (1 + x142))) from R10.t) ?_
          refine q_icmp_neN (by omega) (by omega) (tgt := 217) dL_isTold_210 rfl (fun c => absurd rfl c) (fun c53 => ?_)
          refine q_iconst (v := nI 1) dL_isTold_213 (by decide) ?_
          refine q_goto (tgt := 218) dL_isTold_214 rfl ?_
          refine q_zret (ty := .boolean) dL_isTold_218 rfl rfl (Or.inl rfl) ?_
          exact ⟨_, rfl, q_pX.yes F2 N2 R2 B2 u2 (fr.tr rd.2) rd.1 S1 yY id⟩
        · refine q_aload_n dL_isTold_160 rfl ?_
          refine q_iload dL_isTold_161 rfl ?_
          refine q_callH (kc := 2) (ks := 912) (g_L_pass (h := h) K C  (x := (nI ((1) + (x142))))) wL_pass kL_152 sL_pass (by decide) rfl rfl (Nat.le_of_ble_eq_true rfl) dL_isTold_163 rfl rfl (fun E h9 q9 => (by obtain ⟨_, q9, _⟩ := q9; exact nomatch q9)) ?_
          intro v9 h9 hq
          obtain ⟨x9, ex9, hj9⟩ := j_pass C B s a0 b0 k0 dd (by omega) hq
          clear hq
          cases ex9
          rcases hj9 with ⟨d1, ex8, rd⟩ | ⟨y1, d2, ex8, rd⟩ | ⟨y1, y2, hp⟩
          · exact absurd d1 ((q_rin (by omega) (by omega) (by decide)))
          rotate_left
          · exact absurd ((by rw [nI_add]; exact (nI_ltI (by omega) (by omega)).mpr (by omega))) y2
          subst ex8
          refine q_ldc dL_isTold_166 kcL_20 ?_
          refine q_icmp_ne (tgt := 175) dL_isTold_168 rfl (fun c => absurd (by decide) c) (fun _ => ?_)
          refine q_iconst (v := nI 1) dL_isTold_171 (by decide) ?_
          refine q_goto (tgt := 176) dL_isTold_172 rfl ?_
          refine q_zret (ty := .boolean) dL_isTold_176 rfl rfl (Or.inl rfl) ?_
          exact ⟨_, rfl, q_pX.no hN R B u9 s rd⟩
    · refine q_aload_n dL_isTold_219 rfl ?_
      refine q_aload_n dL_isTold_220 rfl ?_
      refine q_iload dL_isTold_221 rfl ?_
      refine q_bipush (v := nI 50) dL_isTold_223 (by decide) ?_
      refine q_aload_n dL_isTold_225 rfl ?_
      refine q_iload_n dL_isTold_226 rfl ?_
      refine q_iconst (v := nI 1) dL_isTold_227 (by decide) ?_
      refine q_iaddN dL_isTold_228 ?_
      refine q_sipush (v := nI 351) dL_isTold_229 (by decide) ?_
      refine q_sR (kc := 4) (ks := 924) (g_L_in (h := h) K hL (i := (i) + (1)) (n := 351) (by omega) (by omega) (by omega)) wL_in kL_149 sL_in (by decide) rfl rfl (Nat.le_of_ble_eq_true rfl) dL_isTold_232 rfl rfl ?_
      intro v9 h9 hq
      obtain ⟨e9, x232, hx232, rfl⟩ := hq
      have e8 := e9.symm
      clear e9
      subst e8
      refine q_iaddN dL_isTold_235 ?_
      refine q_sR (kc := 0) (ks := 0) (g_L_isTest (h := h) K hN R B u9 C s hcc (d := x31) (x := 50 + x232) (by omega) (by omega) (by omega)) wL_isTest kL_158 sL_isTest (by decide) rfl rfl (Nat.le_of_ble_eq_true rfl) dL_isTold_236 rfl rfl ?_
      intro v9 h9 hq
      have hq9 := hq
      obtain ⟨e9, -⟩ := hq9
      subst e9
      refine q_zret (ty := .boolean) dL_isTold_239 rfl rfl (Or.inl rfl) ?_
      exact ⟨_, rfl, hq⟩
    · refine q_aload_n dL_isTold_240 rfl ?_
      refine q_aload_n dL_isTold_241 rfl ?_
      refine q_aload_n dL_isTold_242 rfl ?_
      refine q_iload_n dL_isTold_243 rfl ?_
      refine q_iconst (v := nI 1) dL_isTold_244 (by decide) ?_
      refine q_iaddN dL_isTold_245 ?_
      refine q_iconst (v := nI 2) dL_isTold_246 (by decide) ?_
      refine q_sR (kc := 4) (ks := 924) (g_L_in (h := h) K hL (i := (i) + (1)) (n := 2) (by omega) (by omega) (by omega)) wL_in kL_149 sL_in (by decide) rfl rfl (Nat.le_of_ble_eq_true rfl) dL_isTold_247 rfl rfl ?_
      intro v9 h9 hq
      obtain ⟨e9, x247, hx247, rfl⟩ := hq
      have e8 := e9.symm
      clear e9
      subst e8
      refine q_if_eqN (by omega) (tgt := 259) dL_isTold_250 rfl (fun c57 => ?_) (fun c58 => ?_)
      · refine q_iload dL_isTold_259 rfl ?_
        refine q_goto (tgt := 281) dL_isTold_261 rfl ?_
        have hd9 : x31 ≤ 199 := by omega
        refine q_sR (kc := 3) (ks := 918) (g_L_isNoTest (h := h) K hN R B u9 C s hcc hd9) wL_isNoTest kL_162 sL_isNoTest (by decide) rfl rfl (Nat.le_of_ble_eq_true rfl) dL_isTold_281 rfl rfl ?_
        intro v9 h9 hq
        have hq9 := hq
        obtain ⟨e9, -⟩ := hq9
        subst e9
        refine q_zret (ty := .boolean) dL_isTold_284 rfl rfl (Or.inl rfl) ?_
        exact ⟨_, rfl, hq⟩
      · refine q_aload_n dL_isTold_253 rfl ?_
        refine q_iconst (v := nI 3) dL_isTold_254 (by decide) ?_
        refine q_ialdD (k := 3) hN.1 hN.t hN.l (by omega) (by decide) dL_isTold_255 ?_
        refine q_tv (show _ = (nI (m.n)) from R.n) ?_
        refine q_if_neN (by omega) (tgt := 264) dL_isTold_256 rfl (fun c59 => ?_) (fun c60 => ?_)
        · refine q_aload_n dL_isTold_264 rfl ?_
          refine q_bipush (v := nI 40) dL_isTold_265 (by decide) ?_
          refine q_iconst (v := nI 2) dL_isTold_267 (by decide) ?_
          refine q_aload_n dL_isTold_268 rfl ?_
          refine q_iload_n dL_isTold_269 rfl ?_
          refine q_iconst (v := nI 3) dL_isTold_270 (by decide) ?_
          refine q_iaddN dL_isTold_271 ?_
          refine q_aload_n dL_isTold_272 rfl ?_
          refine q_iconst (v := nI 3) dL_isTold_273 (by decide) ?_
          refine q_ialdD (k := 3) hN.1 hN.t hN.l (by omega) (by decide) dL_isTold_274 ?_
          refine q_tv (show _ = (nI (m.n)) from R.n) ?_
          refine q_sR (kc := 4) (ks := 924) (g_L_in (h := h) K hL (i := (i) + (3)) (n := m.n) (by omega) (by omega) (by omega)) wL_in kL_149 sL_in (by decide) rfl rfl (Nat.le_of_ble_eq_true rfl) dL_isTold_275 rfl rfl ?_
          intro v9 h9 hq
          obtain ⟨e9, x275, hx275, rfl⟩ := hq
          have e8 := e9.symm
          clear e9
          subst e8
          refine q_imulN dL_isTold_278 ?_
          refine q_iaddN dL_isTold_279 ?_
          refine q_ialdD (k := (40) + ((2) * (x275))) hN.1 hN.t hN.l (by omega) (by decide) dL_isTold_280 ?_
          refine q_tv (show _ = (m.d (ρ x275)) from ((congrArg (h.I a) (show ((40) + ((2) * (x275))) = 40 + 2 * x275 by omega)).trans (R.d (t := x275) (by omega)))) ?_
          obtain ⟨k9, hk9, ek9⟩ := v.2.2.2.2.1 (ρ x275) (R.bij.1 _ (by omega))
          rw [ek9]
          have hd9 := hk9
          refine q_sR (kc := 3) (ks := 918) (g_L_isNoTest (h := h) K hN R B u9 C s hcc hd9) wL_isNoTest kL_162 sL_isNoTest (by decide) rfl rfl (Nat.le_of_ble_eq_true rfl) dL_isTold_281 rfl rfl ?_
          intro v9 h9 hq
          have hq9 := hq
          obtain ⟨e9, -⟩ := hq9
          subst e9
          refine q_zret (ty := .boolean) dL_isTold_284 rfl rfl (Or.inl rfl) ?_
          exact ⟨_, rfl, hq⟩
        · refine q_iload dL_isTold_259 rfl ?_
          refine q_goto (tgt := 281) dL_isTold_261 rfl ?_
          have hd9 : x31 ≤ 199 := by omega
          refine q_sR (kc := 3) (ks := 918) (g_L_isNoTest (h := h) K hN R B u9 C s hcc hd9) wL_isNoTest kL_162 sL_isNoTest (by decide) rfl rfl (Nat.le_of_ble_eq_true rfl) dL_isTold_281 rfl rfl ?_
          intro v9 h9 hq
          have hq9 := hq
          obtain ⟨e9, -⟩ := hq9
          subst e9
          refine q_zret (ty := .boolean) dL_isTold_284 rfl rfl (Or.inl rfl) ?_
          exact ⟨_, rfl, hq⟩
    · refine q_aload_n dL_isTold_285 rfl ?_
      refine q_aload_n dL_isTold_286 rfl ?_
      refine q_iconst (v := nI 2) dL_isTold_287 (by decide) ?_
      refine q_aload_n dL_isTold_288 rfl ?_
      refine q_iload_n dL_isTold_289 rfl ?_
      refine q_iconst (v := nI 1) dL_isTold_290 (by decide) ?_
      refine q_iaddN dL_isTold_291 ?_
      refine q_iconst (v := nI 4) dL_isTold_292 (by decide) ?_
      refine q_sR (kc := 4) (ks := 924) (g_L_in (h := h) K hL (i := (i) + (1)) (n := 4) (by omega) (by omega) (by omega)) wL_in kL_149 sL_in (by decide) rfl rfl (Nat.le_of_ble_eq_true rfl) dL_isTold_293 rfl rfl ?_
      intro v9 h9 hq
      obtain ⟨e9, x293, hx293, rfl⟩ := hq
      have e8 := e9.symm
      clear e9
      subst e8
      refine q_iaddN dL_isTold_296 ?_
      refine q_bipush (v := nI 60) dL_isTold_297 (by decide) ?_
      refine q_aload_n dL_isTold_299 rfl ?_
      refine q_iload_n dL_isTold_300 rfl ?_
      refine q_iconst (v := nI 2) dL_isTold_301 (by decide) ?_
      refine q_iaddN dL_isTold_302 ?_
      refine q_bipush (v := nI 80) dL_isTold_303 (by decide) ?_
      refine q_sR (kc := 4) (ks := 924) (g_L_in (h := h) K hL (i := (i) + (2)) (n := 80) (by omega) (by omega) (by omega)) wL_in kL_149 sL_in (by decide) rfl rfl (Nat.le_of_ble_eq_true rfl) dL_isTold_305 rfl rfl ?_
      intro v9 h9 hq
      obtain ⟨e9, x305, hx305, rfl⟩ := hq
      have e8 := e9.symm
      clear e9
      subst e8
      refine q_iaddN dL_isTold_308 ?_
      refine q_sR (kc := 0) (ks := 0) (g_L_isBound (h := h) K hN R B u9 C s hcc hi (z := 2 + x293) (x := 60 + x305) (by omega) (by omega) (by omega) (by omega)) wL_isBound kL_166 sL_isBound (by decide) rfl rfl (Nat.le_of_ble_eq_true rfl) dL_isTold_309 rfl rfl ?_
      intro v9 h9 hq
      have hq9 := hq
      obtain ⟨e9, -⟩ := hq9
      subst e9
      refine q_zret (ty := .boolean) dL_isTold_312 rfl rfl (Or.inl rfl) ?_
      exact ⟨_, rfl, hq⟩
    · refine q_iconst (v := nI 1) dL_isTold_313 (by decide) ?_
      refine q_aload_n dL_isTold_314 rfl ?_
      refine q_iload_n dL_isTold_315 rfl ?_
      refine q_iconst (v := nI 1) dL_isTold_316 (by decide) ?_
      refine q_iaddN dL_isTold_317 ?_
      refine q_iconst (v := nI 5) dL_isTold_318 (by decide) ?_
      refine q_sR (kc := 4) (ks := 924) (g_L_in (h := h) K hL (i := (i) + (1)) (n := 5) (by omega) (by omega) (by omega)) wL_in kL_149 sL_in (by decide) rfl rfl (Nat.le_of_ble_eq_true rfl) dL_isTold_319 rfl rfl ?_
      intro v9 h9 hq
      obtain ⟨e9, x319, hx319, rfl⟩ := hq
      have e8 := e9.symm
      clear e9
      subst e8
      refine q_iaddN dL_isTold_322 ?_
      refine q_istore (L' := [_, _, _, _, _, _, _, _]) dL_isTold_323 rfl (by decide) rfl ?_
      refine q_aload_n dL_isTold_325 rfl ?_
      refine q_bipush (v := nI 30) dL_isTold_326 (by decide) ?_
      refine q_iload dL_isTold_328 rfl ?_
      refine q_iaddN dL_isTold_330 ?_
      refine q_ialdD (k := (30) + ((1) + (x319))) hN.1 hN.t hN.l (by omega) (by decide) dL_isTold_331 ?_
      refine q_tv (show _ = (m.wt (1 + x319)) from (R.wt (z := 1 + x319) (by omega) (by omega))) ?_
      refine q_istore (L' := [_, _, _, _, _, _, _, _]) dL_isTold_332 rfl (by decide) rfl ?_
      refine q_aload_n dL_isTold_334 rfl ?_
      refine q_bipush (v := nI 30) dL_isTold_335 (by decide) ?_
      refine q_iload dL_isTold_337 rfl ?_
      refine q_iaddN dL_isTold_339 ?_
      refine q_aload_n dL_isTold_340 rfl ?_
      refine q_iload_n dL_isTold_341 rfl ?_
      refine q_iconst (v := nI 2) dL_isTold_342 (by decide) ?_
      refine q_iaddN dL_isTold_343 ?_
      refine q_bipush (v := nI 12) dL_isTold_344 (by decide) ?_
      refine q_sR (kc := 4) (ks := 924) (g_L_in (h := h) K hL (i := (i) + (2)) (n := 12) (by omega) (by omega) (by omega)) wL_in kL_149 sL_in (by decide) rfl rfl (Nat.le_of_ble_eq_true rfl) dL_isTold_346 rfl rfl ?_
      intro v9 h9 hq
      obtain ⟨e9, x346, hx346, rfl⟩ := hq
      have e8 := e9.symm
      clear e9
      subst e8
      refine q_iastD (k := (30) + ((1) + (x319))) hN.1 hN.t hN.l (by omega) (by decide) dL_isTold_349 ?_
      refine q_aload_n dL_isTold_350 rfl ?_
      refine q_sipush (v := nI 899) dL_isTold_351 (by decide) ?_
      refine q_iconst (v := nI 1) dL_isTold_354 (by decide) ?_
      refine q_iastD (k := 899) hN.1 hN.t hN.l (by omega) (by decide) dL_isTold_355 ?_
      refine q_aload_n dL_isTold_356 rfl ?_
      refine q_iload dL_isTold_357 rfl ?_
      refine q_aload_n dL_isTold_359 rfl ?_
      refine q_bipush (v := nI 30) dL_isTold_360 (by decide) ?_
      refine q_iload dL_isTold_362 rfl ?_
      refine q_iaddN dL_isTold_364 ?_
      refine q_ialdD (k := (30) + ((1) + (x319))) hN.1 hN.t hN.l (by omega) (by decide) dL_isTold_365 ?_
      refine q_tv (show _ = (nI (x346)) from (((congrFun (q_sI _ _ _ _) _).trans (va_un _ _ (by omega))).trans ((congrFun (q_sI _ _ _ _) _).trans (va_us _ _ _)))) ?_
      have F2 : q_lf h ((h.setI a ((30) + ((1) + (x319))) (nI (x346))).setI a (899) (nI (1))) a := ((q_lf.rf.set).set)
      have RB : (q_nr ((((h.setI a ((30) + ((1) + (x319))) (nI (x346))).setI a (899) (nI (1)))).I a) (m.sZ m.bd (va_up m.wt (1 + x319) (nI x346))) ρ ∧ q_bd (m.sZ m.bd (va_up m.wt (1 + x319) (nI x346)))) := by rw [q_sI, q_sI]; exact q_nWt R B (by omega) (by omega)
      have u2 : (((h.setI a ((30) + ((1) + (x319))) (nI (x346))).setI a (899) (nI (1)))).I a 899 = nI 1 := by rw [q_sI]; exact va_us _ _ _
      have C2 : q_clX ((h.setI a ((30) + ((1) + (x319))) (nI (x346))).setI a (899) (nI (1))) W O := ((C.setD ha2).setD ha2)
      have K2 : q_Lk Φ (((h.setI a ((30) + ((1) + (x319))) (nI (x346))).setI a (899) (nI (1)))).R (((h.setI a ((30) + ((1) + (x319))) (nI (x346))).setI a (899) (nI (1)))).n := K
      have N2 : q_n9 ((h.setI a ((30) + ((1) + (x319))) (nI (x346))).setI a (899) (nI (1))) a := hN
      obtain ⟨h2, e2⟩ : ∃ hh, hh = ((h.setI a ((30) + ((1) + (x319))) (nI (x346))).setI a (899) (nI (1))) := ⟨_, rfl⟩
      rw [← e2] at F2 RB u2 C2 K2 N2  ⊢
      obtain ⟨R2, B2⟩ := RB
      refine q_callH (kc := 2) (ks := 912) (g_L_setWeight (h := h2) K2 C2  (z := (nI ((1) + (x319)))) (x := (nI (x346)))) wL_setWeight kL_169 sL_setWeight (by decide) rfl rfl (Nat.le_of_ble_eq_true rfl) dL_isTold_366 rfl rfl (fun E h9 q9 => (by obtain ⟨_, q9, _⟩ := q9; exact nomatch q9)) ?_
      intro v9 h9 hq
      obtain ⟨x9, ex9, hj9⟩ := j_setWeight C2 B s a0 b0 k0 dd (by omega) hq
      clear hq
      cases ex9
      rcases hj9 with ⟨d1, ex8, rd⟩ | ⟨y1, hp⟩
      · exact absurd d1 ((by rintro (e | e); exact absurd e (q_rin (by omega) (by omega) (by decide)); exact absurd e (q_rin (by omega) (by omega) (by decide))))
      rw [nI_clamp (by omega)] at hp
      obtain ⟨ev9, fr, W1, O1, C1, S1, Y, yY, rfl⟩ := hp
      cases ev9
      have R9 : q_nr (h9.I a) (m.sZ m.bd (va_up m.wt (1 + x319) (nI x346))) ρ := by rw [fr.1 a (by omega)]; exact R2
      have N9 : q_n9 h9 a := N2.fr fr.2.2.1
      refine q_iload dL_isTold_369 rfl ?_
      refine q_icmp_ne (tgt := 378) dL_isTold_371 rfl (fun c => absurd rfl c) (fun c61 => ?_)
      refine q_iconst (v := nI 1) dL_isTold_374 (by decide) ?_
      refine q_goto (tgt := 379) dL_isTold_375 rfl ?_
      refine q_zret (ty := .boolean) dL_isTold_379 rfl rfl (Or.inl rfl) ?_
      exact ⟨_, rfl, q_pX.yes F2 N2 R2 B2 u2 fr C1 S1 yY id⟩
    · refine q_aload_n dL_isTold_380 rfl ?_
      refine q_aload_n dL_isTold_381 rfl ?_
      refine q_aload_n dL_isTold_382 rfl ?_
      refine q_iload_n dL_isTold_383 rfl ?_
      refine q_iconst (v := nI 1) dL_isTold_384 (by decide) ?_
      refine q_iaddN dL_isTold_385 ?_
      refine q_iconst (v := nI 2) dL_isTold_386 (by decide) ?_
      refine q_sR (kc := 4) (ks := 924) (g_L_in (h := h) K hL (i := (i) + (1)) (n := 2) (by omega) (by omega) (by omega)) wL_in kL_149 sL_in (by decide) rfl rfl (Nat.le_of_ble_eq_true rfl) dL_isTold_387 rfl rfl ?_
      intro v9 h9 hq
      obtain ⟨e9, x387, hx387, rfl⟩ := hq
      have e8 := e9.symm
      clear e9
      subst e8
      refine q_if_neN (by omega) (tgt := 399) dL_isTold_390 rfl (fun c63 => ?_) (fun c64 => ?_)
      · refine q_iload dL_isTold_399 rfl ?_
        refine q_sR (kc := 2) (ks := 912) (g_L_isSession (h := h) K hN R B u9 C s hcc (d := x31) (by omega)) wL_isSession kL_172 sL_isSession (by decide) rfl rfl (Nat.le_of_ble_eq_true rfl) dL_isTold_401 rfl rfl ?_
        intro v9 h9 hq
        have hq9 := hq
        obtain ⟨e9, -⟩ := hq9
        subst e9
        refine q_zret (ty := .boolean) dL_isTold_404 rfl rfl (Or.inl rfl) ?_
        exact ⟨_, rfl, hq⟩
      · refine q_aload_n dL_isTold_393 rfl ?_
        refine q_iconst (v := nI 0) dL_isTold_394 (by decide) ?_
        refine q_ialdD (k := 0) hN.1 hN.t hN.l (by omega) (by decide) dL_isTold_395 ?_
        refine q_tv (show _ = (nI (m.t)) from R.t) ?_
        refine q_goto (tgt := 401) dL_isTold_396 rfl ?_
        refine q_sR (kc := 2) (ks := 912) (g_L_isSession (h := h) K hN R B u9 C s hcc (d := m.t) (by omega)) wL_isSession kL_172 sL_isSession (by decide) rfl rfl (Nat.le_of_ble_eq_true rfl) dL_isTold_401 rfl rfl ?_
        intro v9 h9 hq
        have hq9 := hq
        obtain ⟨e9, -⟩ := hq9
        subst e9
        refine q_zret (ty := .boolean) dL_isTold_404 rfl rfl (Or.inl rfl) ?_
        exact ⟨_, rfl, hq⟩
    · refine q_aload_n dL_isTold_405 rfl ?_
      refine q_aload_n dL_isTold_406 rfl ?_
      refine q_iload dL_isTold_407 rfl ?_
      refine q_iload dL_isTold_409 rfl ?_
      refine q_sR (kc := 2) (ks := 912) (g_L_isMoved (h := h) K hN R B u9 C s hcc (x := (nI (0))) (d := x31) (by omega)) wL_isMoved kL_175 sL_isMoved (by decide) rfl rfl (Nat.le_of_ble_eq_true rfl) dL_isTold_411 rfl rfl ?_
      intro v9 h9 hq
      have hq9 := hq
      obtain ⟨e9, -⟩ := hq9
      subst e9
      refine q_zret (ty := .boolean) dL_isTold_414 rfl rfl (Or.inl rfl) ?_
      exact ⟨_, rfl, hq⟩
    · refine q_aload_n dL_isTold_415 rfl ?_
      refine q_aload_n dL_isTold_416 rfl ?_
      refine q_iload dL_isTold_417 rfl ?_
      refine q_aload_n dL_isTold_419 rfl ?_
      refine q_iload_n dL_isTold_420 rfl ?_
      refine q_iconst (v := nI 2) dL_isTold_421 (by decide) ?_
      refine q_iaddN dL_isTold_422 ?_
      refine q_iconst (v := nI 2) dL_isTold_423 (by decide) ?_
      refine q_sR (kc := 4) (ks := 924) (g_L_in (h := h) K hL (i := (i) + (2)) (n := 2) (by omega) (by omega) (by omega)) wL_in kL_149 sL_in (by decide) rfl rfl (Nat.le_of_ble_eq_true rfl) dL_isTold_424 rfl rfl ?_
      intro v9 h9 hq
      obtain ⟨e9, x424, hx424, rfl⟩ := hq
      have e8 := e9.symm
      clear e9
      subst e8
      refine q_if_neN (by omega) (tgt := 434) dL_isTold_427 rfl (fun c65 => ?_) (fun c66 => ?_)
      · refine q_iconst (v := nI 0) dL_isTold_434 (by decide) ?_
        refine q_sR (kc := 3) (ks := 918) (g_L_isRemoved0 (h := h) K hN R B u9 C s hcc (x := (nI (0)))) wL_isRemoved kL_178 sL_isRemoved (by decide) rfl rfl (Nat.le_of_ble_eq_true rfl) dL_isTold_435 rfl rfl ?_
        intro v9 h9 hq
        have hq9 := hq
        obtain ⟨e9, -⟩ := hq9
        subst e9
        refine q_zret (ty := .boolean) dL_isTold_438 rfl rfl (Or.inl rfl) ?_
        exact ⟨_, rfl, hq⟩
      · refine q_iconst (v := nI 1) dL_isTold_430 (by decide) ?_
        refine q_goto (tgt := 435) dL_isTold_431 rfl ?_
        refine q_sR (kc := 3) (ks := 918) (g_L_isRemoved1 (h := h) K hN R B u9 C s hcc (x := (nI (0)))) wL_isRemoved kL_178 sL_isRemoved (by decide) rfl rfl (Nat.le_of_ble_eq_true rfl) dL_isTold_435 rfl rfl ?_
        intro v9 h9 hq
        have hq9 := hq
        obtain ⟨e9, -⟩ := hq9
        subst e9
        refine q_zret (ty := .boolean) dL_isTold_438 rfl rfl (Or.inl rfl) ?_
        exact ⟨_, rfl, hq⟩
    · refine q_aload_n dL_isTold_439 rfl ?_
      refine q_iconst (v := nI 4) dL_isTold_440 (by decide) ?_
      refine q_ialdD (k := 4) hN.1 hN.t hN.l (by omega) (by decide) dL_isTold_441 ?_
      refine q_tv (show _ = (nI (m.pe)) from R.pe) ?_
      refine q_iconst (v := nI 1) dL_isTold_442 (by decide) ?_
      refine q_icmp_neN (by omega) (by omega) (tgt := 453) dL_isTold_443 rfl (fun c67 => ?_) (fun c68 => ?_)
      · refine q_iconst (v := nI 0) dL_isTold_453 (by decide) ?_
        refine q_istore (L' := [_, _, _, _, _, _, _, _]) dL_isTold_454 rfl (by decide) rfl ?_
        refine q_aload_n dL_isTold_456 rfl ?_
        refine q_iconst (v := nI 4) dL_isTold_457 (by decide) ?_
        refine q_iconst (v := nI 1) dL_isTold_458 (by decide) ?_
        refine q_iastD (k := 4) hN.1 hN.t hN.l (by omega) (by decide) dL_isTold_459 ?_
        refine q_aload_n dL_isTold_460 rfl ?_
        refine q_iconst (v := nI 5) dL_isTold_461 (by decide) ?_
        refine q_aload_n dL_isTold_462 rfl ?_
        refine q_iconst (v := nI 0) dL_isTold_463 (by decide) ?_
        refine q_ialdD (k := 0) hN.1 hN.t hN.l (by omega) (by decide) dL_isTold_464 ?_
        refine q_tv (show _ = (nI (m.t)) from (((congrFun (q_sI _ _ _ _) _).trans (va_un _ _ (by omega))).trans R.t)) ?_
        refine q_iastD (k := 5) hN.1 hN.t hN.l (by omega) (by decide) dL_isTold_465 ?_
        refine q_aload_n dL_isTold_466 rfl ?_
        refine q_bipush (v := nI 6) dL_isTold_467 (by decide) ?_
        refine q_iconst (v := nI 0) dL_isTold_469 (by decide) ?_
        refine q_iastD (k := 6) hN.1 hN.t hN.l (by omega) (by decide) dL_isTold_470 ?_
        refine q_aload_n dL_isTold_471 rfl ?_
        refine q_sipush (v := nI 899) dL_isTold_472 (by decide) ?_
        refine q_iconst (v := nI 1) dL_isTold_475 (by decide) ?_
        refine q_iastD (k := 899) hN.1 hN.t hN.l (by omega) (by decide) dL_isTold_476 ?_
        have F2 : q_lf h ((((h.setI a (4) (nI (1))).setI a (5) (nI (m.t))).setI a (6) (nI (0))).setI a (899) (nI (1))) a := ((((q_lf.rf.set).set).set).set)
        have RB : (q_nr ((((((h.setI a (4) (nI (1))).setI a (5) (nI (m.t))).setI a (6) (nI (0))).setI a (899) (nI (1)))).I a) (m.sP 1 m.t 0 m.tg) ρ ∧ q_bd (m.sP 1 m.t 0 m.tg)) := by rw [q_sI, q_sI, q_sI, q_sI]; exact q_nPlan R B
        have u2 : (((((h.setI a (4) (nI (1))).setI a (5) (nI (m.t))).setI a (6) (nI (0))).setI a (899) (nI (1)))).I a 899 = nI 1 := by rw [q_sI]; exact va_us _ _ _
        have C2 : q_clX ((((h.setI a (4) (nI (1))).setI a (5) (nI (m.t))).setI a (6) (nI (0))).setI a (899) (nI (1))) W O := ((((C.setD ha2).setD ha2).setD ha2).setD ha2)
        have K2 : q_Lk Φ (((((h.setI a (4) (nI (1))).setI a (5) (nI (m.t))).setI a (6) (nI (0))).setI a (899) (nI (1)))).R (((((h.setI a (4) (nI (1))).setI a (5) (nI (m.t))).setI a (6) (nI (0))).setI a (899) (nI (1)))).n := K
        have N2 : q_n9 ((((h.setI a (4) (nI (1))).setI a (5) (nI (m.t))).setI a (6) (nI (0))).setI a (899) (nI (1))) a := hN
        obtain ⟨h2, e2⟩ : ∃ hh, hh = ((((h.setI a (4) (nI (1))).setI a (5) (nI (m.t))).setI a (6) (nI (0))).setI a (899) (nI (1))) := ⟨_, rfl⟩
        rw [← e2] at F2 RB u2 C2 K2 N2  ⊢
        obtain ⟨R2, B2⟩ := RB
        refine q_aload_n dL_isTold_477 rfl ?_
        refine q_vR (kc := 4) (ks := 924) (g_X9_startPlan (h := h2) K2 C2) wX9_startPlan kL_182 iX9_startPlan eX9_startPlan rfl rfl (by decide) (K2.le (by decide)) (by decide) rfl rfl (Nat.le_of_ble_eq_true rfl) dL_isTold_478 rfl rfl ?_
        intro v9 h9 hq
        obtain ⟨ev9, fr, W1, O1, C1, S1, Y, yY, rfl⟩ := j_startPlan C2 B s a0 b0 k0 dd (by omega) hq
        subst ev9
        refine q_tv (show _ = nI 0 from if_neg (by omega)) ?_
        refine q_iload dL_isTold_481 rfl ?_
        refine q_icmp_ne (tgt := 490) dL_isTold_483 rfl (fun c => absurd (by decide) c) (fun _ => ?_)
        refine q_iconst (v := nI 1) dL_isTold_486 (by decide) ?_
        refine q_goto (tgt := 491) dL_isTold_487 rfl ?_
        refine q_zret (ty := .boolean) dL_isTold_491 rfl rfl (Or.inl rfl) ?_
        exact ⟨_, rfl, q_pX.yes F2 N2 R2 B2 u2 fr C1 S1 yY id⟩
      · refine q_aload_n dL_isTold_446 rfl ?_
        refine q_bipush (v := nI 6) dL_isTold_447 (by decide) ?_
        refine q_ialdD (k := 6) hN.1 hN.t hN.l (by omega) (by decide) dL_isTold_449 ?_
        refine q_tv (show _ = (nI (m.pc)) from R.pc) ?_
        refine q_goto (tgt := 454) dL_isTold_450 rfl ?_
        refine q_istore (L' := [_, _, _, _, _, _, _, _]) dL_isTold_454 rfl (by decide) rfl ?_
        refine q_aload_n dL_isTold_456 rfl ?_
        refine q_iconst (v := nI 4) dL_isTold_457 (by decide) ?_
        refine q_iconst (v := nI 1) dL_isTold_458 (by decide) ?_
        refine q_iastD (k := 4) hN.1 hN.t hN.l (by omega) (by decide) dL_isTold_459 ?_
        refine q_aload_n dL_isTold_460 rfl ?_
        refine q_iconst (v := nI 5) dL_isTold_461 (by decide) ?_
        refine q_aload_n dL_isTold_462 rfl ?_
        refine q_iconst (v := nI 0) dL_isTold_463 (by decide) ?_
        refine q_ialdD (k := 0) hN.1 hN.t hN.l (by omega) (by decide) dL_isTold_464 ?_
        refine q_tv (show _ = (nI (m.t)) from (((congrFun (q_sI _ _ _ _) _).trans (va_un _ _ (by omega))).trans R.t)) ?_
        refine q_iastD (k := 5) hN.1 hN.t hN.l (by omega) (by decide) dL_isTold_465 ?_
        refine q_aload_n dL_isTold_466 rfl ?_
        refine q_bipush (v := nI 6) dL_isTold_467 (by decide) ?_
        refine q_iconst (v := nI 0) dL_isTold_469 (by decide) ?_
        refine q_iastD (k := 6) hN.1 hN.t hN.l (by omega) (by decide) dL_isTold_470 ?_
        refine q_aload_n dL_isTold_471 rfl ?_
        refine q_sipush (v := nI 899) dL_isTold_472 (by decide) ?_
        refine q_iconst (v := nI 1) dL_isTold_475 (by decide) ?_
        refine q_iastD (k := 899) hN.1 hN.t hN.l (by omega) (by decide) dL_isTold_476 ?_
        have F2 : q_lf h ((((h.setI a (4) (nI (1))).setI a (5) (nI (m.t))).setI a (6) (nI (0))).setI a (899) (nI (1))) a := ((((q_lf.rf.set).set).set).set)
        have RB : (q_nr ((((((h.setI a (4) (nI (1))).setI a (5) (nI (m.t))).setI a (6) (nI (0))).setI a (899) (nI (1)))).I a) (m.sP 1 m.t 0 m.tg) ρ ∧ q_bd (m.sP 1 m.t 0 m.tg)) := by rw [q_sI, q_sI, q_sI, q_sI]; exact q_nPlan R B
        have u2 : (((((h.setI a (4) (nI (1))).setI a (5) (nI (m.t))).setI a (6) (nI (0))).setI a (899) (nI (1)))).I a 899 = nI 1 := by rw [q_sI]; exact va_us _ _ _
        have C2 : q_clX ((((h.setI a (4) (nI (1))).setI a (5) (nI (m.t))).setI a (6) (nI (0))).setI a (899) (nI (1))) W O := ((((C.setD ha2).setD ha2).setD ha2).setD ha2)
        have K2 : q_Lk Φ (((((h.setI a (4) (nI (1))).setI a (5) (nI (m.t))).setI a (6) (nI (0))).setI a (899) (nI (1)))).R (((((h.setI a (4) (nI (1))).setI a (5) (nI (m.t))).setI a (6) (nI (0))).setI a (899) (nI (1)))).n := K
        have N2 : q_n9 ((((h.setI a (4) (nI (1))).setI a (5) (nI (m.t))).setI a (6) (nI (0))).setI a (899) (nI (1))) a := hN
        obtain ⟨h2, e2⟩ : ∃ hh, hh = ((((h.setI a (4) (nI (1))).setI a (5) (nI (m.t))).setI a (6) (nI (0))).setI a (899) (nI (1))) := ⟨_, rfl⟩
        rw [← e2] at F2 RB u2 C2 K2 N2  ⊢
        obtain ⟨R2, B2⟩ := RB
        refine q_aload_n dL_isTold_477 rfl ?_
        refine q_vR (kc := 4) (ks := 924) (g_X9_startPlan (h := h2) K2 C2) wX9_startPlan kL_182 iX9_startPlan eX9_startPlan rfl rfl (by decide) (K2.le (by decide)) (by decide) rfl rfl (Nat.le_of_ble_eq_true rfl) dL_isTold_478 rfl rfl ?_
        intro v9 h9 hq
        obtain ⟨ev9, fr, W1, O1, C1, S1, Y, yY, rfl⟩ := j_startPlan C2 B s a0 b0 k0 dd (by omega) hq
        subst ev9
        refine q_tv (show _ = nI m.pc from if_pos (by omega)) ?_
        refine q_iload dL_isTold_481 rfl ?_
        refine q_icmp_neN (by omega) (by omega) (tgt := 490) dL_isTold_483 rfl (fun c => absurd rfl c) (fun c71 => ?_)
        refine q_iconst (v := nI 1) dL_isTold_486 (by decide) ?_
        refine q_goto (tgt := 491) dL_isTold_487 rfl ?_
        refine q_zret (ty := .boolean) dL_isTold_491 rfl rfl (Or.inl rfl) ?_
        exact ⟨_, rfl, q_pX.yes F2 N2 R2 B2 u2 fr C1 S1 yY id⟩
    · refine q_aload_n dL_isTold_492 rfl ?_
      refine q_aload_n dL_isTold_493 rfl ?_
      refine q_aload_n dL_isTold_494 rfl ?_
      refine q_iload_n dL_isTold_495 rfl ?_
      refine q_iconst (v := nI 1) dL_isTold_496 (by decide) ?_
      refine q_iaddN dL_isTold_497 ?_
      refine q_iconst (v := nI 3) dL_isTold_498 (by decide) ?_
      refine q_sR (kc := 4) (ks := 924) (g_L_in (h := h) K hL (i := (i) + (1)) (n := 3) (by omega) (by omega) (by omega)) wL_in kL_149 sL_in (by decide) rfl rfl (Nat.le_of_ble_eq_true rfl) dL_isTold_499 rfl rfl ?_
      intro v9 h9 hq
      obtain ⟨e9, x499, hx499, rfl⟩ := hq
      have e8 := e9.symm
      clear e9
      subst e8
      refine q_if_neN (by omega) (tgt := 518) dL_isTold_502 rfl (fun c73 => ?_) (fun c74 => ?_)
      · refine q_aload_n dL_isTold_518 rfl ?_
        refine q_iload_n dL_isTold_519 rfl ?_
        refine q_iconst (v := nI 2) dL_isTold_520 (by decide) ?_
        refine q_iaddN dL_isTold_521 ?_
        refine q_sipush (v := nI 900) dL_isTold_522 (by decide) ?_
        refine q_sR (kc := 4) (ks := 924) (g_L_in (h := h) K hL (i := (i) + (2)) (n := 900) (by omega) (by omega) (by omega)) wL_in kL_149 sL_in (by decide) rfl rfl (Nat.le_of_ble_eq_true rfl) dL_isTold_525 rfl rfl ?_
        intro v9 h9 hq
        obtain ⟨e9, x525, hx525, rfl⟩ := hq
        have e8 := e9.symm
        clear e9
        subst e8
        refine q_sR (kc := 2) (ks := 912) (g_L_isTarget (h := h) K hN R B u9 C s hcc (x := x525) (by omega)) wL_isTarget kL_185 sL_isTarget (by decide) rfl rfl (Nat.le_of_ble_eq_true rfl) dL_isTold_528 rfl rfl ?_
        intro v9 h9 hq
        have hq9 := hq
        obtain ⟨e9, -⟩ := hq9
        subst e9
        refine q_zret (ty := .boolean) dL_isTold_531 rfl rfl (Or.inl rfl) ?_
        exact ⟨_, rfl, hq⟩
      · refine q_aload_n dL_isTold_505 rfl ?_
        refine q_iload_n dL_isTold_506 rfl ?_
        refine q_iconst (v := nI 2) dL_isTold_507 (by decide) ?_
        refine q_iaddN dL_isTold_508 ?_
        refine q_sipush (v := nI 20001) dL_isTold_509 (by decide) ?_
        refine q_sR (kc := 4) (ks := 924) (g_L_in (h := h) K hL (i := (i) + (2)) (n := 20001) (by omega) (by omega) (by omega)) wL_in kL_149 sL_in (by decide) rfl rfl (Nat.le_of_ble_eq_true rfl) dL_isTold_512 rfl rfl ?_
        intro v9 h9 hq
        obtain ⟨e9, x512, hx512, rfl⟩ := hq
        have e8 := e9.symm
        clear e9
        subst e8
        refine q_goto (tgt := 528) dL_isTold_515 rfl ?_
        refine q_sR (kc := 2) (ks := 912) (g_L_isTarget (h := h) K hN R B u9 C s hcc (x := x512) (by omega)) wL_isTarget kL_185 sL_isTarget (by decide) rfl rfl (Nat.le_of_ble_eq_true rfl) dL_isTold_528 rfl rfl ?_
        intro v9 h9 hq
        have hq9 := hq
        obtain ⟨e9, -⟩ := hq9
        subst e9
        refine q_zret (ty := .boolean) dL_isTold_531 rfl rfl (Or.inl rfl) ?_
        exact ⟨_, rfl, hq⟩
    · refine q_aload_n dL_isTold_532 rfl ?_
      refine q_aload_n dL_isTold_533 rfl ?_
      refine q_iload dL_isTold_534 rfl ?_
      refine q_iconst (v := nI 1) dL_isTold_536 (by decide) ?_
      refine q_aload_n dL_isTold_537 rfl ?_
      refine q_iload_n dL_isTold_538 rfl ?_
      refine q_iconst (v := nI 2) dL_isTold_539 (by decide) ?_
      refine q_iaddN dL_isTold_540 ?_
      refine q_bipush (v := nI 120) dL_isTold_541 (by decide) ?_
      refine q_sR (kc := 4) (ks := 924) (g_L_in (h := h) K hL (i := (i) + (2)) (n := 120) (by omega) (by omega) (by omega)) wL_in kL_149 sL_in (by decide) rfl rfl (Nat.le_of_ble_eq_true rfl) dL_isTold_543 rfl rfl ?_
      intro v9 h9 hq
      obtain ⟨e9, x543, hx543, rfl⟩ := hq
      have e8 := e9.symm
      clear e9
      subst e8
      refine q_iaddN dL_isTold_546 ?_
      refine q_aload_n dL_isTold_547 rfl ?_
      refine q_iload_n dL_isTold_548 rfl ?_
      refine q_iconst (v := nI 3) dL_isTold_549 (by decide) ?_
      refine q_iaddN dL_isTold_550 ?_
      refine q_sipush (v := nI 420) dL_isTold_551 (by decide) ?_
      refine q_sR (kc := 4) (ks := 924) (g_L_in (h := h) K hL (i := (i) + (3)) (n := 420) (by omega) (by omega) (by omega)) wL_in kL_149 sL_in (by decide) rfl rfl (Nat.le_of_ble_eq_true rfl) dL_isTold_554 rfl rfl ?_
      intro v9 h9 hq
      obtain ⟨e9, x554, hx554, rfl⟩ := hq
      have e8 := e9.symm
      clear e9
      subst e8
      refine q_sR (kc := 0) (ks := 900) (g_L_isPart (h := h) K hN R B u9 C s hcc (x := (nI (0))) (i := 1 + x543) (y := x554) (by omega) (by omega) (by omega)) wL_isPart kL_188 sL_isPart (by decide) rfl rfl (Nat.le_of_ble_eq_true rfl) dL_isTold_557 rfl rfl ?_
      intro v9 h9 hq
      have hq9 := hq
      obtain ⟨e9, -⟩ := hq9
      subst e9
      refine q_zret (ty := .boolean) dL_isTold_560 rfl rfl (Or.inl rfl) ?_
      exact ⟨_, rfl, hq⟩
