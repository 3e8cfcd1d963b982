/-! THE LAW'S CHECKS -/
theorem g_L_isPlan {Φ : q_Fx} {h : q_Hp} (K : q_Lk Φ h.R h.n) {a : Nat} (hN : q_n9 h a) {m : q_W} {ρ : Nat → Nat} (R : q_nr (h.I a) m ρ) (B : q_bd m) {W : q_W} {O : q_O} (C : q_clX h W O) {c : Nat} (s : q_smc c W m) (hcc : c ≤ 500)  : q_Ct Φ false yL_isPlan cL_isPlan mL_isPlan [.ref 1, .ref a] h (q_ex (fun v h' => v = some (.int (nI 1)) ∧ q_rd h h' W O)) := by
  refine q_enter K.st rfl rfl (by decide) rfl (Nat.le_of_ble_eq_true rfl) (L := [_, _, none, none, none, none, none, none]) rfl ?_
  obtain ⟨bt, bn, bc, bpe, bpf, bpc, bpn⟩ := id B
  obtain ⟨⟨N0, hN0, a0, ⟨τ0, b0⟩, k0⟩, dd⟩ := id s
  have v := k0.2.2.2.2.2.2.2
  have ha2 := hN.2.1
  have rd0 : q_rd h h W O := ⟨C, q_fr.rf⟩
  refine q_iconst (v := nI 0) dL_isPlan_0 (by decide) ?_
  refine q_istore_n (L' := [_, _, _, _, _, _, _, _]) dL_isPlan_1 rfl (by decide) rfl ?_
  refine q_iconst (v := nI 0) dL_isPlan_2 (by decide) ?_
  refine q_istore_n (L' := [_, _, _, _, _, _, _, _]) dL_isPlan_3 rfl (by decide) rfl ?_
  refine q_iconst (v := nI 0) dL_isPlan_4 (by decide) ?_
  refine q_istore (L' := [_, _, _, _, _, _, _, _]) dL_isPlan_5 rfl (by decide) rfl ?_
  refine q_iconst (v := nI 3) dL_isPlan_7 (by decide) ?_
  refine q_istore (L' := [_, _, _, _, _, _, _, _]) dL_isPlan_8 rfl (by decide) rfl ?_
  refine q_aload_n dL_isPlan_10 rfl ?_
  refine q_iconst (v := nI 5) dL_isPlan_11 (by decide) ?_
  refine q_ialdD (k := 5) hN.1 hN.t hN.l (by omega) (by decide) dL_isPlan_12 ?_
  refine q_tv (show _ = (nI (m.pf)) from R.pf) ?_
  refine q_istore (L' := [_, _, _, _, _, _, _, _]) dL_isPlan_13 rfl (by decide) rfl ?_
  refine q_loop (ι := Nat) (μ := fun i => m.t - m.pf - i) (P := fun i => i ≤ m.t - m.pf ∧ (m.pe = 1 ∨ i = 0)) (Lf := fun i => [some (.ref 1), some (.ref a), some (.int (nI ((m.fo i).1))), some (.int (nI ((m.fo i).2.1))), some (.int (nI ((m.fo i).2.2.1))), some (.int (nI (3 - (m.fo i).2.2.2))), some (.int (nI (m.pf + i))), none]) (hf := fun i => h) (fun i hi15 ih15 => ?_) 0 (⟨Nat.zero_le _, Or.inr rfl⟩) (q_sub_s rfl (q_sub_s rfl (q_sub_i rfl (q_sub_i rfl (q_sub_i rfl (q_sub_i rfl (q_sub_i rfl (q_sub_n q_sub_0)))))))) rfl
  skip
  obtain ⟨fl1, fl2, fl3, fl4⟩ := m.fo_le i
  refine q_aload_n dL_isPlan_15 rfl ?_
  refine q_iconst (v := nI 4) dL_isPlan_16 (by decide) ?_
  refine q_ialdD (k := 4) hN.1 hN.t hN.l (by omega) (by decide) dL_isPlan_17 ?_
  refine q_tv (show _ = (nI (m.pe)) from R.pe) ?_
  refine q_iconst (v := nI 1) dL_isPlan_18 (by decide) ?_
  refine q_icmp_neN (by omega) (by omega) (tgt := 142) dL_isPlan_19 rfl (fun c1 => ?_) (fun c2 => ?_)
  · have hfo : m.fo i = m.fo (m.t - m.pf) := by
      by_cases hp1 : m.pe = 1
      · rw [show i = m.t - m.pf by omega]
      · have hpc0 := v.2.2.2.2.2.2 (by omega)
        have hi0 : i = 0 := by have := hi15.2; omega
        subst hi0
        exact (m.fo_stuck (i := 0) (by rw [hpc0]; exact Nat.not_lt_zero _) _ (Nat.zero_le _)).symm
    rw [hfo, show (m.fo (m.t - m.pf)).1 = m.due from rfl, show (m.fo (m.t - m.pf)).2.1 = m.mis from rfl, show (m.fo (m.t - m.pf)).2.2.1 = m.drp from rfl]
    have hdue : m.due ≤ m.pc := (m.fo_le (m.t - m.pf)).1
    have hmis : m.mis ≤ m.t - m.pf := (m.fo_le (m.t - m.pf)).2.1
    have hdrp : m.drp ≤ m.t - m.pf := (m.fo_le (m.t - m.pf)).2.2.1
    refine q_aload_n dL_isPlan_142 rfl ?_
    refine q_iconst (v := nI 4) dL_isPlan_143 (by decide) ?_
    refine q_ialdD (k := 4) hN.1 hN.t hN.l (by omega) (by decide) dL_isPlan_144 ?_
    refine q_tv (show _ = (nI (m.pe)) from R.pe) ?_
    refine q_iconst (v := nI 1) dL_isPlan_145 (by decide) ?_
    refine q_icmp_neN (by omega) (by omega) (tgt := 161) dL_isPlan_146 rfl (fun c3 => ?_) (fun c => by exfalso; first | omega | exact absurd c1 c | exact absurd c c1)
    refine q_iconst (v := nI 0) dL_isPlan_161 (by decide) ?_
    refine q_istore (L' := [_, _, _, _, _, _, _, _]) dL_isPlan_162 rfl (by decide) rfl ?_
    refine q_aload_n dL_isPlan_164 rfl ?_
    refine q_callH (kc := 2) (ks := 12) (g_L_dueEntry (h := h) K C ) wL_dueEntry kL_245 sL_dueEntry (by decide) rfl rfl (Nat.le_of_ble_eq_true rfl) dL_isPlan_165 rfl rfl (fun E h9 q9 => (by obtain ⟨_, q9, _⟩ := q9; exact nomatch q9)) ?_
    intro v9 h101 hq
    obtain ⟨x9, ex9, hj9⟩ := j_dueEntry C B s a0 b0 k0 dd (by omega) hq
    clear hq
    cases ex9
    rcases hj9 with ⟨d1, ex8, rdx⟩ | ⟨y1, hp⟩
    rotate_left
    · exact absurd ((by omega)) y1
    subst ex8
    have rd101 : q_rd h h101 W O := ⟨rdx.1, rd0.2.tr rdx.2⟩
    have C101 := rd101.1
    have K101 : q_Lk Φ h101.R h101.n := (q_lf.fr (a := a) rd101.2).Lk K
    have NN101 : q_n9 h101 a := hN.fr rd101.2.2.2.1
    have R101 : q_nr (h101.I a) m ρ := by rw [rd101.2.1 a (by omega)]; exact R
    refine q_iload dL_isPlan_168 rfl ?_
    refine q_if_eq (tgt := 177) dL_isPlan_170 rfl (fun _ => ?_) (fun c => absurd (by decide) c)
    refine q_ldc dL_isPlan_177 kcL_17 ?_
    refine q_icmp_ne (tgt := 239) dL_isPlan_179 rfl (fun c => absurd (by decide) c) (fun _ => ?_)
    refine q_aload_n dL_isPlan_182 rfl ?_
    refine q_callH (kc := 1) (ks := 6) (g_L_planEnd (h := h101) K101 C101 ) wL_planEnd kL_248 sL_planEnd (by decide) rfl rfl (Nat.le_of_ble_eq_true rfl) dL_isPlan_183 rfl rfl (fun E h9 q9 => (by obtain ⟨_, q9, _⟩ := q9; exact nomatch q9)) ?_
    intro v9 h102 hq
    obtain ⟨x9, ex9, hj9⟩ := j_planEnd C101 B s a0 b0 k0 dd (by omega) hq
    clear hq
    cases ex9
    rcases hj9 with ⟨d1, ex8, rdx⟩ | ⟨y1, hp⟩
    rotate_left
    · exact absurd ((by omega)) y1
    subst ex8
    have rd102 : q_rd h h102 W O := ⟨rdx.1, rd101.2.tr rdx.2⟩
    have C102 := rd102.1
    have K102 : q_Lk Φ h102.R h102.n := (q_lf.fr (a := a) rd102.2).Lk K
    have NN102 : q_n9 h102 a := hN.fr rd102.2.2.2.1
    have R102 : q_nr (h102.I a) m ρ := by rw [rd102.2.1 a (by omega)]; exact R
    refine q_iload dL_isPlan_186 rfl ?_
    refine q_if_eq (tgt := 206) dL_isPlan_188 rfl (fun _ => ?_) (fun c => absurd (by decide) c)
    refine q_ldc dL_isPlan_206 kcL_17 ?_
    refine q_icmp_ne (tgt := 239) dL_isPlan_208 rfl (fun c => absurd (by decide) c) (fun _ => ?_)
    refine q_aload_n dL_isPlan_211 rfl ?_
    refine q_vR (kc := 1) (ks := 6) (g_X9_isPlanOver (h := h102) K102 C102) wX9_isPlanOver kL_250 iX9_isPlanOver eX9_isPlanOver rfl rfl (by decide) (K102.le (by decide)) (by decide) rfl rfl (Nat.le_of_ble_eq_true rfl) dL_isPlan_212 rfl rfl ?_
    intro v9 h103 hq
    obtain ⟨ev9, rdx⟩ := j_isPlanOver C102 B s a0 b0 k0 dd (by omega) hq
    subst ev9
    have rd103 : q_rd h h103 W O := ⟨rdx.1, rd102.2.tr rdx.2⟩
    have C103 := rd103.1
    have K103 : q_Lk Φ h103.R h103.n := (q_lf.fr (a := a) rd103.2).Lk K
    have NN103 : q_n9 h103 a := hN.fr rd103.2.2.2.1
    have R103 : q_nr (h103.I a) m ρ := by rw [rd103.2.1 a (by omega)]; exact R
    refine q_tv (show _ = nI 0 from congrArg q_bl (decide_eq_false (by omega))) ?_
    refine q_aload_n dL_isPlan_215 rfl ?_
    refine q_iconst (v := nI 4) dL_isPlan_216 (by decide) ?_
    refine q_ialdD (k := 4) NN103.1 NN103.t NN103.l (by omega) (by decide) dL_isPlan_217 ?_
    refine q_tv (show _ = (nI (m.pe)) from R103.pe) ?_
    refine q_iconst (v := nI 1) dL_isPlan_218 (by decide) ?_
    refine q_icmp_neN (by omega) (by omega) (tgt := 231) dL_isPlan_219 rfl (fun c13 => ?_) (fun c => by exfalso; first | omega | exact absurd c1 c | exact absurd c c1)
    refine q_iconst (v := nI 0) dL_isPlan_231 (by decide) ?_
    refine q_icmp_ne (tgt := 239) dL_isPlan_232 rfl (fun c => absurd (by decide) c) (fun _ => ?_)
    refine q_iconst (v := nI 1) dL_isPlan_235 (by decide) ?_
    refine q_goto (tgt := 240) dL_isPlan_236 rfl ?_
    refine q_istore (L' := [_, _, _, _, _, _, _, _]) dL_isPlan_240 rfl (by decide) rfl ?_
    refine q_iload dL_isPlan_242 rfl ?_
    refine q_if_eq (tgt := 292) dL_isPlan_244 rfl (fun c => absurd c (by decide)) (fun _ => ?_)
    refine q_aload_n dL_isPlan_247 rfl ?_
    refine q_vR (kc := 1) (ks := 6) (g_X9_missedDays (h := h103) K103 C103) wX9_missedDays kL_254 iX9_missedDays eX9_missedDays rfl rfl (by decide) (K103.le (by decide)) (by decide) rfl rfl (Nat.le_of_ble_eq_true rfl) dL_isPlan_248 rfl rfl ?_
    intro v9 h104 hq
    obtain ⟨ev9, rdx⟩ := j_missedDays C103 B s a0 b0 k0 dd (by omega) hq
    subst ev9
    have rd104 : q_rd h h104 W O := ⟨rdx.1, rd103.2.tr rdx.2⟩
    have C104 := rd104.1
    have K104 : q_Lk Φ h104.R h104.n := (q_lf.fr (a := a) rd104.2).Lk K
    have NN104 : q_n9 h104 a := hN.fr rd104.2.2.2.1
    have R104 : q_nr (h104.I a) m ρ := by rw [rd104.2.1 a (by omega)]; exact R
    refine q_iload_n dL_isPlan_251 rfl ?_
    refine q_icmp_neN (by omega) (by omega) (tgt := 292) dL_isPlan_252 rfl (fun c => absurd rfl c) (fun c19 => ?_)
    refine q_aload_n dL_isPlan_255 rfl ?_
    refine q_vR (kc := 1) (ks := 6) (g_X9_droppedEntries (h := h104) K104 C104) wX9_droppedEntries kL_257 iX9_droppedEntries eX9_droppedEntries rfl rfl (by decide) (K104.le (by decide)) (by decide) rfl rfl (Nat.le_of_ble_eq_true rfl) dL_isPlan_256 rfl rfl ?_
    intro v9 h105 hq
    obtain ⟨ev9, rdx⟩ := j_droppedEntries C104 B s a0 b0 k0 dd (by omega) hq
    subst ev9
    have rd105 : q_rd h h105 W O := ⟨rdx.1, rd104.2.tr rdx.2⟩
    have C105 := rd105.1
    have K105 : q_Lk Φ h105.R h105.n := (q_lf.fr (a := a) rd105.2).Lk K
    have NN105 : q_n9 h105 a := hN.fr rd105.2.2.2.1
    have R105 : q_nr (h105.I a) m ρ := by rw [rd105.2.1 a (by omega)]; exact R
    refine q_iload dL_isPlan_259 rfl ?_
    refine q_icmp_neN (by omega) (by omega) (tgt := 292) dL_isPlan_261 rfl (fun c => absurd rfl c) (fun c21 => ?_)
    refine q_aload_n dL_isPlan_264 rfl ?_
    refine q_iload_n dL_isPlan_265 rfl ?_
    refine q_callH (kc := 0) (ks := 0) (g_L_targetAt (h := h105) K105 C105 (p := (nI (m.due)))) wL_targetAt kL_260 sL_targetAt (by decide) rfl rfl (Nat.le_of_ble_eq_true rfl) dL_isPlan_266 rfl rfl (fun E h9 q9 => (by obtain ⟨_, q9, _⟩ := q9; exact nomatch q9)) ?_
    intro v9 h106 hq
    obtain ⟨x9, ex9, hj9⟩ := j_targetAt C105 B s a0 b0 k0 dd (by omega) hq
    clear hq
    cases ex9
    rcases hj9 with ⟨d1, ex8, rdx⟩ | ⟨y1, hp⟩
    rotate_left
    · exact absurd ((by by_cases hp0 : m.pe = 0; exact Or.inl hp0; exact Or.inr (q_tgo (by omega) (by omega) (by omega)))) y1
    subst ex8
    have rd106 : q_rd h h106 W O := ⟨rdx.1, rd105.2.tr rdx.2⟩
    have C106 := rd106.1
    have K106 : q_Lk Φ h106.R h106.n := (q_lf.fr (a := a) rd106.2).Lk K
    have NN106 : q_n9 h106 a := hN.fr rd106.2.2.2.1
    have R106 : q_nr (h106.I a) m ρ := by rw [rd106.2.1 a (by omega)]; exact R
    refine q_iload dL_isPlan_269 rfl ?_
    refine q_if_eq (tgt := 283) dL_isPlan_271 rfl (fun _ => ?_) (fun c => absurd (by decide) c)
    refine q_ldc dL_isPlan_283 kcL_17 ?_
    refine q_icmp_ne (tgt := 292) dL_isPlan_285 rfl (fun c => absurd (by decide) c) (fun _ => ?_)
    refine q_iconst (v := nI 1) dL_isPlan_288 (by decide) ?_
    refine q_goto (tgt := 293) dL_isPlan_289 rfl ?_
    refine q_zret (ty := .boolean) dL_isPlan_293 rfl rfl (Or.inl rfl) ?_
    exact ⟨_, rfl, rfl, rd106⟩
  · refine q_iload dL_isPlan_22 rfl ?_
    refine q_aload_n dL_isPlan_24 rfl ?_
    refine q_iconst (v := nI 0) dL_isPlan_25 (by decide) ?_
    refine q_ialdD (k := 0) hN.1 hN.t hN.l (by omega) (by decide) dL_isPlan_26 ?_
    refine q_tv (show _ = (nI (m.t)) from R.t) ?_
    refine q_icmp_geN (by omega) (by omega) (tgt := 142) dL_isPlan_27 rfl (fun c27 => ?_) (fun c28 => ?_)
    · have hfo : m.fo i = m.fo (m.t - m.pf) := by
        by_cases hp1 : m.pe = 1
        · rw [show i = m.t - m.pf by omega]
        · have hpc0 := v.2.2.2.2.2.2 (by omega)
          have hi0 : i = 0 := by have := hi15.2; omega
          subst hi0
          exact (m.fo_stuck (i := 0) (by rw [hpc0]; exact Nat.not_lt_zero _) _ (Nat.zero_le _)).symm
      rw [hfo, show (m.fo (m.t - m.pf)).1 = m.due from rfl, show (m.fo (m.t - m.pf)).2.1 = m.mis from rfl, show (m.fo (m.t - m.pf)).2.2.1 = m.drp from rfl]
      have hdue : m.due ≤ m.pc := (m.fo_le (m.t - m.pf)).1
      have hmis : m.mis ≤ m.t - m.pf := (m.fo_le (m.t - m.pf)).2.1
      have hdrp : m.drp ≤ m.t - m.pf := (m.fo_le (m.t - m.pf)).2.2.1
      refine q_aload_n dL_isPlan_142 rfl ?_
      refine q_iconst (v := nI 4) dL_isPlan_143 (by decide) ?_
      refine q_ialdD (k := 4) hN.1 hN.t hN.l (by omega) (by decide) dL_isPlan_144 ?_
      refine q_tv (show _ = (nI (m.pe)) from R.pe) ?_
      refine q_iconst (v := nI 1) dL_isPlan_145 (by decide) ?_
      refine q_icmp_neN (by omega) (by omega) (tgt := 161) dL_isPlan_146 rfl (fun c => by exfalso; first | omega | exact absurd c2 c | exact absurd c c2) (fun c29 => ?_)
      refine q_iload_n dL_isPlan_149 rfl ?_
      refine q_aload_n dL_isPlan_150 rfl ?_
      refine q_bipush (v := nI 6) dL_isPlan_151 (by decide) ?_
      refine q_ialdD (k := 6) hN.1 hN.t hN.l (by omega) (by decide) dL_isPlan_153 ?_
      refine q_tv (show _ = (nI (m.pc)) from R.pc) ?_
      refine q_icmp_geN (by omega) (by omega) (tgt := 161) dL_isPlan_154 rfl (fun c31 => ?_) (fun c32 => ?_)
      · refine q_iconst (v := nI 0) dL_isPlan_161 (by decide) ?_
        refine q_istore (L' := [_, _, _, _, _, _, _, _]) dL_isPlan_162 rfl (by decide) rfl ?_
        refine q_aload_n dL_isPlan_164 rfl ?_
        refine q_callH (kc := 2) (ks := 12) (g_L_dueEntry (h := h) K C ) wL_dueEntry kL_245 sL_dueEntry (by decide) rfl rfl (Nat.le_of_ble_eq_true rfl) dL_isPlan_165 rfl rfl (fun E h9 q9 => (by obtain ⟨_, q9, _⟩ := q9; exact nomatch q9)) ?_
        intro v9 h107 hq
        obtain ⟨x9, ex9, hj9⟩ := j_dueEntry C B s a0 b0 k0 dd (by omega) hq
        clear hq
        cases ex9
        rcases hj9 with ⟨d1, ex8, rdx⟩ | ⟨y1, hp⟩
        rotate_left
        · exact absurd ((by omega)) y1
        subst ex8
        have rd107 : q_rd h h107 W O := ⟨rdx.1, rd0.2.tr rdx.2⟩
        have C107 := rd107.1
        have K107 : q_Lk Φ h107.R h107.n := (q_lf.fr (a := a) rd107.2).Lk K
        have NN107 : q_n9 h107 a := hN.fr rd107.2.2.2.1
        have R107 : q_nr (h107.I a) m ρ := by rw [rd107.2.1 a (by omega)]; exact R
        refine q_iload dL_isPlan_168 rfl ?_
        refine q_if_eq (tgt := 177) dL_isPlan_170 rfl (fun _ => ?_) (fun c => absurd (by decide) c)
        refine q_ldc dL_isPlan_177 kcL_17 ?_
        refine q_icmp_ne (tgt := 239) dL_isPlan_179 rfl (fun c => absurd (by decide) c) (fun _ => ?_)
        refine q_aload_n dL_isPlan_182 rfl ?_
        refine q_callH (kc := 1) (ks := 6) (g_L_planEnd (h := h107) K107 C107 ) wL_planEnd kL_248 sL_planEnd (by decide) rfl rfl (Nat.le_of_ble_eq_true rfl) dL_isPlan_183 rfl rfl (fun E h9 q9 => (by obtain ⟨_, q9, _⟩ := q9; exact nomatch q9)) ?_
        intro v9 h108 hq
        obtain ⟨x9, ex9, hj9⟩ := j_planEnd C107 B s a0 b0 k0 dd (by omega) hq
        clear hq
        cases ex9
        rcases hj9 with ⟨d1, ex8, rdx⟩ | ⟨y1, hp⟩
        rotate_left
        · exact absurd ((by omega)) y1
        subst ex8
        have rd108 : q_rd h h108 W O := ⟨rdx.1, rd107.2.tr rdx.2⟩
        have C108 := rd108.1
        have K108 : q_Lk Φ h108.R h108.n := (q_lf.fr (a := a) rd108.2).Lk K
        have NN108 : q_n9 h108 a := hN.fr rd108.2.2.2.1
        have R108 : q_nr (h108.I a) m ρ := by rw [rd108.2.1 a (by omega)]; exact R
        refine q_iload dL_isPlan_186 rfl ?_
        refine q_if_eq (tgt := 206) dL_isPlan_188 rfl (fun _ => ?_) (fun c => absurd (by decide) c)
        refine q_ldc dL_isPlan_206 kcL_17 ?_
        refine q_icmp_ne (tgt := 239) dL_isPlan_208 rfl (fun c => absurd (by decide) c) (fun _ => ?_)
        refine q_aload_n dL_isPlan_211 rfl ?_
        refine q_vR (kc := 1) (ks := 6) (g_X9_isPlanOver (h := h108) K108 C108) wX9_isPlanOver kL_250 iX9_isPlanOver eX9_isPlanOver rfl rfl (by decide) (K108.le (by decide)) (by decide) rfl rfl (Nat.le_of_ble_eq_true rfl) dL_isPlan_212 rfl rfl ?_
        intro v9 h109 hq
        obtain ⟨ev9, rdx⟩ := j_isPlanOver C108 B s a0 b0 k0 dd (by omega) hq
        subst ev9
        have rd109 : q_rd h h109 W O := ⟨rdx.1, rd108.2.tr rdx.2⟩
        have C109 := rd109.1
        have K109 : q_Lk Φ h109.R h109.n := (q_lf.fr (a := a) rd109.2).Lk K
        have NN109 : q_n9 h109 a := hN.fr rd109.2.2.2.1
        have R109 : q_nr (h109.I a) m ρ := by rw [rd109.2.1 a (by omega)]; exact R
        refine q_tv (show _ = nI 1 from congrArg q_bl (decide_eq_true (by omega))) ?_
        refine q_aload_n dL_isPlan_215 rfl ?_
        refine q_iconst (v := nI 4) dL_isPlan_216 (by decide) ?_
        refine q_ialdD (k := 4) NN109.1 NN109.t NN109.l (by omega) (by decide) dL_isPlan_217 ?_
        refine q_tv (show _ = (nI (m.pe)) from R109.pe) ?_
        refine q_iconst (v := nI 1) dL_isPlan_218 (by decide) ?_
        refine q_icmp_neN (by omega) (by omega) (tgt := 231) dL_isPlan_219 rfl (fun c => by exfalso; first | omega | exact absurd c2 c | exact absurd c c2) (fun c41 => ?_)
        refine q_iload dL_isPlan_222 rfl ?_
        refine q_if_ne (tgt := 231) dL_isPlan_224 rfl (fun c => absurd (by decide) c) (fun _ => ?_)
        refine q_iconst (v := nI 1) dL_isPlan_227 (by decide) ?_
        refine q_goto (tgt := 232) dL_isPlan_228 rfl ?_
        refine q_icmp_ne (tgt := 239) dL_isPlan_232 rfl (fun c => absurd (by decide) c) (fun _ => ?_)
        refine q_iconst (v := nI 1) dL_isPlan_235 (by decide) ?_
        refine q_goto (tgt := 240) dL_isPlan_236 rfl ?_
        refine q_istore (L' := [_, _, _, _, _, _, _, _]) dL_isPlan_240 rfl (by decide) rfl ?_
        refine q_iload dL_isPlan_242 rfl ?_
        refine q_if_eq (tgt := 292) dL_isPlan_244 rfl (fun c => absurd c (by decide)) (fun _ => ?_)
        refine q_aload_n dL_isPlan_247 rfl ?_
        refine q_vR (kc := 1) (ks := 6) (g_X9_missedDays (h := h109) K109 C109) wX9_missedDays kL_254 iX9_missedDays eX9_missedDays rfl rfl (by decide) (K109.le (by decide)) (by decide) rfl rfl (Nat.le_of_ble_eq_true rfl) dL_isPlan_248 rfl rfl ?_
        intro v9 h110 hq
        obtain ⟨ev9, rdx⟩ := j_missedDays C109 B s a0 b0 k0 dd (by omega) hq
        subst ev9
        have rd110 : q_rd h h110 W O := ⟨rdx.1, rd109.2.tr rdx.2⟩
        have C110 := rd110.1
        have K110 : q_Lk Φ h110.R h110.n := (q_lf.fr (a := a) rd110.2).Lk K
        have NN110 : q_n9 h110 a := hN.fr rd110.2.2.2.1
        have R110 : q_nr (h110.I a) m ρ := by rw [rd110.2.1 a (by omega)]; exact R
        refine q_iload_n dL_isPlan_251 rfl ?_
        refine q_icmp_neN (by omega) (by omega) (tgt := 292) dL_isPlan_252 rfl (fun c => absurd rfl c) (fun c49 => ?_)
        refine q_aload_n dL_isPlan_255 rfl ?_
        refine q_vR (kc := 1) (ks := 6) (g_X9_droppedEntries (h := h110) K110 C110) wX9_droppedEntries kL_257 iX9_droppedEntries eX9_droppedEntries rfl rfl (by decide) (K110.le (by decide)) (by decide) rfl rfl (Nat.le_of_ble_eq_true rfl) dL_isPlan_256 rfl rfl ?_
        intro v9 h111 hq
        obtain ⟨ev9, rdx⟩ := j_droppedEntries C110 B s a0 b0 k0 dd (by omega) hq
        subst ev9
        have rd111 : q_rd h h111 W O := ⟨rdx.1, rd110.2.tr rdx.2⟩
        have C111 := rd111.1
        have K111 : q_Lk Φ h111.R h111.n := (q_lf.fr (a := a) rd111.2).Lk K
        have NN111 : q_n9 h111 a := hN.fr rd111.2.2.2.1
        have R111 : q_nr (h111.I a) m ρ := by rw [rd111.2.1 a (by omega)]; exact R
        refine q_iload dL_isPlan_259 rfl ?_
        refine q_icmp_neN (by omega) (by omega) (tgt := 292) dL_isPlan_261 rfl (fun c => absurd rfl c) (fun c51 => ?_)
        refine q_aload_n dL_isPlan_264 rfl ?_
        refine q_iload_n dL_isPlan_265 rfl ?_
        refine q_callH (kc := 0) (ks := 0) (g_L_targetAt (h := h111) K111 C111 (p := (nI (m.due)))) wL_targetAt kL_260 sL_targetAt (by decide) rfl rfl (Nat.le_of_ble_eq_true rfl) dL_isPlan_266 rfl rfl (fun E h9 q9 => (by obtain ⟨_, q9, _⟩ := q9; exact nomatch q9)) ?_
        intro v9 h112 hq
        obtain ⟨x9, ex9, hj9⟩ := j_targetAt C111 B s a0 b0 k0 dd (by omega) hq
        clear hq
        cases ex9
        rcases hj9 with ⟨d1, ex8, rdx⟩ | ⟨y1, hp⟩
        rotate_left
        · exact absurd ((by by_cases hp0 : m.pe = 0; exact Or.inl hp0; exact Or.inr (q_tgo (by omega) (by omega) (by omega)))) y1
        subst ex8
        have rd112 : q_rd h h112 W O := ⟨rdx.1, rd111.2.tr rdx.2⟩
        have C112 := rd112.1
        have K112 : q_Lk Φ h112.R h112.n := (q_lf.fr (a := a) rd112.2).Lk K
        have NN112 : q_n9 h112 a := hN.fr rd112.2.2.2.1
        have R112 : q_nr (h112.I a) m ρ := by rw [rd112.2.1 a (by omega)]; exact R
        refine q_iload dL_isPlan_269 rfl ?_
        refine q_if_eq (tgt := 283) dL_isPlan_271 rfl (fun _ => ?_) (fun c => absurd (by decide) c)
        refine q_ldc dL_isPlan_283 kcL_17 ?_
        refine q_icmp_ne (tgt := 292) dL_isPlan_285 rfl (fun c => absurd (by decide) c) (fun _ => ?_)
        refine q_iconst (v := nI 1) dL_isPlan_288 (by decide) ?_
        refine q_goto (tgt := 293) dL_isPlan_289 rfl ?_
        refine q_zret (ty := .boolean) dL_isPlan_293 rfl rfl (Or.inl rfl) ?_
        exact ⟨_, rfl, rfl, rd112⟩
      · refine q_iconst (v := nI 1) dL_isPlan_157 (by decide) ?_
        refine q_goto (tgt := 162) dL_isPlan_158 rfl ?_
        refine q_istore (L' := [_, _, _, _, _, _, _, _]) dL_isPlan_162 rfl (by decide) rfl ?_
        refine q_aload_n dL_isPlan_164 rfl ?_
        refine q_callH (kc := 2) (ks := 12) (g_L_dueEntry (h := h) K C ) wL_dueEntry kL_245 sL_dueEntry (by decide) rfl rfl (Nat.le_of_ble_eq_true rfl) dL_isPlan_165 rfl rfl (fun E h9 q9 => (by obtain ⟨_, q9, _⟩ := q9; exact nomatch q9)) ?_
        intro v9 h113 hq
        obtain ⟨x9, ex9, hj9⟩ := j_dueEntry C B s a0 b0 k0 dd (by omega) hq
        clear hq
        cases ex9
        rcases hj9 with ⟨d1, ex8, rdx⟩ | ⟨y1, hp⟩
        · exact absurd d1 ((by omega))
        obtain ⟨ev9, rdx⟩ := hp
        cases ev9
        have rd113 : q_rd h h113 W O := ⟨rdx.1, rd0.2.tr rdx.2⟩
        have C113 := rd113.1
        have K113 : q_Lk Φ h113.R h113.n := (q_lf.fr (a := a) rd113.2).Lk K
        have NN113 : q_n9 h113 a := hN.fr rd113.2.2.2.1
        have R113 : q_nr (h113.I a) m ρ := by rw [rd113.2.1 a (by omega)]; exact R
        refine q_iload dL_isPlan_168 rfl ?_
        refine q_if_eq (tgt := 177) dL_isPlan_170 rfl (fun c => absurd c (by decide)) (fun _ => ?_)
        refine q_iload_n dL_isPlan_173 rfl ?_
        refine q_goto (tgt := 179) dL_isPlan_174 rfl ?_
        refine q_icmp_neN (by omega) (by omega) (tgt := 239) dL_isPlan_179 rfl (fun c => absurd rfl c) (fun c59 => ?_)
        refine q_aload_n dL_isPlan_182 rfl ?_
        refine q_callH (kc := 1) (ks := 6) (g_L_planEnd (h := h113) K113 C113 ) wL_planEnd kL_248 sL_planEnd (by decide) rfl rfl (Nat.le_of_ble_eq_true rfl) dL_isPlan_183 rfl rfl (fun E h9 q9 => (by obtain ⟨_, q9, _⟩ := q9; exact nomatch q9)) ?_
        intro v9 h114 hq
        obtain ⟨x9, ex9, hj9⟩ := j_planEnd C113 B s a0 b0 k0 dd (by omega) hq
        clear hq
        cases ex9
        rcases hj9 with ⟨d1, ex8, rdx⟩ | ⟨y1, hp⟩
        · exact absurd d1 ((by omega))
        obtain ⟨ev9, rdx⟩ := hp
        cases ev9
        have rd114 : q_rd h h114 W O := ⟨rdx.1, rd113.2.tr rdx.2⟩
        have C114 := rd114.1
        have K114 : q_Lk Φ h114.R h114.n := (q_lf.fr (a := a) rd114.2).Lk K
        have NN114 : q_n9 h114 a := hN.fr rd114.2.2.2.1
        have R114 : q_nr (h114.I a) m ρ := by rw [rd114.2.1 a (by omega)]; exact R
        refine q_tv (show _ = nI (m.t + m.pc - m.due - 1) from by rw [pk_sub (by omega), pk_sub (by omega)]; exact congrArg nI (by omega)) ?_
        refine q_iload dL_isPlan_186 rfl ?_
        refine q_if_eq (tgt := 206) dL_isPlan_188 rfl (fun c => absurd c (by decide)) (fun _ => ?_)
        refine q_aload_n dL_isPlan_191 rfl ?_
        refine q_iconst (v := nI 0) dL_isPlan_192 (by decide) ?_
        refine q_ialdD (k := 0) NN114.1 NN114.t NN114.l (by omega) (by decide) dL_isPlan_193 ?_
        refine q_tv (show _ = (nI (m.t)) from R114.t) ?_
        refine q_aload_n dL_isPlan_194 rfl ?_
        refine q_bipush (v := nI 6) dL_isPlan_195 (by decide) ?_
        refine q_ialdD (k := 6) NN114.1 NN114.t NN114.l (by omega) (by decide) dL_isPlan_197 ?_
        refine q_tv (show _ = (nI (m.pc)) from R114.pc) ?_
        refine q_iaddN dL_isPlan_198 ?_
        refine q_iload_n dL_isPlan_199 rfl ?_
        refine q_isubN (by omega) dL_isPlan_200 ?_
        refine q_iconst (v := nI 1) dL_isPlan_201 (by decide) ?_
        refine q_isubN (by omega) dL_isPlan_202 ?_
        refine q_goto (tgt := 208) dL_isPlan_203 rfl ?_
        refine q_icmp_neN (by omega) (by omega) (tgt := 239) dL_isPlan_208 rfl (fun c => absurd rfl c) (fun c63 => ?_)
        refine q_aload_n dL_isPlan_211 rfl ?_
        refine q_vR (kc := 1) (ks := 6) (g_X9_isPlanOver (h := h114) K114 C114) wX9_isPlanOver kL_250 iX9_isPlanOver eX9_isPlanOver rfl rfl (by decide) (K114.le (by decide)) (by decide) rfl rfl (Nat.le_of_ble_eq_true rfl) dL_isPlan_212 rfl rfl ?_
        intro v9 h115 hq
        obtain ⟨ev9, rdx⟩ := j_isPlanOver C114 B s a0 b0 k0 dd (by omega) hq
        subst ev9
        have rd115 : q_rd h h115 W O := ⟨rdx.1, rd114.2.tr rdx.2⟩
        have C115 := rd115.1
        have K115 : q_Lk Φ h115.R h115.n := (q_lf.fr (a := a) rd115.2).Lk K
        have NN115 : q_n9 h115 a := hN.fr rd115.2.2.2.1
        have R115 : q_nr (h115.I a) m ρ := by rw [rd115.2.1 a (by omega)]; exact R
        refine q_tv (show _ = nI 0 from congrArg q_bl (decide_eq_false (by omega))) ?_
        refine q_aload_n dL_isPlan_215 rfl ?_
        refine q_iconst (v := nI 4) dL_isPlan_216 (by decide) ?_
        refine q_ialdD (k := 4) NN115.1 NN115.t NN115.l (by omega) (by decide) dL_isPlan_217 ?_
        refine q_tv (show _ = (nI (m.pe)) from R115.pe) ?_
        refine q_iconst (v := nI 1) dL_isPlan_218 (by decide) ?_
        refine q_icmp_neN (by omega) (by omega) (tgt := 231) dL_isPlan_219 rfl (fun c => by exfalso; first | omega | exact absurd c2 c | exact absurd c c2) (fun c65 => ?_)
        refine q_iload dL_isPlan_222 rfl ?_
        refine q_if_ne (tgt := 231) dL_isPlan_224 rfl (fun _ => ?_) (fun c => absurd c (by decide))
        refine q_iconst (v := nI 0) dL_isPlan_231 (by decide) ?_
        refine q_icmp_ne (tgt := 239) dL_isPlan_232 rfl (fun c => absurd (by decide) c) (fun _ => ?_)
        refine q_iconst (v := nI 1) dL_isPlan_235 (by decide) ?_
        refine q_goto (tgt := 240) dL_isPlan_236 rfl ?_
        refine q_istore (L' := [_, _, _, _, _, _, _, _]) dL_isPlan_240 rfl (by decide) rfl ?_
        refine q_iload dL_isPlan_242 rfl ?_
        refine q_if_eq (tgt := 292) dL_isPlan_244 rfl (fun c => absurd c (by decide)) (fun _ => ?_)
        refine q_aload_n dL_isPlan_247 rfl ?_
        refine q_vR (kc := 1) (ks := 6) (g_X9_missedDays (h := h115) K115 C115) wX9_missedDays kL_254 iX9_missedDays eX9_missedDays rfl rfl (by decide) (K115.le (by decide)) (by decide) rfl rfl (Nat.le_of_ble_eq_true rfl) dL_isPlan_248 rfl rfl ?_
        intro v9 h116 hq
        obtain ⟨ev9, rdx⟩ := j_missedDays C115 B s a0 b0 k0 dd (by omega) hq
        subst ev9
        have rd116 : q_rd h h116 W O := ⟨rdx.1, rd115.2.tr rdx.2⟩
        have C116 := rd116.1
        have K116 : q_Lk Φ h116.R h116.n := (q_lf.fr (a := a) rd116.2).Lk K
        have NN116 : q_n9 h116 a := hN.fr rd116.2.2.2.1
        have R116 : q_nr (h116.I a) m ρ := by rw [rd116.2.1 a (by omega)]; exact R
        refine q_iload_n dL_isPlan_251 rfl ?_
        refine q_icmp_neN (by omega) (by omega) (tgt := 292) dL_isPlan_252 rfl (fun c => absurd rfl c) (fun c73 => ?_)
        refine q_aload_n dL_isPlan_255 rfl ?_
        refine q_vR (kc := 1) (ks := 6) (g_X9_droppedEntries (h := h116) K116 C116) wX9_droppedEntries kL_257 iX9_droppedEntries eX9_droppedEntries rfl rfl (by decide) (K116.le (by decide)) (by decide) rfl rfl (Nat.le_of_ble_eq_true rfl) dL_isPlan_256 rfl rfl ?_
        intro v9 h117 hq
        obtain ⟨ev9, rdx⟩ := j_droppedEntries C116 B s a0 b0 k0 dd (by omega) hq
        subst ev9
        have rd117 : q_rd h h117 W O := ⟨rdx.1, rd116.2.tr rdx.2⟩
        have C117 := rd117.1
        have K117 : q_Lk Φ h117.R h117.n := (q_lf.fr (a := a) rd117.2).Lk K
        have NN117 : q_n9 h117 a := hN.fr rd117.2.2.2.1
        have R117 : q_nr (h117.I a) m ρ := by rw [rd117.2.1 a (by omega)]; exact R
        refine q_iload dL_isPlan_259 rfl ?_
        refine q_icmp_neN (by omega) (by omega) (tgt := 292) dL_isPlan_261 rfl (fun c => absurd rfl c) (fun c75 => ?_)
        refine q_aload_n dL_isPlan_264 rfl ?_
        refine q_iload_n dL_isPlan_265 rfl ?_
        refine q_callH (kc := 0) (ks := 0) (g_L_targetAt (h := h117) K117 C117 (p := (nI (m.due)))) wL_targetAt kL_260 sL_targetAt (by decide) rfl rfl (Nat.le_of_ble_eq_true rfl) dL_isPlan_266 rfl rfl (fun E h9 q9 => (by obtain ⟨_, q9, _⟩ := q9; exact nomatch q9)) ?_
        intro v9 h118 hq
        obtain ⟨x9, ex9, hj9⟩ := j_targetAt C117 B s a0 b0 k0 dd (by omega) hq
        clear hq
        cases ex9
        rcases hj9 with ⟨d1, ex8, rdx⟩ | ⟨y1, hp⟩
        · exact absurd d1 ((by rintro (e | e); omega; exact q_tgi (by omega) (by omega) e))
        rw [nI_clamp (by omega)] at hp
        obtain ⟨ev9, rdx⟩ := hp
        cases ev9
        have rd118 : q_rd h h118 W O := ⟨rdx.1, rd117.2.tr rdx.2⟩
        have C118 := rd118.1
        have K118 : q_Lk Φ h118.R h118.n := (q_lf.fr (a := a) rd118.2).Lk K
        have NN118 : q_n9 h118 a := hN.fr rd118.2.2.2.1
        have R118 : q_nr (h118.I a) m ρ := by rw [rd118.2.1 a (by omega)]; exact R
        refine q_iload dL_isPlan_269 rfl ?_
        refine q_if_eq (tgt := 283) dL_isPlan_271 rfl (fun c => absurd c (by decide)) (fun _ => ?_)
        refine q_aload_n dL_isPlan_274 rfl ?_
        refine q_bipush (v := nI 60) dL_isPlan_275 (by decide) ?_
        refine q_iload_n dL_isPlan_277 rfl ?_
        refine q_iaddN dL_isPlan_278 ?_
        refine q_ialdD (k := (60) + (m.due)) NN118.1 NN118.t NN118.l (by omega) (by decide) dL_isPlan_279 ?_
        refine q_tv (show _ = (m.tg m.due) from ((congrArg (h118.I a) (show ((60) + (m.due)) = 60 + m.due by omega)).trans (R118.tg (e := m.due) (by omega)))) ?_
        refine q_goto (tgt := 285) dL_isPlan_280 rfl ?_
        refine q_icmp_ne (tgt := 292) dL_isPlan_285 rfl (fun c => absurd rfl c) (fun c79 => ?_)
        refine q_iconst (v := nI 1) dL_isPlan_288 (by decide) ?_
        refine q_goto (tgt := 293) dL_isPlan_289 rfl ?_
        refine q_zret (ty := .boolean) dL_isPlan_293 rfl rfl (Or.inl rfl) ?_
        exact ⟨_, rfl, rfl, rd118⟩
    · refine q_iload_n dL_isPlan_30 rfl ?_
      refine q_aload_n dL_isPlan_31 rfl ?_
      refine q_bipush (v := nI 6) dL_isPlan_32 (by decide) ?_
      refine q_ialdD (k := 6) hN.1 hN.t hN.l (by omega) (by decide) dL_isPlan_34 ?_
      refine q_tv (show _ = (nI (m.pc)) from R.pc) ?_
      refine q_icmp_geN (by omega) (by omega) (tgt := 136) dL_isPlan_35 rfl (fun c81 => ?_) (fun c82 => ?_)
      · refine q_iincN (n := 1) (L' := [_, _, _, _, _, _, _, _]) (by decide) dL_isPlan_136 rfl rfl (by decide) rfl ?_
        refine q_goto (tgt := 15) dL_isPlan_139 rfl ?_
        have e1 : m.fo (i + 1) = (if (m.fo i).1 < m.pc then (if m.tg (m.fo i).1 ≤ nI 2 * m.D (m.pf + i) then ((m.fo i).1 + 1, (m.fo i).2.1, (m.fo i).2.2.1, 0) else if (m.fo i).2.2.2 + 1 = 3 then ((m.fo i).1 + 1, (m.fo i).2.1 + 1, (m.fo i).2.2.1 + 1, 0) else ((m.fo i).1, (m.fo i).2.1 + 1, (m.fo i).2.2.1, (m.fo i).2.2.2 + 1)) else m.fo i) := q_fo_e m i
        first | rw [if_pos (show (m.fo i).1 < m.pc by assumption), if_pos (show m.tg (m.fo i).1 ≤ nI 2 * m.D (m.pf + i) by rw [Int32.mul_comm]; assumption)] at e1 | rw [if_pos (show (m.fo i).1 < m.pc by assumption), if_neg (show ¬ m.tg (m.fo i).1 ≤ nI 2 * m.D (m.pf + i) by rw [Int32.mul_comm]; assumption), if_pos (show (m.fo i).2.2.2 + 1 = 3 by omega)] at e1 | rw [if_pos (show (m.fo i).1 < m.pc by assumption), if_neg (show ¬ m.tg (m.fo i).1 ≤ nI 2 * m.D (m.pf + i) by rw [Int32.mul_comm]; assumption), if_neg (show ¬ (m.fo i).2.2.2 + 1 = 3 by omega)] at e1 | rw [if_neg (show ¬ (m.fo i).1 < m.pc by omega)] at e1
        exact q_to (ih15 (i + 1) (⟨by omega, Or.inl (by assumption)⟩) (by omega)) (q_sub_s rfl (q_sub_s rfl (q_sub_i (by rw [e1] <;> first | rfl | exact congrArg nI (by first | omega | (dsimp only; omega))) (q_sub_i (by rw [e1] <;> first | rfl | exact congrArg nI (by first | omega | (dsimp only; omega))) (q_sub_i (by rw [e1] <;> first | rfl | exact congrArg nI (by first | omega | (dsimp only; omega))) (q_sub_i (by rw [e1] <;> first | rfl | exact congrArg nI (by first | omega | (dsimp only; omega))) (q_sub_i rfl (q_sub_n q_sub_0)))))))) rfl
      · refine q_aload_n dL_isPlan_38 rfl ?_
        refine q_iload dL_isPlan_39 rfl ?_
        refine q_sD (kc := 3) (ks := 18) (g_L_loadOf_ (h := h) K hN R B v dd (d := m.pf + i) (by omega)) wL_loadOf_ kL_243 sL_loadOf_ (by decide) rfl rfl (Nat.le_of_ble_eq_true rfl) dL_isPlan_41 rfl rfl ?_
        rw [q_sum_id k0.1 (by omega)]
        refine q_iconst (v := nI 2) dL_isPlan_44 (by decide) ?_
        refine q_imul dL_isPlan_45 ?_
        refine q_aload_n dL_isPlan_46 rfl ?_
        refine q_bipush (v := nI 60) dL_isPlan_47 (by decide) ?_
        refine q_iload_n dL_isPlan_49 rfl ?_
        refine q_iaddN dL_isPlan_50 ?_
        refine q_ialdD (k := (60) + ((m.fo i).1)) hN.1 hN.t hN.l (by omega) (by decide) dL_isPlan_51 ?_
        refine q_tv (show _ = (m.tg ((m.fo i).1)) from ((congrArg (h.I a) (show ((60) + ((m.fo i).1)) = 60 + ((m.fo i).1) by omega)).trans (R.tg (e := ((m.fo i).1)) (by omega)))) ?_
        refine q_icmp_ge (tgt := 59) dL_isPlan_52 rfl (fun c83 => ?_) (fun c84 => ?_)
        · refine q_iconst (v := nI 0) dL_isPlan_59 (by decide) ?_
          refine q_istore (L' := [_, _, _, _, _, _, _, _]) dL_isPlan_60 rfl (by decide) rfl ?_
          refine q_iload dL_isPlan_62 rfl ?_
          refine q_if_eq (tgt := 74) dL_isPlan_64 rfl (fun _ => ?_) (fun c => absurd (by decide) c)
          refine q_iconst (v := nI 3) dL_isPlan_74 (by decide) ?_
          refine q_istore (L' := [_, _, _, _, _, _, _, _]) dL_isPlan_75 rfl (by decide) rfl ?_
          refine q_iload_n dL_isPlan_77 rfl ?_
          refine q_iload dL_isPlan_78 rfl ?_
          refine q_if_eq (tgt := 87) dL_isPlan_80 rfl (fun _ => ?_) (fun c => absurd (by decide) c)
          refine q_iconst (v := nI 0) dL_isPlan_87 (by decide) ?_
          refine q_iaddN dL_isPlan_88 ?_
          refine q_istore_n (L' := [_, _, _, _, _, _, _, _]) dL_isPlan_89 rfl (by decide) rfl ?_
          refine q_iload dL_isPlan_90 rfl ?_
          refine q_iload dL_isPlan_92 rfl ?_
          refine q_if_ne (tgt := 101) dL_isPlan_94 rfl (fun _ => ?_) (fun c => absurd c (by decide))
          refine q_iconst (v := nI 0) dL_isPlan_101 (by decide) ?_
          refine q_iaddN dL_isPlan_102 ?_
          refine q_istore (L' := [_, _, _, _, _, _, _, _]) dL_isPlan_103 rfl (by decide) rfl ?_
          refine q_iload_n dL_isPlan_105 rfl ?_
          refine q_iload dL_isPlan_106 rfl ?_
          refine q_if_eq (tgt := 116) dL_isPlan_108 rfl (fun _ => ?_) (fun c => absurd (by decide) c)
          refine q_iconst (v := nI 1) dL_isPlan_116 (by decide) ?_
          refine q_goto (tgt := 121) dL_isPlan_117 rfl ?_
          refine q_iaddN dL_isPlan_121 ?_
          refine q_istore_n (L' := [_, _, _, _, _, _, _, _]) dL_isPlan_122 rfl (by decide) rfl ?_
          refine q_iload dL_isPlan_123 rfl ?_
          refine q_if_ne (tgt := 132) dL_isPlan_125 rfl (fun _ => ?_) (fun c => absurd c (by decide))
          refine q_iload dL_isPlan_132 rfl ?_
          refine q_istore (L' := [_, _, _, _, _, _, _, _]) dL_isPlan_134 rfl (by decide) rfl ?_
          refine q_iincN (n := 1) (L' := [_, _, _, _, _, _, _, _]) (by decide) dL_isPlan_136 rfl rfl (by decide) rfl ?_
          refine q_goto (tgt := 15) dL_isPlan_139 rfl ?_
          have e1 : m.fo (i + 1) = (if (m.fo i).1 < m.pc then (if m.tg (m.fo i).1 ≤ nI 2 * m.D (m.pf + i) then ((m.fo i).1 + 1, (m.fo i).2.1, (m.fo i).2.2.1, 0) else if (m.fo i).2.2.2 + 1 = 3 then ((m.fo i).1 + 1, (m.fo i).2.1 + 1, (m.fo i).2.2.1 + 1, 0) else ((m.fo i).1, (m.fo i).2.1 + 1, (m.fo i).2.2.1, (m.fo i).2.2.2 + 1)) else m.fo i) := q_fo_e m i
          first | rw [if_pos (show (m.fo i).1 < m.pc by assumption), if_pos (show m.tg (m.fo i).1 ≤ nI 2 * m.D (m.pf + i) by rw [Int32.mul_comm]; assumption)] at e1 | rw [if_pos (show (m.fo i).1 < m.pc by assumption), if_neg (show ¬ m.tg (m.fo i).1 ≤ nI 2 * m.D (m.pf + i) by rw [Int32.mul_comm]; assumption), if_pos (show (m.fo i).2.2.2 + 1 = 3 by omega)] at e1 | rw [if_pos (show (m.fo i).1 < m.pc by assumption), if_neg (show ¬ m.tg (m.fo i).1 ≤ nI 2 * m.D (m.pf + i) by rw [Int32.mul_comm]; assumption), if_neg (show ¬ (m.fo i).2.2.2 + 1 = 3 by omega)] at e1 | rw [if_neg (show ¬ (m.fo i).1 < m.pc by omega)] at e1
          exact q_to (ih15 (i + 1) (⟨by omega, Or.inl (by assumption)⟩) (by omega)) (q_sub_s rfl (q_sub_s rfl (q_sub_i (by rw [e1] <;> first | rfl | exact congrArg nI (by first | omega | (dsimp only; omega))) (q_sub_i (by rw [e1] <;> first | rfl | exact congrArg nI (by first | omega | (dsimp only; omega))) (q_sub_i (by rw [e1] <;> first | rfl | exact congrArg nI (by first | omega | (dsimp only; omega))) (q_sub_i (by rw [e1] <;> first | rfl | exact congrArg nI (by first | omega | (dsimp only; omega))) (q_sub_i rfl (q_sub_n q_sub_0)))))))) rfl
        · refine q_iconst (v := nI 1) dL_isPlan_55 (by decide) ?_
          refine q_goto (tgt := 60) dL_isPlan_56 rfl ?_
          refine q_istore (L' := [_, _, _, _, _, _, _, _]) dL_isPlan_60 rfl (by decide) rfl ?_
          refine q_iload dL_isPlan_62 rfl ?_
          refine q_if_eq (tgt := 74) dL_isPlan_64 rfl (fun c => absurd c (by decide)) (fun _ => ?_)
          refine q_iload dL_isPlan_67 rfl ?_
          refine q_iconst (v := nI 1) dL_isPlan_69 (by decide) ?_
          refine q_isubN (by omega) dL_isPlan_70 ?_
          refine q_goto (tgt := 75) dL_isPlan_71 rfl ?_
          refine q_istore (L' := [_, _, _, _, _, _, _, _]) dL_isPlan_75 rfl (by decide) rfl ?_
          refine q_iload_n dL_isPlan_77 rfl ?_
          refine q_iload dL_isPlan_78 rfl ?_
          refine q_if_eq (tgt := 87) dL_isPlan_80 rfl (fun c => absurd c (by decide)) (fun _ => ?_)
          refine q_iconst (v := nI 1) dL_isPlan_83 (by decide) ?_
          refine q_goto (tgt := 88) dL_isPlan_84 rfl ?_
          refine q_iaddN dL_isPlan_88 ?_
          refine q_istore_n (L' := [_, _, _, _, _, _, _, _]) dL_isPlan_89 rfl (by decide) rfl ?_
          refine q_iload dL_isPlan_90 rfl ?_
          refine q_iload dL_isPlan_92 rfl ?_
          refine q_if_neN (by omega) (tgt := 101) dL_isPlan_94 rfl (fun c99 => ?_) (fun c100 => ?_)
          · refine q_iconst (v := nI 0) dL_isPlan_101 (by decide) ?_
            refine q_iaddN dL_isPlan_102 ?_
            refine q_istore (L' := [_, _, _, _, _, _, _, _]) dL_isPlan_103 rfl (by decide) rfl ?_
            refine q_iload_n dL_isPlan_105 rfl ?_
            refine q_iload dL_isPlan_106 rfl ?_
            refine q_if_eq (tgt := 116) dL_isPlan_108 rfl (fun c => absurd c (by decide)) (fun _ => ?_)
            refine q_iload dL_isPlan_111 rfl ?_
            refine q_if_neN (by omega) (tgt := 120) dL_isPlan_113 rfl (fun c103 => ?_) (fun c => by exfalso; first | omega | exact absurd c99 c | exact absurd c c99)
            refine q_iconst (v := nI 0) dL_isPlan_120 (by decide) ?_
            refine q_iaddN dL_isPlan_121 ?_
            refine q_istore_n (L' := [_, _, _, _, _, _, _, _]) dL_isPlan_122 rfl (by decide) rfl ?_
            refine q_iload dL_isPlan_123 rfl ?_
            refine q_if_neN (by omega) (tgt := 132) dL_isPlan_125 rfl (fun c105 => ?_) (fun c => by exfalso; first | omega | exact absurd c99 c | exact absurd c c99)
            refine q_iload dL_isPlan_132 rfl ?_
            refine q_istore (L' := [_, _, _, _, _, _, _, _]) dL_isPlan_134 rfl (by decide) rfl ?_
            refine q_iincN (n := 1) (L' := [_, _, _, _, _, _, _, _]) (by decide) dL_isPlan_136 rfl rfl (by decide) rfl ?_
            refine q_goto (tgt := 15) dL_isPlan_139 rfl ?_
            have e1 : m.fo (i + 1) = (if (m.fo i).1 < m.pc then (if m.tg (m.fo i).1 ≤ nI 2 * m.D (m.pf + i) then ((m.fo i).1 + 1, (m.fo i).2.1, (m.fo i).2.2.1, 0) else if (m.fo i).2.2.2 + 1 = 3 then ((m.fo i).1 + 1, (m.fo i).2.1 + 1, (m.fo i).2.2.1 + 1, 0) else ((m.fo i).1, (m.fo i).2.1 + 1, (m.fo i).2.2.1, (m.fo i).2.2.2 + 1)) else m.fo i) := q_fo_e m i
            first | rw [if_pos (show (m.fo i).1 < m.pc by assumption), if_pos (show m.tg (m.fo i).1 ≤ nI 2 * m.D (m.pf + i) by rw [Int32.mul_comm]; assumption)] at e1 | rw [if_pos (show (m.fo i).1 < m.pc by assumption), if_neg (show ¬ m.tg (m.fo i).1 ≤ nI 2 * m.D (m.pf + i) by rw [Int32.mul_comm]; assumption), if_pos (show (m.fo i).2.2.2 + 1 = 3 by omega)] at e1 | rw [if_pos (show (m.fo i).1 < m.pc by assumption), if_neg (show ¬ m.tg (m.fo i).1 ≤ nI 2 * m.D (m.pf + i) by rw [Int32.mul_comm]; assumption), if_neg (show ¬ (m.fo i).2.2.2 + 1 = 3 by omega)] at e1 | rw [if_neg (show ¬ (m.fo i).1 < m.pc by omega)] at e1
            exact q_to (ih15 (i + 1) (⟨by omega, Or.inl (by assumption)⟩) (by omega)) (q_sub_s rfl (q_sub_s rfl (q_sub_i (by rw [e1] <;> first | rfl | exact congrArg nI (by first | omega | (dsimp only; omega))) (q_sub_i (by rw [e1] <;> first | rfl | exact congrArg nI (by first | omega | (dsimp only; omega))) (q_sub_i (by rw [e1] <;> first | rfl | exact congrArg nI (by first | omega | (dsimp only; omega))) (q_sub_i (by rw [e1] <;> first | rfl | exact congrArg nI (by first | omega | (dsimp only; omega))) (q_sub_i rfl (q_sub_n q_sub_0)))))))) rfl
          · refine q_iconst (v := nI 1) dL_isPlan_97 (by decide) ?_
            refine q_goto (tgt := 102) dL_isPlan_98 rfl ?_
            refine q_iaddN dL_isPlan_102 ?_
            refine q_istore (L' := [_, _, _, _, _, _, _, _]) dL_isPlan_103 rfl (by decide) rfl ?_
            refine q_iload_n dL_isPlan_105 rfl ?_
            refine q_iload dL_isPlan_106 rfl ?_
            refine q_if_eq (tgt := 116) dL_isPlan_108 rfl (fun c => absurd c (by decide)) (fun _ => ?_)
            refine q_iload dL_isPlan_111 rfl ?_
            refine q_if_neN (by omega) (tgt := 120) dL_isPlan_113 rfl (fun c => by exfalso; first | omega | exact absurd c100 c | exact absurd c c100) (fun c109 => ?_)
            refine q_iconst (v := nI 1) dL_isPlan_116 (by decide) ?_
            refine q_goto (tgt := 121) dL_isPlan_117 rfl ?_
            refine q_iaddN dL_isPlan_121 ?_
            refine q_istore_n (L' := [_, _, _, _, _, _, _, _]) dL_isPlan_122 rfl (by decide) rfl ?_
            refine q_iload dL_isPlan_123 rfl ?_
            refine q_if_neN (by omega) (tgt := 132) dL_isPlan_125 rfl (fun c => by exfalso; first | omega | exact absurd c100 c | exact absurd c c100) (fun c111 => ?_)
            refine q_iconst (v := nI 3) dL_isPlan_128 (by decide) ?_
            refine q_goto (tgt := 134) dL_isPlan_129 rfl ?_
            refine q_istore (L' := [_, _, _, _, _, _, _, _]) dL_isPlan_134 rfl (by decide) rfl ?_
            refine q_iincN (n := 1) (L' := [_, _, _, _, _, _, _, _]) (by decide) dL_isPlan_136 rfl rfl (by decide) rfl ?_
            refine q_goto (tgt := 15) dL_isPlan_139 rfl ?_
            have e1 : m.fo (i + 1) = (if (m.fo i).1 < m.pc then (if m.tg (m.fo i).1 ≤ nI 2 * m.D (m.pf + i) then ((m.fo i).1 + 1, (m.fo i).2.1, (m.fo i).2.2.1, 0) else if (m.fo i).2.2.2 + 1 = 3 then ((m.fo i).1 + 1, (m.fo i).2.1 + 1, (m.fo i).2.2.1 + 1, 0) else ((m.fo i).1, (m.fo i).2.1 + 1, (m.fo i).2.2.1, (m.fo i).2.2.2 + 1)) else m.fo i) := q_fo_e m i
            first | rw [if_pos (show (m.fo i).1 < m.pc by assumption), if_pos (show m.tg (m.fo i).1 ≤ nI 2 * m.D (m.pf + i) by rw [Int32.mul_comm]; assumption)] at e1 | rw [if_pos (show (m.fo i).1 < m.pc by assumption), if_neg (show ¬ m.tg (m.fo i).1 ≤ nI 2 * m.D (m.pf + i) by rw [Int32.mul_comm]; assumption), if_pos (show (m.fo i).2.2.2 + 1 = 3 by omega)] at e1 | rw [if_pos (show (m.fo i).1 < m.pc by assumption), if_neg (show ¬ m.tg (m.fo i).1 ≤ nI 2 * m.D (m.pf + i) by rw [Int32.mul_comm]; assumption), if_neg (show ¬ (m.fo i).2.2.2 + 1 = 3 by omega)] at e1 | rw [if_neg (show ¬ (m.fo i).1 < m.pc by omega)] at e1
            exact q_to (ih15 (i + 1) (⟨by omega, Or.inl (by assumption)⟩) (by omega)) (q_sub_s rfl (q_sub_s rfl (q_sub_i (by rw [e1] <;> first | rfl | exact congrArg nI (by first | omega | (dsimp only; omega))) (q_sub_i (by rw [e1] <;> first | rfl | exact congrArg nI (by first | omega | (dsimp only; omega))) (q_sub_i (by rw [e1] <;> first | rfl | exact congrArg nI (by first | omega | (dsimp only; omega))) (q_sub_i (by rw [e1] <;> first | rfl | exact congrArg nI (by first | omega | (dsimp only; omega))) (q_sub_i rfl (q_sub_n q_sub_0)))))))) rfl
theorem g_L_ranked {Φ : q_Fx} {h : q_Hp} (K : q_Lk Φ h.R h.n) {a : Nat} (hN : q_n9 h a) {m : q_W} {ρ : Nat → Nat} (R : q_nr (h.I a) m ρ) (B : q_bd m) {W : q_W} {τ : Nat → Nat} {N0 : Nat} (b0 : q_si1 W m τ) (k0 : q_si2 m N0) (hN0 : N0 ≤ 500) {pos : Nat} (hp : pos < m.c) : q_Ct Φ false yL_ranked cL_ranked mL_ranked [.ref a, .int (nI (pos))] h (q_is (some (.int (nI (τ pos)))) h) := by
  refine q_enter K.st rfl rfl (by decide) rfl (Nat.le_of_ble_eq_true rfl) (L := [_, _, none, none, none, none, none, none]) rfl ?_
  obtain ⟨bt, bn, bc, bpe, bpf, bpc, bpn⟩ := id B
  refine q_iconst (v := (-1)) dL_ranked_0 (by decide) ?_
  refine q_istore_n (L' := [_, _, _, _, _, _, _, _]) dL_ranked_1 rfl (by decide) rfl ?_
  refine q_iconst (v := (-1)) dL_ranked_2 (by decide) ?_
  refine q_istore_n (L' := [_, _, _, _, _, _, _, _]) dL_ranked_3 rfl (by decide) rfl ?_
  refine q_iconst (v := nI 0) dL_ranked_4 (by decide) ?_
  refine q_istore (L' := [_, _, _, _, _, _, _, _]) dL_ranked_5 rfl (by decide) rfl ?_
  refine q_loop (ι := Nat × Nat × Nat) (μ := fun x => pos + 1 - x.1) (P := fun x => x.1 ≤ pos + 1 ∧ q_rk1 m τ x.1 x.2.1 x.2.2) (Lf := fun x => [some (.ref a), some (.int (nI (pos))), some (.int (nI x.2.1 - nI 1)), some (.int (nI x.2.2 - nI 1)), some (.int (nI (x.1))), none, none, none]) (hf := fun x => h) (fun x hi7 ih7 => ?_) (0, 0, 0) (⟨Nat.zero_le _, Or.inl ⟨rfl, rfl⟩⟩) (q_sub_s rfl (q_sub_i rfl (q_sub_i (by decide) (q_sub_i (by decide) (q_sub_i rfl (q_sub_n (q_sub_n (q_sub_n q_sub_0)))))))) rfl
  skip
  obtain ⟨n, ln, fd⟩ := x
  dsimp only at hi7 ih7 ⊢
  have hlb := q_rk1_b b0 k0 hN0 (show n ≤ m.c by omega) hi7.2
  refine q_iload dL_ranked_7 rfl ?_
  refine q_iload_n dL_ranked_9 rfl ?_
  refine q_icmp_gtN (by omega) (by omega) (tgt := 110) dL_ranked_10 rfl (fun c1 => ?_) (fun c2 => ?_)
  · refine q_iload_n dL_ranked_110 rfl ?_
    refine q_iret dL_ranked_111 rfl (Or.inl rfl) ?_
    exact q_isI (by rcases hi7.2 with ⟨z1, z2⟩ | ⟨z1, z2, z3⟩; omega; rw [z3, pk_sub (by omega), show n - 1 = pos by omega]; rfl) rfl
  · refine q_iconst (v := (-1)) dL_ranked_13 (by decide) ?_
    refine q_istore (L' := [_, _, _, _, _, _, _, _]) dL_ranked_14 rfl (by decide) rfl ?_
    refine q_iconst (v := nI 0) dL_ranked_16 (by decide) ?_
    refine q_istore (L' := [_, _, _, _, _, _, _, _]) dL_ranked_17 rfl (by decide) rfl ?_
    refine q_loop (ι := Nat × Nat × Nat) (μ := fun y => m.c - y.1) (P := fun y => y.1 ≤ m.c ∧ q_rk m ln fd y.1 y.2.1 y.2.2) (Lf := fun y => [some (.ref a), some (.int (nI (pos))), some (.int (nI ln - nI 1)), some (.int (nI y.2.2 - nI 1)), some (.int (nI (n))), some (.int (nI y.2.1 - nI 1)), some (.int (nI (y.1))), none]) (hf := fun y => h) (fun y hi19 ih19 => ?_) (0, 0, fd) (⟨Nat.zero_le _, q_rk_0 ln fd⟩) (q_sub_s rfl (q_sub_i rfl (q_sub_i rfl (q_sub_i rfl (q_sub_i rfl (q_sub_i (show (-1 : Int32) = nI 0 - nI 1 by decide) (q_sub_i rfl (q_sub_n q_sub_0)))))))) rfl
    skip
    obtain ⟨k, nx, f2⟩ := y
    dsimp only at hi19 ih19 ⊢
    have hnb := q_rk_b k0 hN0 hi19.2 hi19.1
    refine q_iload dL_ranked_19 rfl ?_
    refine q_aload_n dL_ranked_21 rfl ?_
    refine q_iconst (v := nI 2) dL_ranked_22 (by decide) ?_
    refine q_ialdD (k := 2) hN.1 hN.t hN.l (by omega) (by decide) dL_ranked_23 ?_
    refine q_tv (show _ = (nI (m.c)) from R.c) ?_
    refine q_icmp_geN (by omega) (by omega) (tgt := 101) dL_ranked_24 rfl (fun c3 => ?_) (fun c4 => ?_)
    · refine q_iload dL_ranked_101 rfl ?_
      refine q_istore_n (L' := [_, _, _, _, _, _, _, _]) dL_ranked_103 rfl (by decide) rfl ?_
      refine q_iincN (n := 1) (L' := [_, _, _, _, _, _, _, _]) (by decide) dL_ranked_104 rfl rfl (by decide) rfl ?_
      refine q_goto (tgt := 7) dL_ranked_107 rfl ?_
      exact q_to (ih7 (n + 1, nx, f2) (⟨by omega, q_rk_end b0 k0 hN0 (by omega) hi7.2 (by rw [show m.c = k by omega]; exact hi19.2)⟩) (by dsimp only; omega)) (q_sub_s rfl (q_sub_i rfl (q_sub_i rfl (q_sub_i rfl (q_sub_i rfl (q_sub_n (q_sub_n (q_sub_n q_sub_0)))))))) rfl
    · refine q_sipush (v := nI 1000) dL_ranked_27 (by decide) ?_
      refine q_aload_n dL_ranked_30 rfl ?_
      refine q_bipush (v := nI 101) dL_ranked_31 (by decide) ?_
      refine q_bipush (v := nI 20) dL_ranked_33 (by decide) ?_
      refine q_iload dL_ranked_35 rfl ?_
      refine q_imulN dL_ranked_37 ?_
      refine q_iaddN dL_ranked_38 ?_
      refine q_ialdD (k := (101) + ((20) * (k))) hN.1 hN.t hN.l (by omega) (by decide) dL_ranked_39 ?_
      refine q_tv (show _ = (nI (m.dy k)) from ((congrArg (h.I a) (show ((101) + ((20) * (k))) = 101 + 20 * k by omega)).trans (R.dy (k := k) (by omega)))) ?_
      refine q_imulN dL_ranked_40 ?_
      refine q_aload_n dL_ranked_41 rfl ?_
      refine q_bipush (v := nI 100) dL_ranked_42 (by decide) ?_
      refine q_bipush (v := nI 20) dL_ranked_44 (by decide) ?_
      refine q_iload dL_ranked_46 rfl ?_
      refine q_imulN dL_ranked_48 ?_
      refine q_iaddN dL_ranked_49 ?_
      refine q_ialdD (k := (100) + ((20) * (k))) hN.1 hN.t hN.l (by omega) (by decide) dL_ranked_50 ?_
      refine q_tv (show _ = (m.id k) from ((congrArg (h.I a) (show ((100) + ((20) * (k))) = 100 + 20 * k by omega)).trans (R.id (k := k) (by omega)))) ?_
      refine q_iadd dL_ranked_51 ?_
      refine q_tv (show _ = nI (q_key m k) from q_key_e k0 hN0 (by omega)) ?_
      refine q_istore (L' := [_, _, _, _, _, _, _, _]) dL_ranked_52 rfl (by decide) rfl ?_
      have hkb := q_key_b k0 hN0 (show k < m.c by omega)
      refine q_iload dL_ranked_54 rfl ?_
      refine q_iload_n dL_ranked_56 rfl ?_
      refine q_icmp_le (tgt := 77) dL_ranked_57 rfl (fun c5 => ?_) (fun c6 => ?_)
      · have g2 : q_key m k < ln ∨ (nx ≠ 0 ∧ nx ≤ q_key m k + 1) := by first | exact Or.inl ((q_kle (by omega) (by omega)).mp (by assumption)) | exact Or.inr ⟨fun e9 => absurd ((q_klt0 (by omega)).mpr e9) (by assumption), (q_kge (by omega) (by omega)).mp (by assumption)⟩
        refine q_iload dL_ranked_77 rfl ?_
        refine q_istore (L' := [_, _, _, _, _, _, _, _]) dL_ranked_79 rfl (by decide) rfl ?_
        refine q_iload dL_ranked_81 rfl ?_
        refine q_iload dL_ranked_83 rfl ?_
        refine q_icmp_ne (tgt := 93) dL_ranked_85 rfl (fun c7 => ?_) (fun c => (q_rk_no k0 hN0 hi19.2 (by omega) ((q_keq (by omega) (by omega)).mp c)).elim)
        refine q_iload_n dL_ranked_93 rfl ?_
        refine q_istore_n (L' := [_, _, _, _, _, _, _, _]) dL_ranked_94 rfl (by decide) rfl ?_
        refine q_iincN (n := 1) (L' := [_, _, _, _, _, _, _, _]) (by decide) dL_ranked_95 rfl rfl (by decide) rfl ?_
        refine q_goto (tgt := 19) dL_ranked_98 rfl ?_
        exact q_to (ih19 (k + 1, nx, f2) (⟨by omega, q_rk_un hi19.2 g2⟩) (by dsimp only; omega)) (q_sub_s rfl (q_sub_i rfl (q_sub_i rfl (q_sub_i (by first | rfl | exact q_p1 _) (q_sub_i rfl (q_sub_i (by first | rfl | exact q_p1 _) (q_sub_i rfl (q_sub_n q_sub_0)))))))) rfl
      · have g1 : ln ≤ q_key m k := Nat.le_of_not_lt fun e9 => absurd ((q_kle (by omega) (by omega)).mpr e9) (by assumption)
        refine q_iload dL_ranked_60 rfl ?_
        refine q_if_lt (tgt := 72) dL_ranked_62 rfl (fun c9 => ?_) (fun c10 => ?_)
        · have g3 : nx = 0 ∨ q_key m k + 1 < nx := by first | exact Or.inl ((q_klt0 (by omega)).mp (by assumption)) | exact Or.inr (Nat.lt_of_not_le fun e9 => absurd ((q_kge (by omega) (by omega)).mpr e9) (by assumption))
          refine q_iload dL_ranked_72 rfl ?_
          refine q_goto (tgt := 79) dL_ranked_74 rfl ?_
          refine q_istore (L' := [_, _, _, _, _, _, _, _]) dL_ranked_79 rfl (by decide) rfl ?_
          refine q_iload dL_ranked_81 rfl ?_
          refine q_iload dL_ranked_83 rfl ?_
          refine q_icmp_neN (by omega) (by omega) (tgt := 93) dL_ranked_85 rfl (fun c => absurd rfl c) (fun c11 => ?_)
          refine q_iload dL_ranked_88 rfl ?_
          refine q_goto (tgt := 94) dL_ranked_90 rfl ?_
          refine q_istore_n (L' := [_, _, _, _, _, _, _, _]) dL_ranked_94 rfl (by decide) rfl ?_
          refine q_iincN (n := 1) (L' := [_, _, _, _, _, _, _, _]) (by decide) dL_ranked_95 rfl rfl (by decide) rfl ?_
          refine q_goto (tgt := 19) dL_ranked_98 rfl ?_
          exact q_to (ih19 (k + 1, q_key m k + 1, k + 1) (⟨by omega, q_rk_ch hi19.2 g1 g3⟩) (by dsimp only; omega)) (q_sub_s rfl (q_sub_i rfl (q_sub_i rfl (q_sub_i (by first | rfl | exact q_p1 _) (q_sub_i rfl (q_sub_i (by first | rfl | exact q_p1 _) (q_sub_i rfl (q_sub_n q_sub_0)))))))) rfl
        · refine q_iload dL_ranked_65 rfl ?_
          refine q_iload dL_ranked_67 rfl ?_
          refine q_icmp_ge (tgt := 77) dL_ranked_69 rfl (fun c13 => ?_) (fun c14 => ?_)
          · have g2 : q_key m k < ln ∨ (nx ≠ 0 ∧ nx ≤ q_key m k + 1) := by first | exact Or.inl ((q_kle (by omega) (by omega)).mp (by assumption)) | exact Or.inr ⟨fun e9 => absurd ((q_klt0 (by omega)).mpr e9) (by assumption), (q_kge (by omega) (by omega)).mp (by assumption)⟩
            refine q_iload dL_ranked_77 rfl ?_
            refine q_istore (L' := [_, _, _, _, _, _, _, _]) dL_ranked_79 rfl (by decide) rfl ?_
            refine q_iload dL_ranked_81 rfl ?_
            refine q_iload dL_ranked_83 rfl ?_
            refine q_icmp_ne (tgt := 93) dL_ranked_85 rfl (fun c15 => ?_) (fun c => (q_rk_no k0 hN0 hi19.2 (by omega) ((q_keq (by omega) (by omega)).mp c)).elim)
            refine q_iload_n dL_ranked_93 rfl ?_
            refine q_istore_n (L' := [_, _, _, _, _, _, _, _]) dL_ranked_94 rfl (by decide) rfl ?_
            refine q_iincN (n := 1) (L' := [_, _, _, _, _, _, _, _]) (by decide) dL_ranked_95 rfl rfl (by decide) rfl ?_
            refine q_goto (tgt := 19) dL_ranked_98 rfl ?_
            exact q_to (ih19 (k + 1, nx, f2) (⟨by omega, q_rk_un hi19.2 g2⟩) (by dsimp only; omega)) (q_sub_s rfl (q_sub_i rfl (q_sub_i rfl (q_sub_i (by first | rfl | exact q_p1 _) (q_sub_i rfl (q_sub_i (by first | rfl | exact q_p1 _) (q_sub_i rfl (q_sub_n q_sub_0)))))))) rfl
          · have g3 : nx = 0 ∨ q_key m k + 1 < nx := by first | exact Or.inl ((q_klt0 (by omega)).mp (by assumption)) | exact Or.inr (Nat.lt_of_not_le fun e9 => absurd ((q_kge (by omega) (by omega)).mpr e9) (by assumption))
            refine q_iload dL_ranked_72 rfl ?_
            refine q_goto (tgt := 79) dL_ranked_74 rfl ?_
            refine q_istore (L' := [_, _, _, _, _, _, _, _]) dL_ranked_79 rfl (by decide) rfl ?_
            refine q_iload dL_ranked_81 rfl ?_
            refine q_iload dL_ranked_83 rfl ?_
            refine q_icmp_neN (by omega) (by omega) (tgt := 93) dL_ranked_85 rfl (fun c => absurd rfl c) (fun c17 => ?_)
            refine q_iload dL_ranked_88 rfl ?_
            refine q_goto (tgt := 94) dL_ranked_90 rfl ?_
            refine q_istore_n (L' := [_, _, _, _, _, _, _, _]) dL_ranked_94 rfl (by decide) rfl ?_
            refine q_iincN (n := 1) (L' := [_, _, _, _, _, _, _, _]) (by decide) dL_ranked_95 rfl rfl (by decide) rfl ?_
            refine q_goto (tgt := 19) dL_ranked_98 rfl ?_
            exact q_to (ih19 (k + 1, q_key m k + 1, k + 1) (⟨by omega, q_rk_ch hi19.2 g1 g3⟩) (by dsimp only; omega)) (q_sub_s rfl (q_sub_i rfl (q_sub_i rfl (q_sub_i (by first | rfl | exact q_p1 _) (q_sub_i rfl (q_sub_i (by first | rfl | exact q_p1 _) (q_sub_i rfl (q_sub_n q_sub_0)))))))) rfl
theorem g_L_areSessions {Φ : q_Fx} {h : q_Hp} (K : q_Lk Φ h.R h.n) {a : Nat} (hN : q_n9 h a) {m : q_W} {ρ : Nat → Nat} (R : q_nr (h.I a) m ρ) (B : q_bd m) {W : q_W} {O : q_O} (C : q_clX h W O) {c : Nat} (s : q_smc c W m) (hcc : c ≤ 500)  : q_Ct Φ false yL_areSessions cL_areSessions mL_areSessions [.ref 1, .ref a] h (q_ex (fun v h' => v = some (.int (nI 1)) ∧ q_rd h h' W O)) := by
  refine q_enter K.st rfl rfl (by decide) rfl (Nat.le_of_ble_eq_true rfl) (L := [_, _, none, none, none, none, none]) rfl ?_
  obtain ⟨bt, bn, bc, bpe, bpf, bpc, bpn⟩ := id B
  obtain ⟨⟨N0, hN0, a0, ⟨τ0, b0⟩, k0⟩, dd⟩ := id s
  have v := k0.2.2.2.2.2.2.2
  have ha2 := hN.2.1
  have rd0 : q_rd h h W O := ⟨C, q_fr.rf⟩
  refine q_iconst (v := nI 0) dL_areSessions_0 (by decide) ?_
  refine q_istore_n (L' := [_, _, _, _, _, _, _]) dL_areSessions_1 rfl (by decide) rfl ?_
  refine q_iconst (v := nI 0) dL_areSessions_2 (by decide) ?_
  refine q_istore_n (L' := [_, _, _, _, _, _, _]) dL_areSessions_3 rfl (by decide) rfl ?_
  refine q_loopK (ι := Nat × q_Hp) (μ := fun x => m.c - x.1) (P := fun x => x.1 ≤ m.c ∧ q_rd h x.2 W O) (Lf := fun x => [some (.ref 1), some (.ref a), some (.int (q_sum m.len x.1)), some (.int (nI (x.1))), none, none, none]) (hf := fun x => x.2) (kf := fun x => (40 - x.1) * 14 + 21) (sf := fun x => (40 - x.1) * 84 + 126) (fun x hi4 ih4 => ?_) (0, h) (⟨Nat.zero_le _, rd0⟩) (q_sub_s rfl (q_sub_s rfl (q_sub_i rfl (q_sub_i rfl (q_sub_n (q_sub_n (q_sub_n q_sub_0))))))) rfl rfl rfl
  skip
  obtain ⟨k, h50⟩ := x
  dsimp only at hi4 ih4 ⊢
  have rd50 := hi4.2
  have C50 := rd50.1
  have K50 : q_Lk Φ h50.R h50.n := (q_lf.fr (a := a) rd50.2).Lk K
  have NN50 : q_n9 h50 a := hN.fr rd50.2.2.2.1
  have R50 : q_nr (h50.I a) m ρ := by rw [rd50.2.1 a (by omega)]; exact R
  refine q_iload_n dL_areSessions_4 rfl ?_
  refine q_aload_n dL_areSessions_5 rfl ?_
  refine q_iconst (v := nI 2) dL_areSessions_6 (by decide) ?_
  refine q_ialdD (k := 2) NN50.1 NN50.t NN50.l (by omega) (by decide) dL_areSessions_7 ?_
  refine q_tv (show _ = (nI (m.c)) from R50.c) ?_
  refine q_icmp_geN (by omega) (by omega) (tgt := 162) dL_areSessions_8 rfl (fun c1 => ?_) (fun c2 => ?_)
  · obtain rfl : k = m.c := by omega
    refine q_less (kc' := 21) (ks' := 126) (by omega) (by omega) ?_
    refine q_iconst (v := nI 1) dL_areSessions_162 (by decide) ?_
    refine q_istore_n (L' := [_, _, _, _, _, _, _]) dL_areSessions_163 rfl (by decide) rfl ?_
    refine q_loopK (ι := Nat × q_Hp) (μ := fun x => 6 - x.1) (P := fun x => 1 ≤ x.1 ∧ x.1 ≤ 6 ∧ q_rd h x.2 W O) (Lf := fun x => [some (.ref 1), some (.ref a), some (.int (q_sum m.len m.c)), some (.int (nI (x.1))), none, none, none]) (hf := fun x => x.2) (kf := fun x => (6 - x.1) * 4 + 1) (sf := fun x => (6 - x.1) * 24 + 6) (fun x hi164 ih164 => ?_) (1, h50) (⟨Nat.le_refl _, (show 1 ≤ 6 by decide), rd50⟩) (q_sub_s rfl (q_sub_s rfl (q_sub_i rfl (q_sub_i rfl (q_sub_n (q_sub_n (q_sub_n q_sub_0))))))) rfl rfl rfl
    skip
    obtain ⟨z, h51⟩ := x
    dsimp only at hi164 ih164 ⊢
    have rd51 := hi164.2.2
    have C51 := rd51.1
    have K51 : q_Lk Φ h51.R h51.n := (q_lf.fr (a := a) rd51.2).Lk K
    have NN51 : q_n9 h51 a := hN.fr rd51.2.2.2.1
    have R51 : q_nr (h51.I a) m ρ := by rw [rd51.2.1 a (by omega)]; exact R
    obtain ⟨hz1, hz6, -⟩ := hi164
    refine q_iload_n dL_areSessions_164 rfl ?_
    refine q_iconst (v := nI 5) dL_areSessions_165 (by decide) ?_
    refine q_icmp_gtN (by omega) (by omega) (tgt := 266) dL_areSessions_166 rfl (fun c3 => ?_) (fun c4 => ?_)
    · refine q_less (kc' := 1) (ks' := 6) (by omega) (by omega) ?_
      refine q_aload_n dL_areSessions_266 rfl ?_
      refine q_vR (kc := 1) (ks := 6) (g_X9_today (h := h51) K51 C51) wX9_today kL_155 iX9_today eX9_today rfl rfl (by decide) (K51.le (by decide)) (by decide) rfl rfl (Nat.le_of_ble_eq_true rfl) dL_areSessions_267 rfl rfl ?_
      intro v9 h119 hq
      obtain ⟨ev9, rdx⟩ := j_today C51 B s a0 b0 k0 dd (by omega) hq
      subst ev9
      have rd119 : q_rd h h119 W O := ⟨rdx.1, rd51.2.tr rdx.2⟩
      have C119 := rd119.1
      have K119 : q_Lk Φ h119.R h119.n := (q_lf.fr (a := a) rd119.2).Lk K
      have NN119 : q_n9 h119 a := hN.fr rd119.2.2.2.1
      have R119 : q_nr (h119.I a) m ρ := by rw [rd119.2.1 a (by omega)]; exact R
      refine q_aload_n dL_areSessions_270 rfl ?_
      refine q_iconst (v := nI 0) dL_areSessions_271 (by decide) ?_
      refine q_ialdD (k := 0) NN119.1 NN119.t NN119.l (by omega) (by decide) dL_areSessions_272 ?_
      refine q_tv (show _ = (nI (m.t)) from R119.t) ?_
      refine q_icmp_neN (by omega) (by omega) (tgt := 312) dL_areSessions_273 rfl (fun c => absurd rfl c) (fun c5 => ?_)
      refine q_aload_n dL_areSessions_276 rfl ?_
      refine q_vR (kc := 1) (ks := 6) (g_X9_sessionCount (h := h119) K119 C119) wX9_sessionCount kL_203 iX9_sessionCount eX9_sessionCount rfl rfl (by decide) (K119.le (by decide)) (by decide) rfl rfl (Nat.le_of_ble_eq_true rfl) dL_areSessions_277 rfl rfl ?_
      intro v9 h120 hq
      obtain ⟨ev9, rdx⟩ := j_sessionCount C119 B s a0 b0 k0 dd (by omega) hq
      subst ev9
      have rd120 : q_rd h h120 W O := ⟨rdx.1, rd119.2.tr rdx.2⟩
      have C120 := rd120.1
      have K120 : q_Lk Φ h120.R h120.n := (q_lf.fr (a := a) rd120.2).Lk K
      have NN120 : q_n9 h120 a := hN.fr rd120.2.2.2.1
      have R120 : q_nr (h120.I a) m ρ := by rw [rd120.2.1 a (by omega)]; exact R
      refine q_aload_n dL_areSessions_280 rfl ?_
      refine q_iconst (v := nI 2) dL_areSessions_281 (by decide) ?_
      refine q_ialdD (k := 2) NN120.1 NN120.t NN120.l (by omega) (by decide) dL_areSessions_282 ?_
      refine q_tv (show _ = (nI (m.c)) from R120.c) ?_
      refine q_icmp_neN (by omega) (by omega) (tgt := 312) dL_areSessions_283 rfl (fun c => absurd rfl c) (fun c7 => ?_)
      refine q_aload_n dL_areSessions_286 rfl ?_
      refine q_vR (kc := 1) (ks := 6) (g_X9_testCount (h := h120) K120 C120) wX9_testCount kL_196 iX9_testCount eX9_testCount rfl rfl (by decide) (K120.le (by decide)) (by decide) rfl rfl (Nat.le_of_ble_eq_true rfl) dL_areSessions_287 rfl rfl ?_
      intro v9 h121 hq
      obtain ⟨ev9, rdx⟩ := j_testCount C120 B s a0 b0 k0 dd (by omega) hq
      subst ev9
      have rd121 : q_rd h h121 W O := ⟨rdx.1, rd120.2.tr rdx.2⟩
      have C121 := rd121.1
      have K121 : q_Lk Φ h121.R h121.n := (q_lf.fr (a := a) rd121.2).Lk K
      have NN121 : q_n9 h121 a := hN.fr rd121.2.2.2.1
      have R121 : q_nr (h121.I a) m ρ := by rw [rd121.2.1 a (by omega)]; exact R
      refine q_aload_n dL_areSessions_290 rfl ?_
      refine q_iconst (v := nI 3) dL_areSessions_291 (by decide) ?_
      refine q_ialdD (k := 3) NN121.1 NN121.t NN121.l (by omega) (by decide) dL_areSessions_292 ?_
      refine q_tv (show _ = (nI (m.n)) from R121.n) ?_
      refine q_icmp_neN (by omega) (by omega) (tgt := 312) dL_areSessions_293 rfl (fun c => absurd rfl c) (fun c9 => ?_)
      refine q_aload_n dL_areSessions_296 rfl ?_
      refine q_aload_n dL_areSessions_297 rfl ?_
      refine q_iconst (v := nI 2) dL_areSessions_298 (by decide) ?_
      refine q_ialdD (k := 2) NN121.1 NN121.t NN121.l (by omega) (by decide) dL_areSessions_299 ?_
      refine q_tv (show _ = (nI (m.c)) from R121.c) ?_
      refine q_callH (kc := 0) (ks := 0) (g_L_sessionAt (h := h121) K121 C121 (p := (nI (m.c)))) wL_sessionAt kL_229 sL_sessionAt (by decide) rfl rfl (Nat.le_of_ble_eq_true rfl) dL_areSessions_300 rfl rfl (fun E h9 q9 => (by obtain ⟨_, q9, _⟩ := q9; exact nomatch q9)) ?_
      intro v9 h122 hq
      obtain ⟨x9, ex9, hj9⟩ := j_sessionAt C121 B s a0 b0 k0 dd (by omega) hq
      clear hq
      cases ex9
      rcases hj9 with ⟨d1, ex8, rdx⟩ | ⟨y1, hp⟩
      rotate_left
      · exact absurd ((q_tgo (Nat.le_refl _) (by omega) (by omega))) y1
      subst ex8
      have rd122 : q_rd h h122 W O := ⟨rdx.1, rd121.2.tr rdx.2⟩
      have C122 := rd122.1
      have K122 : q_Lk Φ h122.R h122.n := (q_lf.fr (a := a) rd122.2).Lk K
      have NN122 : q_n9 h122 a := hN.fr rd122.2.2.2.1
      have R122 : q_nr (h122.I a) m ρ := by rw [rd122.2.1 a (by omega)]; exact R
      refine q_ldc dL_areSessions_303 kcL_17 ?_
      refine q_icmp_ne (tgt := 312) dL_areSessions_305 rfl (fun c => absurd (by decide) c) (fun _ => ?_)
      refine q_iconst (v := nI 1) dL_areSessions_308 (by decide) ?_
      refine q_goto (tgt := 313) dL_areSessions_309 rfl ?_
      refine q_zret (ty := .boolean) dL_areSessions_313 rfl rfl (Or.inl rfl) ?_
      exact ⟨_, rfl, rfl, rd122⟩
    · rw [show (6 - z) * 4 + 1 = (6 - (z + 1)) * 4 + 5 from by omega, show (6 - z) * 24 + 6 = (6 - (z + 1)) * 24 + 30 from by omega]
      generalize hX1 : (6 - (z + 1)) * 4 = X1
      generalize hY1 : (6 - (z + 1)) * 24 = Y1
      refine q_iconst (v := nI 0) dL_areSessions_169 (by decide) ?_
      refine q_istore (L' := [_, _, _, _, _, _, _]) dL_areSessions_170 rfl (by decide) rfl ?_
      refine q_iconst (v := nI 0) dL_areSessions_172 (by decide) ?_
      refine q_istore (L' := [_, _, _, _, _, _, _]) dL_areSessions_173 rfl (by decide) rfl ?_
      refine q_loop (ι := Nat) (μ := fun i => m.c - i) (P := fun i => i ≤ m.c) (Lf := fun i => [some (.ref 1), some (.ref a), some (.int (q_sum m.len m.c)), some (.int (nI (z))), some (.int (q_sum (fun q => q_ms m q z (m.pn q)) i)), some (.int (nI (i))), none]) (hf := fun i => h51) (fun i hi175 ih175 => ?_) 0 (by omega) (q_sub_s rfl (q_sub_s rfl (q_sub_i rfl (q_sub_i rfl (q_sub_i rfl (q_sub_i rfl (q_sub_n q_sub_0))))))) rfl
      skip
      refine q_iload dL_areSessions_175 rfl ?_
      refine q_aload_n dL_areSessions_177 rfl ?_
      refine q_iconst (v := nI 2) dL_areSessions_178 (by decide) ?_
      refine q_ialdD (k := 2) NN51.1 NN51.t NN51.l (by omega) (by decide) dL_areSessions_179 ?_
      refine q_tv (show _ = (nI (m.c)) from R51.c) ?_
      refine q_icmp_geN (by omega) (by omega) (tgt := 201) dL_areSessions_180 rfl (fun c13 => ?_) (fun c14 => ?_)
      · obtain rfl : i = m.c := by omega
        refine q_aload_n dL_areSessions_201 rfl ?_
        refine q_iload_n dL_areSessions_202 rfl ?_
        refine q_callH (kc := X1 + 4) (ks := Y1 + 24) (g_L_weightOf (h := h51) K51 C51 (z := (nI (z)))) wL_weightOf kL_236 sL_weightOf (by decide) rfl rfl (Nat.le_of_ble_eq_true rfl) dL_areSessions_203 rfl rfl (fun E h9 q9 => (by obtain ⟨_, q9, _⟩ := q9; exact nomatch q9)) ?_
        intro v9 h123 hq
        obtain ⟨x9, ex9, hj9⟩ := j_weightOf C51 B s a0 b0 k0 dd (by omega) hq
        clear hq
        cases ex9
        rcases hj9 with ⟨d1, ex8, rdx⟩ | ⟨y1, hp⟩
        · exact absurd d1 ((q_rin (by omega) (by omega) (by decide)))
        rw [nI_clamp (by omega)] at hp
        obtain ⟨ev9, rdx⟩ := hp
        cases ev9
        have rd123 : q_rd h h123 W O := ⟨rdx.1, rd51.2.tr rdx.2⟩
        have C123 := rd123.1
        have K123 : q_Lk Φ h123.R h123.n := (q_lf.fr (a := a) rd123.2).Lk K
        have NN123 : q_n9 h123 a := hN.fr rd123.2.2.2.1
        have R123 : q_nr (h123.I a) m ρ := by rw [rd123.2.1 a (by omega)]; exact R
        refine q_aload_n dL_areSessions_206 rfl ?_
        refine q_bipush (v := nI 30) dL_areSessions_207 (by decide) ?_
        refine q_iload_n dL_areSessions_209 rfl ?_
        refine q_iaddN dL_areSessions_210 ?_
        refine q_ialdD (k := (30) + (z)) NN123.1 NN123.t NN123.l (by omega) (by decide) dL_areSessions_211 ?_
        refine q_tv (show _ = (m.wt z) from ((congrArg (h123.I a) (show ((30) + (z)) = 30 + z by omega)).trans (R123.wt (z := z) (by omega) (by omega)))) ?_
        refine q_icmp_ne (tgt := 258) dL_areSessions_212 rfl (fun c => absurd rfl c) (fun c15 => ?_)
        refine q_iload_n dL_areSessions_215 rfl ?_
        refine q_iconst (v := nI 1) dL_areSessions_216 (by decide) ?_
        refine q_icmp_leN (by omega) (by omega) (tgt := 234) dL_areSessions_217 rfl (fun c17 => ?_) (fun c18 => ?_)
        · refine q_aload_n dL_areSessions_234 rfl ?_
          refine q_iload_n dL_areSessions_235 rfl ?_
          refine q_callH (kc := X1 + 2) (ks := Y1 + 12) (g_L_zoneShare (h := h123) K123 C123 (z := (nI (z)))) wL_zoneShare kL_240 sL_zoneShare (by decide) rfl rfl (Nat.le_of_ble_eq_true rfl) dL_areSessions_236 rfl rfl (fun E h9 q9 => (by obtain ⟨_, q9, _⟩ := q9; exact nomatch q9)) ?_
          intro v9 h124 hq
          obtain ⟨x124, ex9, hj9⟩ := hq
          cases ex9
          have hz9 : q_rd h123 h124 W O ∧ ((q_sum m.len m.c = 0 ∧ x124 = 3378231840) ∨ (¬ q_sum m.len m.c = 0 ∧ x124 = FP.fdiv (FP.i2f (q_sum (fun q => q_ms m q (z) (m.pn q)) m.c)) (FP.i2f (q_sum m.len m.c)))) := by
            rw [q_all_eq a0 b0 k0, q_all_m k0.1] at hj9
            rcases hj9 with ⟨d1, -⟩ | ⟨-, d2, e, rd⟩ | ⟨-, d2, e, rd⟩
            · exact absurd d1 (q_rin (by omega) (by omega) (by decide))
            · exact ⟨rd, Or.inl ⟨d2, e⟩⟩
            · refine ⟨rd, Or.inr ⟨d2, ?_⟩⟩
              rw [q_zs_eq a0 b0 k0, nI_clamp (by omega), q_zs_m k0.1 (by omega)] at e
              cases e; rfl
          obtain ⟨rdx, hx124⟩ := hz9
          have rd124 : q_rd h h124 W O := ⟨rdx.1, rd123.2.tr rdx.2⟩
          have C124 := rd124.1
          have K124 : q_Lk Φ h124.R h124.n := (q_lf.fr (a := a) rd124.2).Lk K
          have NN124 : q_n9 h124 a := hN.fr rd124.2.2.2.1
          have R124 : q_nr (h124.I a) m ρ := by rw [rd124.2.1 a (by omega)]; exact R
          refine q_iload_n dL_areSessions_239 rfl ?_
          refine q_if_ne (tgt := 248) dL_areSessions_240 rfl (fun c19 => ?_) (fun c20 => ?_)
          · refine q_iload dL_areSessions_248 rfl ?_
            refine q_i2f dL_areSessions_250 ?_
            refine q_iload_n dL_areSessions_251 rfl ?_
            refine q_i2f dL_areSessions_252 ?_
            refine q_fdiv dL_areSessions_253 (q_fdn (by assumption)) ?_
            have hxe : x124 = (FP.fdiv (FP.i2f (q_sum (fun q => q_ms m q z (m.pn q)) m.c)) (FP.i2f (q_sum m.len m.c))) := by rcases hx124 with ⟨e8, e9⟩ | ⟨e8, e9⟩ <;> first | exact e9 | exact absurd e8 (by assumption) | exact absurd (by assumption) e8
            refine q_fcmp dL_areSessions_254 ?_
            rw [hxe]
            refine q_tv (show _ = nI 0 from q_fcs (q_fd0 (by assumption)) _) ?_
            refine q_if_eq (tgt := 260) dL_areSessions_255 rfl (fun _ => ?_) (fun c => absurd (by decide) c)
            refine q_iincN (n := 1) (L' := [_, _, _, _, _, _, _]) (by decide) dL_areSessions_260 rfl rfl (by decide) rfl ?_
            refine q_goto (tgt := 164) dL_areSessions_263 rfl ?_
            refine q_less (kc' := (6 - (z + 1)) * 4 + 1) (ks' := (6 - (z + 1)) * 24 + 6) (by omega) (by omega) ?_
            exact q_to (ih164 (z + 1, h124) (⟨by omega, by omega, rd124⟩) (by dsimp only; omega)) (q_sub_s rfl (q_sub_s rfl (q_sub_i rfl (q_sub_i rfl (q_sub_n (q_sub_n (q_sub_n q_sub_0))))))) rfl
          · refine q_ldcf dL_areSessions_243 kfcL_92 ?_
            refine q_goto (tgt := 254) dL_areSessions_245 rfl ?_
            have hxe : x124 = 3378231840 := by rcases hx124 with ⟨e8, e9⟩ | ⟨e8, e9⟩ <;> first | exact e9 | exact absurd e8 (by assumption) | exact absurd (by assumption) e8
            refine q_fcmp dL_areSessions_254 ?_
            rw [hxe]
            refine q_tv (show _ = nI 0 from q_fcs (q_fcc) _) ?_
            refine q_if_eq (tgt := 260) dL_areSessions_255 rfl (fun _ => ?_) (fun c => absurd (by decide) c)
            refine q_iincN (n := 1) (L' := [_, _, _, _, _, _, _]) (by decide) dL_areSessions_260 rfl rfl (by decide) rfl ?_
            refine q_goto (tgt := 164) dL_areSessions_263 rfl ?_
            refine q_less (kc' := (6 - (z + 1)) * 4 + 1) (ks' := (6 - (z + 1)) * 24 + 6) (by omega) (by omega) ?_
            exact q_to (ih164 (z + 1, h124) (⟨by omega, by omega, rd124⟩) (by dsimp only; omega)) (q_sub_s rfl (q_sub_s rfl (q_sub_i rfl (q_sub_i rfl (q_sub_n (q_sub_n (q_sub_n q_sub_0))))))) rfl
        · refine q_aload_n dL_areSessions_220 rfl ?_
          refine q_iload_n dL_areSessions_221 rfl ?_
          refine q_callH (kc := X1 + 3) (ks := Y1 + 18) (g_L_boundOf (h := h123) K123 C123 (z := (nI (z)))) wL_boundOf kL_238 sL_boundOf (by decide) rfl rfl (Nat.le_of_ble_eq_true rfl) dL_areSessions_222 rfl rfl (fun E h9 q9 => (by obtain ⟨_, q9, _⟩ := q9; exact nomatch q9)) ?_
          intro v9 h125 hq
          obtain ⟨x9, ex9, hj9⟩ := j_boundOf C123 B s a0 b0 k0 dd (by omega) hq
          clear hq
          cases ex9
          rcases hj9 with ⟨d1, ex8, rdx⟩ | ⟨y1, hp⟩
          · exact absurd d1 ((q_rin (by omega) (by omega) (by decide)))
          rw [nI_clamp (by omega)] at hp
          obtain ⟨ev9, rdx⟩ := hp
          cases ev9
          have rd125 : q_rd h h125 W O := ⟨rdx.1, rd123.2.tr rdx.2⟩
          have C125 := rd125.1
          have K125 : q_Lk Φ h125.R h125.n := (q_lf.fr (a := a) rd125.2).Lk K
          have NN125 : q_n9 h125 a := hN.fr rd125.2.2.2.1
          have R125 : q_nr (h125.I a) m ρ := by rw [rd125.2.1 a (by omega)]; exact R
          refine q_aload_n dL_areSessions_225 rfl ?_
          refine q_bipush (v := nI 20) dL_areSessions_226 (by decide) ?_
          refine q_iload_n dL_areSessions_228 rfl ?_
          refine q_iaddN dL_areSessions_229 ?_
          refine q_ialdD (k := (20) + (z)) NN125.1 NN125.t NN125.l (by omega) (by decide) dL_areSessions_230 ?_
          refine q_tv (show _ = (m.bd z) from ((congrArg (h125.I a) (show ((20) + (z)) = 20 + z by omega)).trans (R125.bd (z := z) (by omega) (by omega)))) ?_
          refine q_icmp_ne (tgt := 258) dL_areSessions_231 rfl (fun c => absurd rfl c) (fun c25 => ?_)
          refine q_aload_n dL_areSessions_234 rfl ?_
          refine q_iload_n dL_areSessions_235 rfl ?_
          refine q_callH (kc := X1 + 1) (ks := Y1 + 6) (g_L_zoneShare (h := h125) K125 C125 (z := (nI (z)))) wL_zoneShare kL_240 sL_zoneShare (by decide) rfl rfl (Nat.le_of_ble_eq_true rfl) dL_areSessions_236 rfl rfl (fun E h9 q9 => (by obtain ⟨_, q9, _⟩ := q9; exact nomatch q9)) ?_
          intro v9 h126 hq
          obtain ⟨x126, ex9, hj9⟩ := hq
          cases ex9
          have hz9 : q_rd h125 h126 W O ∧ ((q_sum m.len m.c = 0 ∧ x126 = 3378231840) ∨ (¬ q_sum m.len m.c = 0 ∧ x126 = FP.fdiv (FP.i2f (q_sum (fun q => q_ms m q (z) (m.pn q)) m.c)) (FP.i2f (q_sum m.len m.c)))) := by
            rw [q_all_eq a0 b0 k0, q_all_m k0.1] at hj9
            rcases hj9 with ⟨d1, -⟩ | ⟨-, d2, e, rd⟩ | ⟨-, d2, e, rd⟩
            · exact absurd d1 (q_rin (by omega) (by omega) (by decide))
            · exact ⟨rd, Or.inl ⟨d2, e⟩⟩
            · refine ⟨rd, Or.inr ⟨d2, ?_⟩⟩
              rw [q_zs_eq a0 b0 k0, nI_clamp (by omega), q_zs_m k0.1 (by omega)] at e
              cases e; rfl
          obtain ⟨rdx, hx126⟩ := hz9
          have rd126 : q_rd h h126 W O := ⟨rdx.1, rd125.2.tr rdx.2⟩
          have C126 := rd126.1
          have K126 : q_Lk Φ h126.R h126.n := (q_lf.fr (a := a) rd126.2).Lk K
          have NN126 : q_n9 h126 a := hN.fr rd126.2.2.2.1
          have R126 : q_nr (h126.I a) m ρ := by rw [rd126.2.1 a (by omega)]; exact R
          refine q_iload_n dL_areSessions_239 rfl ?_
          refine q_if_ne (tgt := 248) dL_areSessions_240 rfl (fun c27 => ?_) (fun c28 => ?_)
          · refine q_iload dL_areSessions_248 rfl ?_
            refine q_i2f dL_areSessions_250 ?_
            refine q_iload_n dL_areSessions_251 rfl ?_
            refine q_i2f dL_areSessions_252 ?_
            refine q_fdiv dL_areSessions_253 (q_fdn (by assumption)) ?_
            have hxe : x126 = (FP.fdiv (FP.i2f (q_sum (fun q => q_ms m q z (m.pn q)) m.c)) (FP.i2f (q_sum m.len m.c))) := by rcases hx126 with ⟨e8, e9⟩ | ⟨e8, e9⟩ <;> first | exact e9 | exact absurd e8 (by assumption) | exact absurd (by assumption) e8
            refine q_fcmp dL_areSessions_254 ?_
            rw [hxe]
            refine q_tv (show _ = nI 0 from q_fcs (q_fd0 (by assumption)) _) ?_
            refine q_if_eq (tgt := 260) dL_areSessions_255 rfl (fun _ => ?_) (fun c => absurd (by decide) c)
            refine q_iincN (n := 1) (L' := [_, _, _, _, _, _, _]) (by decide) dL_areSessions_260 rfl rfl (by decide) rfl ?_
            refine q_goto (tgt := 164) dL_areSessions_263 rfl ?_
            refine q_less (kc' := (6 - (z + 1)) * 4 + 1) (ks' := (6 - (z + 1)) * 24 + 6) (by omega) (by omega) ?_
            exact q_to (ih164 (z + 1, h126) (⟨by omega, by omega, rd126⟩) (by dsimp only; omega)) (q_sub_s rfl (q_sub_s rfl (q_sub_i rfl (q_sub_i rfl (q_sub_n (q_sub_n (q_sub_n q_sub_0))))))) rfl
          · refine q_ldcf dL_areSessions_243 kfcL_92 ?_
            refine q_goto (tgt := 254) dL_areSessions_245 rfl ?_
            have hxe : x126 = 3378231840 := by rcases hx126 with ⟨e8, e9⟩ | ⟨e8, e9⟩ <;> first | exact e9 | exact absurd e8 (by assumption) | exact absurd (by assumption) e8
            refine q_fcmp dL_areSessions_254 ?_
            rw [hxe]
            refine q_tv (show _ = nI 0 from q_fcs (q_fcc) _) ?_
            refine q_if_eq (tgt := 260) dL_areSessions_255 rfl (fun _ => ?_) (fun c => absurd (by decide) c)
            refine q_iincN (n := 1) (L' := [_, _, _, _, _, _, _]) (by decide) dL_areSessions_260 rfl rfl (by decide) rfl ?_
            refine q_goto (tgt := 164) dL_areSessions_263 rfl ?_
            refine q_less (kc' := (6 - (z + 1)) * 4 + 1) (ks' := (6 - (z + 1)) * 24 + 6) (by omega) (by omega) ?_
            exact q_to (ih164 (z + 1, h126) (⟨by omega, by omega, rd126⟩) (by dsimp only; omega)) (q_sub_s rfl (q_sub_s rfl (q_sub_i rfl (q_sub_i rfl (q_sub_n (q_sub_n (q_sub_n q_sub_0))))))) rfl
      · refine q_iload dL_areSessions_183 rfl ?_
        refine q_aload_n dL_areSessions_185 rfl ?_
        refine q_iload dL_areSessions_186 rfl ?_
        refine q_iload_n dL_areSessions_188 rfl ?_
        refine q_sD (kc := X1 + 5) (ks := Y1 + 30) (g_L_minutes (h := h51) K51 NN51 R51 B v dd (k := i) (z := z) (by omega) (by omega)) wL_minutes kL_212 sL_minutes (by decide) rfl rfl (Nat.le_of_ble_eq_true rfl) dL_areSessions_189 rfl rfl ?_
        refine q_iadd dL_areSessions_192 ?_
        refine q_istore (L' := [_, _, _, _, _, _, _]) dL_areSessions_193 rfl (by decide) rfl ?_
        refine q_iincN (n := 1) (L' := [_, _, _, _, _, _, _]) (by decide) dL_areSessions_195 rfl rfl (by decide) rfl ?_
        refine q_goto (tgt := 175) dL_areSessions_198 rfl ?_
        exact q_to (ih175 (i + 1) (by omega) (by omega)) (q_sub_s rfl (q_sub_s rfl (q_sub_i rfl (q_sub_i rfl (q_sub_i rfl (q_sub_i rfl (q_sub_n q_sub_0))))))) rfl
  · rw [show (40 - k) * 14 + 21 = (40 - (k + 1)) * 14 + 35 from by omega, show (40 - k) * 84 + 126 = (40 - (k + 1)) * 84 + 210 from by omega]
    have hkc : k < m.c := by omega
    have hmat := q_idmat k0 hkc
    have hno := q_idno k0 hkc
    have hτ := b0.1.1 k hkc
    have hbk := bpn k hkc
    generalize hX1 : (40 - (k + 1)) * 14 = X1
    generalize hY1 : (40 - (k + 1)) * 84 = Y1
    refine q_aload_n dL_areSessions_11 rfl ?_
    refine q_bipush (v := nI 100) dL_areSessions_12 (by decide) ?_
    refine q_bipush (v := nI 20) dL_areSessions_14 (by decide) ?_
    refine q_iload_n dL_areSessions_16 rfl ?_
    refine q_imulN dL_areSessions_17 ?_
    refine q_iaddN dL_areSessions_18 ?_
    refine q_ialdD (k := (100) + ((20) * (k))) NN50.1 NN50.t NN50.l (by omega) (by decide) dL_areSessions_19 ?_
    refine q_tv (show _ = (m.id k) from ((congrArg (h50.I a) (show ((100) + ((20) * (k))) = 100 + 20 * k by omega)).trans (R50.id (k := k) (by omega)))) ?_
    refine q_istore (L' := [_, _, _, _, _, _, _]) dL_areSessions_20 rfl (by decide) rfl ?_
    refine q_iload_n dL_areSessions_22 rfl ?_
    refine q_aload_n dL_areSessions_23 rfl ?_
    refine q_iload_n dL_areSessions_24 rfl ?_
    refine q_iconst (v := nI 0) dL_areSessions_25 (by decide) ?_
    refine q_sD (kc := X1 + 35) (ks := Y1 + 210) (g_L_minutes (h := h50) K50 NN50 R50 B v dd (k := k) (z := 0) (by omega) (by omega)) wL_minutes kL_212 sL_minutes (by decide) rfl rfl (Nat.le_of_ble_eq_true rfl) dL_areSessions_26 rfl rfl ?_
    refine q_iadd dL_areSessions_29 ?_
    refine q_istore_n (L' := [_, _, _, _, _, _, _]) dL_areSessions_30 rfl (by decide) rfl ?_
    refine q_aload_n dL_areSessions_31 rfl ?_
    refine q_iload dL_areSessions_32 rfl ?_
    refine q_callH (kc := X1 + 34) (ks := Y1 + 204) (g_L_dayOf (h := h50) K50 C50 (x := (m.id k))) wL_dayOf kL_223 sL_dayOf (by decide) rfl rfl (Nat.le_of_ble_eq_true rfl) dL_areSessions_34 rfl rfl (fun E h9 q9 => (by obtain ⟨_, q9, _⟩ := q9; exact nomatch q9)) ?_
    intro v9 h127 hq
    obtain ⟨x9, ex9, hj9⟩ := j_dayOf C50 B s a0 b0 k0 dd (by omega) hq
    clear hq
    cases ex9
    rcases hj9 with ⟨d1, ex8, rdx⟩ | ⟨y1, hp⟩
    · exact absurd d1 (hno)
    rw [hmat] at hp
    obtain ⟨ev9, rdx⟩ := hp
    cases ev9
    have rd127 : q_rd h h127 W O := ⟨rdx.1, rd50.2.tr rdx.2⟩
    have C127 := rd127.1
    have K127 : q_Lk Φ h127.R h127.n := (q_lf.fr (a := a) rd127.2).Lk K
    have NN127 : q_n9 h127 a := hN.fr rd127.2.2.2.1
    have R127 : q_nr (h127.I a) m ρ := by rw [rd127.2.1 a (by omega)]; exact R
    refine q_aload_n dL_areSessions_37 rfl ?_
    refine q_bipush (v := nI 101) dL_areSessions_38 (by decide) ?_
    refine q_bipush (v := nI 20) dL_areSessions_40 (by decide) ?_
    refine q_iload_n dL_areSessions_42 rfl ?_
    refine q_imulN dL_areSessions_43 ?_
    refine q_iaddN dL_areSessions_44 ?_
    refine q_ialdD (k := (101) + ((20) * (k))) NN127.1 NN127.t NN127.l (by omega) (by decide) dL_areSessions_45 ?_
    refine q_tv (show _ = (nI (m.dy k)) from ((congrArg (h127.I a) (show ((101) + ((20) * (k))) = 101 + 20 * k by omega)).trans (R127.dy (k := k) (by omega)))) ?_
    refine q_icmp_neN (by omega) (by omega) (tgt := 103) dL_areSessions_46 rfl (fun c => absurd rfl c) (fun c33 => ?_)
    refine q_aload_n dL_areSessions_49 rfl ?_
    refine q_iload dL_areSessions_50 rfl ?_
    refine q_callH (kc := X1 + 33) (ks := Y1 + 198) (g_L_minutesOf (h := h127) K127 C127 (x := (m.id k))) wL_minutesOf kL_225 sL_minutesOf (by decide) rfl rfl (Nat.le_of_ble_eq_true rfl) dL_areSessions_52 rfl rfl (fun E h9 q9 => (by obtain ⟨_, q9, _⟩ := q9; exact nomatch q9)) ?_
    intro v9 h128 hq
    obtain ⟨x9, ex9, hj9⟩ := j_minutesOf C127 B s a0 b0 k0 dd (by omega) hq
    clear hq
    cases ex9
    rcases hj9 with ⟨d1, ex8, rdx⟩ | ⟨y1, hp⟩
    · exact absurd d1 (hno)
    rw [hmat] at hp
    obtain ⟨ev9, rdx⟩ := hp
    cases ev9
    have rd128 : q_rd h h128 W O := ⟨rdx.1, rd127.2.tr rdx.2⟩
    have C128 := rd128.1
    have K128 : q_Lk Φ h128.R h128.n := (q_lf.fr (a := a) rd128.2).Lk K
    have NN128 : q_n9 h128 a := hN.fr rd128.2.2.2.1
    have R128 : q_nr (h128.I a) m ρ := by rw [rd128.2.1 a (by omega)]; exact R
    refine q_aload_n dL_areSessions_55 rfl ?_
    refine q_iload_n dL_areSessions_56 rfl ?_
    refine q_iconst (v := nI 0) dL_areSessions_57 (by decide) ?_
    refine q_sD (kc := X1 + 33) (ks := Y1 + 198) (g_L_minutes (h := h128) K128 NN128 R128 B v dd (k := k) (z := 0) (by omega) (by omega)) wL_minutes kL_212 sL_minutes (by decide) rfl rfl (Nat.le_of_ble_eq_true rfl) dL_areSessions_58 rfl rfl ?_
    refine q_icmp_ne (tgt := 103) dL_areSessions_61 rfl (fun c => absurd (q_ms_0 m k).symm c) (fun c35 => ?_)
    refine q_aload_n dL_areSessions_64 rfl ?_
    refine q_iload dL_areSessions_65 rfl ?_
    refine q_callH (kc := X1 + 32) (ks := Y1 + 192) (g_L_loadOf (h := h128) K128 C128 (x := (m.id k))) wL_loadOf kL_227 sL_loadOf (by decide) rfl rfl (Nat.le_of_ble_eq_true rfl) dL_areSessions_67 rfl rfl (fun E h9 q9 => (by obtain ⟨_, q9, _⟩ := q9; exact nomatch q9)) ?_
    intro v9 h129 hq
    obtain ⟨x9, ex9, hj9⟩ := j_loadOf C128 B s a0 b0 k0 dd (by omega) hq
    clear hq
    cases ex9
    rcases hj9 with ⟨d1, ex8, rdx⟩ | ⟨y1, hp⟩
    · exact absurd d1 (hno)
    rw [hmat] at hp
    obtain ⟨ev9, rdx⟩ := hp
    cases ev9
    have rd129 : q_rd h h129 W O := ⟨rdx.1, rd128.2.tr rdx.2⟩
    have C129 := rd129.1
    have K129 : q_Lk Φ h129.R h129.n := (q_lf.fr (a := a) rd129.2).Lk K
    have NN129 : q_n9 h129 a := hN.fr rd129.2.2.2.1
    have R129 : q_nr (h129.I a) m ρ := by rw [rd129.2.1 a (by omega)]; exact R
    refine q_aload_n dL_areSessions_70 rfl ?_
    refine q_iload_n dL_areSessions_71 rfl ?_
    refine q_sD (kc := X1 + 32) (ks := Y1 + 192) (g_L_load (h := h129) K129 NN129 R129 B v dd (k := k) (by omega)) wL_load kL_133 sL_load (by decide) rfl rfl (Nat.le_of_ble_eq_true rfl) dL_areSessions_72 rfl rfl ?_
    refine q_icmp_ne (tgt := 103) dL_areSessions_75 rfl (fun c => absurd rfl c) (fun c37 => ?_)
    refine q_aload_n dL_areSessions_78 rfl ?_
    refine q_iload_n dL_areSessions_79 rfl ?_
    refine q_callH (kc := X1 + 31) (ks := Y1 + 186) (g_L_sessionAt (h := h129) K129 C129 (p := (nI (k)))) wL_sessionAt kL_229 sL_sessionAt (by decide) rfl rfl (Nat.le_of_ble_eq_true rfl) dL_areSessions_80 rfl rfl (fun E h9 q9 => (by obtain ⟨_, q9, _⟩ := q9; exact nomatch q9)) ?_
    intro v9 h130 hq
    obtain ⟨x9, ex9, hj9⟩ := j_sessionAt C129 B s a0 b0 k0 dd (by omega) hq
    clear hq
    cases ex9
    rcases hj9 with ⟨d1, ex8, rdx⟩ | ⟨y1, hp⟩
    · exact absurd d1 ((q_tgi hkc (by omega)))
    rw [nI_clamp (by omega)] at hp
    obtain ⟨ev9, rdx⟩ := hp
    cases ev9
    have rd130 : q_rd h h130 W O := ⟨rdx.1, rd129.2.tr rdx.2⟩
    have C130 := rd130.1
    have K130 : q_Lk Φ h130.R h130.n := (q_lf.fr (a := a) rd130.2).Lk K
    have NN130 : q_n9 h130 a := hN.fr rd130.2.2.2.1
    have R130 : q_nr (h130.I a) m ρ := by rw [rd130.2.1 a (by omega)]; exact R
    refine q_aload_n dL_areSessions_83 rfl ?_
    refine q_bipush (v := nI 100) dL_areSessions_84 (by decide) ?_
    refine q_bipush (v := nI 20) dL_areSessions_86 (by decide) ?_
    refine q_aload_n dL_areSessions_88 rfl ?_
    refine q_iload_n dL_areSessions_89 rfl ?_
    refine q_sD (kc := X1 + 31) (ks := Y1 + 186) (g_L_ranked (h := h130) K130 NN130 R130 B b0 k0 (by omega) (pos := k) (by omega)) wL_ranked kL_231 sL_ranked (by decide) rfl rfl (Nat.le_of_ble_eq_true rfl) dL_areSessions_90 rfl rfl ?_
    refine q_imulN dL_areSessions_93 ?_
    refine q_iaddN dL_areSessions_94 ?_
    refine q_ialdD (k := (100) + ((20) * (τ0 k))) NN130.1 NN130.t NN130.l (by omega) (by decide) dL_areSessions_95 ?_
    refine q_tv (show _ = (m.id (τ0 k)) from ((congrArg (h130.I a) (show ((100) + ((20) * (τ0 k))) = 100 + 20 * (τ0 k) by omega)).trans (R130.id (k := (τ0 k)) (by omega)))) ?_
    refine q_icmp_ne (tgt := 103) dL_areSessions_96 rfl (fun c => absurd rfl c) (fun c39 => ?_)
    refine q_iconst (v := nI 1) dL_areSessions_99 (by decide) ?_
    refine q_goto (tgt := 104) dL_areSessions_100 rfl ?_
    refine q_istore (L' := [_, _, _, _, _, _, _]) dL_areSessions_104 rfl (by decide) rfl ?_
    refine q_iconst (v := nI 1) dL_areSessions_106 (by decide) ?_
    refine q_istore (L' := [_, _, _, _, _, _, _]) dL_areSessions_107 rfl (by decide) rfl ?_
    refine q_iload dL_areSessions_109 rfl ?_
    refine q_iconst (v := nI 5) dL_areSessions_111 (by decide) ?_
    refine q_icmp_gt (tgt := 149) dL_areSessions_112 rfl (fun c => absurd c (by decide)) (fun _ => ?_)
    refine q_iload dL_areSessions_115 rfl ?_
    refine q_aload_n dL_areSessions_117 rfl ?_
    refine q_iload dL_areSessions_118 rfl ?_
    refine q_iload dL_areSessions_120 rfl ?_
    refine q_callH (kc := X1 + 29) (ks := Y1 + 174) (g_L_minutesInZone (h := h130) K130 C130 (x := (m.id k)) (z := (nI (1)))) wL_minutesInZone kL_234 sL_minutesInZone (by decide) rfl rfl (Nat.le_of_ble_eq_true rfl) dL_areSessions_122 rfl rfl (fun E h9 q9 => (by obtain ⟨_, q9, _⟩ := q9; exact nomatch q9)) ?_
    intro v9 h131 hq
    obtain ⟨x9, ex9, hj9⟩ := j_minutesInZone C130 B s a0 b0 k0 dd (by omega) hq
    clear hq
    cases ex9
    rcases hj9 with ⟨d1, ex8, rdx⟩ | ⟨y1, d2, ex8, rdx⟩ | ⟨y1, y2, hp⟩
    · exact absurd d1 (hno)
    · exact absurd d2 ((q_rin (by omega) (by omega) (by decide)))
    rw [hmat, nI_clamp (by omega)] at hp
    obtain ⟨ev9, rdx⟩ := hp
    cases ev9
    have rd131 : q_rd h h131 W O := ⟨rdx.1, rd130.2.tr rdx.2⟩
    have C131 := rd131.1
    have K131 : q_Lk Φ h131.R h131.n := (q_lf.fr (a := a) rd131.2).Lk K
    have NN131 : q_n9 h131 a := hN.fr rd131.2.2.2.1
    have R131 : q_nr (h131.I a) m ρ := by rw [rd131.2.1 a (by omega)]; exact R
    refine q_aload_n dL_areSessions_125 rfl ?_
    refine q_iload_n dL_areSessions_126 rfl ?_
    refine q_iload dL_areSessions_127 rfl ?_
    refine q_sD (kc := X1 + 29) (ks := Y1 + 174) (g_L_minutes (h := h131) K131 NN131 R131 B v dd (k := k) (z := 1) (by omega) (by omega)) wL_minutes kL_212 sL_minutes (by decide) rfl rfl (Nat.le_of_ble_eq_true rfl) dL_areSessions_129 rfl rfl ?_
    refine q_icmp_ne (tgt := 139) dL_areSessions_132 rfl (fun c => absurd (q_az_ms m k (by omega)) c) (fun c43 => ?_)
    refine q_iconst (v := nI 1) dL_areSessions_135 (by decide) ?_
    refine q_goto (tgt := 140) dL_areSessions_136 rfl ?_
    refine q_iand dL_areSessions_140 ?_
    refine q_tv (show _ = nI 1 from by decide) ?_
    refine q_istore (L' := [_, _, _, _, _, _, _]) dL_areSessions_141 rfl (by decide) rfl ?_
    refine q_iinc (v := nI 2) (L' := [_, _, _, _, _, _, _]) dL_areSessions_143 rfl (by decide) rfl (by decide) rfl ?_
    refine q_goto (tgt := 109) dL_areSessions_146 rfl ?_
    refine q_iload dL_areSessions_109 rfl ?_
    refine q_iconst (v := nI 5) dL_areSessions_111 (by decide) ?_
    refine q_icmp_gt (tgt := 149) dL_areSessions_112 rfl (fun c => absurd c (by decide)) (fun _ => ?_)
    refine q_iload dL_areSessions_115 rfl ?_
    refine q_aload_n dL_areSessions_117 rfl ?_
    refine q_iload dL_areSessions_118 rfl ?_
    refine q_iload dL_areSessions_120 rfl ?_
    refine q_callH (kc := X1 + 27) (ks := Y1 + 162) (g_L_minutesInZone (h := h131) K131 C131 (x := (m.id k)) (z := (nI (2)))) wL_minutesInZone kL_234 sL_minutesInZone (by decide) rfl rfl (Nat.le_of_ble_eq_true rfl) dL_areSessions_122 rfl rfl (fun E h9 q9 => (by obtain ⟨_, q9, _⟩ := q9; exact nomatch q9)) ?_
    intro v9 h132 hq
    obtain ⟨x9, ex9, hj9⟩ := j_minutesInZone C131 B s a0 b0 k0 dd (by omega) hq
    clear hq
    cases ex9
    rcases hj9 with ⟨d1, ex8, rdx⟩ | ⟨y1, d2, ex8, rdx⟩ | ⟨y1, y2, hp⟩
    · exact absurd d1 (hno)
    · exact absurd d2 ((q_rin (by omega) (by omega) (by decide)))
    rw [hmat, nI_clamp (by omega)] at hp
    obtain ⟨ev9, rdx⟩ := hp
    cases ev9
    have rd132 : q_rd h h132 W O := ⟨rdx.1, rd131.2.tr rdx.2⟩
    have C132 := rd132.1
    have K132 : q_Lk Φ h132.R h132.n := (q_lf.fr (a := a) rd132.2).Lk K
    have NN132 : q_n9 h132 a := hN.fr rd132.2.2.2.1
    have R132 : q_nr (h132.I a) m ρ := by rw [rd132.2.1 a (by omega)]; exact R
    refine q_aload_n dL_areSessions_125 rfl ?_
    refine q_iload_n dL_areSessions_126 rfl ?_
    refine q_iload dL_areSessions_127 rfl ?_
    refine q_sD (kc := X1 + 27) (ks := Y1 + 162) (g_L_minutes (h := h132) K132 NN132 R132 B v dd (k := k) (z := 2) (by omega) (by omega)) wL_minutes kL_212 sL_minutes (by decide) rfl rfl (Nat.le_of_ble_eq_true rfl) dL_areSessions_129 rfl rfl ?_
    refine q_icmp_ne (tgt := 139) dL_areSessions_132 rfl (fun c => absurd (q_az_ms m k (by omega)) c) (fun c47 => ?_)
    refine q_iconst (v := nI 1) dL_areSessions_135 (by decide) ?_
    refine q_goto (tgt := 140) dL_areSessions_136 rfl ?_
    refine q_iand dL_areSessions_140 ?_
    refine q_tv (show _ = nI 1 from by decide) ?_
    refine q_istore (L' := [_, _, _, _, _, _, _]) dL_areSessions_141 rfl (by decide) rfl ?_
    refine q_iinc (v := nI 3) (L' := [_, _, _, _, _, _, _]) dL_areSessions_143 rfl (by decide) rfl (by decide) rfl ?_
    refine q_goto (tgt := 109) dL_areSessions_146 rfl ?_
    refine q_iload dL_areSessions_109 rfl ?_
    refine q_iconst (v := nI 5) dL_areSessions_111 (by decide) ?_
    refine q_icmp_gt (tgt := 149) dL_areSessions_112 rfl (fun c => absurd c (by decide)) (fun _ => ?_)
    refine q_iload dL_areSessions_115 rfl ?_
    refine q_aload_n dL_areSessions_117 rfl ?_
    refine q_iload dL_areSessions_118 rfl ?_
    refine q_iload dL_areSessions_120 rfl ?_
    refine q_callH (kc := X1 + 25) (ks := Y1 + 150) (g_L_minutesInZone (h := h132) K132 C132 (x := (m.id k)) (z := (nI (3)))) wL_minutesInZone kL_234 sL_minutesInZone (by decide) rfl rfl (Nat.le_of_ble_eq_true rfl) dL_areSessions_122 rfl rfl (fun E h9 q9 => (by obtain ⟨_, q9, _⟩ := q9; exact nomatch q9)) ?_
    intro v9 h133 hq
    obtain ⟨x9, ex9, hj9⟩ := j_minutesInZone C132 B s a0 b0 k0 dd (by omega) hq
    clear hq
    cases ex9
    rcases hj9 with ⟨d1, ex8, rdx⟩ | ⟨y1, d2, ex8, rdx⟩ | ⟨y1, y2, hp⟩
    · exact absurd d1 (hno)
    · exact absurd d2 ((q_rin (by omega) (by omega) (by decide)))
    rw [hmat, nI_clamp (by omega)] at hp
    obtain ⟨ev9, rdx⟩ := hp
    cases ev9
    have rd133 : q_rd h h133 W O := ⟨rdx.1, rd132.2.tr rdx.2⟩
    have C133 := rd133.1
    have K133 : q_Lk Φ h133.R h133.n := (q_lf.fr (a := a) rd133.2).Lk K
    have NN133 : q_n9 h133 a := hN.fr rd133.2.2.2.1
    have R133 : q_nr (h133.I a) m ρ := by rw [rd133.2.1 a (by omega)]; exact R
    refine q_aload_n dL_areSessions_125 rfl ?_
    refine q_iload_n dL_areSessions_126 rfl ?_
    refine q_iload dL_areSessions_127 rfl ?_
    refine q_sD (kc := X1 + 25) (ks := Y1 + 150) (g_L_minutes (h := h133) K133 NN133 R133 B v dd (k := k) (z := 3) (by omega) (by omega)) wL_minutes kL_212 sL_minutes (by decide) rfl rfl (Nat.le_of_ble_eq_true rfl) dL_areSessions_129 rfl rfl ?_
    refine q_icmp_ne (tgt := 139) dL_areSessions_132 rfl (fun c => absurd (q_az_ms m k (by omega)) c) (fun c51 => ?_)
    refine q_iconst (v := nI 1) dL_areSessions_135 (by decide) ?_
    refine q_goto (tgt := 140) dL_areSessions_136 rfl ?_
    refine q_iand dL_areSessions_140 ?_
    refine q_tv (show _ = nI 1 from by decide) ?_
    refine q_istore (L' := [_, _, _, _, _, _, _]) dL_areSessions_141 rfl (by decide) rfl ?_
    refine q_iinc (v := nI 4) (L' := [_, _, _, _, _, _, _]) dL_areSessions_143 rfl (by decide) rfl (by decide) rfl ?_
    refine q_goto (tgt := 109) dL_areSessions_146 rfl ?_
    refine q_iload dL_areSessions_109 rfl ?_
    refine q_iconst (v := nI 5) dL_areSessions_111 (by decide) ?_
    refine q_icmp_gt (tgt := 149) dL_areSessions_112 rfl (fun c => absurd c (by decide)) (fun _ => ?_)
    refine q_iload dL_areSessions_115 rfl ?_
    refine q_aload_n dL_areSessions_117 rfl ?_
    refine q_iload dL_areSessions_118 rfl ?_
    refine q_iload dL_areSessions_120 rfl ?_
    refine q_callH (kc := X1 + 23) (ks := Y1 + 138) (g_L_minutesInZone (h := h133) K133 C133 (x := (m.id k)) (z := (nI (4)))) wL_minutesInZone kL_234 sL_minutesInZone (by decide) rfl rfl (Nat.le_of_ble_eq_true rfl) dL_areSessions_122 rfl rfl (fun E h9 q9 => (by obtain ⟨_, q9, _⟩ := q9; exact nomatch q9)) ?_
    intro v9 h134 hq
    obtain ⟨x9, ex9, hj9⟩ := j_minutesInZone C133 B s a0 b0 k0 dd (by omega) hq
    clear hq
    cases ex9
    rcases hj9 with ⟨d1, ex8, rdx⟩ | ⟨y1, d2, ex8, rdx⟩ | ⟨y1, y2, hp⟩
    · exact absurd d1 (hno)
    · exact absurd d2 ((q_rin (by omega) (by omega) (by decide)))
    rw [hmat, nI_clamp (by omega)] at hp
    obtain ⟨ev9, rdx⟩ := hp
    cases ev9
    have rd134 : q_rd h h134 W O := ⟨rdx.1, rd133.2.tr rdx.2⟩
    have C134 := rd134.1
    have K134 : q_Lk Φ h134.R h134.n := (q_lf.fr (a := a) rd134.2).Lk K
    have NN134 : q_n9 h134 a := hN.fr rd134.2.2.2.1
    have R134 : q_nr (h134.I a) m ρ := by rw [rd134.2.1 a (by omega)]; exact R
    refine q_aload_n dL_areSessions_125 rfl ?_
    refine q_iload_n dL_areSessions_126 rfl ?_
    refine q_iload dL_areSessions_127 rfl ?_
    refine q_sD (kc := X1 + 23) (ks := Y1 + 138) (g_L_minutes (h := h134) K134 NN134 R134 B v dd (k := k) (z := 4) (by omega) (by omega)) wL_minutes kL_212 sL_minutes (by decide) rfl rfl (Nat.le_of_ble_eq_true rfl) dL_areSessions_129 rfl rfl ?_
    refine q_icmp_ne (tgt := 139) dL_areSessions_132 rfl (fun c => absurd (q_az_ms m k (by omega)) c) (fun c55 => ?_)
    refine q_iconst (v := nI 1) dL_areSessions_135 (by decide) ?_
    refine q_goto (tgt := 140) dL_areSessions_136 rfl ?_
    refine q_iand dL_areSessions_140 ?_
    refine q_tv (show _ = nI 1 from by decide) ?_
    refine q_istore (L' := [_, _, _, _, _, _, _]) dL_areSessions_141 rfl (by decide) rfl ?_
    refine q_iinc (v := nI 5) (L' := [_, _, _, _, _, _, _]) dL_areSessions_143 rfl (by decide) rfl (by decide) rfl ?_
    refine q_goto (tgt := 109) dL_areSessions_146 rfl ?_
    refine q_iload dL_areSessions_109 rfl ?_
    refine q_iconst (v := nI 5) dL_areSessions_111 (by decide) ?_
    refine q_icmp_gt (tgt := 149) dL_areSessions_112 rfl (fun c => absurd c (by decide)) (fun _ => ?_)
    refine q_iload dL_areSessions_115 rfl ?_
    refine q_aload_n dL_areSessions_117 rfl ?_
    refine q_iload dL_areSessions_118 rfl ?_
    refine q_iload dL_areSessions_120 rfl ?_
    refine q_callH (kc := X1 + 21) (ks := Y1 + 126) (g_L_minutesInZone (h := h134) K134 C134 (x := (m.id k)) (z := (nI (5)))) wL_minutesInZone kL_234 sL_minutesInZone (by decide) rfl rfl (Nat.le_of_ble_eq_true rfl) dL_areSessions_122 rfl rfl (fun E h9 q9 => (by obtain ⟨_, q9, _⟩ := q9; exact nomatch q9)) ?_
    intro v9 h135 hq
    obtain ⟨x9, ex9, hj9⟩ := j_minutesInZone C134 B s a0 b0 k0 dd (by omega) hq
    clear hq
    cases ex9
    rcases hj9 with ⟨d1, ex8, rdx⟩ | ⟨y1, d2, ex8, rdx⟩ | ⟨y1, y2, hp⟩
    · exact absurd d1 (hno)
    · exact absurd d2 ((q_rin (by omega) (by omega) (by decide)))
    rw [hmat, nI_clamp (by omega)] at hp
    obtain ⟨ev9, rdx⟩ := hp
    cases ev9
    have rd135 : q_rd h h135 W O := ⟨rdx.1, rd134.2.tr rdx.2⟩
    have C135 := rd135.1
    have K135 : q_Lk Φ h135.R h135.n := (q_lf.fr (a := a) rd135.2).Lk K
    have NN135 : q_n9 h135 a := hN.fr rd135.2.2.2.1
    have R135 : q_nr (h135.I a) m ρ := by rw [rd135.2.1 a (by omega)]; exact R
    refine q_aload_n dL_areSessions_125 rfl ?_
    refine q_iload_n dL_areSessions_126 rfl ?_
    refine q_iload dL_areSessions_127 rfl ?_
    refine q_sD (kc := X1 + 21) (ks := Y1 + 126) (g_L_minutes (h := h135) K135 NN135 R135 B v dd (k := k) (z := 5) (by omega) (by omega)) wL_minutes kL_212 sL_minutes (by decide) rfl rfl (Nat.le_of_ble_eq_true rfl) dL_areSessions_129 rfl rfl ?_
    refine q_icmp_ne (tgt := 139) dL_areSessions_132 rfl (fun c => absurd (q_az_ms m k (by omega)) c) (fun c59 => ?_)
    refine q_iconst (v := nI 1) dL_areSessions_135 (by decide) ?_
    refine q_goto (tgt := 140) dL_areSessions_136 rfl ?_
    refine q_iand dL_areSessions_140 ?_
    refine q_tv (show _ = nI 1 from by decide) ?_
    refine q_istore (L' := [_, _, _, _, _, _, _]) dL_areSessions_141 rfl (by decide) rfl ?_
    refine q_iinc (v := nI 6) (L' := [_, _, _, _, _, _, _]) dL_areSessions_143 rfl (by decide) rfl (by decide) rfl ?_
    refine q_goto (tgt := 109) dL_areSessions_146 rfl ?_
    refine q_iload dL_areSessions_109 rfl ?_
    refine q_iconst (v := nI 5) dL_areSessions_111 (by decide) ?_
    refine q_icmp_gt (tgt := 149) dL_areSessions_112 rfl (fun _ => ?_) (fun c => absurd (by decide) c)
    refine q_iload dL_areSessions_149 rfl ?_
    refine q_if_ne (tgt := 156) dL_areSessions_151 rfl (fun _ => ?_) (fun c => absurd c (by decide))
    refine q_iincN (n := 1) (L' := [_, _, _, _, _, _, _]) (by decide) dL_areSessions_156 rfl rfl (by decide) rfl ?_
    refine q_goto (tgt := 4) dL_areSessions_159 rfl ?_
    refine q_less (kc' := (40 - (k + 1)) * 14 + 21) (ks' := (40 - (k + 1)) * 84 + 126) (by omega) (by omega) ?_
    exact q_to (ih4 (k + 1, h135) (⟨by omega, rd135⟩) (by dsimp only; omega)) (q_sub_s rfl (q_sub_s rfl (q_sub_i (by rw [q_ms_0]; rfl) (q_sub_i rfl (q_sub_n (q_sub_n (q_sub_n q_sub_0))))))) rfl
