/-! THE LAW'S CHECKS -/
theorem g_L_isPlan {Φ : q_Fx} {h : q_Hp} (K : q_Lk Φ h.R h.n) {a : Nat} (hN : q_n9 h a) {m : q_W} {ρ : Nat → Nat} (R : q_nr (h.I a) m ρ) (B : q_bd m) {W : q_W} {O : q_O} (C : q_clX h W O) {c : Nat} (s : q_smc c W m) (hcc : c ≤ 500)  : q_Ct Φ false yL_isPlan cL_isPlan mL_isPlan [.ref 1, .ref a] h (q_ex (fun v h' => v = some (.int (nI 1)) ∧ q_rd h h' W O)) := by
  refine q_enter K.st rfl rfl (by decide) rfl (Nat.le_of_ble_eq_true rfl) (L := [_, _, none, none, none, none, none, none]) rfl ?_
  obtain ⟨bt, bn, bc, bpe, bpf, bpc, bpn⟩ := id B
  obtain ⟨⟨N0, hN0, a0, ⟨τ0, b0⟩, k0⟩, dd⟩ := id s
  have v := k0.2.2.2.2.2.2.2
  have ha2 := hN.2.1
  have rd0 : q_rd h h W O := ⟨C, q_fr.rf⟩
  refine q_iconst (v := nI 0) dL_isPlan_0 (by decide) ?_
  refine q_istore_n (L' := [_, _, _, _, _, _, _, _]) dL_isPlan_1 rfl (by decide) rfl ?_
  refine q_iconst (v := nI 0) dL_isPlan_2 (by decide) ?_
  refine q_istore_n (L' := [_, _, _, _, _, _, _, _]) dL_isPlan_3 rfl (by decide) rfl ?_
  refine q_iconst (v := nI 0) dL_isPlan_4 (by decide) ?_
  refine q_istore (L' := [_, _, _, _, _, _, _, _]) dL_isPlan_5 rfl (by decide) rfl ?_
  refine q_iconst (v := nI 3) dL_isPlan_7 (by decide) ?_
  refine q_istore (L' := [_, _, _, _, _, _, _, _]) dL_isPlan_8 rfl (by decide) rfl ?_
  refine q_aload_n dL_isPlan_10 rfl ?_
  refine q_iconst (v := nI 5) dL_isPlan_11 (by decide) ?_
  refine q_ialdD (k := 5) hN.1 hN.t hN.l (by omega) (by decide) dL_isPlan_12 ?_
  refine q_tv (show _ = (nI (m.pf)) from R.pf) ?_
  refine q_istore (L' := [_, _, _, _, _, _, _, _]) dL_isPlan_13 rfl (by decide) rfl ?_
  refine q_loop (ι := Nat) (μ := fun i => m.t - m.pf - i) (P := fun i => i ≤ m.t - m.pf ∧ (m.pe = 1 ∨ i = 0)) (Lf := fun i => [some (.ref 1), some (.ref a), some (.int (nI ((m.fo i).1))), some (.int (nI ((m.fo i).2.1))), some (.int (nI ((m.fo i).2.2.1))), some (.int (nI (3 - (m.fo i).2.2.2))), some (.int (nI (m.pf + i))), none]) (hf := fun i => h) (fun i hi15 ih15 => ?_) 0 (⟨Nat.zero_le _, Or.inr rfl⟩) (q_sub_s rfl (q_sub_s rfl (q_sub_i rfl (q_sub_i rfl (q_sub_i rfl (q_sub_i rfl (q_sub_i rfl (q_sub_n q_sub_0)))))))) rfl
  skip
  obtain ⟨fl1, fl2, fl3, fl4⟩ := m.fo_le i
  refine q_aload_n dL_isPlan_15 rfl ?_
  refine q_iconst (v := nI 4) dL_isPlan_16 (by decide) ?_
  refine q_ialdD (k := 4) hN.1 hN.t hN.l (by omega) (by decide) dL_isPlan_17 ?_
  refine q_tv (show _ = (nI (m.pe)) from R.pe) ?_
  refine q_iconst (v := nI 1) dL_isPlan_18 (by decide) ?_
  refine q_icmp_neN (by omega) (by omega) (tgt := 142) dL_isPlan_19 rfl (fun c1 => ?_) (fun c2 => ?_)
  · have hfo : m.fo i = m.fo (m.t - m.pf) := by
      by_cases hp1 : m.pe = 1
      · rw [show i = m.t - m.pf by omega]
      · have hpc0 := v.2.2.2.2.2.2 (by omega)
        have hi0 : i = 0 := by have := hi15.2; omega
        subst hi0
        exact (m.fo_stuck (i := 0) (by rw [hpc0]; exact Nat.not_lt_zero _) _ (Nat.zero_le _)).symm
    rw [hfo, show (m.fo (m.t - m.pf)).1 = m.due from rfl, show (m.fo (m.t - m.pf)).2.1 = m.mis from rfl, show (m.fo (m.t - m.pf)).2.2.1 = m.drp from rfl]
    have hdue : m.due ≤ m.pc := (m.fo_le (m.t - m.pf)).1
    have hmis : m.mis ≤ m.t - m.pf := (m.fo_le (m.t - m.pf)).2.1
    have hdrp : m.drp ≤ m.t - m.pf := (m.fo_le (m.t - m.pf)).2.2.1
    refine q_aload_n dL_isPlan_142 rfl ?_
    refine q_iconst (v := nI 4) dL_isPlan_143 (by decide) ?_
    refine q_ialdD (k := 4) hN.1 hN.t hN.l (by omega) (by decide) dL_isPlan_144 ?_
    refine q_tv (show _ = (nI (m.pe)) from R.pe) ?_
    refine q_iconst (v := nI 1) dL_isPlan_145 (by decide) ?_
    refine q_icmp_neN (by omega) (by omega) (tgt := 161) dL_isPlan_146 rfl (fun c3 => ?_) (fun c => by exfalso; first | omega | exact absurd c1 c | exact absurd c c1)
    refine q_iconst (v := nI 0) dL_isPlan_161 (by decide) ?_
    refine q_istore (L' := [_, _, _, _, _, _, _, _]) dL_isPlan_162 rfl (by decide) rfl ?_
    refine q_aload_n dL_isPlan_164 rfl ?_
    refine q_callH (kc := 2) (ks := 12) (g_L_dueEntry (h := h) K C ) wL_dueEntry kL_245 sL_dueEntry (by decide) rfl rfl (Nat.le_of_ble_eq_true rfl) dL_isPlan_165 rfl rfl (fun E h9 q9 => (by obtain ⟨_, q9, _⟩ := q9; exact nomatch q9)) ?_
    intro v9 h101 hq
    obtain ⟨x9, ex9, hj9⟩ := j_dueEntry C B s a0 b0 k0 dd (by omega) hq
    clear hq
    cases ex9
    rcases hj9 with ⟨d1, ex8, rdx⟩ | ⟨y1, hp⟩
    rotate_left
    · exact absurd ((by omega)) y1
    subst ex8
    have rd101 : q_rd h h101 W O := ⟨rdx.1, rd0.2.tr rdx.2⟩
    have C101 := rd101.1
    have K101 : q_Lk Φ h101.R h101.n := (q_lf.fr (a := a) rd101.2).Lk K
    have NN101 : q_n9 h101 a := hN.fr rd101.2.2.2.1
    have R101 : q_nr (h101.I a) m ρ := by rw [rd101.2.1 a (by omega)]; exact R
    refine q_iload dL_isPlan_168 rfl ?_
    refine q_if_eq (tgt := 177) dL_isPlan_170 rfl (fun _ => ?_) (fun c => absurd (by decide) c)
    refine q_ldc dL_isPlan_177 kcL_17 ?_
    refine q_icmp_ne (tgt := 239) dL_isPlan_179 rfl (fun c => absurd (by decide) c) (fun _ => ?_)
    refine q_aload_n dL_isPlan_182 rfl ?_
    refine q_callH (kc := 1) (ks := 6) (g_L_planEnd (h := h101) K101 C101 ) wL_planEnd kL_248 sL_planEnd (by decide) rfl rfl (Nat.le_of_ble_eq_true rfl) dL_isPlan_183 rfl rfl (fun E h9 q9 => (by obtain ⟨_, q9, _⟩ := q9; exact nomatch q9)) ?_
    intro v9 h102 hq
    obtain ⟨x9, ex9, hj9⟩ := j_planEnd C101 B s a0 b0 k0 dd (by omega) hq
    clear hq
    cases ex9
    rcases hj9 with ⟨d1, ex8, rdx⟩ | ⟨y1, hp⟩
    rotate_left
    · exact absurd ((by omega)) y1
    subst ex8
    have rd102 : q_rd h h102 W O := ⟨rdx.1, rd101.2.tr rdx.2⟩
    have C102 := rd102.1
    have K102 : q_Lk Φ h102.R h102.n := (q_lf.fr (a := a) rd102.2).Lk K
    have NN102 : q_n9 h102 a := hN.fr rd102.2.2.2.1
    have R102 : q_nr (h102.I a) m ρ := by rw [rd102.2.1 a (by omega)]; exact R
    refine q_iload dL_isPlan_186 rfl ?_
    refine q_if_eq (tgt := 206) dL_isPlan_188 rfl (fun _ => ?_) (fun c => absurd (by decide) c)
    refine q_ldc dL_isPlan_206 kcL_17 ?_
    refine q_icmp_ne (tgt := 239) dL_isPlan_208 rfl (fun c => absurd (by decide) c) (fun _ => ?_)
    refine q_aload_n dL_isPlan_211 rfl ?_
    refine q_vR (kc := 1) (ks := 6) (g_X9_isPlanOver (h := h102) K102 C102) wX9_isPlanOver kL_250 iX9_isPlanOver eX9_isPlanOver rfl rfl (by decide) (K102.le (by decide)) (by decide) rfl rfl (Nat.le_of_ble_eq_true rfl) dL_isPlan_212 rfl rfl ?_
    intro v9 h103 hq
    obtain ⟨ev9, rdx⟩ := j_isPlanOver C102 B s a0 b0 k0 dd (by omega) hq
    subst ev9
    have rd103 : q_rd h h103 W O := ⟨rdx.1, rd102.2.tr rdx.2⟩
    have C103 := rd103.1
    have K103 : q_Lk Φ h103.R h103.n := (q_lf.fr (a := a) rd103.2).Lk K
    have NN103 : q_n9 h103 a := hN.fr rd103.2.2.2.1
    have R103 : q_nr (h103.I a) m ρ := by rw [rd103.2.1 a (by omega)]; exact R
    refine q_tv (show _ = nI 0 from congrArg q_bl (decide_eq_false (by omega))) ?_
    refine q_aload_n dL_isPlan_215 rfl ?_
    refine q_iconst (v := nI 4) dL_isPlan_216 (by decide) ?_
    refine q_ialdD (k := 4) NN103.1 NN103.t NN103.l (by omega) (by decide) dL_isPlan_217 ?_
    refine q_tv (show _ = (nI (m.pe)) from R103.pe) ?_
    refine q_iconst (v := nI 1) dL_isPlan_218 (by decide) ?_
    refine q_icmp_neN (by omega) (by omega) (tgt := 231) dL_isPlan_219 rfl (fun c13 => ?_) (fun c => by exfalso; first | omega | exact absurd c1 c | exact absurd c c1)
    refine q_iconst (v := nI 0) dL_isPlan_231 (by decide) ?_
    refine q_icmp_ne (tgt := 239) dL_isPlan_232 rfl (fun c => absurd (by decide) c) (fun _ => ?_)
    refine q_iconst (v := nI 1) dL_isPlan_235 (by decide) ?_
    refine q_goto (tgt := 240) dL_isPlan_236 rfl ?_
    refine q_istore (L' := [_, _, _, _, _, _, _, _]) dL_isPlan_240 rfl (by decide) rfl ?_
    refine q_iload dL_isPlan_242 rfl ?_
    refine q_if_eq (tgt := 292) dL_isPlan_244 rfl (fun c => absurd c (by decide)) (fun _ => ?_)
    refine q_aload_n dL_isPlan_247 rfl ?_
    refine q_vR (kc := 1) (ks := 6) (g_X9_missedDays (h := h103) K103 C103) wX9_missedDays kL_254 iX9_missedDays eX9_missedDays rfl rfl (by decide) (K103.le (by decide)) (by decide) rfl rfl (Nat.le_of_ble_eq_true rfl) dL_isPlan_248 rfl rfl ?_
    intro v9 h104 hq
    obtain ⟨ev9, rdx⟩ := j_missedDays C103 B s a0 b0 k0 dd (by omega) hq
    subst ev9
    have rd104 : q_rd h h104 W O := ⟨rdx.1, rd103.2.tr rdx.2⟩
    have C104 := rd104.1
    have K104 : q_Lk Φ h104.R h104.n := (q_lf.fr (a := a) rd104.2).Lk K
    have NN104 : q_n9 h104 a := hN.fr rd104.2.2.2.1
    have R104 : q_nr (h104.I a) m ρ := by rw [rd104.2.1 a (by omega)]; exact R
    refine q_iload_n dL_isPlan_251 rfl ?_
    refine q_icmp_neN (by omega) (by omega) (tgt := 292) dL_isPlan_252 rfl (fun c => absurd rfl c) (fun c19 => ?_)
    refine q_aload_n dL_isPlan_255 rfl ?_
    refine q_vR (kc := 1) (ks := 6) (g_X9_droppedEntries (h := h104) K104 C104) wX9_droppedEntries kL_257 iX9_droppedEntries eX9_droppedEntries rfl rfl (by decide) (K104.le (by decide)) (by decide) rfl rfl (Nat.le_of_ble_eq_true rfl) dL_isPlan_256 rfl rfl ?_
    intro v9 h105 hq
    obtain ⟨ev9, rdx⟩ := j_droppedEntries C104 B s a0 b0 k0 dd (by omega) hq
    subst ev9
    have rd105 : q_rd h h105 W O := ⟨rdx.1, rd104.2.tr rdx.2⟩
    have C105 := rd105.1
    have K105 : q_Lk Φ h105.R h105.n := (q_lf.fr (a := a) rd105.2).Lk K
    have NN105 : q_n9 h105 a := hN.fr rd105.2.2.2.1
    have R105 : q_nr (h105.I a) m ρ := by rw [rd105.2.1 a (by omega)]; exact R
    refine q_iload dL_isPlan_259 rfl ?_
    refine q_icmp_neN (by omega) (by omega) (tgt := 292) dL_isPlan_261 rfl (fun c => absurd rfl c) (fun c21 => ?_)
    refine q_aload_n dL_isPlan_264 rfl ?_
    refine q_iload_n dL_isPlan_265 rfl ?_
    refine q_callH (kc := 0) (ks := 0) (g_L_targetAt (h := h105) K105 C105 (p := (nI (m.due)))) wL_targetAt kL_260 sL_targetAt (by decide) rfl rfl (Nat.le_of_ble_eq_true rfl) dL_isPlan_266 rfl rfl (fun E h9 q9 => (by obtain ⟨_, q9, _⟩ := q9; exact nomatch q9)) ?_
    intro v9 h106 hq
    obtain ⟨x9, ex9, hj9⟩ := j_targetAt C105 B s a0 b0 k0 dd (by omega) hq
    clear hq
    cases ex9
    rcases hj9 with ⟨d1, ex8, rdx⟩ | ⟨y1, hp⟩
    rotate_left
    · exact absurd ((by by_cases hp0 : m.pe = 0; exact Or.inl hp0; exact Or.inr (q_tgo (by omega) (by omega) (by omega)))) y1
    subst ex8
    have rd106 : q_rd h h106 W O := ⟨rdx.1, rd105.2.tr rdx.2⟩
    have C106 := rd106.1
    have K106 : q_Lk Φ h106.R h106.n := (q_lf.fr (a := a) rd106.2).Lk K
    have NN106 : q_n9 h106 a := hN.fr rd106.2.2.2.1
    have R106 : q_nr (h106.I a) m ρ := by rw [rd106.2.1 a (by omega)]; exact R
    refine q_iload dL_isPlan_269 rfl ?_
    refine q_if_eq (tgt := 283) dL_isPlan_271 rfl (fun _ => ?_) (fun c => absurd (by decide) c)
    refine q_ldc dL_isPlan_283 kcL_17 ?_
    refine q_icmp_ne (tgt := 292) dL_isPlan_285 rfl (fun c => absurd (by decide) c) (fun _ => ?_)
    refine q_iconst (v := nI 1) dL_isPlan_288 (by decide) ?_
    refine q_goto (tgt := 293) dL_isPlan_289 rfl ?_
    refine q_zret (ty := .boolean) dL_isPlan_293 rfl rfl (Or.inl rfl) ?_
    exact ⟨_, rfl, rfl, rd106⟩
  · refine q_iload dL_isPlan_22 rfl ?_
    refine q_aload_n dL_isPlan_24 rfl ?_
    refine q_iconst (v := nI 0) dL_isPlan_25 (by decide) ?_
    refine q_ialdD (k := 0) hN.1 hN.t hN.l (by omega) (by decide) dL_isPlan_26 ?_
    refine q_tv (show _ = (nI (m.t)) from R.t) ?_
    refine q_icmp_geN (by omega) (by omega) (tgt := 142) dL_isPlan_27 rfl (fun c27 => ?_) (fun c28 => ?_)
    · have hfo : m.fo i = m.fo (m.t - m.pf) := by
        by_cases hp1 : m.pe = 1
        · rw [show i = m.t - m.pf by omega]
        · have hpc0 := v.2.2.2.2.2.2 (by omega)
          have hi0 : i = 0 := by have := hi15.2; omega
          subst hi0
          exact (m.fo_stuck (i := 0) (by rw [hpc0]; exact Nat.not_lt_zero _) _ (Nat.zero_le _)).symm
      rw [hfo, show (m.fo (m.t - m.pf)).1 = m.due from rfl, show (m.fo (m.t - m.pf)).2.1 = m.mis from rfl, show (m.fo (m.t - m.pf)).2.2.1 = m.drp from rfl]
      have hdue : m.due ≤ m.pc := (m.fo_le (m.t - m.pf)).1
      have hmis : m.mis ≤ m.t - m.pf := (m.fo_le (m.t - m.pf)).2.1
      have hdrp : m.drp ≤ m.t - m.pf := (m.fo_le (m.t - m.pf)).2.2.1
      refine q_aload_n dL_isPlan_142 rfl ?_
      refine q_iconst (v := nI 4) dL_isPlan_143 (by decide) ?_
      refine q_ialdD (k := 4) hN.1 hN.t hN.l (by omega) (by decide) dL_isPlan_144 ?_
      refine q_tv (show _ = (nI (m.pe)) from R.pe) ?_
      refine q_iconst (v := nI 1) dL_isPlan_145 (by decide) ?_
      refine q_icmp_neN (by omega) (by omega) (tgt := 161) dL_isPlan_146 rfl (fun c => by exfalso; first | omega | exact absurd c2 c | exact absurd c c2) (fun c29 => ?_)
      refine q_iload_n dL_isPlan_149 rfl ?_
      refine q_aload_n dL_isPlan_150 rfl ?_
      refine q_bipush (v := nI 6) dL_isPlan_151 (by decide) ?_
      refine q_ialdD (k := 6) hN.1 hN.t hN.l (by omega) (by decide) dL_isPlan_153 ?_
      refine q_tv (show _ = (nI (m.pc)) from R.pc) ?_
      refine q_icmp_geN (by omega) (by omega) (tgt := 161) dL_isPlan_154 rfl (fun c31 => ?_) (fun c32 => ?_)
      · refine q_iconst (v := nI 0) dL_isPlan_161 (by decide) ?_
        refine q_istore (L' := [_, _, _, _, _, _, _, _]) dL_isPlan_162 rfl (by decide) rfl ?_
        refine q_aload_n dL_isPlan_164 rfl ?_
        refine q_callH (kc := 2) (ks := 12) (g_L_dueEntry (h := h) K C ) wL_dueEntry kL_245 sL_dueEntry (by decide) rfl rfl (Nat.le_of_ble_eq_true rfl) dL_isPlan_165 rfl rfl (fun E h9 q9 => (by obtain ⟨_, q9, _⟩ := q9; exact nomatch q9)) ?_
        intro v9 h107 hq
        obtain ⟨x9, ex9, hj9⟩ := j_dueEntry C B s a0 b0 k0 dd (by omega) hq
        clear hq
        cases ex9
        rcases hj9 with ⟨d1, ex8, rdx⟩ | ⟨y1, hp⟩
        rotate_left
        · exact absurd ((by omega)) y1
        subst ex8
        have rd107 : q_rd h h107 W O := ⟨rdx.1, rd0.2.tr rdx.2⟩
        have C107 := rd107.1
        have K107 : q_Lk Φ h107.R h107.n := (q_lf.fr (a := a) rd107.2).Lk K
        have NN107 : q_n9 h107 a := hN.fr rd107.2.2.2.1
        have R107 : q_nr (h107.I a) m ρ := by rw [rd107.2.1 a (by omega)]; exact R
        refine q_iload dL_isPlan_168 rfl ?_
        refine q_if_eq (tgt := 177) dL_isPlan_170 rfl (fun _ => ?_) (fun c => absurd (by decide) c)
        refine q_ldc dL_isPlan_177 kcL_17 ?_
        refine q_icmp_ne (tgt := 239) dL_isPlan_179 rfl (fun c => absurd (by decide) c) (fun _ => ?_)
        refine q_aload_n dL_isPlan_182 rfl ?_
        refine q_callH (kc := 1) (ks := 6) (g_L_planEnd (h := h107) K107 C107 ) wL_planEnd kL_248 sL_planEnd (by decide) rfl rfl (Nat.le_of_ble_eq_true rfl) dL_isPlan_183 rfl rfl (fun E h9 q9 => (by obtain ⟨_, q9, _⟩ := q9; exact nomatch q9)) ?_
        intro v9 h108 hq
        obtain ⟨x9, ex9, hj9⟩ := j_planEnd C107 B s a0 b0 k0 dd (by omega) hq
        clear hq
        cases ex9
        rcases hj9 with ⟨d1, ex8, rdx⟩ | ⟨y1, hp⟩
        rotate_left
        · exact absurd ((by omega)) y1
        subst ex8
        have rd108 : q_rd h h108 W O := ⟨rdx.1, rd107.2.tr rdx.2⟩
        have C108 := rd108.1
        have K108 : q_Lk Φ h108.R h108.n := (q_lf.fr (a := a) rd108.2).Lk K
        have NN108 : q_n9 h108 a := hN.fr rd108.2.2.2.1
        have R108 : q_nr (h108.I a) m ρ := by rw [rd108.2.1 a (by omega)]; exact R
        refine q_iload dL_isPlan_186 rfl ?_
        refine q_if_eq (tgt := 206) dL_isPlan_188 rfl (fun _ => ?_) (fun c => absurd (by decide) c)
        refine q_ldc dL_isPlan_206 kcL_17 ?_
        refine q_icmp_ne (tgt := 239) dL_isPlan_208 rfl (fun c => absurd (by decide) c) (fun _ => ?_)
        refine q_aload_n dL_isPlan_211 rfl ?_
        refine q_vR (kc := 1) (ks := 6) (g_X9_isPlanOver (h := h108) K108 C108) wX9_isPlanOver kL_250 iX9_isPlanOver eX9_isPlanOver rfl rfl (by decide) (K108.le (by decide)) (by decide) rfl rfl (Nat.le_of_ble_eq_true rfl) dL_isPlan_212 rfl rfl ?_
        intro v9 h109 hq
        obtain ⟨ev9, rdx⟩ := j_isPlanOver C108 B s a0 b0 k0 dd (by omega) hq
        subst ev9
        have rd109 : q_rd h h109 W O := ⟨rdx.1, rd108.2.tr rdx.2⟩
        have C109 := rd109.1
        have K109 : q_Lk Φ h109.R h109.n := (q_lf.fr (a := a) rd109.2).Lk K
        have NN109 : q_n9 h109 a := hN.fr rd109.2.2.2.1
        have R109 : q_nr (h109.I a) m ρ := by rw [rd109.2.1 a (by omega)]; exact R
        refine q_tv (show _ = nI 1 from congrArg q_bl (decide_eq_true (by omega))) ?_
        refine q_aload_n dL_isPlan_215 rfl ?_
        refine q_iconst (v := nI 4) dL_isPlan_216 (by decide) ?_
        refine q_ialdD (k := 4) NN109.1 NN109.t NN109.l (by omega) (by decide) dL_isPlan_217 ?_
        refine q_tv (show _ = (nI (m.pe)) from R109.pe) ?_
        refine q_iconst (v := nI 1) dL_isPlan_218 (by decide) ?_
        refine q_icmp_neN (by omega) (by omega) (tgt := 231) dL_isPlan_219 rfl (fun c => by exfalso; first | omega | exact absurd c2 c | exact absurd c c2) (fun c41 => ?_)
        refine q_iload dL_isPlan_222 rfl ?_
        refine q_if_ne (tgt := 231) dL_isPlan_224 rfl (fun c => absurd (by decide) c) (fun _ => ?_)
        refine q_iconst (v := nI 1) dL_isPlan_227 (by decide) ?_
        refine q_goto (tgt := 232) dL_isPlan_228 rfl ?_
        refine q_icmp_ne (tgt := 239) dL_isPlan_232 rfl (fun c => absurd (by decide) c) (fun _ => ?_)
        refine q_iconst (v := nI 1) dL_isPlan_235 (by decide) ?_
        refine q_goto (tgt := 240) dL_isPlan_236 rfl ?_
        refine q_istore (L' := [_, _, _, _, _, _, _, _]) dL_isPlan_240 rfl (by decide) rfl ?_
        refine q_iload dL_isPlan_242 rfl ?_
        refine q_if_eq (tgt := 292) dL_isPlan_244 rfl (fun c => absurd c (by decide)) (fun _ => ?_)
        refine q_aload_n dL_isPlan_247 rfl ?_
        refine q_vR (kc := 1) (ks := 6) (g_X9_missedDays (h := h109) K109 C109) wX9_missedDays kL_254 iX9_missedDays eX9_missedDays rfl rfl (by decide) (K109.le (by decide)) (by decide) rfl rfl (Nat.le_of_ble_eq_true rfl) dL_isPlan_248 rfl rfl ?_
        intro v9 h110 hq
        obtain ⟨ev9, rdx⟩ := j_missedDays C109 B s a0 b0 k0 dd (by omega) hq
        subst ev9
        have rd110 : q_rd h h110 W O := ⟨rdx.1, rd109.2.tr rdx.2⟩
        have C110 := rd110.1
        have K110 : q_Lk Φ h110.R h110.n := (q_lf.fr (a := a) rd110.2).Lk K
        have NN110 : q_n9 h110 a := hN.fr rd110.2.2.2.1
        have R110 : q_nr (h110.I a) m ρ := by rw [rd110.2.1 a (by omega)]; exact R
        refine q_iload_n dL_isPlan_251 rfl ?_
        refine q_icmp_neN (by omega) (by omega) (tgt := 292) dL_isPlan_252 rfl (fun c => absurd rfl c) (fun c49 => ?_)
        refine q_aload_n dL_isPlan_255 rfl ?_
        refine q_vR (kc := 1) (ks := 6) (g_X9_droppedEntries (h := h110) K110 C110) wX9_droppedEntries kL_257 iX9_droppedEntries eX9_droppedEntries rfl rfl (by decide) (K110.le (by decide)) (by decide) rfl rfl (Nat.le_of_ble_eq_true rfl) dL_isPlan_256 rfl rfl ?_
        intro v9 h111 hq
        obtain ⟨ev9, rdx⟩ := j_droppedEntries C110 B s a0 b0 k0 dd (by omega) hq
        subst ev9
        have rd111 : q_rd h h111 W O := ⟨rdx.1, rd110.2.tr rdx.2⟩
        have C111 := rd111.1
        have K111 : q_Lk Φ h111.R h111.n := (q_lf.fr (a := a) rd111.2).Lk K
        have NN111 : q_n9 h111 a := hN.fr rd111.2.2.2.1
        have R111 : q_nr (h111.I a) m ρ := by rw [rd111.2.1 a (by omega)]; exact R
        refine q_iload dL_isPlan_259 rfl ?_
        refine q_icmp_neN (by omega) (by omega) (tgt := 292) dL_isPlan_261 rfl (fun c => absurd rfl c) (fun c51 => ?_)
        refine q_aload_n dL_isPlan_264 rfl ?_
        refine q_iload_n dL_isPlan_265 rfl ?_
        refine q_callH (kc := 0) (ks := 0) (g_L_targetAt (h := h111) K111 C111 (p := (nI (m.due)))) wL_targetAt kL_260 sL_targetAt (by decide) rfl rfl (Nat.le_of_ble_eq_true rfl) dL_isPlan_266 rfl rfl (fun E h9 q9 => (by obtain ⟨_, q9, _⟩ := q9; exact nomatch q9)) ?_
        intro v9 h112 hq
        obtain ⟨x9, ex9, hj9⟩ := j_targetAt C111 B s a0 b0 k0 dd (by omega) hq
        clear hq
        cases ex9
        rcases hj9 with ⟨d1, ex8, rdx⟩ | ⟨y1, hp⟩
        rotate_left
        · exact absurd ((by by_cases hp0 : m.pe = 0; exact Or.inl hp0; exact Or.inr (q_tgo (by omega) (by omega) (by omega)))) y1
        subst ex8
        have rd112 : q_rd h h112 W O := ⟨rdx.1, rd111.2.tr rdx.2⟩
        have C112 := rd112.1
        have K112 : q_Lk Φ h112.R h112.n := (q_lf.fr (a := a) rd112.2).Lk K
        have NN112 : q_n9 h112 a := hN.fr rd112.2.2.2.1
        have R112 : q_nr (h112.I a) m ρ := by rw [rd112.2.1 a (by omega)]; exact R
        refine q_iload dL_isPlan_269 rfl ?_
        refine q_if_eq (tgt := 283) dL_isPlan_271 rfl (fun _ => ?_) (fun c => absurd (by decide) c)
        refine q_ldc dL_isPlan_283 kcL_17 ?_
        refine q_icmp_ne (tgt := 292) dL_isPlan_285 rfl (fun c => absurd (by decide) c) (fun _ => ?_)
        refine q_iconst (v := nI 1) dL_isPlan_288 (by decide) ?_
        refine q_goto (tgt := 293) dL_isPlan_289 rfl ?_
        refine q_zret (ty := .boolean) dL_isPlan_293 rfl rfl (Or.inl rfl) ?_
        exact ⟨_, rfl, rfl, rd112⟩
      · refine q_iconst (v := nI 1) dL_isPlan_157 (by decide) ?_
        refine q_goto (tgt := 162) dL_isPlan_158 rfl ?_
        refine q_istore (L' := [_, _, _, _, _, _, _, _]) dL_isPlan_162 rfl (by decide) rfl ?_
        refine q_aload_n dL_isPlan_164 rfl ?_
        refine q_callH (kc := 2) (ks := 12) (g_L_dueEntry (h := h) K C ) wL_dueEntry kL_245 sL_dueEntry (by decide) rfl rfl (Nat.le_of_ble_eq_true rfl) dL_isPlan_165 rfl rfl (fun E h9 q9 => (by obtain ⟨_, q9, _⟩ := q9; exact nomatch q9)) ?_
        intro v9 h113 hq
        obtain ⟨x9, ex9, hj9⟩ := j_dueEntry C B s a0 b0 k0 dd (by omega) hq
        clear hq
        cases ex9
        rcases hj9 with ⟨d1, ex8, rdx⟩ | ⟨y1, hp⟩
        · exact absurd d1 ((by omega))
        obtain ⟨ev9, rdx⟩ := hp
        cases ev9
        have rd113 : q_rd h h113 W O := ⟨rdx.1, rd0.2.tr rdx.2⟩
        have C113 := rd113.1
        have K113 : q_Lk Φ h113.R h113.n := (q_lf.fr (a := a) rd113.2).Lk K
        have NN113 : q_n9 h113 a := hN.fr rd113.2.2.2.1
        have R113 : q_nr (h113.I a) m ρ := by rw [rd113.2.1 a (by omega)]; exact R
        refine q_iload dL_isPlan_168 rfl ?_
        refine q_if_eq (tgt := 177) dL_isPlan_170 rfl (fun c => absurd c (by decide)) (fun _ => ?_)
        refine q_iload_n dL_isPlan_173 rfl ?_
        refine q_goto (tgt := 179) dL_isPlan_174 rfl ?_
        refine q_icmp_neN (by omega) (by omega) (tgt := 239) dL_isPlan_179 rfl (fun c => absurd rfl c) (fun c59 => ?_)
        refine q_aload_n dL_isPlan_182 rfl ?_
        refine q_callH (kc := 1) (ks := 6) (g_L_planEnd (h := h113) K113 C113 ) wL_planEnd kL_248 sL_planEnd (by decide) rfl rfl (Nat.le_of_ble_eq_true rfl) dL_isPlan_183 rfl rfl (fun E h9 q9 => (by obtain ⟨_, q9, _⟩ := q9; exact nomatch q9)) ?_
        intro v9 h114 hq
        obtain ⟨x9, ex9, hj9⟩ := j_planEnd C113 B s a0 b0 k0 dd (by omega) hq
        clear hq
        cases ex9
        rcases hj9 with ⟨d1, ex8, rdx⟩ | ⟨y1, hp⟩
        · exact absurd d1 ((by omega))
        obtain ⟨ev9, rdx⟩ := hp
        cases ev9
        have rd114 : q_rd h h114 W O := ⟨rdx.1, rd113.2.tr rdx.2⟩
        have C114 := rd114.1
        have K114 : q_Lk Φ h114.R h114.n := (q_lf.fr (a := a) rd114.2).Lk K
        have NN114 : q_n9 h114 a := hN.fr rd114.2.2.2.1
        have R114 : q_nr (h114.I a) m ρ := by rw [rd114.2.1 a (by omega)]; exact R
        refine q_tv (show _ = nI (m.t + m.pc - m.due - 1) from by rw [pk_sub (by omega), pk_sub (by omega)]; exact congrArg nI (by omega)) ?_
        refine q_iload dL_isPlan_186 rfl ?_
        refine q_if_eq (tgt := 206) dL_isPlan_188 rfl (fun c => absurd c (by decide)) (fun _ => ?_)
        refine q_aload_n dL_isPlan_191 rfl ?_
        refine q_iconst (v := nI 0) dL_isPlan_192 (by decide) ?_
        refine q_ialdD (k := 0) NN114.1 NN114.t NN114.l (by omega) (by decide) dL_isPlan_193 ?_
        refine q_tv (show _ = (nI (m.t)) from R114.t) ?_
        refine q_aload_n dL_isPlan_194 rfl ?_
        refine q_bipush (v := nI 6) dL_isPlan_195 (by decide) ?_
        refine q_ialdD (k := 6) NN114.1 NN114.t NN114.l (by omega) (by decide) dL_isPlan_197 ?_
        refine q_tv (show _ = (nI (m.pc)) from R114.pc) ?_
        refine q_iaddN dL_isPlan_198 ?_
        refine q_iload_n dL_isPlan_199 rfl ?_
        refine q_isubN (by omega) dL_isPlan_200 ?_
        refine q_iconst (v := nI 1) dL_isPlan_201 (by decide) ?_
        refine q_isubN (by omega) dL_isPlan_202 ?_
        refine q_goto (tgt := 208) dL_isPlan_203 rfl ?_
        refine q_icmp_neN (by omega) (by omega) (tgt := 239) dL_isPlan_208 rfl (fun c => absurd rfl c) (fun c63 => ?_)
        refine q_aload_n dL_isPlan_211 rfl ?_
        refine q_vR (kc := 1) (ks := 6) (g_X9_isPlanOver (h := h114) K114 C114) wX9_isPlanOver kL_250 iX9_isPlanOver eX9_isPlanOver rfl rfl (by decide) (K114.le (by decide)) (by decide) rfl rfl (Nat.le_of_ble_eq_true rfl) dL_isPlan_212 rfl rfl ?_
        intro v9 h115 hq
        obtain ⟨ev9, rdx⟩ := j_isPlanOver C114 B s a0 b0 k0 dd (by omega) hq
        subst ev9
        have rd115 : q_rd h h115 W O := ⟨rdx.1, rd114.2.tr rdx.2⟩
        have C115 := rd115.1
        have K115 : q_Lk Φ h115.R h115.n := (q_lf.fr (a := a) rd115.2).Lk K
        have NN115 : q_n9 h115 a := hN.fr rd115.2.2.2.1
        have R115 : q_nr (h115.I a) m ρ := by rw [rd115.2.1 a (by omega)]; exact R
        refine q_tv (show _ = nI 0 from congrArg q_bl (decide_eq_false (by omega))) ?_
        refine q_aload_n dL_isPlan_215 rfl ?_
        refine q_iconst (v := nI 4) dL_isPlan_216 (by decide) ?_
        refine q_ialdD (k := 4) NN115.1 NN115.t NN115.l (by omega) (by decide) dL_isPlan_217 ?_
        refine q_tv (show _ = (nI (m.pe)) from R115.pe) ?_
        refine q_iconst (v := nI 1) dL_isPlan_218 (by decide) ?_
        refine q_icmp_neN (by omega) (by omega) (tgt := 231) dL_isPlan_219 rfl (fun c => by exfalso; first | omega | exact absurd c2 c | exact absurd c c2) (fun c65 => ?_)
        refine q_iload dL_isPlan_222 rfl ?_
        refine q_if_ne (tgt := 231) dL_isPlan_224 rfl (fun _ => ?_) (fun c => absurd c (by decide))
        refine q_iconst (v := nI 0) dL_isPlan_231 (by decide) ?_
        refine q_icmp_ne (tgt := 239) dL_isPlan_232 rfl (fun c => absurd (by decide) c) (fun _ => ?_)
        refine q_iconst (v := nI 1) dL_isPlan_235 (by decide) ?_
        refine q_goto (tgt := 240) dL_isPlan_236 rfl ?_
        refine q_istore (L' := [_, _, _, _, _, _, _, _]) dL_isPlan_240 rfl (by decide) rfl ?_
        refine q_iload dL_isPlan_242 rfl ?_
        refine q_if_eq (tgt := 292) dL_isPlan_244 rfl (fun c => absurd c (by decide)) (fun _ => ?_)
        refine q_aload_n dL_isPlan_247 rfl ?_
        refine q_vR (kc := 1) (ks := 6) (g_X9_missedDays (h := h115) K115 C115) wX9_missedDays kL_254 iX9_missedDays eX9_missedDays rfl rfl (by decide) (K115.le (by decide)) (by decide) rfl rfl (Nat.le_of_ble_eq_true rfl) dL_isPlan_248 rfl rfl ?_
        intro v9 h116 hq
        obtain ⟨ev9, rdx⟩ := j_missedDays C115 B s a0 b0 k0 dd (by omega) hq
        subst ev9
        have rd116 : q_rd h h116 W O := ⟨rdx.1, rd115.2.tr rdx.2⟩
        have C116 := rd116.1
        have K116 : q_Lk Φ h116.R h116.n := (q_lf.fr (a := a) rd116.2).Lk K
        have NN116 : q_n9 h116 a := hN.fr rd116.2.2.2.1
        have R116 : q_nr (h116.I a) m ρ := by rw [rd116.2.1 a (by omega)]; exact R
        refine q_iload_n dL_isPlan_251 rfl ?_
        refine q_icmp_neN (by omega) (by omega) (tgt := 292) dL_isPlan_252 rfl (fun c => absurd rfl c) (fun c73 => ?_)
        refine q_aload_n dL_isPlan_255 rfl ?_
        refine q_vR (kc := 1) (ks := 6) (g_X9_droppedEntries (h := h116) K116 C116) wX9_droppedEntries kL_257 iX9_droppedEntries eX9_droppedEntries rfl rfl (by decide) (K116.le (by decide)) (by decide) rfl rfl (Nat.le_of_ble_eq_true rfl) dL_isPlan_256 rfl rfl ?_
        intro v9 h117 hq
        obtain ⟨ev9, rdx⟩ := j_droppedEntries C116 B s a0 b0 k0 dd (by omega) hq
        subst ev9
        have rd117 : q_rd h h117 W O := ⟨rdx.1, rd116.2.tr rdx.2⟩
        have C117 := rd117.1
        have K117 : q_Lk Φ h117.R h117.n := (q_lf.fr (a := a) rd117.2).Lk K
        have NN117 : q_n9 h117 a := hN.fr rd117.2.2.2.1
        have R117 : q_nr (h117.I a) m ρ := by rw [rd117.2.1 a (by omega)]; exact R
        refine q_iload dL_isPlan_259 rfl ?_
        refine q_icmp_neN (by omega) (by omega) (tgt := 292) dL_isPlan_261 rfl (fun c => absurd rfl c) (fun c75 => ?_)
        refine q_aload_n dL_isPlan_264 rfl ?_
        refine q_iload_n dL_isPlan_265 rfl ?_
        refine q_callH (kc := 0) (ks := 0) (g_L_targetAt (h := h117) K117 C117 (p := (nI (m.due)))) wL_targetAt kL_260 sL_targetAt (by decide) rfl rfl (Nat.le_of_ble_eq_true rfl) dL_isPlan_266 rfl rfl (fun E h9 q9 => (by obtain ⟨_, q9, _⟩ := q9; exact nomatch q9)) ?_
        intro v9 h118 hq
        obtain ⟨x9, ex9, hj9⟩ := j_targetAt C117 B s a0 b0 k0 dd (by omega) hq
        clear hq
        cases ex9
        rcases hj9 with ⟨d1, ex8, rdx⟩ | ⟨y1, hp⟩
        · exact absurd d1 ((by rintro (e | e); omega; exact q_tgi (by omega) (by omega) e))
        rw [nI_clamp (by omega)] at hp
        obtain ⟨ev9, rdx⟩ := hp
        cases ev9
        have rd118 : q_rd h h118 W O := ⟨rdx.1, rd117.2.tr rdx.2⟩
        have C118 := rd118.1
        have K118 : q_Lk Φ h118.R h118.n := (q_lf.fr (a := a) rd118.2).Lk K
        have NN118 : q_n9 h118 a := hN.fr rd118.2.2.2.1
        have R118 : q_nr (h118.I a) m ρ := by rw [rd118.2.1 a (by omega)]; exact R
        refine q_iload dL_isPlan_269 rfl ?_
        refine q_if_eq (tgt := 283) dL_isPlan_271 rfl (fun c => absurd c (by decide)) (fun _ => ?_)
        refine q_aload_n dL_isPlan_274 rfl ?_
        refine q_bipush (v := nI 60) dL_isPlan_275 (by decide) ?_
        refine q_iload_n dL_isPlan_277 rfl ?_
        refine q_iaddN dL_isPlan_278 ?_
        refine q_ialdD (k := (60) + (m.due)) NN118.1 NN118.t NN118.l (by omega) (by decide) dL_isPlan_279 ?_
        refine q_tv (show _ = (m.tg m.due) from ((congrArg (h118.I a) (show ((60) + (m.due)) = 60 + m.due by omega)).trans (R118.tg (e := m.due) (by omega)))) ?_
        refine q_goto (tgt := 285) dL_isPlan_280 rfl ?_
        refine q_icmp_ne (tgt := 292) dL_isPlan_285 rfl (fun c => absurd rfl c) (fun c79 => ?_)
        refine q_iconst (v := nI 1) dL_isPlan_288 (by decide) ?_
        refine q_goto (tgt := 293) dL_isPlan_289 rfl ?_
        refine q_zret (ty := .boolean) dL_isPlan_293 rfl rfl (Or.inl rfl) ?_
        exact ⟨_, rfl, rfl, rd118⟩
    · refine q_iload_n dL_isPlan_30 rfl ?_
      refine q_aload_n dL_isPlan_31 rfl ?_
      refine q_bipush (v := nI 6) dL_isPlan_32 (by decide) ?_
      refine q_ialdD (k := 6) hN.1 hN.t hN.l (by omega) (by decide) dL_isPlan_34 ?_
      refine q_tv (show _ = (nI (m.pc)) from R.pc) ?_
      refine q_icmp_geN (by omega) (by omega) (tgt := 136) dL_isPlan_35 rfl (fun c81 => ?_) (fun c82 => ?_)
      · refine q_iincN (n := 1) (L' := [_, _, _, _, _, _, _, _]) (by decide) dL_isPlan_136 rfl rfl (by decide) rfl ?_
        refine q_goto (tgt := 15) dL_isPlan_139 rfl ?_
        have e1 : m.fo (i + 1) = (if (m.fo i).1 < m.pc then (if m.tg (m.fo i).1 ≤ nI 2 * m.D (m.pf + i) then ((m.fo i).1 + 1, (m.fo i).2.1, (m.fo i).2.2.1, 0) else if (m.fo i).2.2.2 + 1 = 3 then ((m.fo i).1 + 1, (m.fo i).2.1 + 1, (m.fo i).2.2.1 + 1, 0) else ((m.fo i).1, (m.fo i).2.1 + 1, (m.fo i).2.2.1, (m.fo i).2.2.2 + 1)) else m.fo i) := q_fo_e m i
        first | rw [if_pos (show (m.fo i).1 < m.pc by assumption), if_pos (show m.tg (m.fo i).1 ≤ nI 2 * m.D (m.pf + i) by rw [Int32.mul_comm]; assumption)] at e1 | rw [if_pos (show (m.fo i).1 < m.pc by assumption), if_neg (show ¬ m.tg (m.fo i).1 ≤ nI 2 * m.D (m.pf + i) by rw [Int32.mul_comm]; assumption), if_pos (show (m.fo i).2.2.2 + 1 = 3 by omega)] at e1 | rw [if_pos (show (m.fo i).1 < m.pc by assumption), if_neg (show ¬ m.tg (m.fo i).1 ≤ nI 2 * m.D (m.pf + i) by rw [Int32.mul_comm]; assumption), if_neg (show ¬ (m.fo i).2.2.2 + 1 = 3 by omega)] at e1 | rw [if_neg (show ¬ (m.fo i).1 < m.pc by omega)] at e1
        exact q_to (ih15 (i + 1) (⟨by omega, Or.inl (by assumption)⟩) (by omega)) (q_sub_s rfl (q_sub_s rfl (q_sub_i (by rw [e1] <;> first | rfl | exact congrArg nI (by first | omega | (dsimp only; omega))) (q_sub_i (by rw [e1] <;> first | rfl | exact congrArg nI (by first | omega | (dsimp only; omega))) (q_sub_i (by rw [e1] <;> first | rfl | exact congrArg nI (by first | omega | (dsimp only; omega))) (q_sub_i (by rw [e1] <;> first | rfl | exact congrArg nI (by first | omega | (dsimp only; omega))) (q_sub_i rfl (q_sub_n q_sub_0)))))))) rfl
      · refine q_aload_n dL_isPlan_38 rfl ?_
        refine q_iload dL_isPlan_39 rfl ?_
        refine q_sD (kc := 3) (ks := 18) (g_L_loadOf_ (h := h) K hN R B v dd (d := m.pf + i) (by omega)) wL_loadOf_ kL_243 sL_loadOf_ (by decide) rfl rfl (Nat.le_of_ble_eq_true rfl) dL_isPlan_41 rfl rfl ?_
        rw [q_sum_id k0.1 (by omega)]
        refine q_iconst (v := nI 2) dL_isPlan_44 (by decide) ?_
        refine q_imul dL_isPlan_45 ?_
        refine q_aload_n dL_isPlan_46 rfl ?_
        refine q_bipush (v := nI 60) dL_isPlan_47 (by decide) ?_
        refine q_iload_n dL_isPlan_49 rfl ?_
        refine q_iaddN dL_isPlan_50 ?_
        refine q_ialdD (k := (60) + ((m.fo i).1)) hN.1 hN.t hN.l (by omega) (by decide) dL_isPlan_51 ?_
        refine q_tv (show _ = (m.tg ((m.fo i).1)) from ((congrArg (h.I a) (show ((60) + ((m.fo i).1)) = 60 + ((m.fo i).1) by omega)).trans (R.tg (e := ((m.fo i).1)) (by omega)))) ?_
        refine q_icmp_ge (tgt := 59) dL_isPlan_52 rfl (fun c83 => ?_) (fun c84 => ?_)
        · refine q_iconst (v := nI 0) dL_isPlan_59 (by decide) ?_
          refine q_istore (L' := [_, _, _, _, _, _, _, _]) dL_isPlan_60 rfl (by decide) rfl ?_
          refine q_iload dL_isPlan_62 rfl ?_
          refine q_if_eq (tgt := 74) dL_isPlan_64 rfl (fun _ => ?_) (fun c => absurd (by decide) c)
          refine q_iconst (v := nI 3) dL_isPlan_74 (by decide) ?_
          refine q_istore (L' := [_, _, _, _, _, _, _, _]) dL_isPlan_75 rfl (by decide) rfl ?_
          refine q_iload_n dL_isPlan_77 rfl ?_
          refine q_iload dL_isPlan_78 rfl ?_
          refine q_if_eq (tgt := 87) dL_isPlan_80 rfl (fun _ => ?_) (fun c => absurd (by decide) c)
          refine q_iconst (v := nI 0) dL_isPlan_87 (by decide) ?_
          refine q_iaddN dL_isPlan_88 ?_
          refine q_istore_n (L' := [_, _, _, _, _, _, _, _]) dL_isPlan_89 rfl (by decide) rfl ?_
          refine q_iload dL_isPlan_90 rfl ?_
          refine q_iload dL_isPlan_92 rfl ?_
          refine q_if_ne (tgt := 101) dL_isPlan_94 rfl (fun _ => ?_) (fun c => absurd c (by decide))
          refine q_iconst (v := nI 0) dL_isPlan_101 (by decide) ?_
          refine q_iaddN dL_isPlan_102 ?_
          refine q_istore (L' := [_, _, _, _, _, _, _, _]) dL_isPlan_103 rfl (by decide) rfl ?_
          refine q_iload_n dL_isPlan_105 rfl ?_
          refine q_iload dL_isPlan_106 rfl ?_
          refine q_if_eq (tgt := 116) dL_isPlan_108 rfl (fun _ => ?_) (fun c => absurd (by decide) c)
          refine q_iconst (v := nI 1) dL_isPlan_116 (by decide) ?_
          refine q_goto (tgt := 121) dL_isPlan_117 rfl ?_
          refine q_iaddN dL_isPlan_121 ?_
          refine q_istore_n (L' := [_, _, _, _, _, _, _, _]) dL_isPlan_122 rfl (by decide) rfl ?_
          refine q_iload dL_isPlan_123 rfl ?_
          refine q_if_ne (tgt := 132) dL_isPlan_125 rfl (fun _ => ?_) (fun c => absurd c (by decide))
          refine q_iload dL_isPlan_132 rfl ?_
          refine q_istore (L' := [_, _, _, _, _, _, _, _]) dL_isPlan_134 rfl (by decide) rfl ?_
          refine q_iincN (n := 1) (L' := [_, _, _, _, _, _, _, _]) (by decide) dL_isPlan_136 rfl rfl (by decide) rfl ?_
          refine q_goto (tgt := 15) dL_isPlan_139 rfl ?_
          have e1 : m.fo (i + 1) = (if (m.fo i).1 < m.pc then (if m.tg (m.fo i).1 ≤ nI 2 * m.D (m.pf + i) then ((m.fo i).1 + 1, (m.fo i).2.1, (m.fo i).2.2.1, 0) else if (m.fo i).2.2.2 + 1 = 3 then ((m.fo i).1 + 1, (m.fo i).2.1 + 1, (m.fo i).2.2.1 + 1, 0) else ((m.fo i).1, (m.fo i).2.1 + 1, (m.fo i).2.2.1, (m.fo i).2.2.2 + 1)) else m.fo i) := q_fo_e m i
          first | rw [if_pos (show (m.fo i).1 < m.pc by assumption), if_pos (show m.tg (m.fo i).1 ≤ nI 2 * m.D (m.pf + i) by rw [Int32.mul_comm]; assumption)] at e1 | rw [if_pos (show (m.fo i).1 < m.pc by assumption), if_neg (show ¬ m.tg (m.fo i).1 ≤ nI 2 * m.D (m.pf + i) by rw [Int32.mul_comm]; assumption), if_pos (show (m.fo i).2.2.2 + 1 = 3 by omega)] at e1 | rw [if_pos (show (m.fo i).1 < m.pc by assumption), if_neg (show ¬ m.tg (m.fo i).1 ≤ nI 2 * m.D (m.pf + i) by rw [Int32.mul_comm]; assumption), if_neg (show ¬ (m.fo i).2.2.2 + 1 = 3 by omega)] at e1 | rw [if_neg (show ¬ (m.fo i).1 < m.pc by omega)] at e1
          exact q_to (ih15 (i + 1) (⟨by omega, Or.inl (by assumption)⟩) (by omega)) (q_sub_s rfl (q_sub_s rfl (q_sub_i (by rw [e1] <;> first | rfl | exact congrArg nI (by first | omega | (dsimp only; omega))) (q_sub_i (by rw [e1] <;> first | rfl | exact congrArg nI (by first | omega | (dsimp only; omega))) (q_sub_i (by rw [e1] <;> first | rfl | exact congrArg nI (by first | omega | (dsimp only; omega))) (q_sub_i (by rw [e1] <;> first | rfl | exact congrArg nI (by first | omega | (dsimp only; omega))) (q_sub_i rfl (q_sub_n q_sub_0)))))))) rfl
        · refine q_iconst (v := nI 1) dL_isPlan_55 (by decide) ?_
          refine q_goto (tgt := 60) dL_isPlan_56 rfl ?_
          refine q_istore (L' := [_, _, _, _, _, _, _, _]) dL_isPlan_60 rfl (by decide) rfl ?_
          refine q_iload dL_isPlan_62 rfl ?_
          refine q_if_eq (tgt := 74) dL_isPlan_64 rfl (fun c => absurd c (by decide)) (fun _ => ?_)
          refine q_iload dL_isPlan_67 rfl ?_
          refine q_iconst (v := nI 1) dL_isPlan_69 (by decide) ?_
          refine q_isubN (by omega) dL_isPlan_70 ?_
          refine q_goto (tgt := 75) dL_isPlan_71 rfl ?_
          refine q_istore (L' := [_, _, _, _, _, _, _, _]) dL_isPlan_75 rfl (by decide) rfl ?_
          refine q_iload_n dL_isPlan_77 rfl ?_
          refine q_iload dL_isPlan_78 rfl ?_
          refine q_if_eq (tgt := 87) dL_isPlan_80 rfl (fun c => absurd c (by decide)) (fun _ => ?_)
          refine q_iconst (v := nI 1) dL_isPlan_83 (by decide) ?_
          refine q_goto (tgt := 88) dL_isPlan_84 rfl ?_
          refine q_iaddN dL_isPlan_88 ?_
          refine q_istore_n (L' := [_, _, _, _, _, _, _, _]) dL_isPlan_89 rfl (by decide) rfl ?_
          refine q_iload dL_isPlan_90 rfl ?_
          refine q_iload dL_isPlan_92 rfl ?_
          refine q_if_neN (by omega) (tgt := 101) dL_isPlan_94 rfl (fun c99 => ?_) (fun c100 => ?_)
          · refine q_iconst (v := nI 0) dL_isPlan_101 (by decide) ?_
            refine q_iaddN dL_isPlan_102 ?_
            refine q_istore (L' := [_, _, _, _, _, _, _, _]) dL_isPlan_103 rfl (by decide) rfl ?_
            refine q_iload_n dL_isPlan_105 rfl ?_
            refine q_iload dL_isPlan_106 rfl ?_
            refine q_if_eq (tgt := 116) dL_isPlan_108 rfl (fun c => absurd c (by decide)) (fun _ => ?_)
            refine q_iload dL_isPlan_111 rfl ?_
            refine q_if_neN (by omega) (tgt := 120) dL_isPlan_113 rfl (fun c103 => ?_) (fun c => by exfalso; first | omega | exact absurd c99 c | exact absurd c c99)
            refine q_iconst (v := nI 0) dL_isPlan_120 (by decide) ?_
            refine q_iaddN dL_isPlan_121 ?_
            refine q_istore_n (L' := [_, _, _, _, _, _, _, _]) dL_isPlan_122 rfl (by decide) rfl ?_
            refine q_iload dL_isPlan_123 rfl ?_
            refine q_if_neN (by omega) (tgt := 132) dL_isPlan_125 rfl (fun c105 => ?_) (fun c => by exfalso; first | omega | exact absurd c99 c | exact absurd c c99)
            refine q_iload dL_isPlan_132 rfl ?_
            refine q_istore (L' := [_, _, _, _, _, _, _, _]) dL_isPlan_134 rfl (by decide) rfl ?_
            refine q_iincN (n := 1) (L' := [_, _, _, _, _, _, _, _]) (by decide) dL_isPlan_136 rfl rfl (by decide) rfl ?_
            refine q_goto (tgt := 15) dL_isPlan_139 rfl ?_
            have e1 : m.fo (i + 1) = (if (m.fo i).1 < m.pc then (if m.tg (m.fo i).1 ≤ nI 2 * m.D (m.pf + i) then ((m.fo i).1 + 1, (m.fo i).2.1, (m.fo i).2.2.1, 0) else if (m.fo i).2.2.2 + 1 = 3 then ((m.fo i).1 + 1, (m.fo i).2.1 + 1, (m.fo i).2.2.1 + 1, 0) else ((m.fo i).1, (m.fo i).2.1 + 1, (m.fo i).2.2.1, (m.fo i).2.2.2 + 1)) else m.fo i) := q_fo_e m i
            first | rw [if_pos (show (m.fo i).1 < m.pc by assumption), if_pos (show m.tg (m.fo i).1 ≤ nI 2 * m.D (m.pf + i) by rw [Int32.mul_comm]; assumption)] at e1 | rw [if_pos (show (m.fo i).1 < m.pc by assumption), if_neg (show ¬ m.tg (m.fo i).1 ≤ nI 2 * m.D (m.pf + i) by rw [Int32.mul_comm]; assumption), if_pos (show (m.fo i).2.2.2 + 1 = 3 by omega)] at e1 | rw [if_pos (show (m.fo i).1 < m.pc by assumption), if_neg (show ¬ m.tg (m.fo i).1 ≤ nI 2 * m.D (m.pf + i) by rw [Int32.mul_comm]; assumption), if_neg (show ¬ (m.fo i).2.2.2 + 1 = 3 by omega)] at e1 | rw [if_neg (show ¬ (m.fo i).1 < m.pc by omega)] at e1
            exact q_to (ih15 (i + 1) (⟨by omega, Or.inl (by assumption)⟩) (by omega)) (q_sub_s rfl (q_sub_s rfl (q_sub_i (by rw [e1] <;> first | rfl | exact congrArg nI (by first | omega | (dsimp only; omega))) (q_sub_i (by rw [e1] <;> first | rfl | exact congrArg nI (by first | omega | (dsimp only; omega))) (q_sub_i (by rw [e1] <;> first | rfl | exact congrArg nI (by first | omega | (dsimp only; omega))) (q_sub_i (by rw [e1] <;> first | rfl | exact congrArg nI (by first | omega | (dsimp only; omega))) (q_sub_i rfl (q_sub_n q_sub_0)))))))) rfl
          · refine q_iconst (v := nI 1) dL_isPlan_97 (by decide) ?_
            refine q_goto (tgt := 102) dL_isPlan_98 rfl ?_
            refine q_iaddN dL_isPlan_102 ?_
            refine q_istore (L' := [_, _, _, _, _, _, _, _]) dL_isPlan_103 rfl (by decide) rfl ?_
            refine q_iload_n dL_isPlan_105 rfl ?_
            refine q_iload dL_isPlan_106 rfl ?_
            refine q_if_eq (tgt := 116) dL_isPlan_108 rfl (fun c => absurd c (by decide)) (fun _ => ?_)
            refine q_iload dL_isPlan_111 rfl ?_
            refine q_if_neN (by omega) (tgt := 120) dL_isPlan_113 rfl (fun c => by exfalso; first | omega | exact absurd c100 c | exact absurd c c100) (fun c109 => ?_)
            refine q_iconst (v := nI 1) dL_isPlan_116 (by decide) ?_
            refine q_goto (tgt := 121) dL_isPlan_117 rfl ?_
            refine q_iaddN dL_isPlan_121 ?_
            refine q_istore_n (L' := [_, _, _, _, _, _, _, _]) dL_isPlan_122 rfl (by decide) rfl ?_
            refine q_iload dL_isPlan_123 rfl ?_
            refine q_if_neN (by omega) (tgt := 132) dL_isPlan_125 rfl (fun c => by exfalso; first | omega | exact absurd c100 c | exact absurd c c100) (fun c111 => ?_)
            refine q_iconst (v := nI 3) dL_isPlan_128 (by decide) ?_
            refine q_goto (tgt := 134) dL_isPlan_129 rfl ?_
            refine q_istore (L' := [_, _, _, _, _, _, _, _]) dL_isPlan_134 rfl (by decide) rfl ?_
            refine q_iincN (n := 1) (L' := [_, _, _, _, _, _, _, _]) (by decide) dL_isPlan_136 rfl rfl (by decide) rfl ?_
            refine q_goto (tgt := 15) dL_isPlan_139 rfl ?_
            have e1 : m.fo (i + 1) = (if (m.fo i).1 < m.pc then (if m.tg (m.fo i).1 ≤ nI 2 * m.D (m.pf + i) then ((m.fo i).1 + 1, (m.fo i).2.1, (m.fo i).2.2.1, 0) else if (m.fo i).2.2.2 + 1 = 3 then ((m.fo i).1 + 1, (m.fo i).2.1 + 1, (m.fo i).2.2.1 + 1, 0) else ((m.fo i).1, (m.fo i).2.1 + 1, (m.fo i).2.2.1, (m.fo i).2.2.2 + 1)) else m.fo i) := q_fo_e m i
            first | rw [if_pos (show (m.fo i).1 < m.pc by assumption), if_pos (show m.tg (m.fo i).1 ≤ nI 2 * m.D (m.pf + i) by rw [Int32.mul_comm]; assumption)] at e1 | rw [if_pos (show (m.fo i).1 < m.pc by assumption), if_neg (show ¬ m.tg (m.fo i).1 ≤ nI 2 * m.D (m.pf + i) by rw [Int32.mul_comm]; assumption), if_pos (show (m.fo i).2.2.2 + 1 = 3 by omega)] at e1 | rw [if_pos (show (m.fo i).1 < m.pc by assumption), if_neg (show ¬ m.tg (m.fo i).1 ≤ nI 2 * m.D (m.pf + i) by rw [Int32.mul_comm]; assumption), if_neg (show ¬ (m.fo i).2.2.2 + 1 = 3 by omega)] at e1 | rw [if_neg (show ¬ (m.fo i).1 < m.pc by omega)] at e1
            exact q_to (ih15 (i + 1) (⟨by omega, Or.inl (by assumption)⟩) (by omega)) (q_sub_s rfl (q_sub_s rfl (q_sub_i (by rw [e1] <;> first | rfl | exact congrArg nI (by first | omega | (dsimp only; omega))) (q_sub_i (by rw [e1] <;> first | rfl | exact congrArg nI (by first | omega | (dsimp only; omega))) (q_sub_i (by rw [e1] <;> first | rfl | exact congrArg nI (by first | omega | (dsimp only; omega))) (q_sub_i (by rw [e1] <;> first | rfl | exact congrArg nI (by first | omega | (dsimp only; omega))) (q_sub_i rfl (q_sub_n q_sub_0)))))))) rfl
theorem g_L_ranked {Φ : q_Fx} {h : q_Hp} (K : q_Lk Φ h.R h.n) {a : Nat} (hN : q_n9 h a) {m : q_W} {ρ : Nat → Nat} (R : q_nr (h.I a) m ρ) (B : q_bd m) {W : q_W} {τ : Nat → Nat} {N0 : Nat} (b0 : q_si1 W m τ) (k0 : q_si2 m N0) (hN0 : N0 ≤ 500) {pos : Nat} (hp : pos < m.c) : q_Ct Φ false yL_ranked cL_ranked mL_ranked [.ref a, .int (nI (pos))] h (q_is (some (.int (nI (τ pos)))) h) := by
  refine q_enter K.st rfl rfl (by decide) rfl (Nat.le_of_ble_eq_true rfl) (L := [_, _, none, none, none, none, none, none]) rfl ?_
  obtain ⟨bt, bn, bc, bpe, bpf, bpc, bpn⟩ := id B
  refine q_iconst (v := (-1)) dL_ranked_0 (by decide) ?_
  refine q_istore_n (L' := [_, _, _, _, _, _, _, _]) dL_ranked_1 rfl (by decide) rfl ?_
  refine q_iconst (v := (-1)) dL_ranked_2 (by decide) ?_
  refine q_istore_n (L' := [_, _, _, _, _, _, _, _]) dL_ranked_3 rfl (by decide) rfl ?_
  refine q_iconst (v := nI 0) dL_ranked_4 (by decide) ?_
  refine q_istore (L' := [_, _, _, _, _, _, _, _]) dL_ranked_5 rfl (by decide) rfl ?_
  refine q_loop (ι := Nat × Nat × Nat) (μ := fun x => pos + 1 - x.1) (P := fun x => x.1 ≤ pos + 1 ∧ q_rk1 m τ x.1 x.2.1 x.2.2) (Lf := fun x => [some (.ref a), some (.int (nI (pos))), some (.int (nI x.2.1 - nI 1)), some (.int (nI x.2.2 - nI 1)), some (.int (nI (x.1))), none, none, none]) (hf := fun x => h) (fun x hi7 ih7 => ?_) (0, 0, 0) (⟨Nat.zero_le _, Or.inl ⟨rfl, rfl⟩⟩) (q_sub_s rfl (q_sub_i rfl (q_sub_i (by decide) (q_sub_i (by decide) (q_sub_i rfl (q_sub_n (q_sub_n (q_sub_n q_sub_0)))))))) rfl
  skip
  obtain ⟨n, ln, fd⟩ := x
  dsimp only at hi7 ih7 ⊢
  have hlb := q_rk1_b b0 k0 hN0 (show n ≤ m.c by omega) hi7.2
  refine q_iload dL_ranked_7 rfl ?_
  refine q_iload_n dL_ranked_9 rfl ?_
  refine q_icmp_gtN (by omega) (by omega) (tgt := 110) dL_ranked_10 rfl (fun c1 => ?_) (fun c2 => ?_)
  · refine q_iload_n dL_ranked_110 rfl ?_
    refine q_iret dL_ranked_111 rfl (Or.inl rfl) ?_
    exact q_isI (by rcases hi7.2 with ⟨z1, z2⟩ | ⟨z1, z2, z3⟩; omega; rw [z3, pk_sub (by omega), show n - 1 = pos by omega]; rfl) rfl
  · refine q_iconst (v := (-1)) dL_ranked_13 (by decide) ?_
    refine q_istore (L' := [_, _, _, _, _, _, _, _]) dL_ranked_14 rfl (by decide) rfl ?_
    refine q_iconst (v := nI 0) dL_ranked_16 (by decide) ?_
    refine q_istore (L' := [_, _, _, _, _, _, _, _]) dL_ranked_17 rfl (by decide) rfl ?_
    refine q_loop (ι := Nat × Nat × Nat) (μ := fun y => m.c - y.1) (P := fun y => y.1 ≤ m.c ∧ q_rk m ln fd y.1 y.2.1 y.2.2) (Lf := fun y => [some (.ref a), some (.int (nI (pos))), some (.int (nI ln - nI 1)), some (.int (nI y.2.2 - nI 1)), some (.int (nI (n))), some (.int (nI y.2.1 - nI 1)), some (.int (nI (y.1))), none]) (hf := fun y => h) (fun y hi19 ih19 => ?_) (0, 0, fd) (⟨Nat.zero_le _, q_rk_0 ln fd⟩) (q_sub_s rfl (q_sub_i rfl (q_sub_i rfl (q_sub_i rfl (q_sub_i rfl (q_sub_i (show (-1 : Int32) = nI 0 - nI 1 by decide) (q_sub_i rfl (q_sub_n q_sub_0)))))))) rfl
    skip
    obtain ⟨k, nx, f2⟩ := y
    dsimp only at hi19 ih19 ⊢
    have hnb := q_rk_b k0 hN0 hi19.2 hi19.1
    refine q_iload dL_ranked_19 rfl ?_
    refine q_aload_n dL_ranked_21 rfl ?_
    refine q_iconst (v := nI 2) dL_ranked_22 (by decide) ?_
    refine q_ialdD (k := 2) hN.1 hN.t hN.l (by omega) (by decide) dL_ranked_23 ?_
    refine q_tv (show _ = (nI (m.c)) from R.c) ?_
    refine q_icmp_geN (by omega) (by omega) (tgt := 101) dL_ranked_24 rfl (fun c3 => ?_) (fun c4 => ?_)
    · refine q_iload dL_ranked_101 rfl ?_
      refine q_istore_n (L' := [_, _, _, _, _, _, _, _]) dL_ranked_103 rfl (by decide) rfl ?_
      refine q_iincN (n := 1) (L' := [_, _, _, _, _, _, _, _]) (by decide) dL_ranked_104 rfl rfl (by decide) rfl ?_
      refine q_goto (tgt := 7) dL_ranked_107 rfl ?_
      exact q_to (ih7 (n + 1, nx, f2) (⟨by omega, q_rk_end b0 k0 hN0 (by omega) hi7.2 (by rw [show m.c = k by omega]; exact hi19.2)⟩) (by dsimp only; omega)) (q_sub_s rfl (q_sub_i rfl (q_sub_i rfl (q_sub_i rfl (q_sub_i rfl (q_sub_n (q_sub_n (q_sub_n q_sub_0)))))))) rfl
    · refine q_sipush (v := nI 1000) dL_ranked_27 (by decide) ?_
      refine q_aload_n dL_ranked_30 rfl ?_
      refine q_bipush (v := nI 101) dL_ranked_31 (by decide) ?_
      refine q_bipush (v := nI 20) dL_ranked_33 (by decide) ?_
      refine q_iload dL_ranked_35 rfl ?_
      refine q_imulN dL_ranked_37 ?_
      refine q_iaddN dL_ranked_38 ?_
      refine q_ialdD (k := (101) + ((20) * (k))) hN.1 hN.t hN.l (by omega) (by decide) dL_ranked_39 ?_
      refine q_tv (show _ = (nI (m.dy k)) from ((congrArg (h.I a) (show ((101) + ((20) * (k))) = 101 + 20 * k by omega)).trans (R.dy (k := k) (by omega)))) ?_
      refine q_imulN dL_ranked_40 ?_
      refine q_aload_n dL_ranked_41 rfl ?_
      refine q_bipush (v := nI 100) dL_ranked_42 (by decide) ?_
      refine q_bipush (v := nI 20) dL_ranked_44 (by decide) ?_
      refine q_iload dL_ranked_46 rfl ?_
      refine q_imulN dL_ranked_48 ?_
      refine q_iaddN dL_ranked_49 ?_
      refine q_ialdD (k := (100) + ((20) * (k))) hN.1 hN.t hN.l (by omega) (by decide) dL_ranked_50 ?_
      refine q_tv (show _ = (m.id k) from ((congrArg (h.I a) (show ((100) + ((20) * (k))) = 100 + 20 * k by omega)).trans (R.id (k := k) (by omega)))) ?_
      refine q_iadd dL_ranked_51 ?_
      refine q_tv (show _ = nI (q_key m k) from q_key_e k0 hN0 (by omega)) ?_
      refine q_istore (L' := [_, _, _, _, _, _, _, _]) dL_ranked_52 rfl (by decide) rfl ?_
      have hkb := q_key_b k0 hN0 (show k < m.c by omega)
      refine q_iload dL_ranked_54 rfl ?_
      refine q_iload_n dL_ranked_56 rfl ?_
      refine q_icmp_le (tgt := 77) dL_ranked_57 rfl (fun c5 => ?_) (fun c6 => ?_)
      · have g2 : q_key m k < ln ∨ (nx ≠ 0 ∧ nx ≤ q_key m k + 1) := by first | exact Or.inl ((q_kle (by omega) (by omega)).mp (by assumption)) | exact Or.inr ⟨fun e9 => absurd ((q_klt0 (by omega)).mpr e9) (by assumption), (q_kge (by omega) (by omega)).mp (by assumption)⟩
        refine q_iload dL_ranked_77 rfl ?_
        refine q_istore (L' := [_, _, _, _, _, _, _, _]) dL_ranked_79 rfl (by decide) rfl ?_
        refine q_iload dL_ranked_81 rfl ?_
        refine q_iload dL_ranked_83 rfl ?_
        refine q_icmp_ne (tgt := 93) dL_ranked_85 rfl (fun c7 => ?_) (fun c => (q_rk_no k0 hN0 hi19.2 (by omega) ((q_keq (by omega) (by omega)).mp c)).elim)
        refine q_iload_n dL_ranked_93 rfl ?_
        refine q_istore_n (L' := [_, _, _, _, _, _, _, _]) dL_ranked_94 rfl (by decide) rfl ?_
        refine q_iincN (n := 1) (L' := [_, _, _, _, _, _, _, _]) (by decide) dL_ranked_95 rfl rfl (by decide) rfl ?_
        refine q_goto (tgt := 19) dL_ranked_98 rfl ?_
        exact q_to (ih19 (k + 1, nx, f2) (⟨by omega, q_rk_un hi19.2 g2⟩) (by dsimp only; omega)) (q_sub_s rfl (q_sub_i rfl (q_sub_i rfl (q_sub_i (by first | rfl | exact q_p1 _) (q_sub_i rfl (q_sub_i (by first | rfl | exact q_p1 _) (q_sub_i rfl (q_sub_n q_sub_0)))))))) rfl
      · have g1 : ln ≤ q_key m k := Nat.le_of_not_lt fun e9 => absurd ((q_kle (by omega) (by omega)).mpr e9) (by assumption)
        refine q_iload dL_ranked_60 rfl ?_
        refine q_if_lt (tgt := 72) dL_ranked_62 rfl (fun c9 => ?_) (fun c10 => ?_)
        · have g3 : nx = 0 ∨ q_key m k + 1 < nx := by first | exact Or.inl ((q_klt0 (by omega)).mp (by assumption)) | exact Or.inr (Nat.lt_of_not_le fun e9 => absurd ((q_kge (by omega) (by omega)).mpr e9) (by assumption))
          refine q_iload dL_ranked_72 rfl ?_
          refine q_goto (tgt := 79) dL_ranked_74 rfl ?_
          refine q_istore (L' := [_, _, _, _, _, _, _, _]) dL_ranked_79 rfl (by decide) rfl ?_
          refine q_iload dL_ranked_81 rfl ?_
          refine q_iload dL_ranked_83 rfl ?_
          refine q_icmp_neN (by omega) (by omega) (tgt := 93) dL_ranked_85 rfl (fun c => absurd rfl c) (fun c11 => ?_)
          refine q_iload dL_ranked_88 rfl ?_
          refine q_goto (tgt := 94) dL_ranked_90 rfl ?_
          refine q_istore_n (L' := [_, _, _, _, _, _, _, _]) dL_ranked_94 rfl (by decide) rfl ?_
          refine q_iincN (n := 1) (L' := [_, _, _, _, _, _, _, _]) (by decide) dL_ranked_95 rfl rfl (by decide) rfl ?_
          refine q_goto (tgt := 19) dL_ranked_98 rfl ?_
          exact q_to (ih19 (k + 1, q_key m k + 1, k + 1) (⟨by omega, q_rk_ch hi19.2 g1 g3⟩) (by dsimp only; omega)) (q_sub_s rfl (q_sub_i rfl (q_sub_i rfl (q_sub_i (by first | rfl | exact q_p1 _) (q_sub_i rfl (q_sub_i (by first | rfl | exact q_p1 _) (q_sub_i rfl (q_sub_n q_sub_0)))))))) rfl
        · refine q_iload dL_ranked_65 rfl ?_
          refine q_iload dL_ranked_67 rfl ?_
          refine q_icmp_ge (tgt := 77) dL_ranked_69 rfl (fun c13 => ?_) (fun c14 => ?_)
          · have g2 : q_key m k < ln ∨ (nx ≠ 0 ∧ nx ≤ q_key m k + 1) := by first | exact Or.inl ((q_kle (by omega) (by omega)).mp (by assumption)) | exact Or.inr ⟨fun e9 => absurd ((q_klt0 (by omega)).mpr e9) (by assumption), (q_kge (by omega) (by omega)).mp (by assumption)⟩
            refine q_iload dL_ranked_77 rfl ?_
            refine q_istore (L' := [_, _, _, _, _, _, _, _]) dL_ranked_79 rfl (by decide) rfl ?_
            refine q_iload dL_ranked_81 rfl ?_
            refine q_iload dL_ranked_83 rfl ?_
            refine q_icmp_ne (tgt := 93) dL_ranked_85 rfl (fun c15 => ?_) (fun c => (q_rk_no k0 hN0 hi19.2 (by omega) ((q_keq (by omega) (by omega)).mp c)).elim)
            refine q_iload_n dL_ranked_93 rfl ?_
            refine q_istore_n (L' := [_, _, _, _, _, _, _, _]) dL_ranked_94 rfl (by decide) rfl ?_
            refine q_iincN (n := 1) (L' := [_, _, _, _, _, _, _, _]) (by decide) dL_ranked_95 rfl rfl (by decide) rfl ?_
            refine q_goto (tgt := 19) dL_ranked_98 rfl ?_
            exact q_to (ih19 (k + 1, nx, f2) (⟨by omega, q_rk_un hi19.2 g2⟩) (by dsimp only; omega)) (q_sub_s rfl (q_sub_i rfl (q_sub_i rfl (q_sub_i (by first | rfl | exact q_p1 _) (q_sub_i rfl (q_sub_i (by first | rfl | exact q_p1 _) (q_sub_i rfl (q_sub_n q_sub_0)))))))) rfl
          · have g3 : nx = 0 ∨ q_key m k + 1 < nx := by first | exact Or.inl ((q_klt0 (by omega)).mp (by assumption)) | exact Or.inr (Nat.lt_of_not_le fun e9 => absurd ((q_kge (by omega) (by omega)).mpr e9) (by assumption))
            refine q_iload dL_ranked_72 rfl ?_
            refine q_goto (tgt := 79) dL_ranked_74 rfl ?_
            refine q_istore (L' := [_, _, _, _, _, _, _, _]) dL_ranked_79 rfl (by decide) rfl ?_
            refine q_iload dL_ranked_81 rfl ?_
            refine q_iload dL_ranked_83 rfl ?_
            refine q_icmp_neN (by omega) (by omega) (tgt := 93) dL_ranked_85 rfl (fun c => absurd rfl c) (fun c17 => ?_)
            refine q_iload dL_ranked_88 rfl ?_
            refine q_goto (tgt := 94) dL_ranked_90 rfl ?_
            refine q_istore_n (L' := [_, _, _, _, _, _, _, _]) dL_ranked_94 rfl (by decide) rfl ?_
            refine q_iincN (n := 1) (L' := [_, _, _, _, _, _, _, _]) (by decide) dL_ranked_95 rfl rfl (by decide) rfl ?_
            refine q_goto (tgt := 19) dL_ranked_98 rfl ?_
            exact q_to (ih19 (k + 1, q_key m k + 1, k + 1) (⟨by omega, q_rk_ch hi19.2 g1 g3⟩) (by dsimp only; omega)) (q_sub_s rfl (q_sub_i rfl (q_sub_i rfl (q_sub_i (by first | rfl | exact q_p1 _) (q_sub_i rfl (q_sub_i (by first | rfl | exact q_p1 _) (q_sub_i rfl (q_sub_n q_sub_0)))))))) rfl
