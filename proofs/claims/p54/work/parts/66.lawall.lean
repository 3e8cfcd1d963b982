/-! THE LAW, ALL OF IT -/
theorem q_kc273 : Cond.classLink RL 273 "[[I" ∈ q_W0 := q_W0_mem (List.mem_of_getElem? (i := 955) (by decide +kernel)) (by decide +kernel)
theorem g_law0 {Φ : q_Fx} (hL : Φ.L ≤ 2048) {Z : Program → Env → State → MethodId → Array Value → List Frame → State → Prop} {h : q_Hp} (K : q_Lk Φ h.R h.n) {a : Nat} (hN : q_n9 h a) (R : q_nr (h.I a) q_Wi (fun i => i)) (u9 : h.I a 899 = nI 0) (C : q_clX h q_Wi q_Oi) {st : Nat} (X : q_hx h a st 0 q_Oi) (F : q_last1 Φ Z) : q_G Φ false cL_law RL mL_law Z 23 [some (.ref 0), some (.ref a), some (.null), some (.ref st), some (.ref 1), none, none, none, none, none, none, none] [] h (28049) (240294) := by
  have ha2 := hN.2.1
  have ha4 := hN.2.2
  have rd0 : q_rd h h q_Wi q_Oi := ⟨C, q_fr.rf⟩
  refine q_aload dL_law_23 rfl ?_
  refine q_iconst (v := nI 0) dL_law_25 (by decide) ?_
  refine q_callH (kc := 28048) (ks := 240288) (g_L_lineAt (h := h) K C (p := (nI (0))) (fun j hj => absurd hj (Nat.not_lt_zero j))) wL_lineAt kL_267 sL_lineAt (by decide) rfl rfl (Nat.le_of_ble_eq_true rfl) dL_law_26 rfl rfl (fun E h9 q9 => (by obtain ⟨_, q9, _⟩ := q9; exact nomatch q9)) ?_
  intro v9 h101 hq
  obtain ⟨x9, ex9, hj9⟩ := hq
  cases ex9
  rcases hj9 with ⟨d1, ex8, rdx⟩ | ⟨y1, -⟩
  rotate_left
  · exact absurd (Or.inr (by decide)) y1
  subst ex8
  have rd101 : q_rd h h101 q_Wi q_Oi := ⟨rdx.1, rd0.2.tr rdx.2⟩
  have C101 := rd101.1
  have K101 : q_Lk Φ h101.R h101.n := (q_lf.fr (a := a) rd101.2).Lk K
  have NN101 : q_n9 h101 a := hN.fr rd101.2.2.2.1
  have R101 : q_nr (h101.I a) q_Wi (fun i => i) := by rw [rd101.2.1 a (by omega)]; exact R
  refine q_ldc dL_law_29 kcL_17 ?_
  refine q_icmp_ne (tgt := 87) dL_law_31 rfl (fun c => absurd (by decide) c) (fun _ => ?_)
  refine q_aload dL_law_34 rfl ?_
  refine q_callH (kc := 28047) (ks := 240282) (g_L_undo (h := h101) K101 C101 ) wL_undo kL_276 sL_undo (by decide) rfl rfl (Nat.le_of_ble_eq_true rfl) dL_law_36 rfl rfl (fun E h9 q9 => (by obtain ⟨_, q9, _⟩ := q9; exact nomatch q9)) ?_
  intro v9 h102 hq
  obtain ⟨x9, ex9, hj9⟩ := hq
  cases ex9
  rcases hj9 with ⟨d1, ex8, rdx⟩ | ⟨y1, -⟩
  rotate_left
  · exact absurd (rfl) y1
  subst ex8
  have rd102 : q_rd h h102 q_Wi q_Oi := ⟨rdx.1, rd101.2.tr rdx.2⟩
  have C102 := rd102.1
  have K102 : q_Lk Φ h102.R h102.n := (q_lf.fr (a := a) rd102.2).Lk K
  have NN102 : q_n9 h102 a := hN.fr rd102.2.2.2.1
  have R102 : q_nr (h102.I a) q_Wi (fun i => i) := by rw [rd102.2.1 a (by omega)]; exact R
  refine q_ldc dL_law_39 kcL_17 ?_
  refine q_icmp_ne (tgt := 87) dL_law_41 rfl (fun c => absurd (by decide) c) (fun _ => ?_)
  refine q_aload dL_law_44 rfl ?_
  refine q_callH (kc := 28046) (ks := 240276) (g_L_restore (h := h102) K102 C102 ) wL_restore kL_278 sL_restore (by decide) rfl rfl (Nat.le_of_ble_eq_true rfl) dL_law_46 rfl rfl (fun E h9 q9 => (by obtain ⟨_, q9, _⟩ := q9; exact nomatch q9)) ?_
  intro v9 h103 hq
  obtain ⟨x9, ex9, hj9⟩ := hq
  cases ex9
  rcases hj9 with ⟨d1, ex8, rdx⟩ | ⟨y1, -⟩
  rotate_left
  · exact absurd (rfl) y1
  subst ex8
  have rd103 : q_rd h h103 q_Wi q_Oi := ⟨rdx.1, rd102.2.tr rdx.2⟩
  have C103 := rd103.1
  have K103 : q_Lk Φ h103.R h103.n := (q_lf.fr (a := a) rd103.2).Lk K
  have NN103 : q_n9 h103 a := hN.fr rd103.2.2.2.1
  have R103 : q_nr (h103.I a) q_Wi (fun i => i) := by rw [rd103.2.1 a (by omega)]; exact R
  refine q_ldc dL_law_49 kcL_17 ?_
  refine q_icmp_ne (tgt := 87) dL_law_51 rfl (fun c => absurd (by decide) c) (fun _ => ?_)
  refine q_aload dL_law_54 rfl ?_
  refine q_callH (kc := 28045) (ks := 240270) (g_L_dueEntry (h := h103) K103 C103 ) wL_dueEntry kL_245 sL_dueEntry (by decide) rfl rfl (Nat.le_of_ble_eq_true rfl) dL_law_56 rfl rfl (fun E h9 q9 => (by obtain ⟨_, q9, _⟩ := q9; exact nomatch q9)) ?_
  intro v9 h104 hq
  obtain ⟨x9, ex9, hj9⟩ := hq
  cases ex9
  rcases hj9 with ⟨d1, ex8, rdx⟩ | ⟨y1, -⟩
  rotate_left
  · exact absurd (Nat.zero_le _) y1
  subst ex8
  have rd104 : q_rd h h104 q_Wi q_Oi := ⟨rdx.1, rd103.2.tr rdx.2⟩
  have C104 := rd104.1
  have K104 : q_Lk Φ h104.R h104.n := (q_lf.fr (a := a) rd104.2).Lk K
  have NN104 : q_n9 h104 a := hN.fr rd104.2.2.2.1
  have R104 : q_nr (h104.I a) q_Wi (fun i => i) := by rw [rd104.2.1 a (by omega)]; exact R
  refine q_ldc dL_law_59 kcL_17 ?_
  refine q_icmp_ne (tgt := 87) dL_law_61 rfl (fun c => absurd (by decide) c) (fun _ => ?_)
  refine q_aload dL_law_64 rfl ?_
  refine q_iconst (v := nI 0) dL_law_66 (by decide) ?_
  refine q_callH (kc := 28044) (ks := 240264) (g_L_targetAt (h := h104) K104 C104 (p := (nI (0)))) wL_targetAt kL_260 sL_targetAt (by decide) rfl rfl (Nat.le_of_ble_eq_true rfl) dL_law_67 rfl rfl (fun E h9 q9 => (by obtain ⟨_, q9, _⟩ := q9; exact nomatch q9)) ?_
  intro v9 h105 hq
  obtain ⟨x9, ex9, hj9⟩ := hq
  cases ex9
  rcases hj9 with ⟨d1, ex8, rdx⟩ | ⟨y1, -⟩
  rotate_left
  · exact absurd (Or.inr (by decide)) y1
  subst ex8
  have rd105 : q_rd h h105 q_Wi q_Oi := ⟨rdx.1, rd104.2.tr rdx.2⟩
  have C105 := rd105.1
  have K105 : q_Lk Φ h105.R h105.n := (q_lf.fr (a := a) rd105.2).Lk K
  have NN105 : q_n9 h105 a := hN.fr rd105.2.2.2.1
  have R105 : q_nr (h105.I a) q_Wi (fun i => i) := by rw [rd105.2.1 a (by omega)]; exact R
  refine q_ldc dL_law_70 kcL_17 ?_
  refine q_icmp_ne (tgt := 87) dL_law_72 rfl (fun c => absurd (by decide) c) (fun _ => ?_)
  refine q_aload dL_law_75 rfl ?_
  refine q_vR (kc := 28044) (ks := 240264) (g_X9_isPlanOver (h := h105) K105 C105) wX9_isPlanOver kL_250 iX9_isPlanOver eX9_isPlanOver rfl rfl (by decide) (K105.le (by decide)) (by decide) rfl rfl (Nat.le_of_ble_eq_true rfl) dL_law_77 rfl rfl ?_
  intro v9 h106 hq
  obtain ⟨ev9, rdx⟩ := hq
  subst ev9
  refine q_tv (show _ = nI 0 from congrArg q_bl (decide_eq_false (fun e => absurd e.1 (by decide)))) ?_
  have rd106 : q_rd h h106 q_Wi q_Oi := ⟨rdx.1, rd105.2.tr rdx.2⟩
  have C106 := rd106.1
  have K106 : q_Lk Φ h106.R h106.n := (q_lf.fr (a := a) rd106.2).Lk K
  have NN106 : q_n9 h106 a := hN.fr rd106.2.2.2.1
  have R106 : q_nr (h106.I a) q_Wi (fun i => i) := by rw [rd106.2.1 a (by omega)]; exact R
  refine q_if_ne (tgt := 87) dL_law_80 rfl (fun c => absurd (by decide) c) (fun _ => ?_)
  refine q_iconst (v := nI 1) dL_law_83 (by decide) ?_
  refine q_goto (tgt := 88) dL_law_84 rfl ?_
  refine q_istore (L' := [_, _, _, _, _, _, _, _, _, _, _, _]) dL_law_88 rfl (by decide) rfl ?_
  refine q_iconst (v := nI 0) dL_law_90 (by decide) ?_
  refine q_istore (L' := [_, _, _, _, _, _, _, _, _, _, _, _]) dL_law_91 rfl (by decide) rfl ?_
  refine q_less (kc' := 40 * 700 + 44) (ks' := 40 * 6000 + 264) (by decide) (by decide) (q_to (g_lawloop hL (X1 := 44) (Y1 := 264) (fun h2 sv2 K2 I2 => ?_) 40 0 h106 .null rfl K106 (⟨q_Wi, q_Oi, q_Wi, (fun i => i), rd106.1, q_smci, NN106, R106, q_bdi, (by rw [rd106.2.1 a (by omega)]; exact u9), q_inci, X.lf (q_lf.fr rd106.2) ha4, Or.inl ⟨rfl, rfl⟩⟩)) (q_sub_s rfl (q_sub_s rfl (q_sub_s rfl (q_sub_s rfl (q_sub_s rfl (q_sub_i rfl (q_sub_i rfl (q_sub_n (q_sub_n (q_sub_n (q_sub_n (q_sub_n q_sub_0)))))))))))) rfl)
  obtain ⟨W, O, m, ρ, C9, s9, hN9, R9, B9, u99, hi9, X9, SV9⟩ := I2
  exact g_lawE hL K2 hN9 R9 B9 u99 C9 s9 (by decide) hi9 X9 (X1 := 0) (Y1 := 0) F
theorem g_law_start {Φ : q_Fx} {Z : Program → Env → State → MethodId → Array Value → List Frame → State → Prop} (hst : Φ.l.stackTraces = false) (hL : Φ.L ≤ 2048) (F : ∀ x, q_last1 (Φ.at x) Z) {h : q_Hp} (n0 : h.n = 0) (J0 : h.J = []) : q_G Φ false cL_law RL mL_law Z 0 [some (.ref 0), none, none, none, none, none, none, none, none, none, none, none] [] h 600390 7289120 := by
  refine q_sR (kc := 600389) (ks := 7288220) (g_L_begun hst (h := h)) wL_begun kL_269 sL_begun (by decide) rfl rfl (Nat.le_of_ble_eq_true rfl) dL_law_0 rfl rfl ?_
  rintro v h1 ⟨a, rfl, a1, a2, a3, eJ, en, eo, eR, e9, Rn⟩
  rw [J0] at eJ
  have eJ : h1.J = [a] := eJ
  refine q_astore_n (L' := [_, _, none, none, none, none, none, none, none, none, none, none]) dL_law_3 rfl (by decide) rfl ?_
  refine q_null dL_law_4 ?_
  refine q_astore_nN (L' := [_, _, _, none, none, none, none, none, none, none, none, none]) dL_law_5 rfl (by decide) rfl ?_
  refine q_bipush (v := nI 7) dL_law_6 (by decide) ?_
  refine q_iconst (v := nI 1) dL_law_8 (by decide) ?_
  refine q_mna7 (kc := 600381) (ks := 7288206) q_kc273 dL_law_9 rfl rfl (fun x hx => ?_)
  refine q_astore_n (L' := [_, _, _, _, none, none, none, none, none, none, none, none]) dL_law_13 rfl (by decide) rfl ?_
  have hax : a < 2000 + 4 * x := hx a (by rw [eJ]; exact List.mem_singleton_self a)
  have eJ2 : (h1.mna7 x).J = [a] ++ (2000 + 4 * x + 2) :: (List.range 7).map (fun j => 2000 + 4 * (x + 1 + j) + 1) := by
    show h1.J ++ _ = _
    rw [eJ]
  refine q_newInit hst (kc := 599321) (ks := 7279623) (en.trans n0) (fun p hp i o ho => ?_) (fun y => ?_) rfl rfl (fun y h3 hn hJ ho hd => ?_)
  · rw [eJ2] at hp
    rcases List.mem_append.mp hp with hp | hp
    · rw [List.mem_singleton.mp hp, (h1.mna7_o hax).2, eR] at ho
      cases ho
    rcases List.mem_cons.mp hp with rfl | hp
    · rw [h1.mna7_R] at ho
      dsimp only at ho
      by_cases c : i < 7
      · rw [if_pos c] at ho
        cases ho
        omega
      · rw [if_neg c] at ho
        cases ho
    · obtain ⟨j, -, rfl⟩ := List.mem_map.mp hp
      have e : (h1.mna7 x).R (2000 + 4 * (x + 1 + j) + 1) = fun _ => none := (if_neg (by omega)).trans (if_pos (by omega))
      rw [e] at ho
      cases ho
  · show [(0, Value.ref (q_ad (Φ.at y) 0)), (1, Value.ref (q_ad (Φ.at y) a)), (2, Value.null), (3, Value.ref (q_ad (Φ.at y) (2000 + 4 * x + 2)))] = [(0, Value.ref (q_ad Φ 0)), (1, Value.ref (q_ad Φ a)), (2, Value.null), (3, Value.ref (q_ad Φ (2000 + 4 * x + 2)))]
    rw [q_ad_at Φ a1, q_ad_at Φ (a := 2000 + 4 * x + 2) (by omega)]
    rfl
  have A : q_all h3 := hd
  have K3 : q_Lk (Φ.at y) h3.R h3.n := A.Lk hst hn
  have hma : a ∈ h3.J := by rw [hJ, eJ2]; exact List.mem_append_left _ (List.mem_singleton_self a)
  have ea : h3.I a = h1.I a := (ho a a1).1.trans (h1.mna7_o hax).1
  have X0 : q_hx h3 a (2000 + 4 * x + 2) 0 q_Oi := by
    refine ⟨⟨by rw [hJ, eJ2]; exact List.mem_append_right _ List.mem_cons_self, by omega, by omega⟩, by decide, Nat.zero_le _, fun i => 2000 + 4 * (x + 1 + i) + 1, fun j hj => ⟨?_, ?_, (show 2000 ≤ 2000 + 4 * (x + 1 + j) + 1 by omega), (show (2000 + 4 * (x + 1 + j) + 1) % 4 ≤ 1 by omega), (Nat.ne_of_gt (Nat.lt_of_lt_of_le hax (show 2000 + 4 * x ≤ 2000 + 4 * (x + 1 + j) + 1 by omega)))⟩, (show (2000 + 4 * (x + 1 + 6) + 1) % 4 = 1 by omega), ?_, fun j hj => absurd hj (Nat.not_lt_zero j)⟩
    · rw [(ho _ (by omega)).2, h1.mna7_R]
      exact if_pos hj
    · rw [hJ, eJ2]
      exact List.mem_append_right _ (List.mem_cons_of_mem _ (List.mem_map.mpr ⟨j, List.mem_range.mpr hj, rfl⟩))
    · show h3.I (2000 + 4 * (x + 1 + 6) + 1) 0 = nI 0
      rw [(ho _ (by omega)).1, h1.mna7_I (by omega)]
      rfl
  refine q_astore (L' := [_, _, _, _, _, none, none, none, none, none, none, none]) dL_law_21 rfl (by decide) rfl ?_
  exact q_less (kc' := 28049) (ks' := 240294) (by decide) (by decide) (g_law0 (Φ := Φ.at y) hL K3 ⟨hma, a1, a2⟩ (by rw [ea]; exact Rn) (by rw [ea]; exact e9) A.cl X0 (F y))
