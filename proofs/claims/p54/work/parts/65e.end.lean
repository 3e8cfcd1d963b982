/-! THE LAW'S END: what is refused -/
theorem q_mno_nx {m : q_W} {N : Nat} (k0 : q_si2 m N) (hN0 : N ≤ 500) : m.mno m.nx := (q_pl_neg (by have := k0.2.1; omega)).mpr fun j hj => decide_eq_false (by
  obtain ⟨x, h1, h2⟩ := k0.2.2.2.1 j hj
  rw [h2, k0.2.2.1]
  intro e
  have e2 := congrArg Int32.toInt e
  rw [nI_toInt (by omega), nI_toInt (by omega)] at e2
  omega)
theorem q_mno_m1 {m : q_W} {N : Nat} (k0 : q_si2 m N) (hN0 : N ≤ 500) : m.mno (-1) := (q_pl_neg (by have := k0.2.1; omega)).mpr fun j hj => decide_eq_false (by
  obtain ⟨x, h1, h2⟩ := k0.2.2.2.1 j hj
  rw [h2]
  exact fun e => absurd (show nI x < 0 by rw [e]; decide) (nI_pos (by omega)))
theorem q_not_m1 {m : q_W} {N : Nat} (k0 : q_si2 m N) (hn : m.n ≤ 10) : q_pl (fun i => decide (m.d i = -1)) m.n < 0 := (q_pl_neg (by omega)).mpr fun j hj => decide_eq_false (by
  obtain ⟨x, h1, h2⟩ := k0.2.2.2.2.2.2.2.2.2.2.2.1 j hj
  rw [h2]
  exact fun e => absurd (show nI x < 0 by rw [e]; decide) (nI_pos (by omega)))
/-- the law's last return, with 1 -/
def q_last1 (Φ : q_Fx) (Z : Program → Env → State → MethodId → Array Value → List Frame → State → Prop) : Prop := ∀ L h kc ks, q_G Φ false cL_law RL mL_law Z 837 L [.int (nI 1)] h kc ks
theorem g_lawE {Φ : q_Fx} (hL : Φ.L ≤ 2048) {Z : Program → Env → State → MethodId → Array Value → List Frame → State → Prop} {h : q_Hp} (K : q_Lk Φ h.R h.n) {a : Nat} (hN : q_n9 h a) {m : q_W} {ρ : Nat → Nat} (R : q_nr (h.I a) m ρ) (B : q_bd m) (u9 : h.I a 899 = nI 0) {W : q_W} {O : q_O} (C : q_clX h W O) {c : Nat} (s : q_smc c W m) (hcc : c ≤ 400) (hi : q_inc m) {st : Nat} (X : q_hx h a st c O) {X1 Y1 : Nat} (F : q_last1 Φ Z) : q_G Φ false cL_law RL mL_law Z 509 [some (.ref 0), some (.ref a), none, none, some (.ref 1), none, none, none, none, none, none, none] [] h (X1 + 44) (Y1 + 264) := by
  obtain ⟨bt, bn, bc, bpe, bpf, bpc, bpn⟩ := id B
  obtain ⟨⟨N0, hN0, a0, ⟨τ0, b0⟩, k0⟩, dd⟩ := id s
  have v := k0.2.2.2.2.2.2.2
  have ha2 := hN.2.1
  have ha4 := hN.2.2
  have rd0 : q_rd h h W O := ⟨C, q_fr.rf⟩
  have htd : q_td W := fun j hj => by obtain ⟨x, x1, x2⟩ := v.2.2.2.2.1 j (by rw [← a0.2.2.2.1]; exact hj); exact ⟨x, x1, ((a0.2.2.2.2.1 j (by rw [← a0.2.2.2.1]; exact hj)).1).trans x2⟩
  refine q_aload dL_law_509 rfl ?_
  refine q_iconst (v := nI 0) dL_law_511 (by decide) ?_
  refine q_callH (kc := X1 + 42) (ks := Y1 + 252) (g_L_pass (h := h) K C (x := (nI (0)))) wL_pass kL_152 sL_pass (by decide) rfl rfl (Nat.le_of_ble_eq_true rfl) dL_law_512 rfl rfl (fun E h9 q9 => (by obtain ⟨_, q9, _⟩ := q9; exact nomatch q9)) ?_
  intro v9 h101 hq
  obtain ⟨x9, ex9, hj9⟩ := j_pass C B s a0 b0 k0 dd (by omega) hq
  clear hq
  cases ex9
  rcases hj9 with ⟨d1, ex8, rdx⟩ | ⟨y1, d2, ex8, rdx⟩ | ⟨y1, y2, hp⟩
  rotate_left
  · exact absurd ((by decide)) y1
  · exact absurd ((by decide)) y1
  subst ex8
  have rd101 : q_rd h h101 W O := ⟨rdx.1, rd0.2.tr rdx.2⟩
  have C101 := rd101.1
  have K101 : q_Lk Φ h101.R h101.n := (q_lf.fr (a := a) rd101.2).Lk K
  have NN101 : q_n9 h101 a := hN.fr rd101.2.2.2.1
  have R101 : q_nr (h101.I a) m ρ := by rw [rd101.2.1 a (by omega)]; exact R
  refine q_ldc dL_law_515 kcL_17 ?_
  refine q_icmp_ne (tgt := 694) dL_law_517 rfl (fun c => absurd (by decide) c) (fun _ => ?_)
  refine q_aload dL_law_520 rfl ?_
  refine q_bipush (v := nI 31) dL_law_522 (by decide) ?_
  refine q_callH (kc := X1 + 40) (ks := Y1 + 240) (g_L_pass (h := h101) K101 C101 (x := (nI (31)))) wL_pass kL_152 sL_pass (by decide) rfl rfl (Nat.le_of_ble_eq_true rfl) dL_law_524 rfl rfl (fun E h9 q9 => (by obtain ⟨_, q9, _⟩ := q9; exact nomatch q9)) ?_
  intro v9 h102 hq
  obtain ⟨x9, ex9, hj9⟩ := j_pass C101 B s a0 b0 k0 dd (by omega) hq
  clear hq
  cases ex9
  rcases hj9 with ⟨d1, ex8, rdx⟩ | ⟨y1, d2, ex8, rdx⟩ | ⟨y1, y2, hp⟩
  rotate_left
  · exact absurd ((by decide)) y1
  · exact absurd ((by decide)) y1
  subst ex8
  have rd102 : q_rd h h102 W O := ⟨rdx.1, rd101.2.tr rdx.2⟩
  have C102 := rd102.1
  have K102 : q_Lk Φ h102.R h102.n := (q_lf.fr (a := a) rd102.2).Lk K
  have NN102 : q_n9 h102 a := hN.fr rd102.2.2.2.1
  have R102 : q_nr (h102.I a) m ρ := by rw [rd102.2.1 a (by omega)]; exact R
  refine q_ldc dL_law_527 kcL_17 ?_
  refine q_icmp_ne (tgt := 694) dL_law_529 rfl (fun c => absurd (by decide) c) (fun _ => ?_)
  refine q_aload dL_law_532 rfl ?_
  refine q_aload_n dL_law_534 rfl ?_
  refine q_iconst (v := nI 0) dL_law_535 (by decide) ?_
  refine q_ialdD (k := 0) NN102.1 NN102.t NN102.l (by omega) (by decide) dL_law_536 ?_
  refine q_tv (show _ = (nI (m.t)) from R102.t) ?_
  refine q_iconst (v := nI 1) dL_law_537 (by decide) ?_
  refine q_iaddN dL_law_538 ?_
  refine q_bipush (v := nI 100) dL_law_539 (by decide) ?_
  refine q_callH (kc := X1 + 37) (ks := Y1 + 222) (g_L_addTest (h := h102) K102 C102 (d := (nI ((m.t) + (1)))) (x := (nI (100)))) wL_addTest kL_192 sL_addTest (by decide) rfl rfl (Nat.le_of_ble_eq_true rfl) dL_law_541 rfl rfl (fun E h9 q9 => (by obtain ⟨_, q9, _⟩ := q9; exact nomatch q9)) ?_
  intro v9 h103 hq
  obtain ⟨x9, ex9, hj9⟩ := j_addTest C102 B s a0 b0 k0 dd (by omega) hq
  clear hq
  cases ex9
  rcases hj9 with ⟨d1, ex8, rdx⟩ | ⟨y1, d2, ex8, rdx⟩ | ⟨y1, y2, hp⟩
  rotate_left
  · exact absurd ((Or.inl (q_rout (Or.inr (Nat.lt_succ_self _)) (by omega) (by omega) (by omega)))) y1
  · exact absurd ((Or.inl (q_rout (Or.inr (Nat.lt_succ_self _)) (by omega) (by omega) (by omega)))) y1
  subst ex8
  have rd103 : q_rd h h103 W O := ⟨rdx.1, rd102.2.tr rdx.2⟩
  have C103 := rd103.1
  have K103 : q_Lk Φ h103.R h103.n := (q_lf.fr (a := a) rd103.2).Lk K
  have NN103 : q_n9 h103 a := hN.fr rd103.2.2.2.1
  have R103 : q_nr (h103.I a) m ρ := by rw [rd103.2.1 a (by omega)]; exact R
  refine q_ldc dL_law_544 kcL_17 ?_
  refine q_icmp_ne (tgt := 694) dL_law_546 rfl (fun c => absurd (by decide) c) (fun _ => ?_)
  refine q_aload dL_law_549 rfl ?_
  refine q_iconst (v := nI 0) dL_law_551 (by decide) ?_
  refine q_bipush (v := nI 49) dL_law_552 (by decide) ?_
  refine q_callH (kc := X1 + 34) (ks := Y1 + 204) (g_L_addTest (h := h103) K103 C103 (d := (nI (0))) (x := (nI (49)))) wL_addTest kL_192 sL_addTest (by decide) rfl rfl (Nat.le_of_ble_eq_true rfl) dL_law_554 rfl rfl (fun E h9 q9 => (by obtain ⟨_, q9, _⟩ := q9; exact nomatch q9)) ?_
  intro v9 h104 hq
  obtain ⟨x9, ex9, hj9⟩ := j_addTest C103 B s a0 b0 k0 dd (by omega) hq
  clear hq
  cases ex9
  rcases hj9 with ⟨d1, ex8, rdx⟩ | ⟨y1, d2, ex8, rdx⟩ | ⟨y1, y2, hp⟩
  rotate_left
  · exact absurd ((Or.inr (by decide))) y1
  · exact absurd ((Or.inr (by decide))) y1
  subst ex8
  have rd104 : q_rd h h104 W O := ⟨rdx.1, rd103.2.tr rdx.2⟩
  have C104 := rd104.1
  have K104 : q_Lk Φ h104.R h104.n := (q_lf.fr (a := a) rd104.2).Lk K
  have NN104 : q_n9 h104 a := hN.fr rd104.2.2.2.1
  have R104 : q_nr (h104.I a) m ρ := by rw [rd104.2.1 a (by omega)]; exact R
  refine q_ldc dL_law_557 kcL_17 ?_
  refine q_icmp_ne (tgt := 694) dL_law_559 rfl (fun c => absurd (by decide) c) (fun _ => ?_)
  refine q_aload dL_law_562 rfl ?_
  refine q_iconst (v := (-1)) dL_law_564 (by decide) ?_
  refine q_callH (kc := X1 + 33) (ks := Y1 + 198) (g_L_removeTest (h := h104) K104 C104 htd (x := (-1))) wL_removeTest kL_194 sL_removeTest (by decide) rfl rfl (Nat.le_of_ble_eq_true rfl) dL_law_565 rfl rfl (fun E h9 q9 => (by obtain ⟨_, q9, _⟩ := q9; exact nomatch q9)) ?_
  intro v9 h105 hq
  obtain ⟨x9, ex9, hj9⟩ := j_removeTest C104 B s a0 b0 k0 dd (by omega) hq
  clear hq
  cases ex9
  rcases hj9 with ⟨d1, ex8, rdx⟩ | ⟨y1, hp⟩
  rotate_left
  · exact absurd ((q_not_m1 k0 (by omega))) y1
  subst ex8
  have rd105 : q_rd h h105 W O := ⟨rdx.1, rd104.2.tr rdx.2⟩
  have C105 := rd105.1
  have K105 : q_Lk Φ h105.R h105.n := (q_lf.fr (a := a) rd105.2).Lk K
  have NN105 : q_n9 h105 a := hN.fr rd105.2.2.2.1
  have R105 : q_nr (h105.I a) m ρ := by rw [rd105.2.1 a (by omega)]; exact R
  refine q_ldc dL_law_568 kcL_17 ?_
  refine q_icmp_ne (tgt := 694) dL_law_570 rfl (fun c => absurd (by decide) c) (fun _ => ?_)
  refine q_aload dL_law_573 rfl ?_
  refine q_sipush (v := nI 200) dL_law_575 (by decide) ?_
  refine q_callH (kc := X1 + 32) (ks := Y1 + 192) (g_L_thresholdOn (h := h105) K105 C105 (d := (nI (200)))) wL_thresholdOn kL_297 sL_thresholdOn (by decide) rfl rfl (Nat.le_of_ble_eq_true rfl) dL_law_578 rfl rfl (fun E h9 q9 => (by obtain ⟨_, q9, _⟩ := q9; exact nomatch q9)) ?_
  intro v9 h106 hq
  obtain ⟨x9, ex9, hj9⟩ := j_thresholdOn C105 B s a0 b0 k0 dd (by omega) hq
  clear hq
  cases ex9
  rcases hj9 with ⟨d1, ex8, rdx⟩ | ⟨y1, hp⟩
  rotate_left
  · exact absurd ((by decide)) y1
  subst ex8
  have rd106 : q_rd h h106 W O := ⟨rdx.1, rd105.2.tr rdx.2⟩
  have C106 := rd106.1
  have K106 : q_Lk Φ h106.R h106.n := (q_lf.fr (a := a) rd106.2).Lk K
  have NN106 : q_n9 h106 a := hN.fr rd106.2.2.2.1
  have R106 : q_nr (h106.I a) m ρ := by rw [rd106.2.1 a (by omega)]; exact R
  refine q_ldc dL_law_581 kcL_17 ?_
  refine q_icmp_ne (tgt := 694) dL_law_583 rfl (fun c => absurd (by decide) c) (fun _ => ?_)
  refine q_aload dL_law_586 rfl ?_
  refine q_iconst (v := nI 1) dL_law_588 (by decide) ?_
  refine q_bipush (v := nI 50) dL_law_589 (by decide) ?_
  refine q_callH (kc := X1 + 29) (ks := Y1 + 174) (g_L_setBound (h := h106) K106 C106 (z := (nI (1))) (x := (nI (50)))) wL_setBound kL_199 sL_setBound (by decide) rfl rfl (Nat.le_of_ble_eq_true rfl) dL_law_591 rfl rfl (fun E h9 q9 => (by obtain ⟨_, q9, _⟩ := q9; exact nomatch q9)) ?_
  intro v9 h107 hq
  obtain ⟨x9, ex9, hj9⟩ := j_setBound C106 B s a0 b0 k0 dd (by omega) hq
  clear hq
  cases ex9
  rcases hj9 with ⟨d1, ex8, rdx⟩ | ⟨y1, d2, ex8, rdx⟩ | ⟨y1, y2, hp⟩
  rotate_left
  · exact absurd ((by decide)) y1
  · exact absurd ((by decide)) y1
  subst ex8
  have rd107 : q_rd h h107 W O := ⟨rdx.1, rd106.2.tr rdx.2⟩
  have C107 := rd107.1
  have K107 : q_Lk Φ h107.R h107.n := (q_lf.fr (a := a) rd107.2).Lk K
  have NN107 : q_n9 h107 a := hN.fr rd107.2.2.2.1
  have R107 : q_nr (h107.I a) m ρ := by rw [rd107.2.1 a (by omega)]; exact R
  refine q_ldc dL_law_594 kcL_17 ?_
  refine q_icmp_ne (tgt := 694) dL_law_596 rfl (fun c => absurd (by decide) c) (fun _ => ?_)
  refine q_aload dL_law_599 rfl ?_
  refine q_iconst (v := nI 2) dL_law_601 (by decide) ?_
  refine q_sipush (v := nI 301) dL_law_602 (by decide) ?_
  refine q_callH (kc := X1 + 26) (ks := Y1 + 156) (g_L_setBound (h := h107) K107 C107 (z := (nI (2))) (x := (nI (301)))) wL_setBound kL_199 sL_setBound (by decide) rfl rfl (Nat.le_of_ble_eq_true rfl) dL_law_605 rfl rfl (fun E h9 q9 => (by obtain ⟨_, q9, _⟩ := q9; exact nomatch q9)) ?_
  intro v9 h108 hq
  obtain ⟨x9, ex9, hj9⟩ := j_setBound C107 B s a0 b0 k0 dd (by omega) hq
  clear hq
  cases ex9
  rcases hj9 with ⟨d1, ex8, rdx⟩ | ⟨y1, d2, ex8, rdx⟩ | ⟨y1, y2, hp⟩
  rotate_left
  · exact absurd ((by decide)) y1
  · exact absurd ((by decide)) y1
  subst ex8
  have rd108 : q_rd h h108 W O := ⟨rdx.1, rd107.2.tr rdx.2⟩
  have C108 := rd108.1
  have K108 : q_Lk Φ h108.R h108.n := (q_lf.fr (a := a) rd108.2).Lk K
  have NN108 : q_n9 h108 a := hN.fr rd108.2.2.2.1
  have R108 : q_nr (h108.I a) m ρ := by rw [rd108.2.1 a (by omega)]; exact R
  refine q_ldc dL_law_608 kcL_17 ?_
  refine q_icmp_ne (tgt := 694) dL_law_610 rfl (fun c => absurd (by decide) c) (fun _ => ?_)
  refine q_aload dL_law_613 rfl ?_
  refine q_iconst (v := nI 1) dL_law_615 (by decide) ?_
  refine q_callH (kc := X1 + 25) (ks := Y1 + 150) (g_L_boundOf (h := h108) K108 C108 (z := (nI (1)))) wL_boundOf kL_238 sL_boundOf (by decide) rfl rfl (Nat.le_of_ble_eq_true rfl) dL_law_616 rfl rfl (fun E h9 q9 => (by obtain ⟨_, q9, _⟩ := q9; exact nomatch q9)) ?_
  intro v9 h109 hq
  obtain ⟨x9, ex9, hj9⟩ := j_boundOf C108 B s a0 b0 k0 dd (by omega) hq
  clear hq
  cases ex9
  rcases hj9 with ⟨d1, ex8, rdx⟩ | ⟨y1, hp⟩
  rotate_left
  · exact absurd ((by decide)) y1
  subst ex8
  have rd109 : q_rd h h109 W O := ⟨rdx.1, rd108.2.tr rdx.2⟩
  have C109 := rd109.1
  have K109 : q_Lk Φ h109.R h109.n := (q_lf.fr (a := a) rd109.2).Lk K
  have NN109 : q_n9 h109 a := hN.fr rd109.2.2.2.1
  have R109 : q_nr (h109.I a) m ρ := by rw [rd109.2.1 a (by omega)]; exact R
  refine q_ldc dL_law_619 kcL_17 ?_
  refine q_icmp_ne (tgt := 694) dL_law_621 rfl (fun c => absurd (by decide) c) (fun _ => ?_)
  refine q_aload dL_law_624 rfl ?_
  refine q_bipush (v := nI 6) dL_law_626 (by decide) ?_
  refine q_iconst (v := nI 0) dL_law_628 (by decide) ?_
  refine q_callH (kc := X1 + 23) (ks := Y1 + 138) (g_L_setWeight (h := h109) K109 C109 (z := (nI (6))) (x := (nI (0)))) wL_setWeight kL_169 sL_setWeight (by decide) rfl rfl (Nat.le_of_ble_eq_true rfl) dL_law_629 rfl rfl (fun E h9 q9 => (by obtain ⟨_, q9, _⟩ := q9; exact nomatch q9)) ?_
  intro v9 h110 hq
  obtain ⟨x9, ex9, hj9⟩ := j_setWeight C109 B s a0 b0 k0 dd (by omega) hq
  clear hq
  cases ex9
  rcases hj9 with ⟨d1, ex8, rdx⟩ | ⟨y1, hp⟩
  rotate_left
  · exact absurd ((by decide)) y1
  subst ex8
  have rd110 : q_rd h h110 W O := ⟨rdx.1, rd109.2.tr rdx.2⟩
  have C110 := rd110.1
  have K110 : q_Lk Φ h110.R h110.n := (q_lf.fr (a := a) rd110.2).Lk K
  have NN110 : q_n9 h110 a := hN.fr rd110.2.2.2.1
  have R110 : q_nr (h110.I a) m ρ := by rw [rd110.2.1 a (by omega)]; exact R
  refine q_ldc dL_law_632 kcL_17 ?_
  refine q_icmp_ne (tgt := 694) dL_law_634 rfl (fun c => absurd (by decide) c) (fun _ => ?_)
  refine q_aload dL_law_637 rfl ?_
  refine q_iconst (v := nI 1) dL_law_639 (by decide) ?_
  refine q_bipush (v := nI 101) dL_law_640 (by decide) ?_
  refine q_callH (kc := X1 + 21) (ks := Y1 + 126) (g_L_setWeight (h := h110) K110 C110 (z := (nI (1))) (x := (nI (101)))) wL_setWeight kL_169 sL_setWeight (by decide) rfl rfl (Nat.le_of_ble_eq_true rfl) dL_law_642 rfl rfl (fun E h9 q9 => (by obtain ⟨_, q9, _⟩ := q9; exact nomatch q9)) ?_
  intro v9 h111 hq
  obtain ⟨x9, ex9, hj9⟩ := j_setWeight C110 B s a0 b0 k0 dd (by omega) hq
  clear hq
  cases ex9
  rcases hj9 with ⟨d1, ex8, rdx⟩ | ⟨y1, hp⟩
  rotate_left
  · exact absurd ((by decide)) y1
  subst ex8
  have rd111 : q_rd h h111 W O := ⟨rdx.1, rd110.2.tr rdx.2⟩
  have C111 := rd111.1
  have K111 : q_Lk Φ h111.R h111.n := (q_lf.fr (a := a) rd111.2).Lk K
  have NN111 : q_n9 h111 a := hN.fr rd111.2.2.2.1
  have R111 : q_nr (h111.I a) m ρ := by rw [rd111.2.1 a (by omega)]; exact R
  refine q_ldc dL_law_645 kcL_17 ?_
  refine q_icmp_ne (tgt := 694) dL_law_647 rfl (fun c => absurd (by decide) c) (fun _ => ?_)
  refine q_aload dL_law_650 rfl ?_
  refine q_iconst (v := nI 0) dL_law_652 (by decide) ?_
  refine q_callH (kc := X1 + 20) (ks := Y1 + 120) (g_L_weightOf (h := h111) K111 C111 (z := (nI (0)))) wL_weightOf kL_236 sL_weightOf (by decide) rfl rfl (Nat.le_of_ble_eq_true rfl) dL_law_653 rfl rfl (fun E h9 q9 => (by obtain ⟨_, q9, _⟩ := q9; exact nomatch q9)) ?_
  intro v9 h112 hq
  obtain ⟨x9, ex9, hj9⟩ := j_weightOf C111 B s a0 b0 k0 dd (by omega) hq
  clear hq
  cases ex9
  rcases hj9 with ⟨d1, ex8, rdx⟩ | ⟨y1, hp⟩
  rotate_left
  · exact absurd ((by decide)) y1
  subst ex8
  have rd112 : q_rd h h112 W O := ⟨rdx.1, rd111.2.tr rdx.2⟩
  have C112 := rd112.1
  have K112 : q_Lk Φ h112.R h112.n := (q_lf.fr (a := a) rd112.2).Lk K
  have NN112 : q_n9 h112 a := hN.fr rd112.2.2.2.1
  have R112 : q_nr (h112.I a) m ρ := by rw [rd112.2.1 a (by omega)]; exact R
  refine q_ldc dL_law_656 kcL_17 ?_
  refine q_icmp_ne (tgt := 694) dL_law_658 rfl (fun c => absurd (by decide) c) (fun _ => ?_)
  refine q_aload dL_law_661 rfl ?_
  refine q_iconst (v := nI 0) dL_law_663 (by decide) ?_
  refine q_sipush (v := nI 501) dL_law_664 (by decide) ?_
  refine q_callH (kc := X1 + 18) (ks := Y1 + 108) (g_L_zoneOf (h := h112) K112 C112 (d := (nI (0))) (x := (nI (501)))) wL_zoneOf kL_299 sL_zoneOf (by decide) rfl rfl (Nat.le_of_ble_eq_true rfl) dL_law_667 rfl rfl (fun E h9 q9 => (by obtain ⟨_, q9, _⟩ := q9; exact nomatch q9)) ?_
  intro v9 h113 hq
  obtain ⟨x9, ex9, hj9⟩ := j_zoneOf C112 B s a0 b0 k0 dd (by omega) hq
  clear hq
  cases ex9
  rcases hj9 with ⟨d1, ex8, rdx⟩ | ⟨y1, hp⟩
  rotate_left
  · exact absurd ((by decide)) y1
  subst ex8
  have rd113 : q_rd h h113 W O := ⟨rdx.1, rd112.2.tr rdx.2⟩
  have C113 := rd113.1
  have K113 : q_Lk Φ h113.R h113.n := (q_lf.fr (a := a) rd113.2).Lk K
  have NN113 : q_n9 h113 a := hN.fr rd113.2.2.2.1
  have R113 : q_nr (h113.I a) m ρ := by rw [rd113.2.1 a (by omega)]; exact R
  refine q_ldc dL_law_670 kcL_17 ?_
  refine q_icmp_ne (tgt := 694) dL_law_672 rfl (fun c => absurd (by decide) c) (fun _ => ?_)
  refine q_aload dL_law_675 rfl ?_
  refine q_aload_n dL_law_677 rfl ?_
  refine q_iconst (v := nI 0) dL_law_678 (by decide) ?_
  refine q_ialdD (k := 0) NN113.1 NN113.t NN113.l (by omega) (by decide) dL_law_679 ?_
  refine q_tv (show _ = (nI (m.t)) from R113.t) ?_
  refine q_iconst (v := nI 1) dL_law_680 (by decide) ?_
  refine q_iaddN dL_law_681 ?_
  refine q_callH (kc := X1 + 16) (ks := Y1 + 96) (g_L_addSession (h := h113) K113 C113 (d := (nI ((m.t) + (1))))) wL_addSession kL_201 sL_addSession (by decide) rfl rfl (Nat.le_of_ble_eq_true rfl) dL_law_682 rfl rfl (fun E h9 q9 => (by obtain ⟨_, q9, _⟩ := q9; exact nomatch q9)) ?_
  intro v9 h114 hq
  obtain ⟨x9, ex9, hj9⟩ := j_addSession C113 B s a0 b0 k0 dd (by omega) hq
  clear hq
  cases ex9
  rcases hj9 with ⟨d1, ex8, rdx⟩ | ⟨y1, d2, ex8, rdx⟩ | ⟨y1, y2, hp⟩
  rotate_left
  · exact absurd ((q_rout (Or.inr (Nat.lt_succ_self _)) (by omega) (by omega) (by omega))) y1
  · exact absurd ((q_rout (Or.inr (Nat.lt_succ_self _)) (by omega) (by omega) (by omega))) y1
  subst ex8
  have rd114 : q_rd h h114 W O := ⟨rdx.1, rd113.2.tr rdx.2⟩
  have C114 := rd114.1
  have K114 : q_Lk Φ h114.R h114.n := (q_lf.fr (a := a) rd114.2).Lk K
  have NN114 : q_n9 h114 a := hN.fr rd114.2.2.2.1
  have R114 : q_nr (h114.I a) m ρ := by rw [rd114.2.1 a (by omega)]; exact R
  refine q_ldc dL_law_685 kcL_17 ?_
  refine q_icmp_ne (tgt := 694) dL_law_687 rfl (fun c => absurd (by decide) c) (fun _ => ?_)
  refine q_iconst (v := nI 1) dL_law_690 (by decide) ?_
  refine q_goto (tgt := 695) dL_law_691 rfl ?_
  refine q_istore (L' := [_, _, _, _, _, _, _, _, _, _, _, _]) dL_law_695 rfl (by decide) rfl ?_
  refine q_iload dL_law_697 rfl ?_
  refine q_if_eq (tgt := 836) dL_law_699 rfl (fun c => absurd c (by decide)) (fun _ => ?_)
  refine q_aload dL_law_702 rfl ?_
  refine q_aload_n dL_law_704 rfl ?_
  refine q_iconst (v := nI 1) dL_law_705 (by decide) ?_
  refine q_ialdD (k := 1) NN114.1 NN114.t NN114.l (by omega) (by decide) dL_law_706 ?_
  refine q_tv (show _ = m.nx from R114.nx) ?_
  refine q_iconst (v := nI 0) dL_law_707 (by decide) ?_
  refine q_iconst (v := nI 0) dL_law_708 (by decide) ?_
  refine q_callH (kc := X1 + 12) (ks := Y1 + 72) (g_L_addPart (h := h114) K114 C114 (x := m.nx) (m := (nI (0))) (y := (nI (0)))) wL_addPart kL_209 sL_addPart (by decide) rfl rfl (Nat.le_of_ble_eq_true rfl) dL_law_709 rfl rfl (fun E h9 q9 => (by obtain ⟨_, q9, _⟩ := q9; exact nomatch q9)) ?_
  intro v9 h115 hq
  obtain ⟨x9, ex9, hj9⟩ := j_addPart C114 B s a0 b0 k0 dd (by omega) hq
  clear hq
  cases ex9
  rcases hj9 with ⟨d1, ex8, rdx⟩ | ⟨y1, d2, ex8, rdx⟩ | ⟨y1, y2, d3, ex8, rdx⟩ | ⟨y1, y2, y3, hp⟩
  rotate_left
  · exact absurd ((q_mno_nx k0 (by omega))) y1
  · exact absurd ((q_mno_nx k0 (by omega))) y1
  · exact absurd ((q_mno_nx k0 (by omega))) y1
  subst ex8
  have rd115 : q_rd h h115 W O := ⟨rdx.1, rd114.2.tr rdx.2⟩
  have C115 := rd115.1
  have K115 : q_Lk Φ h115.R h115.n := (q_lf.fr (a := a) rd115.2).Lk K
  have NN115 : q_n9 h115 a := hN.fr rd115.2.2.2.1
  have R115 : q_nr (h115.I a) m ρ := by rw [rd115.2.1 a (by omega)]; exact R
  refine q_ldc dL_law_712 kcL_17 ?_
  refine q_icmp_ne (tgt := 836) dL_law_714 rfl (fun c => absurd (by decide) c) (fun _ => ?_)
  refine q_aload dL_law_717 rfl ?_
  refine q_iconst (v := (-1)) dL_law_719 (by decide) ?_
  refine q_callH (kc := X1 + 11) (ks := Y1 + 66) (g_L_clearParts (h := h115) K115 C115 (x := (-1))) wL_clearParts kL_217 sL_clearParts (by decide) rfl rfl (Nat.le_of_ble_eq_true rfl) dL_law_720 rfl rfl (fun E h9 q9 => (by obtain ⟨_, q9, _⟩ := q9; exact nomatch q9)) ?_
  intro v9 h116 hq
  obtain ⟨x9, ex9, hj9⟩ := j_clearParts C115 B s a0 b0 k0 dd (by omega) hq
  clear hq
  cases ex9
  rcases hj9 with ⟨d1, ex8, rdx⟩ | ⟨y1, hp⟩
  rotate_left
  · exact absurd ((q_mno_m1 k0 (by omega))) y1
  subst ex8
  have rd116 : q_rd h h116 W O := ⟨rdx.1, rd115.2.tr rdx.2⟩
  have C116 := rd116.1
  have K116 : q_Lk Φ h116.R h116.n := (q_lf.fr (a := a) rd116.2).Lk K
  have NN116 : q_n9 h116 a := hN.fr rd116.2.2.2.1
  have R116 : q_nr (h116.I a) m ρ := by rw [rd116.2.1 a (by omega)]; exact R
  refine q_ldc dL_law_723 kcL_17 ?_
  refine q_icmp_ne (tgt := 836) dL_law_725 rfl (fun c => absurd (by decide) c) (fun _ => ?_)
  refine q_aload dL_law_728 rfl ?_
  refine q_aload_n dL_law_730 rfl ?_
  refine q_iconst (v := nI 1) dL_law_731 (by decide) ?_
  refine q_ialdD (k := 1) NN116.1 NN116.t NN116.l (by omega) (by decide) dL_law_732 ?_
  refine q_tv (show _ = m.nx from R116.nx) ?_
  refine q_callH (kc := X1 + 10) (ks := Y1 + 60) (g_L_dayOf (h := h116) K116 C116 (x := m.nx)) wL_dayOf kL_223 sL_dayOf (by decide) rfl rfl (Nat.le_of_ble_eq_true rfl) dL_law_733 rfl rfl (fun E h9 q9 => (by obtain ⟨_, q9, _⟩ := q9; exact nomatch q9)) ?_
  intro v9 h117 hq
  obtain ⟨x9, ex9, hj9⟩ := j_dayOf C116 B s a0 b0 k0 dd (by omega) hq
  clear hq
  cases ex9
  rcases hj9 with ⟨d1, ex8, rdx⟩ | ⟨y1, hp⟩
  rotate_left
  · exact absurd ((q_mno_nx k0 (by omega))) y1
  subst ex8
  have rd117 : q_rd h h117 W O := ⟨rdx.1, rd116.2.tr rdx.2⟩
  have C117 := rd117.1
  have K117 : q_Lk Φ h117.R h117.n := (q_lf.fr (a := a) rd117.2).Lk K
  have NN117 : q_n9 h117 a := hN.fr rd117.2.2.2.1
  have R117 : q_nr (h117.I a) m ρ := by rw [rd117.2.1 a (by omega)]; exact R
  refine q_ldc dL_law_736 kcL_17 ?_
  refine q_icmp_ne (tgt := 836) dL_law_738 rfl (fun c => absurd (by decide) c) (fun _ => ?_)
  refine q_aload dL_law_741 rfl ?_
  refine q_iconst (v := (-1)) dL_law_743 (by decide) ?_
  refine q_callH (kc := X1 + 9) (ks := Y1 + 54) (g_L_minutesOf (h := h117) K117 C117 (x := (-1))) wL_minutesOf kL_225 sL_minutesOf (by decide) rfl rfl (Nat.le_of_ble_eq_true rfl) dL_law_744 rfl rfl (fun E h9 q9 => (by obtain ⟨_, q9, _⟩ := q9; exact nomatch q9)) ?_
  intro v9 h118 hq
  obtain ⟨x9, ex9, hj9⟩ := j_minutesOf C117 B s a0 b0 k0 dd (by omega) hq
  clear hq
  cases ex9
  rcases hj9 with ⟨d1, ex8, rdx⟩ | ⟨y1, hp⟩
  rotate_left
  · exact absurd ((q_mno_m1 k0 (by omega))) y1
  subst ex8
  have rd118 : q_rd h h118 W O := ⟨rdx.1, rd117.2.tr rdx.2⟩
  have C118 := rd118.1
  have K118 : q_Lk Φ h118.R h118.n := (q_lf.fr (a := a) rd118.2).Lk K
  have NN118 : q_n9 h118 a := hN.fr rd118.2.2.2.1
  have R118 : q_nr (h118.I a) m ρ := by rw [rd118.2.1 a (by omega)]; exact R
  refine q_ldc dL_law_747 kcL_17 ?_
  refine q_icmp_ne (tgt := 836) dL_law_749 rfl (fun c => absurd (by decide) c) (fun _ => ?_)
  refine q_aload dL_law_752 rfl ?_
  refine q_aload_n dL_law_754 rfl ?_
  refine q_iconst (v := nI 1) dL_law_755 (by decide) ?_
  refine q_ialdD (k := 1) NN118.1 NN118.t NN118.l (by omega) (by decide) dL_law_756 ?_
  refine q_tv (show _ = m.nx from R118.nx) ?_
  refine q_iconst (v := nI 0) dL_law_757 (by decide) ?_
  refine q_callH (kc := X1 + 7) (ks := Y1 + 42) (g_L_minutesInZone (h := h118) K118 C118 (x := m.nx) (z := (nI (0)))) wL_minutesInZone kL_234 sL_minutesInZone (by decide) rfl rfl (Nat.le_of_ble_eq_true rfl) dL_law_758 rfl rfl (fun E h9 q9 => (by obtain ⟨_, q9, _⟩ := q9; exact nomatch q9)) ?_
  intro v9 h119 hq
  obtain ⟨x9, ex9, hj9⟩ := j_minutesInZone C118 B s a0 b0 k0 dd (by omega) hq
  clear hq
  cases ex9
  rcases hj9 with ⟨d1, ex8, rdx⟩ | ⟨y1, d2, ex8, rdx⟩ | ⟨y1, y2, hp⟩
  rotate_left
  · exact absurd ((q_mno_nx k0 (by omega))) y1
  · exact absurd ((q_mno_nx k0 (by omega))) y1
  subst ex8
  have rd119 : q_rd h h119 W O := ⟨rdx.1, rd118.2.tr rdx.2⟩
  have C119 := rd119.1
  have K119 : q_Lk Φ h119.R h119.n := (q_lf.fr (a := a) rd119.2).Lk K
  have NN119 : q_n9 h119 a := hN.fr rd119.2.2.2.1
  have R119 : q_nr (h119.I a) m ρ := by rw [rd119.2.1 a (by omega)]; exact R
  refine q_ldc dL_law_761 kcL_17 ?_
  refine q_icmp_ne (tgt := 836) dL_law_763 rfl (fun c => absurd (by decide) c) (fun _ => ?_)
  refine q_aload dL_law_766 rfl ?_
  refine q_iconst (v := (-1)) dL_law_768 (by decide) ?_
  refine q_callH (kc := X1 + 6) (ks := Y1 + 36) (g_L_loadOf (h := h119) K119 C119 (x := (-1))) wL_loadOf kL_227 sL_loadOf (by decide) rfl rfl (Nat.le_of_ble_eq_true rfl) dL_law_769 rfl rfl (fun E h9 q9 => (by obtain ⟨_, q9, _⟩ := q9; exact nomatch q9)) ?_
  intro v9 h120 hq
  obtain ⟨x9, ex9, hj9⟩ := j_loadOf C119 B s a0 b0 k0 dd (by omega) hq
  clear hq
  cases ex9
  rcases hj9 with ⟨d1, ex8, rdx⟩ | ⟨y1, hp⟩
  rotate_left
  · exact absurd ((q_mno_m1 k0 (by omega))) y1
  subst ex8
  have rd120 : q_rd h h120 W O := ⟨rdx.1, rd119.2.tr rdx.2⟩
  have C120 := rd120.1
  have K120 : q_Lk Φ h120.R h120.n := (q_lf.fr (a := a) rd120.2).Lk K
  have NN120 : q_n9 h120 a := hN.fr rd120.2.2.2.1
  have R120 : q_nr (h120.I a) m ρ := by rw [rd120.2.1 a (by omega)]; exact R
  refine q_ldc dL_law_772 kcL_17 ?_
  refine q_icmp_ne (tgt := 836) dL_law_774 rfl (fun c => absurd (by decide) c) (fun _ => ?_)
  refine q_aload dL_law_777 rfl ?_
  refine q_aload_n dL_law_779 rfl ?_
  refine q_iconst (v := nI 0) dL_law_780 (by decide) ?_
  refine q_ialdD (k := 0) NN120.1 NN120.t NN120.l (by omega) (by decide) dL_law_781 ?_
  refine q_tv (show _ = (nI (m.t)) from R120.t) ?_
  refine q_iconst (v := nI 1) dL_law_782 (by decide) ?_
  refine q_iaddN dL_law_783 ?_
  refine q_callH (kc := X1 + 5) (ks := Y1 + 30) (g_L_loadOn (h := h120) K120 C120 (d := (nI ((m.t) + (1))))) wL_loadOn kL_301 sL_loadOn (by decide) rfl rfl (Nat.le_of_ble_eq_true rfl) dL_law_784 rfl rfl (fun E h9 q9 => (by obtain ⟨_, q9, _⟩ := q9; exact nomatch q9)) ?_
  intro v9 h121 hq
  obtain ⟨x9, ex9, hj9⟩ := j_loadOn C120 B s a0 b0 k0 dd (by omega) hq
  clear hq
  cases ex9
  rcases hj9 with ⟨d1, ex8, rdx⟩ | ⟨y1, hp⟩
  rotate_left
  · exact absurd ((q_rout (Or.inr (Nat.lt_succ_self _)) (by omega) (by omega) (by omega))) y1
  subst ex8
  have rd121 : q_rd h h121 W O := ⟨rdx.1, rd120.2.tr rdx.2⟩
  have C121 := rd121.1
  have K121 : q_Lk Φ h121.R h121.n := (q_lf.fr (a := a) rd121.2).Lk K
  have NN121 : q_n9 h121 a := hN.fr rd121.2.2.2.1
  have R121 : q_nr (h121.I a) m ρ := by rw [rd121.2.1 a (by omega)]; exact R
  refine q_ldc dL_law_787 kcL_17 ?_
  refine q_icmp_ne (tgt := 836) dL_law_789 rfl (fun c => absurd (by decide) c) (fun _ => ?_)
  refine q_aload dL_law_792 rfl ?_
  refine q_iconst (v := nI 0) dL_law_794 (by decide) ?_
  refine q_callH (kc := X1 + 3) (ks := Y1 + 18) (g_L_zoneShare (h := h121) K121 C121 (z := (nI (0)))) wL_zoneShare kL_240 sL_zoneShare (by decide) rfl rfl (Nat.le_of_ble_eq_true rfl) dL_law_795 rfl rfl (fun E h9 q9 => (by obtain ⟨_, q9, _⟩ := q9; exact nomatch q9)) ?_
  intro v9 h122 hq
  obtain ⟨x9, ex9, hj9⟩ := hq
  cases ex9
  rcases hj9 with ⟨d1, ex8, rdx⟩ | ⟨y1, -⟩ | ⟨y1, -⟩
  rotate_left
  · exact absurd (by decide) y1
  · exact absurd (by decide) y1
  subst ex8
  have rd122 : q_rd h h122 W O := ⟨rdx.1, rd121.2.tr rdx.2⟩
  have C122 := rd122.1
  have K122 : q_Lk Φ h122.R h122.n := (q_lf.fr (a := a) rd122.2).Lk K
  have NN122 : q_n9 h122 a := hN.fr rd122.2.2.2.1
  have R122 : q_nr (h122.I a) m ρ := by rw [rd122.2.1 a (by omega)]; exact R
  refine q_ldcf dL_law_798 kfcL_89 ?_
  refine q_fcmp dL_law_800 ?_
  refine q_tv (show _ = nI 0 from q_fcs q_fcd _) ?_
  refine q_if_ne (tgt := 836) dL_law_801 rfl (fun c => absurd (by decide) c) (fun _ => ?_)
  refine q_aload dL_law_804 rfl ?_
  refine q_sipush (v := nI 20001) dL_law_806 (by decide) ?_
  refine q_callH (kc := X1 + 1) (ks := Y1 + 6) (g_L_addTarget (h := h122) K122 C122 (x := (nI (20001)))) wL_addTarget kL_221 sL_addTarget (by decide) rfl rfl (Nat.le_of_ble_eq_true rfl) dL_law_809 rfl rfl (fun E h9 q9 => (by obtain ⟨_, q9, _⟩ := q9; exact nomatch q9)) ?_
  intro v9 h123 hq
  obtain ⟨x9, ex9, hj9⟩ := j_addTarget C122 B s a0 b0 k0 dd (by omega) hq
  clear hq
  cases ex9
  rcases hj9 with ⟨d1, ex8, rdx⟩ | ⟨y1, d2, ex8, rdx⟩ | ⟨y1, y2, hp⟩
  rotate_left
  · exact absurd ((by decide)) y1
  · exact absurd ((by decide)) y1
  subst ex8
  have rd123 : q_rd h h123 W O := ⟨rdx.1, rd122.2.tr rdx.2⟩
  have C123 := rd123.1
  have K123 : q_Lk Φ h123.R h123.n := (q_lf.fr (a := a) rd123.2).Lk K
  have NN123 : q_n9 h123 a := hN.fr rd123.2.2.2.1
  have R123 : q_nr (h123.I a) m ρ := by rw [rd123.2.1 a (by omega)]; exact R
  refine q_ldc dL_law_812 kcL_17 ?_
  refine q_icmp_ne (tgt := 836) dL_law_814 rfl (fun c => absurd (by decide) c) (fun _ => ?_)
  refine q_aload dL_law_817 rfl ?_
  refine q_aload_n dL_law_819 rfl ?_
  refine q_iconst (v := nI 0) dL_law_820 (by decide) ?_
  refine q_ialdD (k := 0) NN123.1 NN123.t NN123.l (by omega) (by decide) dL_law_821 ?_
  refine q_tv (show _ = (nI (m.t)) from R123.t) ?_
  refine q_iconst (v := nI 1) dL_law_822 (by decide) ?_
  refine q_iaddN dL_law_823 ?_
  refine q_callH (kc := X1 + 0) (ks := Y1 + 0) (g_L_writeWeek (h := h123) K123 C123 (d := (nI ((m.t) + (1))))) wL_writeWeek kL_262 sL_writeWeek (by decide) rfl rfl (Nat.le_of_ble_eq_true rfl) dL_law_824 rfl rfl (fun E h9 q9 => (by obtain ⟨_, q9, _⟩ := q9; exact nomatch q9)) ?_
  intro v9 h124 hq
  obtain ⟨x9, ex9, hj9⟩ := hq
  cases ex9
  rcases hj9 with ⟨d1, ex8, rdx⟩ | ⟨y1, -⟩
  rotate_left
  · exact absurd (by rw [a0.1]; exact (q_rout (Or.inr (Nat.lt_succ_self _)) (by omega) (by omega) (by omega))) y1
  subst ex8
  have rd124 : q_rd h h124 W O := ⟨rdx.1, rd123.2.tr rdx.2⟩
  have C124 := rd124.1
  have K124 : q_Lk Φ h124.R h124.n := (q_lf.fr (a := a) rd124.2).Lk K
  have NN124 : q_n9 h124 a := hN.fr rd124.2.2.2.1
  have R124 : q_nr (h124.I a) m ρ := by rw [rd124.2.1 a (by omega)]; exact R
  refine q_ldc dL_law_827 kcL_17 ?_
  refine q_icmp_ne (tgt := 836) dL_law_829 rfl (fun c => absurd (by decide) c) (fun _ => ?_)
  refine q_iconst (v := nI 1) dL_law_832 (by decide) ?_
  refine q_goto (tgt := 837) dL_law_833 rfl ?_
  exact F _ _ _ _
