/-! THE CHECKS OF A STEP, AND THE LOOP -/
theorem g_lawK2 {Φ : q_Fx} (hL : Φ.L ≤ 2048) {Z : Program → Env → State → MethodId → Array Value → List Frame → State → Prop} {h : q_Hp} (K : q_Lk Φ h.R h.n) {a : Nat} (hN : q_n9 h a) {m : q_W} {ρ : Nat → Nat} (R : q_nr (h.I a) m ρ) (B : q_bd m) (u9 : h.I a 899 = nI 0) {W : q_W} {O : q_O} (C : q_clX h W O) {c : Nat} (s : q_smc c W m) (hcc : c ≤ 400) (hi : q_inc m) {st : Nat} (X : q_hx h a st c O) {sv : Value} (SV : q_sv h a c O sv) {x9 x10 x11 : Nat} (hx9 : x9 ≤ m.t) (hx10 : x10 < 200) (hx11 : x11 < 501) {k : Nat} (hk : k < 40) {X1 Y1 : Nat} (KN : ∀ h2, q_Lk Φ h2.R h2.n → q_LI h2 a st c sv → q_G Φ false cL_law RL mL_law Z 93 [some (.ref 0), some (.ref a), some sv, some (.ref st), some (.ref 1), some (.int (nI 1)), some (.int (nI (k + 1))), none, none, none, none, none] [] h2 X1 Y1) : q_G Φ false cL_law RL mL_law Z 449 [some (.ref 0), some (.ref a), some (sv), some (.ref st), some (.ref 1), some (.int (nI (1))), some (.int (nI (k))), some (.int (nI (8 * k))), none, some (.int (nI (x9))), some (.int (nI (x10))), some (.int (nI (x11)))] [] h (X1 + 4) (Y1 + 24) := by
  obtain ⟨bt, bn, bc, bpe, bpf, bpc, bpn⟩ := id B
  obtain ⟨⟨N0, hN0, a0, ⟨τ0, b0⟩, k0⟩, dd⟩ := id s
  have v := k0.2.2.2.2.2.2.2
  have ha2 := hN.2.1
  have ha4 := hN.2.2
  have rd0 : q_rd h h W O := ⟨C, q_fr.rf⟩
  obtain ⟨hs, n6, c6, pl, X3⟩ := id X
  obtain ⟨p1, p2, p3, p4⟩ := id X3
  refine q_aload dL_law_449 rfl ?_
  refine q_iload dL_law_451 rfl ?_
  refine q_callH (kc := X1 + 3) (ks := Y1 + 18) (g_L_thresholdOn (h := h) K C (d := (nI (x10)))) wL_thresholdOn kL_297 sL_thresholdOn (by decide) rfl rfl (Nat.le_of_ble_eq_true rfl) dL_law_453 rfl rfl (fun E h9 q9 => (by obtain ⟨_, q9, _⟩ := q9; exact nomatch q9)) ?_
  intro v9 h101 hq
  obtain ⟨x9, ex9, hj9⟩ := j_thresholdOn C B s a0 b0 k0 dd (by omega) hq
  clear hq
  cases ex9
  rcases hj9 with ⟨d1, ex8, rdx⟩ | ⟨y1, hp⟩
  · exact absurd d1 ((q_rin (Nat.zero_le _) (by omega) (by omega)))
  obtain ⟨ev9, rdx⟩ := hp
  cases ev9
  have rd101 : q_rd h h101 W O := ⟨rdx.1, rd0.2.tr rdx.2⟩
  have C101 := rd101.1
  have K101 : q_Lk Φ h101.R h101.n := (q_lf.fr (a := a) rd101.2).Lk K
  have NN101 : q_n9 h101 a := hN.fr rd101.2.2.2.1
  have R101 : q_nr (h101.I a) m ρ := by rw [rd101.2.1 a (by omega)]; exact R
  refine q_aload_n dL_law_456 rfl ?_
  refine q_iload dL_law_457 rfl ?_
  refine q_sD (kc := X1 + 3) (ks := Y1 + 18) (g_L_threshold (h := h101) K101 NN101 R101 B v dd (day := x10) (by omega)) wL_threshold kL_126 sL_threshold (by decide) rfl rfl (Nat.le_of_ble_eq_true rfl) dL_law_459 rfl rfl ?_
  refine q_icmp_ne (tgt := 501) dL_law_462 rfl (fun c => absurd rfl c) (fun c1 => ?_)
  refine q_aload dL_law_465 rfl ?_
  refine q_iload dL_law_467 rfl ?_
  refine q_iload dL_law_469 rfl ?_
  refine q_callH (kc := X1 + 1) (ks := Y1 + 6) (g_L_zoneOf (h := h101) K101 C101 (d := (nI (x10))) (x := (nI (x11)))) wL_zoneOf kL_299 sL_zoneOf (by decide) rfl rfl (Nat.le_of_ble_eq_true rfl) dL_law_471 rfl rfl (fun E h9 q9 => (by obtain ⟨_, q9, _⟩ := q9; exact nomatch q9)) ?_
  intro v9 h102 hq
  obtain ⟨x9, ex9, hj9⟩ := j_zoneOf C101 B s a0 b0 k0 dd (by omega) hq
  clear hq
  cases ex9
  rcases hj9 with ⟨d1, ex8, rdx⟩ | ⟨y1, hp⟩
  · exact absurd d1 ((by rintro (e | e); exact absurd e (q_rin (Nat.zero_le _) (by omega) (by omega)); exact absurd e (q_rin (Nat.zero_le _) (by omega) (by omega))))
  obtain ⟨ev9, rdx⟩ := hp
  cases ev9
  have rd102 : q_rd h h102 W O := ⟨rdx.1, rd101.2.tr rdx.2⟩
  have C102 := rd102.1
  have K102 : q_Lk Φ h102.R h102.n := (q_lf.fr (a := a) rd102.2).Lk K
  have NN102 : q_n9 h102 a := hN.fr rd102.2.2.2.1
  have R102 : q_nr (h102.I a) m ρ := by rw [rd102.2.1 a (by omega)]; exact R
  have hzz := q_zn_le m.bd (nI x11) (m.th (nI x10))
  refine q_aload_n dL_law_474 rfl ?_
  refine q_iload dL_law_475 rfl ?_
  refine q_iload dL_law_477 rfl ?_
  refine q_sD (kc := X1 + 1) (ks := Y1 + 6) (g_L_zone (h := h102) K102 NN102 R102 B v dd (day := x10) (by omega) (x := (nI (x11)))) wL_zone kL_129 sL_zone (by decide) rfl rfl (Nat.le_of_ble_eq_true rfl) dL_law_479 rfl rfl ?_
  have hz479 := q_zn_le m.bd (nI (x11)) (m.th (nI (x10)))
  refine q_icmp_neN (by omega) (by omega) (tgt := 501) dL_law_482 rfl (fun c => absurd rfl c) (fun c3 => ?_)
  refine q_aload dL_law_485 rfl ?_
  refine q_iload dL_law_487 rfl ?_
  refine q_callH (kc := X1 + 0) (ks := Y1 + 0) (g_L_loadOn (h := h102) K102 C102 (d := (nI (x9)))) wL_loadOn kL_301 sL_loadOn (by decide) rfl rfl (Nat.le_of_ble_eq_true rfl) dL_law_489 rfl rfl (fun E h9 q9 => (by obtain ⟨_, q9, _⟩ := q9; exact nomatch q9)) ?_
  intro v9 h103 hq
  obtain ⟨x9, ex9, hj9⟩ := j_loadOn C102 B s a0 b0 k0 dd (by omega) hq
  clear hq
  cases ex9
  rcases hj9 with ⟨d1, ex8, rdx⟩ | ⟨y1, hp⟩
  · exact absurd d1 ((q_rin (Nat.zero_le _) hx9 (by omega)))
  rw [nI_clamp (by omega)] at hp
  obtain ⟨ev9, rdx⟩ := hp
  cases ev9
  have rd103 : q_rd h h103 W O := ⟨rdx.1, rd102.2.tr rdx.2⟩
  have C103 := rd103.1
  have K103 : q_Lk Φ h103.R h103.n := (q_lf.fr (a := a) rd103.2).Lk K
  have NN103 : q_n9 h103 a := hN.fr rd103.2.2.2.1
  have R103 : q_nr (h103.I a) m ρ := by rw [rd103.2.1 a (by omega)]; exact R
  refine q_aload_n dL_law_492 rfl ?_
  refine q_iload dL_law_493 rfl ?_
  refine q_sD (kc := X1 + 0) (ks := Y1 + 0) (g_L_loadOf_ (h := h103) K103 NN103 R103 B v dd (d := x9) (by omega)) wL_loadOf_ kL_243 sL_loadOf_ (by decide) rfl rfl (Nat.le_of_ble_eq_true rfl) dL_law_495 rfl rfl ?_
  rw [q_sum_id k0.1 (by omega)]
  refine q_icmp_eq (tgt := 503) dL_law_498 rfl (fun c5 => ?_) (fun c => absurd rfl c)
  refine q_iincN (n := 1) (L' := [_, _, _, _, _, _, _, _, _, _, _, _]) (by decide) dL_law_503 rfl rfl (by decide) rfl ?_
  refine q_goto (tgt := 93) dL_law_506 rfl ?_
  exact q_less (kc' := X1) (ks' := Y1) (by omega) (by omega) (q_to (KN _ K103 (⟨W, O, m, ρ, rd103.1, s, NN103, R103, B, (by rw [rd103.2.1 a (by omega)]; exact u9), hi, X.lf (q_lf.fr rd103.2) ha4, SV.lg (q_lf.lg (q_lf.fr rd103.2)) rfl rfl (Nat.le_refl _)⟩)) (q_sub_s rfl (q_sub_s rfl (q_sub_s rfl (q_sub_s rfl (q_sub_s rfl (q_sub_i rfl (q_sub_i rfl (q_sub_n (q_sub_n (q_sub_n (q_sub_n (q_sub_n q_sub_0)))))))))))) rfl)
theorem g_lawK {Φ : q_Fx} (hL : Φ.L ≤ 2048) {Z : Program → Env → State → MethodId → Array Value → List Frame → State → Prop} {h : q_Hp} (K : q_Lk Φ h.R h.n) {a : Nat} (hN : q_n9 h a) {m : q_W} {ρ : Nat → Nat} (R : q_nr (h.I a) m ρ) (B : q_bd m) (u9 : h.I a 899 = nI 0) {W : q_W} {O : q_O} (C : q_clX h W O) {c : Nat} (s : q_smc c W m) (hcc : c ≤ 400) (hi : q_inc m) {st : Nat} (X : q_hx h a st c O) {sv : Value} (SV : q_sv h a c O sv) {k : Nat} (hk : k < 40) {X1 Y1 : Nat} (KN : ∀ h2, q_Lk Φ h2.R h2.n → q_LI h2 a st c sv → q_G Φ false cL_law RL mL_law Z 93 [some (.ref 0), some (.ref a), some sv, some (.ref st), some (.ref 1), some (.int (nI 1)), some (.int (nI (k + 1))), none, none, none, none, none] [] h2 X1 Y1) : q_G Φ false cL_law RL mL_law Z 365 [some (.ref 0), some (.ref a), some (sv), some (.ref st), some (.ref 1), some (.int (nI (1))), some (.int (nI (k))), some (.int (nI (8 * k))), none, none, none, none] [] h (X1 + 604) (Y1 + 3624) := by
  obtain ⟨bt, bn, bc, bpe, bpf, bpc, bpn⟩ := id B
  obtain ⟨⟨N0, hN0, a0, ⟨τ0, b0⟩, k0⟩, dd⟩ := id s
  have v := k0.2.2.2.2.2.2.2
  have ha2 := hN.2.1
  have ha4 := hN.2.2
  have rd0 : q_rd h h W O := ⟨C, q_fr.rf⟩
  obtain ⟨hs, n6, c6, pl, X3⟩ := id X
  obtain ⟨p1, p2, p3, p4⟩ := id X3
  refine q_aload_n dL_law_365 rfl ?_
  refine q_iload dL_law_366 rfl ?_
  refine q_bipush (v := nI 7) dL_law_368 (by decide) ?_
  refine q_iaddN dL_law_370 ?_
  refine q_aload_n dL_law_371 rfl ?_
  refine q_iconst (v := nI 0) dL_law_372 (by decide) ?_
  refine q_ialdD (k := 0) hN.1 hN.t hN.l (by omega) (by decide) dL_law_373 ?_
  refine q_tv (show _ = (nI (m.t)) from R.t) ?_
  refine q_iconst (v := nI 1) dL_law_374 (by decide) ?_
  refine q_iaddN dL_law_375 ?_
  refine q_sR (kc := X1 + 604) (ks := Y1 + 3624) (g_L_in (h := h) K hL (i := (8 * k) + (7)) (n := (m.t) + (1)) (by omega) (by omega) (by omega)) wL_in kL_149 sL_in (by decide) rfl rfl (Nat.le_of_ble_eq_true rfl) dL_law_376 rfl rfl ?_
  intro v9 h9 hq
  obtain ⟨e9, x376, hx376, rfl⟩ := hq
  have e8 := e9.symm
  clear e9
  subst e8
  refine q_istore (L' := [_, _, _, _, _, _, _, _, _, _, _, _]) dL_law_379 rfl (by decide) rfl ?_
  refine q_aload_n dL_law_381 rfl ?_
  refine q_iload dL_law_382 rfl ?_
  refine q_bipush (v := nI 7) dL_law_384 (by decide) ?_
  refine q_iaddN dL_law_386 ?_
  refine q_sipush (v := nI 200) dL_law_387 (by decide) ?_
  refine q_sR (kc := X1 + 604) (ks := Y1 + 3624) (g_L_in (h := h) K hL (i := (8 * k) + (7)) (n := 200) (by omega) (by omega) (by omega)) wL_in kL_149 sL_in (by decide) rfl rfl (Nat.le_of_ble_eq_true rfl) dL_law_390 rfl rfl ?_
  intro v9 h9 hq
  obtain ⟨e9, x390, hx390, rfl⟩ := hq
  have e8 := e9.symm
  clear e9
  subst e8
  refine q_istore (L' := [_, _, _, _, _, _, _, _, _, _, _, _]) dL_law_393 rfl (by decide) rfl ?_
  refine q_aload_n dL_law_395 rfl ?_
  refine q_iload dL_law_396 rfl ?_
  refine q_iconst (v := nI 3) dL_law_398 (by decide) ?_
  refine q_iaddN dL_law_399 ?_
  refine q_sipush (v := nI 501) dL_law_400 (by decide) ?_
  refine q_sR (kc := X1 + 604) (ks := Y1 + 3624) (g_L_in (h := h) K hL (i := (8 * k) + (3)) (n := 501) (by omega) (by omega) (by omega)) wL_in kL_149 sL_in (by decide) rfl rfl (Nat.le_of_ble_eq_true rfl) dL_law_403 rfl rfl ?_
  intro v9 h9 hq
  obtain ⟨e9, x403, hx403, rfl⟩ := hq
  have e8 := e9.symm
  clear e9
  subst e8
  refine q_istore (L' := [_, _, _, _, _, _, _, _, _, _, _, _]) dL_law_406 rfl (by decide) rfl ?_
  refine q_iload dL_law_408 rfl ?_
  refine q_if_eq (tgt := 501) dL_law_410 rfl (fun c => absurd c (by decide)) (fun _ => ?_)
  refine q_aload dL_law_413 rfl ?_
  refine q_aload_n dL_law_415 rfl ?_
  refine q_sR (kc := X1 + 23) (ks := Y1 + 138) (g_L_areSessions (h := h) K hN R B C s (by omega)) wL_areSessions kL_287 sL_areSessions (by decide) rfl rfl (Nat.le_of_ble_eq_true rfl) dL_law_416 rfl rfl ?_
  intro v9 h104 hq
  obtain ⟨ev9, rdx⟩ := hq
  subst ev9
  have rd104 : q_rd h h104 W O := ⟨rdx.1, rd0.2.tr rdx.2⟩
  have C104 := rd104.1
  have K104 : q_Lk Φ h104.R h104.n := (q_lf.fr (a := a) rd104.2).Lk K
  have NN104 : q_n9 h104 a := hN.fr rd104.2.2.2.1
  have R104 : q_nr (h104.I a) m ρ := by rw [rd104.2.1 a (by omega)]; exact R
  refine q_if_eq (tgt := 501) dL_law_419 rfl (fun c => absurd c (by decide)) (fun _ => ?_)
  refine q_aload dL_law_422 rfl ?_
  refine q_aload_n dL_law_424 rfl ?_
  refine q_sR (kc := X1 + 20) (ks := Y1 + 120) (g_L_isPlan (h := h104) K104 NN104 R104 B C104 s (by omega)) wL_isPlan kL_291 sL_isPlan (by decide) rfl rfl (Nat.le_of_ble_eq_true rfl) dL_law_425 rfl rfl ?_
  intro v9 h105 hq
  obtain ⟨ev9, rdx⟩ := hq
  subst ev9
  have rd105 : q_rd h h105 W O := ⟨rdx.1, rd104.2.tr rdx.2⟩
  have C105 := rd105.1
  have K105 : q_Lk Φ h105.R h105.n := (q_lf.fr (a := a) rd105.2).Lk K
  have NN105 : q_n9 h105 a := hN.fr rd105.2.2.2.1
  have R105 : q_nr (h105.I a) m ρ := by rw [rd105.2.1 a (by omega)]; exact R
  refine q_if_eq (tgt := 501) dL_law_428 rfl (fun c => absurd c (by decide)) (fun _ => ?_)
  refine q_iload dL_law_431 rfl ?_
  refine q_iconst (v := nI 4) dL_law_433 (by decide) ?_
  refine q_iremN (by omega) (by omega) (by omega) dL_law_434 ?_
  refine q_if_neN (by omega) (tgt := 449) dL_law_435 rfl (fun c7 => ?_) (fun c8 => ?_)
  · exact q_less (kc' := X1 + 4) (ks' := Y1 + 24) (by omega) (by omega) (q_to (g_lawK2 hL K105 NN105 R105 B (by rw [rd105.2.1 a (by omega)]; exact u9) C105 s hcc hi ((X.lf (q_lf.fr rd105.2) ha4).eqO rfl rfl rfl) (SV.lg (q_lf.lg (q_lf.fr rd105.2)) rfl rfl (Nat.le_refl _)) (x9 := x376) (x10 := x390) (x11 := x403) (by omega) (by omega) (by omega) hk KN) (q_sub_s rfl (q_sub_s rfl (q_sub_s rfl (q_sub_s rfl (q_sub_s rfl (q_sub_i rfl (q_sub_i rfl (q_sub_i rfl (q_sub_n (q_sub_i rfl (q_sub_i rfl (q_sub_i rfl q_sub_0)))))))))))) rfl)
  · refine q_aload dL_law_438 rfl ?_
    refine q_aload_n dL_law_440 rfl ?_
    refine q_iload dL_law_441 rfl ?_
    refine q_sR (kc := X1 + 4) (ks := Y1 + 24) (g_L_isWeek (h := h105) K105 NN105 R105 B C105 s (by omega) (d := x376) (by omega)) wL_isWeek kL_294 sL_isWeek (by decide) rfl rfl (Nat.le_of_ble_eq_true rfl) dL_law_443 rfl rfl ?_
    intro v9 h106 hq
    obtain ⟨ev9, ln, C106, frw⟩ := hq
    subst ev9
    have K106 : q_Lk Φ h106.R h106.n := (q_lf.fr (a := a) frw).Lk K105
    have NN106 : q_n9 h106 a := NN105.fr frw.2.2.1
    have R106 : q_nr (h106.I a) m ρ := by rw [frw.1 a (by omega)]; exact R105
    have fr106 : q_fr h h106 := rd105.2.tr frw
    refine q_if_eq (tgt := 501) dL_law_446 rfl (fun c => absurd c (by decide)) (fun _ => ?_)
    exact q_less (kc' := X1 + 4) (ks' := Y1 + 24) (by omega) (by omega) (q_to (g_lawK2 hL K106 NN106 R106 B (by rw [fr106.1 a (by omega)]; exact u9) C106 s hcc hi ((X.lf (q_lf.fr fr106) ha4).eqO rfl rfl rfl) (SV.lg (q_lf.lg (q_lf.fr fr106)) rfl rfl (Nat.le_refl _)) (x9 := x376) (x10 := x390) (x11 := x403) (by omega) (by omega) (by omega) hk KN) (q_sub_s rfl (q_sub_s rfl (q_sub_s rfl (q_sub_s rfl (q_sub_s rfl (q_sub_i rfl (q_sub_i rfl (q_sub_i rfl (q_sub_n (q_sub_i rfl (q_sub_i rfl (q_sub_i rfl q_sub_0)))))))))))) rfl)
theorem g_lawloop {Φ : q_Fx} (hL : Φ.L ≤ 2048) {Z : Program → Env → State → MethodId → Array Value → List Frame → State → Prop} {a st : Nat} {X1 Y1 : Nat} (KE : ∀ h2 sv2, q_Lk Φ h2.R h2.n → q_LI h2 a st 40 sv2 → q_G Φ false cL_law RL mL_law Z 509 [some (.ref 0), some (.ref a), none, none, some (.ref 1), none, none, none, none, none, none, none] [] h2 X1 Y1) :
    ∀ (n k : Nat) (h : q_Hp) (sv : Value), k + n = 40 → q_Lk Φ h.R h.n → q_LI h a st k sv → q_G Φ false cL_law RL mL_law Z 93 [some (.ref 0), some (.ref a), some sv, some (.ref st), some (.ref 1), some (.int (nI 1)), some (.int (nI k)), none, none, none, none, none] [] h (n * 700 + X1) (n * 6000 + Y1) := by
  intro n
  induction n with
  | zero =>
    intro k h sv hk K I
    obtain rfl : k = 40 := by omega
    refine q_iload dL_law_93 rfl ?_
    refine q_bipush (v := nI 40) dL_law_95 (by decide) ?_
    refine q_icmp_ge (tgt := 509) dL_law_97 rfl (fun _ => ?_) (fun c => absurd (by decide) c)
    exact q_less (kc' := X1) (ks' := Y1) (by omega) (by omega) (q_to (KE h sv K I) (q_sub_s rfl (q_sub_s rfl (q_sub_n (q_sub_n (q_sub_s rfl (q_sub_n (q_sub_n (q_sub_n (q_sub_n (q_sub_n (q_sub_n (q_sub_n q_sub_0)))))))))))) rfl)
  | succ n ih =>
    intro k h sv hk K I
    obtain ⟨W, O, m, ρ, C, s, hN, R, B, u9, hi, X, SV⟩ := I
    refine q_less (kc' := (n * 700 + X1 + 604) + 5) (ks' := (n * 6000 + Y1 + 3624) + 1830) (by omega) (by omega) ?_
    refine g_lawS hL K hN R B u9 C s (by omega) hi X SV (k := k) (by omega) (X1 := n * 700 + X1 + 604) (Y1 := n * 6000 + Y1 + 3624) (fun h2 sv2 K2 I2 => ?_)
    obtain ⟨W2, O2, m2, ρ2, C2, s2, hN2, R2, B2, u2, hi2, X2, SV2⟩ := I2
    exact g_lawK hL K2 hN2 R2 B2 u2 C2 s2 (by omega) hi2 X2 SV2 (k := k) (by omega) (X1 := n * 700 + X1) (Y1 := n * 6000 + Y1) (fun h3 K3 I3 => ih (k + 1) h3 sv2 (by omega) K3 I3)
