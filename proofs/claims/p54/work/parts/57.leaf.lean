/-! THE LAW'S OWN FUNCTIONS -/
theorem g_L_cell {Φ : q_Fx} {h : q_Hp} (K : q_Lk Φ h.R h.n) (hL : Φ.L ≤ 2048) {i : Nat} (hi : i ≤ 1000) : q_Ct Φ false yL_cell cL_cell mL_cell [.ref 0, .int (nI (i))] h (q_ex (fun v h' => h' = h ∧ ∃ x : Int32, v = some (.int x))) := by
  refine q_enter K.st rfl rfl (by decide) rfl (Nat.le_of_ble_eq_true rfl) (L := [_, _, none]) rfl ?_
  refine q_ldc dL_cell_0 kcL_7 ?_
  refine q_tv (show _ = nI 69069 from by decide) ?_
  refine q_iload_n dL_cell_2 rfl ?_
  refine q_aload_n dL_cell_3 rfl ?_
  refine q_slenN dL_cell_4 ?_
  refine q_icmp_geN (by omega) (by omega) (tgt := 14) dL_cell_5 rfl (fun c1 => ?_) (fun c2 => ?_)
  · refine q_iconst (v := nI 0) dL_cell_14 (by decide) ?_
    refine q_sipush (v := nI 1009) dL_cell_15 (by decide) ?_
    refine q_iload_n dL_cell_18 rfl ?_
    refine q_imulN dL_cell_19 ?_
    refine q_iaddN dL_cell_20 ?_
    refine q_imulN dL_cell_21 ?_
    refine q_sipush (v := nI 12345) dL_cell_22 (by decide) ?_
    refine q_iaddN dL_cell_25 ?_
    refine q_istore_n (L' := [_, _, _]) dL_cell_26 rfl (by decide) rfl ?_
    refine q_iload_n dL_cell_27 rfl ?_
    refine q_iload_n dL_cell_28 rfl ?_
    refine q_bipush (v := nI 13) dL_cell_29 (by decide) ?_
    refine q_iushr dL_cell_31 ?_
    refine q_ixor dL_cell_32 ?_
    refine q_ldc dL_cell_33 kcL_8 ?_
    refine q_tv (show _ = nI 1103515245 from by decide) ?_
    refine q_imul dL_cell_35 ?_
    refine q_istore_n (L' := [_, _, _]) dL_cell_36 rfl (by decide) rfl ?_
    refine q_iload_n dL_cell_37 rfl ?_
    refine q_iload_n dL_cell_38 rfl ?_
    refine q_bipush (v := nI 16) dL_cell_39 (by decide) ?_
    refine q_iushr dL_cell_41 ?_
    refine q_ixor dL_cell_42 ?_
    refine q_iret dL_cell_43 rfl (Or.inl rfl) ?_
    exact ⟨_, rfl, rfl, _, rfl⟩
  · refine q_aload_n dL_cell_8 rfl ?_
    refine q_iload_n dL_cell_9 rfl ?_
    refine q_sldN (by omega) hL dL_cell_10 ?_
    refine q_goto (tgt := 15) dL_cell_11 rfl ?_
    refine q_sipush (v := nI 1009) dL_cell_15 (by decide) ?_
    refine q_iload_n dL_cell_18 rfl ?_
    refine q_imulN dL_cell_19 ?_
    refine q_iadd dL_cell_20 ?_
    refine q_imul dL_cell_21 ?_
    refine q_sipush (v := nI 12345) dL_cell_22 (by decide) ?_
    refine q_iadd dL_cell_25 ?_
    refine q_istore_n (L' := [_, _, _]) dL_cell_26 rfl (by decide) rfl ?_
    refine q_iload_n dL_cell_27 rfl ?_
    refine q_iload_n dL_cell_28 rfl ?_
    refine q_bipush (v := nI 13) dL_cell_29 (by decide) ?_
    refine q_iushr dL_cell_31 ?_
    refine q_ixor dL_cell_32 ?_
    refine q_ldc dL_cell_33 kcL_8 ?_
    refine q_tv (show _ = nI 1103515245 from by decide) ?_
    refine q_imul dL_cell_35 ?_
    refine q_istore_n (L' := [_, _, _]) dL_cell_36 rfl (by decide) rfl ?_
    refine q_iload_n dL_cell_37 rfl ?_
    refine q_iload_n dL_cell_38 rfl ?_
    refine q_bipush (v := nI 16) dL_cell_39 (by decide) ?_
    refine q_iushr dL_cell_41 ?_
    refine q_ixor dL_cell_42 ?_
    refine q_iret dL_cell_43 rfl (Or.inl rfl) ?_
    exact ⟨_, rfl, rfl, _, rfl⟩
theorem g_L_in {Φ : q_Fx} {h : q_Hp} (K : q_Lk Φ h.R h.n) (hL : Φ.L ≤ 2048) {i n : Nat} (hi : i ≤ 1000) (hn : 1 ≤ n) (hn2 : n ≤ 100000) : q_Ct Φ false yL_in cL_in mL_in [.ref 0, .int (nI (i)), .int (nI (n))] h (q_ex (fun v h' => h' = h ∧ ∃ x : Nat, x < n ∧ v = some (.int (nI x)))) := by
  refine q_enter K.st rfl rfl (by decide) rfl (Nat.le_of_ble_eq_true rfl) (L := [_, _, _]) rfl ?_
  refine q_aload_n dL_in_0 rfl ?_
  refine q_iload_n dL_in_1 rfl ?_
  refine q_sR (kc := 0) (ks := 0) (g_L_cell (h := h) K hL (i := i) (by omega)) wL_cell kL_119 sL_cell (by decide) rfl rfl (Nat.le_of_ble_eq_true rfl) dL_in_2 rfl rfl ?_
  rintro v h' ⟨rfl, x9, rfl⟩
  refine q_ldc dL_in_5 kcL_125 ?_
  refine q_tv (show _ = nI 2147483647 from by decide) ?_
  refine q_iand dL_in_7 ?_
  obtain ⟨y9, hy9, ey9⟩ := pk_andE x9 (m := nI 2147483647) 31 (by decide)
  rw [ey9]
  refine q_iload_n dL_in_8 rfl ?_
  refine q_iremN (by omega) (by omega) (by omega) dL_in_9 ?_
  refine q_iret dL_in_10 rfl (Or.inl rfl) ?_
  exact ⟨_, rfl, rfl, _, Nat.mod_lt _ (by omega), rfl⟩
theorem g_L_copy {Φ : q_Fx} {h : q_Hp} (K : q_Lk Φ h.R h.n) {a : Nat} (hN : q_n9 h a) : q_Ct Φ false yL_copy cL_copy mL_copy [.ref a] h (q_ex (fun v h' => ∃ c g, 2000 ≤ c ∧ c % 4 = 0 ∧ c ∉ h.J ∧ v = some (.ref c) ∧ h' = (h.add c).rowI c g ∧ ∀ k, k < 900 → g k = h.I a k)) := by
  refine q_enter K.st rfl rfl (by decide) rfl (Nat.le_of_ble_eq_true rfl) (L := [_, none, none]) rfl ?_
  refine q_aload_n dL_copy_0 rfl ?_
  refine q_alenD hN.1 hN.t hN.l dL_copy_1 ?_
  refine q_newD (kc := 0) (ks := 0) dL_copy_2 rfl rfl (fun c9 c91 c92 c93 => ?_)
  have hac : a ≠ c9 := fun e9 => c93 (e9 ▸ hN.1)
  have hNa : q_n9 (h.add c9) a := ⟨List.mem_append_left _ hN.1, hN.2⟩
  refine q_astore_n (L' := [_, _, _]) dL_copy_4 rfl (by decide) rfl ?_
  refine q_iconst (v := nI 0) dL_copy_5 (by decide) ?_
  refine q_istore_n (L' := [_, _, _]) dL_copy_6 rfl (by decide) rfl ?_
  refine q_loop (ι := Nat) (μ := fun i => 900 - i) (P := fun i => i ≤ 900) (Lf := fun i => [some (.ref a), some (.ref c9), some (.int (nI (i)))]) (hf := fun i => ((h.add c9).rowI c9 (q_cpy (h.I a) (fun _ => nI 0) i))) (fun i hi7 ih7 => ?_) 0 (by omega) (q_sub_s rfl (q_sub_s rfl (q_sub_i rfl q_sub_0))) (by rw [q_cpy_0, show (fun _ => nI 0 : Nat → Int32) = (h.add c9).I c9 from (h.add_Is c9).symm, q_rid])
  skip
  refine q_iload_n dL_copy_7 rfl ?_
  refine q_aload_n dL_copy_8 rfl ?_
  refine q_alenD hNa.1 hNa.t hNa.l dL_copy_9 ?_
  refine q_icmp_geN (by omega) (by omega) (tgt := 25) dL_copy_10 rfl (fun c1 => ?_) (fun c2 => ?_)
  · refine q_aload_n dL_copy_25 rfl ?_
    refine q_aret dL_copy_26 rfl (Or.inr ⟨_, rfl⟩) (Or.inl rfl) ?_
    exact ⟨_, rfl, c9, _, c91, c92, c93, rfl, rfl, fun k hk => q_cpy_lt _ _ (by omega)⟩
  · refine q_aload_n dL_copy_13 rfl ?_
    refine q_iload_n dL_copy_14 rfl ?_
    refine q_aload_n dL_copy_15 rfl ?_
    refine q_iload_n dL_copy_16 rfl ?_
    refine q_ialdD (k := i) hNa.1 hNa.t hNa.l (by omega) (by decide) dL_copy_17 ?_
    refine q_tv (show _ = (h.I a (i)) from ((congrFun (q_rIn _ _ hac) _).trans (congrFun (h.add_I hac) _))) ?_
    refine q_iastD (k := i) (List.mem_append_right _ (List.mem_singleton_self _)) (q_t9 c91 c92) (q_l9 c91 c92) (by omega) (by decide) dL_copy_18 ?_
    refine q_iincN (n := 1) (L' := [_, _, _]) (by decide) dL_copy_19 rfl rfl (by decide) rfl ?_
    refine q_goto (tgt := 7) dL_copy_22 rfl ?_
    exact q_to (ih7 (i + 1) (by omega) (by omega)) (q_sub_s rfl (q_sub_s rfl (q_sub_i rfl q_sub_0))) (by rw [q_rset, q_cpy_s (h.I a) (fun _ => nI 0)])
theorem g_L_threshold {Φ : q_Fx} {h : q_Hp} (K : q_Lk Φ h.R h.n) {a : Nat} (hN : q_n9 h a) {m : q_W} {ρ : Nat → Nat} (R : q_nr (h.I a) m ρ) (B : q_bd m) (v : q_val m) (dd : q_dd m) {day : Nat} (hday : day ≤ 199) : q_Ct Φ false yL_threshold cL_threshold mL_threshold [.ref a, .int (nI (day))] h (q_is (some (.int (m.th (nI day)))) h) := by
  refine q_enter K.st rfl rfl (by decide) rfl (Nat.le_of_ble_eq_true rfl) (L := [_, _, none, none]) rfl ?_
  obtain ⟨bt, bn, bc, bpe, bpf, bpc, bpn⟩ := id B
  refine q_iload_n dL_threshold_0 rfl ?_
  refine q_istore_n (L' := [_, _, _, _]) dL_threshold_1 rfl (by decide) rfl ?_
  refine q_loop (ι := Nat) (μ := fun j => day + 1 - (day + 1 - j)) (P := fun j => j ≤ day + 1 ∧ ∀ u, u < m.n → ∀ e, j ≤ e → e ≤ day → m.d (ρ u) ≠ nI e) (Lf := fun j => [some (.ref a), some (.int (nI (day))), some (.int (nI j - nI 1)), none]) (hf := fun j => h) (fun j hi2 ih2 => ?_) (day + 1) (⟨Nat.le_refl _, fun u hu e h1 h2 => by omega⟩) (q_sub_s rfl (q_sub_i rfl (q_sub_i (by rw [pk_sub (by omega)]; rfl) (q_sub_n q_sub_0)))) rfl
  skip
  refine q_iload_n dL_threshold_2 rfl ?_
  refine q_if_lt (tgt := 48) dL_threshold_3 rfl (fun c1 => ?_) (fun c2 => ?_)
  · refine q_sipush (v := nI 200) dL_threshold_48 (by decide) ?_
    refine q_iret dL_threshold_51 rfl (Or.inl rfl) ?_
    exact q_isI (q_th_no v hday (fun u hu e h2 => by obtain ⟨w, w1, rfl⟩ := q_bij_sur _ _ R.bij u hu; have hj0 : j = 0 := (Nat.eq_zero_or_pos j).resolve_right (fun e8 => absurd (show nI j - nI 1 < 0 by assumption) (by rw [show nI j - nI 1 = nI (j - 1) from pk_sub (by omega)]; exact nI_pos (by omega))); exact hi2.2 w w1 e (by omega) h2)).symm rfl
  · have hj0 : 1 ≤ j := Nat.pos_of_ne_zero fun e9 => (by subst e9; exact absurd (show nI 0 - nI 1 < 0 by decide) (by assumption))
    obtain ⟨d, rfl⟩ : ∃ d, j = d + 1 := ⟨j - 1, by omega⟩
    rw [show nI (d + 1) - nI 1 = nI d from pk_sub (by omega)]
    refine q_iconst (v := nI 0) dL_threshold_6 (by decide) ?_
    refine q_istore_n (L' := [_, _, _, _]) dL_threshold_7 rfl (by decide) rfl ?_
    refine q_loop (ι := Nat) (μ := fun t => m.n - t) (P := fun t => t ≤ m.n ∧ ∀ u, u < t → m.d (ρ u) ≠ nI d) (Lf := fun t => [some (.ref a), some (.int (nI (day))), some (.int (nI (d))), some (.int (nI (t)))]) (hf := fun t => h) (fun t hi8 ih8 => ?_) 0 (⟨by omega, fun u hu => by omega⟩) (q_sub_s rfl (q_sub_i rfl (q_sub_i rfl (q_sub_i rfl q_sub_0)))) rfl
    skip
    refine q_iload_n dL_threshold_8 rfl ?_
    refine q_aload_n dL_threshold_9 rfl ?_
    refine q_iconst (v := nI 3) dL_threshold_10 (by decide) ?_
    refine q_ialdD (k := 3) hN.1 hN.t hN.l (by omega) (by decide) dL_threshold_11 ?_
    refine q_tv (show _ = (nI (m.n)) from R.n) ?_
    refine q_icmp_geN (by omega) (by omega) (tgt := 42) dL_threshold_12 rfl (fun c3 => ?_) (fun c4 => ?_)
    · refine q_iinc (v := nI (d) - nI 1) (L' := [_, _, _, _]) dL_threshold_42 rfl (q_pm1 _) rfl (by decide) rfl ?_
      refine q_goto (tgt := 2) dL_threshold_45 rfl ?_
      exact q_to (ih2 d (⟨by omega, fun u hu e h1 h2 => if e9 : e = d then (by rw [e9]; exact hi8.2 u (by omega)) else hi2.2 u hu e (by omega) h2⟩) (by omega)) (q_sub_s rfl (q_sub_i rfl (q_sub_i rfl (q_sub_n q_sub_0)))) rfl
    · refine q_aload_n dL_threshold_15 rfl ?_
      refine q_bipush (v := nI 40) dL_threshold_16 (by decide) ?_
      refine q_iconst (v := nI 2) dL_threshold_18 (by decide) ?_
      refine q_iload_n dL_threshold_19 rfl ?_
      refine q_imulN dL_threshold_20 ?_
      refine q_iaddN dL_threshold_21 ?_
      refine q_ialdD (k := (40) + ((2) * (t))) hN.1 hN.t hN.l (by omega) (by decide) dL_threshold_22 ?_
      refine q_tv (show _ = (m.d (ρ t)) from ((congrArg (h.I a) (show ((40) + ((2) * (t))) = 40 + 2 * t by omega)).trans (R.d (t := t) (by omega)))) ?_
      refine q_iload_n dL_threshold_23 rfl ?_
      refine q_icmp_ne (tgt := 36) dL_threshold_24 rfl (fun c5 => ?_) (fun c6 => ?_)
      · refine q_iincN (n := 1) (L' := [_, _, _, _]) (by decide) dL_threshold_36 rfl rfl (by decide) rfl ?_
        refine q_goto (tgt := 8) dL_threshold_39 rfl ?_
        exact q_to (ih8 (t + 1) (⟨by omega, fun u hu => if e9 : u = t then (by rw [e9]; assumption) else hi8.2 u (by omega)⟩) (by omega)) (q_sub_s rfl (q_sub_i rfl (q_sub_i rfl (q_sub_i rfl q_sub_0)))) rfl
      · refine q_aload_n dL_threshold_27 rfl ?_
        refine q_bipush (v := nI 41) dL_threshold_28 (by decide) ?_
        refine q_iconst (v := nI 2) dL_threshold_30 (by decide) ?_
        refine q_iload_n dL_threshold_31 rfl ?_
        refine q_imulN dL_threshold_32 ?_
        refine q_iaddN dL_threshold_33 ?_
        refine q_ialdD (k := (41) + ((2) * (t))) hN.1 hN.t hN.l (by omega) (by decide) dL_threshold_34 ?_
        refine q_tv (show _ = (m.v (ρ t)) from ((congrArg (h.I a) (show ((41) + ((2) * (t))) = 41 + 2 * t by omega)).trans (R.v (t := t) (by omega)))) ?_
        refine q_iret dL_threshold_35 rfl (Or.inl rfl) ?_
        exact q_isI (q_th_at v dd (d := d) (R.bij.1 t (by omega)) (by assumption) (by omega) hday (fun u hu e h1 h2 => by obtain ⟨w, w1, rfl⟩ := q_bij_sur _ _ R.bij u hu; exact hi2.2 w w1 e (by omega) h2)).symm rfl
theorem g_L_zone {Φ : q_Fx} {h : q_Hp} (K : q_Lk Φ h.R h.n) {a : Nat} (hN : q_n9 h a) {m : q_W} {ρ : Nat → Nat} (R : q_nr (h.I a) m ρ) (B : q_bd m) (v : q_val m) (dd : q_dd m) {day : Nat} (hday : day ≤ 199) {x : Int32} : q_Ct Φ false yL_zone cL_zone mL_zone [.ref a, .int (nI (day)), .int x] h (q_is (some (.int (nI (q_zn m.bd x (m.th (nI day)))))) h) := by
  refine q_enter K.st rfl rfl (by decide) rfl (Nat.le_of_ble_eq_true rfl) (L := [_, _, _, none]) rfl ?_
  obtain ⟨bt, bn, bc, bpe, bpf, bpc, bpn⟩ := id B
  refine q_iconst (v := nI 5) dL_zone_0 (by decide) ?_
  refine q_istore_n (L' := [_, _, _, _]) dL_zone_1 rfl (by decide) rfl ?_
  refine q_iload_n dL_zone_2 rfl ?_
  refine q_iconst (v := nI 1) dL_zone_3 (by decide) ?_
  refine q_icmp_le (tgt := 32) dL_zone_4 rfl (fun c => absurd c (by decide)) (fun _ => ?_)
  refine q_bipush (v := nI 100) dL_zone_7 (by decide) ?_
  refine q_iload_n dL_zone_9 rfl ?_
  refine q_imul dL_zone_10 ?_
  refine q_aload_n dL_zone_11 rfl ?_
  refine q_bipush (v := nI 20) dL_zone_12 (by decide) ?_
  refine q_iload_n dL_zone_14 rfl ?_
  refine q_iaddN dL_zone_15 ?_
  refine q_ialdD (k := (20) + (5)) hN.1 hN.t hN.l (by omega) (by decide) dL_zone_16 ?_
  refine q_tv (show _ = (m.bd 5) from ((congrArg (h.I a) (show ((20) + (5)) = 20 + 5 by omega)).trans (R.bd (z := 5) (by omega) (by omega)))) ?_
  refine q_aload_n dL_zone_17 rfl ?_
  refine q_iload_n dL_zone_18 rfl ?_
  refine q_sD (kc := 0) (ks := 0) (g_L_threshold (h := h) K hN R B v dd (day := day) (by omega)) wL_threshold kL_126 sL_threshold (by decide) rfl rfl (Nat.le_of_ble_eq_true rfl) dL_zone_19 rfl rfl ?_
  refine q_imul dL_zone_22 ?_
  refine q_icmp_ge (tgt := 32) dL_zone_23 rfl (fun c3 => ?_) (fun c4 => ?_)
  · refine q_iload_n dL_zone_32 rfl ?_
    refine q_iret dL_zone_33 rfl (Or.inl rfl) ?_
    exact q_isI (by unfold q_zn; repeat (first | rw [if_pos (by assumption)] | rw [if_pos (Int32.not_lt.mp (by assumption))] | rw [if_pos (Int32.not_le.mp (by assumption))] | rw [if_neg (by assumption)] | rw [if_neg (Int32.not_le.mpr (by assumption))] | rw [if_neg (Int32.not_lt.mpr (by assumption))])) rfl
  · refine q_iinc (v := nI 4) (L' := [_, _, _, _]) dL_zone_26 rfl (by decide) rfl (by decide) rfl ?_
    refine q_goto (tgt := 2) dL_zone_29 rfl ?_
    refine q_iload_n dL_zone_2 rfl ?_
    refine q_iconst (v := nI 1) dL_zone_3 (by decide) ?_
    refine q_icmp_le (tgt := 32) dL_zone_4 rfl (fun c => absurd c (by decide)) (fun _ => ?_)
    refine q_bipush (v := nI 100) dL_zone_7 (by decide) ?_
    refine q_iload_n dL_zone_9 rfl ?_
    refine q_imul dL_zone_10 ?_
    refine q_aload_n dL_zone_11 rfl ?_
    refine q_bipush (v := nI 20) dL_zone_12 (by decide) ?_
    refine q_iload_n dL_zone_14 rfl ?_
    refine q_iaddN dL_zone_15 ?_
    refine q_ialdD (k := (20) + (4)) hN.1 hN.t hN.l (by omega) (by decide) dL_zone_16 ?_
    refine q_tv (show _ = (m.bd 4) from ((congrArg (h.I a) (show ((20) + (4)) = 20 + 4 by omega)).trans (R.bd (z := 4) (by omega) (by omega)))) ?_
    refine q_aload_n dL_zone_17 rfl ?_
    refine q_iload_n dL_zone_18 rfl ?_
    refine q_sD (kc := 0) (ks := 0) (g_L_threshold (h := h) K hN R B v dd (day := day) (by omega)) wL_threshold kL_126 sL_threshold (by decide) rfl rfl (Nat.le_of_ble_eq_true rfl) dL_zone_19 rfl rfl ?_
    refine q_imul dL_zone_22 ?_
    refine q_icmp_ge (tgt := 32) dL_zone_23 rfl (fun c7 => ?_) (fun c8 => ?_)
    · refine q_iload_n dL_zone_32 rfl ?_
      refine q_iret dL_zone_33 rfl (Or.inl rfl) ?_
      exact q_isI (by unfold q_zn; repeat (first | rw [if_pos (by assumption)] | rw [if_pos (Int32.not_lt.mp (by assumption))] | rw [if_pos (Int32.not_le.mp (by assumption))] | rw [if_neg (by assumption)] | rw [if_neg (Int32.not_le.mpr (by assumption))] | rw [if_neg (Int32.not_lt.mpr (by assumption))])) rfl
    · refine q_iinc (v := nI 3) (L' := [_, _, _, _]) dL_zone_26 rfl (by decide) rfl (by decide) rfl ?_
      refine q_goto (tgt := 2) dL_zone_29 rfl ?_
      refine q_iload_n dL_zone_2 rfl ?_
      refine q_iconst (v := nI 1) dL_zone_3 (by decide) ?_
      refine q_icmp_le (tgt := 32) dL_zone_4 rfl (fun c => absurd c (by decide)) (fun _ => ?_)
      refine q_bipush (v := nI 100) dL_zone_7 (by decide) ?_
      refine q_iload_n dL_zone_9 rfl ?_
      refine q_imul dL_zone_10 ?_
      refine q_aload_n dL_zone_11 rfl ?_
      refine q_bipush (v := nI 20) dL_zone_12 (by decide) ?_
      refine q_iload_n dL_zone_14 rfl ?_
      refine q_iaddN dL_zone_15 ?_
      refine q_ialdD (k := (20) + (3)) hN.1 hN.t hN.l (by omega) (by decide) dL_zone_16 ?_
      refine q_tv (show _ = (m.bd 3) from ((congrArg (h.I a) (show ((20) + (3)) = 20 + 3 by omega)).trans (R.bd (z := 3) (by omega) (by omega)))) ?_
      refine q_aload_n dL_zone_17 rfl ?_
      refine q_iload_n dL_zone_18 rfl ?_
      refine q_sD (kc := 0) (ks := 0) (g_L_threshold (h := h) K hN R B v dd (day := day) (by omega)) wL_threshold kL_126 sL_threshold (by decide) rfl rfl (Nat.le_of_ble_eq_true rfl) dL_zone_19 rfl rfl ?_
      refine q_imul dL_zone_22 ?_
      refine q_icmp_ge (tgt := 32) dL_zone_23 rfl (fun c11 => ?_) (fun c12 => ?_)
      · refine q_iload_n dL_zone_32 rfl ?_
        refine q_iret dL_zone_33 rfl (Or.inl rfl) ?_
        exact q_isI (by unfold q_zn; repeat (first | rw [if_pos (by assumption)] | rw [if_pos (Int32.not_lt.mp (by assumption))] | rw [if_pos (Int32.not_le.mp (by assumption))] | rw [if_neg (by assumption)] | rw [if_neg (Int32.not_le.mpr (by assumption))] | rw [if_neg (Int32.not_lt.mpr (by assumption))])) rfl
      · refine q_iinc (v := nI 2) (L' := [_, _, _, _]) dL_zone_26 rfl (by decide) rfl (by decide) rfl ?_
        refine q_goto (tgt := 2) dL_zone_29 rfl ?_
        refine q_iload_n dL_zone_2 rfl ?_
        refine q_iconst (v := nI 1) dL_zone_3 (by decide) ?_
        refine q_icmp_le (tgt := 32) dL_zone_4 rfl (fun c => absurd c (by decide)) (fun _ => ?_)
        refine q_bipush (v := nI 100) dL_zone_7 (by decide) ?_
        refine q_iload_n dL_zone_9 rfl ?_
        refine q_imul dL_zone_10 ?_
        refine q_aload_n dL_zone_11 rfl ?_
        refine q_bipush (v := nI 20) dL_zone_12 (by decide) ?_
        refine q_iload_n dL_zone_14 rfl ?_
        refine q_iaddN dL_zone_15 ?_
        refine q_ialdD (k := (20) + (2)) hN.1 hN.t hN.l (by omega) (by decide) dL_zone_16 ?_
        refine q_tv (show _ = (m.bd 2) from ((congrArg (h.I a) (show ((20) + (2)) = 20 + 2 by omega)).trans (R.bd (z := 2) (by omega) (by omega)))) ?_
        refine q_aload_n dL_zone_17 rfl ?_
        refine q_iload_n dL_zone_18 rfl ?_
        refine q_sD (kc := 0) (ks := 0) (g_L_threshold (h := h) K hN R B v dd (day := day) (by omega)) wL_threshold kL_126 sL_threshold (by decide) rfl rfl (Nat.le_of_ble_eq_true rfl) dL_zone_19 rfl rfl ?_
        refine q_imul dL_zone_22 ?_
        refine q_icmp_ge (tgt := 32) dL_zone_23 rfl (fun c15 => ?_) (fun c16 => ?_)
        · refine q_iload_n dL_zone_32 rfl ?_
          refine q_iret dL_zone_33 rfl (Or.inl rfl) ?_
          exact q_isI (by unfold q_zn; repeat (first | rw [if_pos (by assumption)] | rw [if_pos (Int32.not_lt.mp (by assumption))] | rw [if_pos (Int32.not_le.mp (by assumption))] | rw [if_neg (by assumption)] | rw [if_neg (Int32.not_le.mpr (by assumption))] | rw [if_neg (Int32.not_lt.mpr (by assumption))])) rfl
        · refine q_iinc (v := nI 1) (L' := [_, _, _, _]) dL_zone_26 rfl (by decide) rfl (by decide) rfl ?_
          refine q_goto (tgt := 2) dL_zone_29 rfl ?_
          refine q_iload_n dL_zone_2 rfl ?_
          refine q_iconst (v := nI 1) dL_zone_3 (by decide) ?_
          refine q_icmp_le (tgt := 32) dL_zone_4 rfl (fun _ => ?_) (fun c => absurd (by decide) c)
          refine q_iload_n dL_zone_32 rfl ?_
          refine q_iret dL_zone_33 rfl (Or.inl rfl) ?_
          exact q_isI (by unfold q_zn; repeat (first | rw [if_pos (by assumption)] | rw [if_pos (Int32.not_lt.mp (by assumption))] | rw [if_pos (Int32.not_le.mp (by assumption))] | rw [if_neg (by assumption)] | rw [if_neg (Int32.not_le.mpr (by assumption))] | rw [if_neg (Int32.not_lt.mpr (by assumption))])) rfl
theorem g_L_minutes {Φ : q_Fx} {h : q_Hp} (K : q_Lk Φ h.R h.n) {a : Nat} (hN : q_n9 h a) {m : q_W} {ρ : Nat → Nat} (R : q_nr (h.I a) m ρ) (B : q_bd m) (v : q_val m) (dd : q_dd m) {k z : Nat} (hk : k < m.c) (hz : z ≤ 5) : q_Ct Φ false yL_minutes cL_minutes mL_minutes [.ref a, .int (nI (k)), .int (nI (z))] h (q_is (some (.int (q_ms m k z (m.pn k)))) h) := by
  refine q_enter K.st rfl rfl (by decide) rfl (Nat.le_of_ble_eq_true rfl) (L := [_, _, _, none, none, none, none]) rfl ?_
  obtain ⟨bt, bn, bc, bpe, bpf, bpc, bpn⟩ := id B
  have hp8 := bpn k hk
  refine q_bipush (v := nI 100) dL_minutes_0 (by decide) ?_
  refine q_bipush (v := nI 20) dL_minutes_2 (by decide) ?_
  refine q_iload_n dL_minutes_4 rfl ?_
  refine q_imulN dL_minutes_5 ?_
  refine q_iaddN dL_minutes_6 ?_
  refine q_istore_n (L' := [_, _, _, _, _, _, _]) dL_minutes_7 rfl (by decide) rfl ?_
  refine q_iconst (v := nI 0) dL_minutes_8 (by decide) ?_
  refine q_istore (L' := [_, _, _, _, _, _, _]) dL_minutes_9 rfl (by decide) rfl ?_
  refine q_iconst (v := nI 0) dL_minutes_11 (by decide) ?_
  refine q_istore (L' := [_, _, _, _, _, _, _]) dL_minutes_12 rfl (by decide) rfl ?_
  refine q_loop (ι := Nat) (μ := fun p => m.pn k - p) (P := fun p => p ≤ m.pn k) (Lf := fun p => [some (.ref a), some (.int (nI (k))), some (.int (nI (z))), some (.int (nI (100 + 20 * k))), some (.int (q_ms m k z p)), some (.int (nI (p))), none]) (hf := fun p => h) (fun p hi14 ih14 => ?_) 0 (by omega) (q_sub_s rfl (q_sub_i rfl (q_sub_i rfl (q_sub_i rfl (q_sub_i rfl (q_sub_i rfl (q_sub_n q_sub_0))))))) rfl
  skip
  refine q_iload dL_minutes_14 rfl ?_
  refine q_aload_n dL_minutes_16 rfl ?_
  refine q_iload_n dL_minutes_17 rfl ?_
  refine q_iconst (v := nI 2) dL_minutes_18 (by decide) ?_
  refine q_iaddN dL_minutes_19 ?_
  refine q_ialdD (k := (100 + 20 * k) + (2)) hN.1 hN.t hN.l (by omega) (by decide) dL_minutes_20 ?_
  refine q_tv (show _ = (nI (m.pn k)) from ((congrArg (h.I a) (show ((100 + 20 * k) + (2)) = 102 + 20 * k by omega)).trans (R.pn (k := k) (by omega)))) ?_
  refine q_icmp_geN (by omega) (by omega) (tgt := 85) dL_minutes_21 rfl (fun c1 => ?_) (fun c2 => ?_)
  · refine q_iload dL_minutes_85 rfl ?_
    refine q_iret dL_minutes_87 rfl (Or.inl rfl) ?_
    exact q_isI (by rw [show p = m.pn k by omega]) rfl
  · refine q_iload_n dL_minutes_24 rfl ?_
    refine q_if_eqN (by omega) (tgt := 50) dL_minutes_25 rfl (fun c3 => ?_) (fun c4 => ?_)
    · refine q_iconst (v := nI 1) dL_minutes_50 (by decide) ?_
      refine q_goto (tgt := 55) dL_minutes_51 rfl ?_
      refine q_istore (L' := [_, _, _, _, _, _, _]) dL_minutes_55 rfl (by decide) rfl ?_
      refine q_iload dL_minutes_57 rfl ?_
      refine q_iload dL_minutes_59 rfl ?_
      refine q_if_eq (tgt := 75) dL_minutes_61 rfl (fun c => absurd c (by decide)) (fun _ => ?_)
      refine q_aload_n dL_minutes_64 rfl ?_
      refine q_iload_n dL_minutes_65 rfl ?_
      refine q_iconst (v := nI 3) dL_minutes_66 (by decide) ?_
      refine q_iaddN dL_minutes_67 ?_
      refine q_iload dL_minutes_68 rfl ?_
      refine q_iaddN dL_minutes_70 ?_
      refine q_ialdD (k := ((100 + 20 * k) + (3)) + (p)) hN.1 hN.t hN.l (by omega) (by decide) dL_minutes_71 ?_
      refine q_tv (show _ = (m.mn k p) from ((congrArg (h.I a) (show (((100 + 20 * k) + (3)) + (p)) = 103 + 20 * k + p by omega)).trans (R.mn (k := k) (p := p) (by omega) (by omega)))) ?_
      refine q_goto (tgt := 76) dL_minutes_72 rfl ?_
      refine q_iadd dL_minutes_76 ?_
      refine q_istore (L' := [_, _, _, _, _, _, _]) dL_minutes_77 rfl (by decide) rfl ?_
      refine q_iincN (n := 1) (L' := [_, _, _, _, _, _, _]) (by decide) dL_minutes_79 rfl rfl (by decide) rfl ?_
      refine q_goto (tgt := 14) dL_minutes_82 rfl ?_
      exact q_to (ih14 (p + 1) (by omega) (by omega)) (q_sub_s rfl (q_sub_i rfl (q_sub_i rfl (q_sub_i rfl (q_sub_i (by rw [q_ms_s]; first | rw [if_pos (Or.inl (by omega))] | rw [if_pos (Or.inr (by assumption))] | rw [if_neg (by rintro (e9 | e9); exact absurd e9 (by omega); exact absurd e9 (by assumption))]) (q_sub_i rfl (q_sub_n q_sub_0))))))) rfl
    · refine q_aload_n dL_minutes_28 rfl ?_
      refine q_aload_n dL_minutes_29 rfl ?_
      refine q_iload_n dL_minutes_30 rfl ?_
      refine q_iconst (v := nI 1) dL_minutes_31 (by decide) ?_
      refine q_iaddN dL_minutes_32 ?_
      refine q_ialdD (k := (100 + 20 * k) + (1)) hN.1 hN.t hN.l (by omega) (by decide) dL_minutes_33 ?_
      refine q_tv (show _ = (nI (m.dy k)) from ((congrArg (h.I a) (show ((100 + 20 * k) + (1)) = 101 + 20 * k by omega)).trans (R.dy (k := k) (by omega)))) ?_
      refine q_aload_n dL_minutes_34 rfl ?_
      refine q_iload_n dL_minutes_35 rfl ?_
      refine q_bipush (v := nI 11) dL_minutes_36 (by decide) ?_
      refine q_iaddN dL_minutes_38 ?_
      refine q_iload dL_minutes_39 rfl ?_
      refine q_iaddN dL_minutes_41 ?_
      refine q_ialdD (k := ((100 + 20 * k) + (11)) + (p)) hN.1 hN.t hN.l (by omega) (by decide) dL_minutes_42 ?_
      refine q_tv (show _ = (m.it k p) from ((congrArg (h.I a) (show (((100 + 20 * k) + (11)) + (p)) = 111 + 20 * k + p by omega)).trans (R.it (k := k) (p := p) (by omega) (by omega)))) ?_
      refine q_sD (kc := 0) (ks := 0) (g_L_zone (h := h) K hN R B v dd (day := m.dy k) (by omega) (x := (m.it k p))) wL_zone kL_129 sL_zone (by decide) rfl rfl (Nat.le_of_ble_eq_true rfl) dL_minutes_43 rfl rfl ?_
      have hz43 := q_zn_le m.bd (m.it k p) (m.th (nI (m.dy k)))
      refine q_iload_n dL_minutes_46 rfl ?_
      refine q_icmp_neN (by omega) (by omega) (tgt := 54) dL_minutes_47 rfl (fun c7 => ?_) (fun c8 => ?_)
      · refine q_iconst (v := nI 0) dL_minutes_54 (by decide) ?_
        refine q_istore (L' := [_, _, _, _, _, _, _]) dL_minutes_55 rfl (by decide) rfl ?_
        refine q_iload dL_minutes_57 rfl ?_
        refine q_iload dL_minutes_59 rfl ?_
        refine q_if_eq (tgt := 75) dL_minutes_61 rfl (fun _ => ?_) (fun c => absurd (by decide) c)
        refine q_iconst (v := nI 0) dL_minutes_75 (by decide) ?_
        refine q_iadd dL_minutes_76 ?_
        refine q_istore (L' := [_, _, _, _, _, _, _]) dL_minutes_77 rfl (by decide) rfl ?_
        refine q_iincN (n := 1) (L' := [_, _, _, _, _, _, _]) (by decide) dL_minutes_79 rfl rfl (by decide) rfl ?_
        refine q_goto (tgt := 14) dL_minutes_82 rfl ?_
        exact q_to (ih14 (p + 1) (by omega) (by omega)) (q_sub_s rfl (q_sub_i rfl (q_sub_i rfl (q_sub_i rfl (q_sub_i (by rw [q_ms_s]; first | rw [if_pos (Or.inl (by omega))] | rw [if_pos (Or.inr (by assumption))] | rw [if_neg (by rintro (e9 | e9); exact absurd e9 (by omega); exact absurd e9 (by assumption))]) (q_sub_i rfl (q_sub_n q_sub_0))))))) rfl
      · refine q_iconst (v := nI 1) dL_minutes_50 (by decide) ?_
        refine q_goto (tgt := 55) dL_minutes_51 rfl ?_
        refine q_istore (L' := [_, _, _, _, _, _, _]) dL_minutes_55 rfl (by decide) rfl ?_
        refine q_iload dL_minutes_57 rfl ?_
        refine q_iload dL_minutes_59 rfl ?_
        refine q_if_eq (tgt := 75) dL_minutes_61 rfl (fun c => absurd c (by decide)) (fun _ => ?_)
        refine q_aload_n dL_minutes_64 rfl ?_
        refine q_iload_n dL_minutes_65 rfl ?_
        refine q_iconst (v := nI 3) dL_minutes_66 (by decide) ?_
        refine q_iaddN dL_minutes_67 ?_
        refine q_iload dL_minutes_68 rfl ?_
        refine q_iaddN dL_minutes_70 ?_
        refine q_ialdD (k := ((100 + 20 * k) + (3)) + (p)) hN.1 hN.t hN.l (by omega) (by decide) dL_minutes_71 ?_
        refine q_tv (show _ = (m.mn k p) from ((congrArg (h.I a) (show (((100 + 20 * k) + (3)) + (p)) = 103 + 20 * k + p by omega)).trans (R.mn (k := k) (p := p) (by omega) (by omega)))) ?_
        refine q_goto (tgt := 76) dL_minutes_72 rfl ?_
        refine q_iadd dL_minutes_76 ?_
        refine q_istore (L' := [_, _, _, _, _, _, _]) dL_minutes_77 rfl (by decide) rfl ?_
        refine q_iincN (n := 1) (L' := [_, _, _, _, _, _, _]) (by decide) dL_minutes_79 rfl rfl (by decide) rfl ?_
        refine q_goto (tgt := 14) dL_minutes_82 rfl ?_
        exact q_to (ih14 (p + 1) (by omega) (by omega)) (q_sub_s rfl (q_sub_i rfl (q_sub_i rfl (q_sub_i rfl (q_sub_i (by rw [q_ms_s]; first | rw [if_pos (Or.inl (by omega))] | rw [if_pos (Or.inr (by assumption))] | rw [if_neg (by rintro (e9 | e9); exact absurd e9 (by omega); exact absurd e9 (by assumption))]) (q_sub_i rfl (q_sub_n q_sub_0))))))) rfl
theorem g_L_load {Φ : q_Fx} {h : q_Hp} (K : q_Lk Φ h.R h.n) {a : Nat} (hN : q_n9 h a) {m : q_W} {ρ : Nat → Nat} (R : q_nr (h.I a) m ρ) (B : q_bd m) (v : q_val m) (dd : q_dd m) {k : Nat} (hk : k < m.c) : q_Ct Φ false yL_load cL_load mL_load [.ref a, .int (nI (k))] h (q_is (some (.int (m.ld k))) h) := by
  refine q_enter K.st rfl rfl (by decide) rfl (Nat.le_of_ble_eq_true rfl) (L := [_, _, none, none, none]) rfl ?_
  obtain ⟨bt, bn, bc, bpe, bpf, bpc, bpn⟩ := id B
  have hp8 := bpn k hk
  refine q_bipush (v := nI 100) dL_load_0 (by decide) ?_
  refine q_bipush (v := nI 20) dL_load_2 (by decide) ?_
  refine q_iload_n dL_load_4 rfl ?_
  refine q_imulN dL_load_5 ?_
  refine q_iaddN dL_load_6 ?_
  refine q_istore_n (L' := [_, _, _, _, _]) dL_load_7 rfl (by decide) rfl ?_
  refine q_iconst (v := nI 0) dL_load_8 (by decide) ?_
  refine q_istore_n (L' := [_, _, _, _, _]) dL_load_9 rfl (by decide) rfl ?_
  refine q_iconst (v := nI 0) dL_load_10 (by decide) ?_
  refine q_istore (L' := [_, _, _, _, _]) dL_load_11 rfl (by decide) rfl ?_
  refine q_loop (ι := Nat) (μ := fun p => m.pn k - p) (P := fun p => p ≤ m.pn k) (Lf := fun p => [some (.ref a), some (.int (nI (k))), some (.int (nI (100 + 20 * k))), some (.int (q_sum (fun p => m.mn k p * m.wt (m.z k p)) p)), some (.int (nI (p)))]) (hf := fun p => h) (fun p hi13 ih13 => ?_) 0 (by omega) (q_sub_s rfl (q_sub_i rfl (q_sub_i rfl (q_sub_i rfl (q_sub_i rfl q_sub_0))))) rfl
  skip
  refine q_iload dL_load_13 rfl ?_
  refine q_aload_n dL_load_15 rfl ?_
  refine q_iload_n dL_load_16 rfl ?_
  refine q_iconst (v := nI 2) dL_load_17 (by decide) ?_
  refine q_iaddN dL_load_18 ?_
  refine q_ialdD (k := (100 + 20 * k) + (2)) hN.1 hN.t hN.l (by omega) (by decide) dL_load_19 ?_
  refine q_tv (show _ = (nI (m.pn k)) from ((congrArg (h.I a) (show ((100 + 20 * k) + (2)) = 102 + 20 * k by omega)).trans (R.pn (k := k) (by omega)))) ?_
  refine q_icmp_geN (by omega) (by omega) (tgt := 64) dL_load_20 rfl (fun c1 => ?_) (fun c2 => ?_)
  · refine q_iload_n dL_load_64 rfl ?_
    refine q_iret dL_load_65 rfl (Or.inl rfl) ?_
    exact q_isI (by rw [show p = m.pn k by omega]; rfl) rfl
  · refine q_iload_n dL_load_23 rfl ?_
    refine q_aload_n dL_load_24 rfl ?_
    refine q_iload_n dL_load_25 rfl ?_
    refine q_iconst (v := nI 3) dL_load_26 (by decide) ?_
    refine q_iaddN dL_load_27 ?_
    refine q_iload dL_load_28 rfl ?_
    refine q_iaddN dL_load_30 ?_
    refine q_ialdD (k := ((100 + 20 * k) + (3)) + (p)) hN.1 hN.t hN.l (by omega) (by decide) dL_load_31 ?_
    refine q_tv (show _ = (m.mn k p) from ((congrArg (h.I a) (show (((100 + 20 * k) + (3)) + (p)) = 103 + 20 * k + p by omega)).trans (R.mn (k := k) (p := p) (by omega) (by omega)))) ?_
    refine q_aload_n dL_load_32 rfl ?_
    refine q_bipush (v := nI 30) dL_load_33 (by decide) ?_
    refine q_aload_n dL_load_35 rfl ?_
    refine q_aload_n dL_load_36 rfl ?_
    refine q_iload_n dL_load_37 rfl ?_
    refine q_iconst (v := nI 1) dL_load_38 (by decide) ?_
    refine q_iaddN dL_load_39 ?_
    refine q_ialdD (k := (100 + 20 * k) + (1)) hN.1 hN.t hN.l (by omega) (by decide) dL_load_40 ?_
    refine q_tv (show _ = (nI (m.dy k)) from ((congrArg (h.I a) (show ((100 + 20 * k) + (1)) = 101 + 20 * k by omega)).trans (R.dy (k := k) (by omega)))) ?_
    refine q_aload_n dL_load_41 rfl ?_
    refine q_iload_n dL_load_42 rfl ?_
    refine q_bipush (v := nI 11) dL_load_43 (by decide) ?_
    refine q_iaddN dL_load_45 ?_
    refine q_iload dL_load_46 rfl ?_
    refine q_iaddN dL_load_48 ?_
    refine q_ialdD (k := ((100 + 20 * k) + (11)) + (p)) hN.1 hN.t hN.l (by omega) (by decide) dL_load_49 ?_
    refine q_tv (show _ = (m.it k p) from ((congrArg (h.I a) (show (((100 + 20 * k) + (11)) + (p)) = 111 + 20 * k + p by omega)).trans (R.it (k := k) (p := p) (by omega) (by omega)))) ?_
    refine q_sD (kc := 0) (ks := 0) (g_L_zone (h := h) K hN R B v dd (day := m.dy k) (by omega) (x := (m.it k p))) wL_zone kL_129 sL_zone (by decide) rfl rfl (Nat.le_of_ble_eq_true rfl) dL_load_50 rfl rfl ?_
    have hz50 := q_zn_le m.bd (m.it k p) (m.th (nI (m.dy k)))
    refine q_iaddN dL_load_53 ?_
    refine q_ialdD (k := (30) + (q_zn m.bd (m.it k p) (m.th (nI (m.dy k))))) hN.1 hN.t hN.l (by omega) (by decide) dL_load_54 ?_
    refine q_tv (show _ = (m.wt (q_zn m.bd (m.it k p) (m.th (nI (m.dy k))))) from ((congrArg (h.I a) (show ((30) + (q_zn m.bd (m.it k p) (m.th (nI (m.dy k))))) = 30 + (q_zn m.bd (m.it k p) (m.th (nI (m.dy k)))) by omega)).trans (R.wt (z := (q_zn m.bd (m.it k p) (m.th (nI (m.dy k))))) (by omega) (by omega)))) ?_
    refine q_imul dL_load_55 ?_
    refine q_iadd dL_load_56 ?_
    refine q_istore_n (L' := [_, _, _, _, _]) dL_load_57 rfl (by decide) rfl ?_
    refine q_iincN (n := 1) (L' := [_, _, _, _, _]) (by decide) dL_load_58 rfl rfl (by decide) rfl ?_
    refine q_goto (tgt := 13) dL_load_61 rfl ?_
    exact q_to (ih13 (p + 1) (by omega) (by omega)) (q_sub_s rfl (q_sub_i rfl (q_sub_i rfl (q_sub_i rfl (q_sub_i rfl q_sub_0))))) rfl
theorem g_L_loadOf_ {Φ : q_Fx} {h : q_Hp} (K : q_Lk Φ h.R h.n) {a : Nat} (hN : q_n9 h a) {m : q_W} {ρ : Nat → Nat} (R : q_nr (h.I a) m ρ) (B : q_bd m) (v : q_val m) (dd : q_dd m) {d : Nat} (hd : d ≤ 300) : q_Ct Φ false yL_loadOf_ cL_loadOf_ mL_loadOf_ [.ref a, .int (nI (d))] h (q_is (some (.int (q_sum (fun i => if m.dy i = d then m.ld i else 0) m.c))) h) := by
  refine q_enter K.st rfl rfl (by decide) rfl (Nat.le_of_ble_eq_true rfl) (L := [_, _, none, none]) rfl ?_
  obtain ⟨bt, bn, bc, bpe, bpf, bpc, bpn⟩ := id B
  refine q_iconst (v := nI 0) dL_loadOf__0 (by decide) ?_
  refine q_istore_n (L' := [_, _, _, _]) dL_loadOf__1 rfl (by decide) rfl ?_
  refine q_iconst (v := nI 0) dL_loadOf__2 (by decide) ?_
  refine q_istore_n (L' := [_, _, _, _]) dL_loadOf__3 rfl (by decide) rfl ?_
  refine q_loop (ι := Nat) (μ := fun k => m.c - k) (P := fun k => k ≤ m.c) (Lf := fun k => [some (.ref a), some (.int (nI (d))), some (.int (q_sum (fun i => if m.dy i = d then m.ld i else 0) k)), some (.int (nI (k)))]) (hf := fun k => h) (fun k hi4 ih4 => ?_) 0 (by omega) (q_sub_s rfl (q_sub_i rfl (q_sub_i rfl (q_sub_i rfl q_sub_0)))) rfl
  skip
  have bpk := bpn k
  refine q_iload_n dL_loadOf__4 rfl ?_
  refine q_aload_n dL_loadOf__5 rfl ?_
  refine q_iconst (v := nI 2) dL_loadOf__6 (by decide) ?_
  refine q_ialdD (k := 2) hN.1 hN.t hN.l (by omega) (by decide) dL_loadOf__7 ?_
  refine q_tv (show _ = (nI (m.c)) from R.c) ?_
  refine q_icmp_geN (by omega) (by omega) (tgt := 42) dL_loadOf__8 rfl (fun c1 => ?_) (fun c2 => ?_)
  · refine q_iload_n dL_loadOf__42 rfl ?_
    refine q_iret dL_loadOf__43 rfl (Or.inl rfl) ?_
    exact q_isI (by rw [show k = m.c by omega]) rfl
  · refine q_iload_n dL_loadOf__11 rfl ?_
    refine q_aload_n dL_loadOf__12 rfl ?_
    refine q_bipush (v := nI 101) dL_loadOf__13 (by decide) ?_
    refine q_bipush (v := nI 20) dL_loadOf__15 (by decide) ?_
    refine q_iload_n dL_loadOf__17 rfl ?_
    refine q_imulN dL_loadOf__18 ?_
    refine q_iaddN dL_loadOf__19 ?_
    refine q_ialdD (k := (101) + ((20) * (k))) hN.1 hN.t hN.l (by omega) (by decide) dL_loadOf__20 ?_
    refine q_tv (show _ = (nI (m.dy k)) from ((congrArg (h.I a) (show ((101) + ((20) * (k))) = 101 + 20 * k by omega)).trans (R.dy (k := k) (by omega)))) ?_
    refine q_iload_n dL_loadOf__21 rfl ?_
    refine q_icmp_neN (by omega) (by omega) (tgt := 33) dL_loadOf__22 rfl (fun c3 => ?_) (fun c4 => ?_)
    · refine q_iconst (v := nI 0) dL_loadOf__33 (by decide) ?_
      refine q_iadd dL_loadOf__34 ?_
      refine q_istore_n (L' := [_, _, _, _]) dL_loadOf__35 rfl (by decide) rfl ?_
      refine q_iincN (n := 1) (L' := [_, _, _, _]) (by decide) dL_loadOf__36 rfl rfl (by decide) rfl ?_
      refine q_goto (tgt := 4) dL_loadOf__39 rfl ?_
      exact q_to (ih4 (k + 1) (by omega) (by omega)) (q_sub_s rfl (q_sub_i rfl (q_sub_i (by simp only [q_sum]; first | rw [if_pos (by assumption)] | (rw [if_neg (by assumption)]; rfl)) (q_sub_i rfl q_sub_0)))) rfl
    · refine q_aload_n dL_loadOf__25 rfl ?_
      refine q_iload_n dL_loadOf__26 rfl ?_
      refine q_sD (kc := 0) (ks := 0) (g_L_load (h := h) K hN R B v dd (k := k) (by omega)) wL_load kL_133 sL_load (by decide) rfl rfl (Nat.le_of_ble_eq_true rfl) dL_loadOf__27 rfl rfl ?_
      refine q_goto (tgt := 34) dL_loadOf__30 rfl ?_
      refine q_iadd dL_loadOf__34 ?_
      refine q_istore_n (L' := [_, _, _, _]) dL_loadOf__35 rfl (by decide) rfl ?_
      refine q_iincN (n := 1) (L' := [_, _, _, _]) (by decide) dL_loadOf__36 rfl rfl (by decide) rfl ?_
      refine q_goto (tgt := 4) dL_loadOf__39 rfl ?_
      exact q_to (ih4 (k + 1) (by omega) (by omega)) (q_sub_s rfl (q_sub_i rfl (q_sub_i (by simp only [q_sum]; first | rw [if_pos (by assumption)] | (rw [if_neg (by assumption)]; rfl)) (q_sub_i rfl q_sub_0)))) rfl
theorem g_L_place {Φ : q_Fx} {h : q_Hp} (K : q_Lk Φ h.R h.n) {a : Nat} (hN : q_n9 h a) {m : q_W} {ρ : Nat → Nat} (R : q_nr (h.I a) m ρ) (B : q_bd m) {x : Int32} : q_Ct Φ false yL_place cL_place mL_place [.ref a, .int x] h (q_is (some (.int (q_pl (fun k => decide (m.id k = x)) m.c))) h) := by
  refine q_enter K.st rfl rfl (by decide) rfl (Nat.le_of_ble_eq_true rfl) (L := [_, _, none]) rfl ?_
  obtain ⟨bt, bn, bc, bpe, bpf, bpc, bpn⟩ := id B
  refine q_aload_n dL_place_0 rfl ?_
  refine q_iconst (v := nI 2) dL_place_1 (by decide) ?_
  refine q_ialdD (k := 2) hN.1 hN.t hN.l (by omega) (by decide) dL_place_2 ?_
  refine q_tv (show _ = (nI (m.c)) from R.c) ?_
  refine q_iconst (v := nI 1) dL_place_3 (by decide) ?_
  refine q_isub dL_place_4 ?_
  refine q_istore_n (L' := [_, _, _]) dL_place_5 rfl (by decide) rfl ?_
  refine q_loop (ι := Nat) (μ := fun j => j) (P := fun j => j ≤ m.c ∧ q_pl (fun k => decide (m.id k = x)) m.c = q_pl (fun k => decide (m.id k = x)) j) (Lf := fun j => [some (.ref a), some (.int x), some (.int (nI j - nI 1))]) (hf := fun j => h) (fun j hi6 ih6 => ?_) m.c (⟨Nat.le_refl _, rfl⟩) (q_sub_s rfl (q_sub_i rfl (q_sub_i rfl q_sub_0))) rfl
  skip
  refine q_iload_n dL_place_6 rfl ?_
  refine q_if_lt (tgt := 29) dL_place_7 rfl (fun c1 => ?_) (fun c2 => ?_)
  · refine q_iload_n dL_place_29 rfl ?_
    refine q_iret dL_place_30 rfl (Or.inl rfl) ?_
    first | exact q_isI (by rw [hi6.2]; simp only [q_pl]; rw [if_pos (by simpa using (by assumption))]) rfl | exact q_isI (by rw [hi6.2]; have hj0 : j = 0 := (Nat.eq_zero_or_pos j).resolve_right (fun e8 => absurd (show nI j - nI 1 < 0 by assumption) (by rw [show nI j - nI 1 = nI (j - 1) from pk_sub (by omega)]; exact nI_pos (by omega))); subst hj0; rfl) rfl
  · have hj0 : 1 ≤ j := Nat.pos_of_ne_zero fun e9 => (by subst e9; exact absurd (show nI 0 - nI 1 < 0 by decide) (by assumption))
    obtain ⟨d, rfl⟩ : ∃ d, j = d + 1 := ⟨j - 1, by omega⟩
    rw [show nI (d + 1) - nI 1 = nI d from pk_sub (by omega)]
    refine q_aload_n dL_place_10 rfl ?_
    refine q_bipush (v := nI 100) dL_place_11 (by decide) ?_
    refine q_bipush (v := nI 20) dL_place_13 (by decide) ?_
    refine q_iload_n dL_place_15 rfl ?_
    refine q_imulN dL_place_16 ?_
    refine q_iaddN dL_place_17 ?_
    refine q_ialdD (k := (100) + ((20) * (d))) hN.1 hN.t hN.l (by omega) (by decide) dL_place_18 ?_
    refine q_tv (show _ = (m.id d) from ((congrArg (h.I a) (show ((100) + ((20) * (d))) = 100 + 20 * d by omega)).trans (R.id (k := d) (by omega)))) ?_
    refine q_iload_n dL_place_19 rfl ?_
    refine q_icmp_eq (tgt := 29) dL_place_20 rfl (fun c3 => ?_) (fun c4 => ?_)
    · refine q_iload_n dL_place_29 rfl ?_
      refine q_iret dL_place_30 rfl (Or.inl rfl) ?_
      first | exact q_isI (by rw [hi6.2]; simp only [q_pl]; rw [if_pos (by simpa using (by assumption))]) rfl | exact q_isI (by rw [hi6.2]; have hj0 : j = 0 := (Nat.eq_zero_or_pos j).resolve_right (fun e8 => absurd (show nI j - nI 1 < 0 by assumption) (by rw [show nI j - nI 1 = nI (j - 1) from pk_sub (by omega)]; exact nI_pos (by omega))); subst hj0; rfl) rfl
    · refine q_iinc (v := nI (d) - nI 1) (L' := [_, _, _]) dL_place_23 rfl (q_pm1 _) rfl (by decide) rfl ?_
      refine q_goto (tgt := 6) dL_place_26 rfl ?_
      exact q_to (ih6 d (⟨by omega, hi6.2.trans (by simp only [q_pl]; rw [if_neg (by simpa using (by assumption))])⟩) (by omega)) (q_sub_s rfl (q_sub_i rfl (q_sub_i rfl q_sub_0))) rfl
