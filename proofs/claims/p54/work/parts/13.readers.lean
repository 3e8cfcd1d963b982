/-! THE READERS OF THE CLASS -/
theorem g_X9_requireRange {Φ : q_Fx} {h : q_Hp} (K : q_Lk Φ h.R h.n) {v lo hi : Int32} : q_Ct Φ false yX9_requireRange cX9_requireRange mX9_requireRange [.int v, .int lo, .int hi] h (q_tk (¬ (lo ≤ v ∧ v ≤ hi)) "java/lang/IllegalArgumentException" h none h) := by
  refine q_enter K.st rfl rfl (by decide) rfl (Nat.le_of_ble_eq_true rfl) (L := [_, _, _]) rfl ?_
  refine q_iload_n dX9_requireRange_0 rfl ?_
  refine q_iload_n dX9_requireRange_1 rfl ?_
  refine q_icmp_lt (tgt := 10) dX9_requireRange_2 rfl (fun c1 => ?_) (fun c2 => ?_)
  · refine q_throwW (text := "an argument is out of range") tw_343_347 (by decide) rfl ?_ dX9_requireRange_10 dX9_requireRange_13 dX9_requireRange_14 dX9_requireRange_17 dX9_requireRange_20 (by decide) (by decide) (by decide) (by decide)
    exact Or.inl ⟨fun c => by first | exact absurd c.1 (Int32.not_le.mpr (by assumption)) | exact absurd c.2 (by assumption), rfl, rfl⟩
  · refine q_iload_n dX9_requireRange_5 rfl ?_
    refine q_iload_n dX9_requireRange_6 rfl ?_
    refine q_icmp_le (tgt := 21) dX9_requireRange_7 rfl (fun c3 => ?_) (fun c4 => ?_)
    · refine q_vret dX9_requireRange_21 rfl (Or.inl rfl) ?_
      exact Or.inr ⟨fun c => c ⟨Int32.not_lt.mp (by assumption), by assumption⟩, rfl, rfl⟩
    · refine q_throwW (text := "an argument is out of range") tw_343_347 (by decide) rfl ?_ dX9_requireRange_10 dX9_requireRange_13 dX9_requireRange_14 dX9_requireRange_17 dX9_requireRange_20 (by decide) (by decide) (by decide) (by decide)
      exact Or.inl ⟨fun c => by first | exact absurd c.1 (Int32.not_le.mpr (by assumption)) | exact absurd c.2 (by assumption), rfl, rfl⟩
theorem g_X6_thresholdInForce {Φ : q_Fx} {h : q_Hp} (K : q_Lk Φ h.R h.n) {W : q_W} (V : q_vw h W) {day : Int32} : q_Ct Φ false yX6_thresholdInForce cX6_thresholdInForce mX6_thresholdInForce [.ref 3, .int day] h (q_is (some (.int (W.th day))) h) := by
  refine q_enter K.st rfl rfl (by decide) rfl (Nat.le_of_ble_eq_true rfl) (L := [_, _, none, none, none]) rfl ?_
  have hn := V.n10
  refine q_sipush (v := nI 200) dX6_thresholdInForce_0 (by decide) ?_
  refine q_istore_n (L' := [_, _, _, _, _]) dX6_thresholdInForce_3 rfl (by decide) rfl ?_
  refine q_iconst (v := (-1)) dX6_thresholdInForce_4 (by decide) ?_
  refine q_istore_n (L' := [_, _, _, _, _]) dX6_thresholdInForce_5 rfl (by decide) rfl ?_
  refine q_iconst (v := nI 0) dX6_thresholdInForce_6 (by decide) ?_
  refine q_istore (L' := [_, _, _, _, _]) dX6_thresholdInForce_7 rfl (by decide) rfl ?_
  refine q_loop (ι := Nat) (μ := fun i => W.n - i) (P := fun i => i ≤ W.n) (Lf := fun i => [some (.ref 3), some (.int day), some (.int (q_thr W.d W.v day i).2), some (.int (q_thr W.d W.v day i).1), some (.int (nI (i)))]) (hf := fun i => h) (fun i hi9 ih9 => ?_) 0 (by omega) (q_sub_s rfl (q_sub_i rfl (q_sub_i rfl (q_sub_i rfl (q_sub_i rfl q_sub_0))))) rfl
  skip
  refine q_iload dX6_thresholdInForce_9 rfl ?_
  refine q_aload_n dX6_thresholdInForce_11 rfl ?_
  refine fIX6_18 dX6_thresholdInForce_12 rfl (by decide) (K.le (by decide)) ?_
  refine q_tv (show _ = (nI (W.n)) from V.n) ?_
  refine q_icmp_geN (by omega) (by omega) (tgt := 62) dX6_thresholdInForce_15 rfl (fun c1 => ?_) (fun c2 => ?_)
  · refine q_iload_n dX6_thresholdInForce_62 rfl ?_
    refine q_iret dX6_thresholdInForce_63 rfl (Or.inl rfl) ?_
    exact q_isI (by rw [show i = W.n by omega]; rfl) rfl
  · refine q_aload_n dX6_thresholdInForce_18 rfl ?_
    refine fRX6_9 (o := some 4) dX6_thresholdInForce_19 rfl (by decide) (K.le (by decide)) (K.lk rfl) ?_
    refine q_rfS ?_
    refine q_iload dX6_thresholdInForce_22 rfl ?_
    refine q_ialdN (len := 10) rfl dX6_thresholdInForce_24 (by decide) (K.le (by decide)) rfl (by omega) (by decide) ?_
    refine q_tv (show _ = (W.d (i)) from (congrFun V.d _)) ?_
    refine q_iload_n dX6_thresholdInForce_25 rfl ?_
    refine q_icmp_gt (tgt := 56) dX6_thresholdInForce_26 rfl (fun c3 => ?_) (fun c4 => ?_)
    · refine q_iincN (n := 1) (L' := [_, _, _, _, _]) (by decide) dX6_thresholdInForce_56 rfl rfl (by decide) rfl ?_
      refine q_goto (tgt := 9) dX6_thresholdInForce_59 rfl ?_
      exact q_to (ih9 (i + 1) (by omega) (by omega)) (q_sub_s rfl (q_sub_i rfl (q_sub_i (by simp only [q_thr]; split <;> first | rfl | (exfalso; simp only [Int32.lt_iff_toInt_lt, Int32.le_iff_toInt_le] at *; omega)) (q_sub_i (by simp only [q_thr]; split <;> first | rfl | (exfalso; simp only [Int32.lt_iff_toInt_lt, Int32.le_iff_toInt_le] at *; omega)) (q_sub_i rfl q_sub_0))))) rfl
    · refine q_aload_n dX6_thresholdInForce_29 rfl ?_
      refine fRX6_9 (o := some 4) dX6_thresholdInForce_30 rfl (by decide) (K.le (by decide)) (K.lk rfl) ?_
      refine q_rfS ?_
      refine q_iload dX6_thresholdInForce_33 rfl ?_
      refine q_ialdN (len := 10) rfl dX6_thresholdInForce_35 (by decide) (K.le (by decide)) rfl (by omega) (by decide) ?_
      refine q_tv (show _ = (W.d (i)) from (congrFun V.d _)) ?_
      refine q_iload_n dX6_thresholdInForce_36 rfl ?_
      refine q_icmp_le (tgt := 56) dX6_thresholdInForce_37 rfl (fun c5 => ?_) (fun c6 => ?_)
      · refine q_iincN (n := 1) (L' := [_, _, _, _, _]) (by decide) dX6_thresholdInForce_56 rfl rfl (by decide) rfl ?_
        refine q_goto (tgt := 9) dX6_thresholdInForce_59 rfl ?_
        exact q_to (ih9 (i + 1) (by omega) (by omega)) (q_sub_s rfl (q_sub_i rfl (q_sub_i (by simp only [q_thr]; split <;> first | rfl | (exfalso; simp only [Int32.lt_iff_toInt_lt, Int32.le_iff_toInt_le] at *; omega)) (q_sub_i (by simp only [q_thr]; split <;> first | rfl | (exfalso; simp only [Int32.lt_iff_toInt_lt, Int32.le_iff_toInt_le] at *; omega)) (q_sub_i rfl q_sub_0))))) rfl
      · refine q_aload_n dX6_thresholdInForce_40 rfl ?_
        refine fRX6_9 (o := some 4) dX6_thresholdInForce_41 rfl (by decide) (K.le (by decide)) (K.lk rfl) ?_
        refine q_rfS ?_
        refine q_iload dX6_thresholdInForce_44 rfl ?_
        refine q_ialdN (len := 10) rfl dX6_thresholdInForce_46 (by decide) (K.le (by decide)) rfl (by omega) (by decide) ?_
        refine q_tv (show _ = (W.d (i)) from (congrFun V.d _)) ?_
        refine q_istore_n (L' := [_, _, _, _, _]) dX6_thresholdInForce_47 rfl (by decide) rfl ?_
        refine q_aload_n dX6_thresholdInForce_48 rfl ?_
        refine fRX6_15 (o := some 5) dX6_thresholdInForce_49 rfl (by decide) (K.le (by decide)) (K.lk rfl) ?_
        refine q_rfS ?_
        refine q_iload dX6_thresholdInForce_52 rfl ?_
        refine q_ialdN (len := 10) rfl dX6_thresholdInForce_54 (by decide) (K.le (by decide)) rfl (by omega) (by decide) ?_
        refine q_tv (show _ = (W.v (i)) from (congrFun V.v _)) ?_
        refine q_istore_n (L' := [_, _, _, _, _]) dX6_thresholdInForce_55 rfl (by decide) rfl ?_
        refine q_iincN (n := 1) (L' := [_, _, _, _, _]) (by decide) dX6_thresholdInForce_56 rfl rfl (by decide) rfl ?_
        refine q_goto (tgt := 9) dX6_thresholdInForce_59 rfl ?_
        exact q_to (ih9 (i + 1) (by omega) (by omega)) (q_sub_s rfl (q_sub_i rfl (q_sub_i (by simp only [q_thr]; split <;> first | rfl | (exfalso; simp only [Int32.lt_iff_toInt_lt, Int32.le_iff_toInt_le] at *; omega)) (q_sub_i (by simp only [q_thr]; split <;> first | rfl | (exfalso; simp only [Int32.lt_iff_toInt_lt, Int32.le_iff_toInt_le] at *; omega)) (q_sub_i rfl q_sub_0))))) rfl
theorem g_X6_positionOn {Φ : q_Fx} {h : q_Hp} (K : q_Lk Φ h.R h.n) {W : q_W} (V : q_vw h W) {day : Int32} : q_Ct Φ false yX6_positionOn cX6_positionOn mX6_positionOn [.ref 3, .int day] h (q_is (some (.int (q_ps (fun i => decide (W.d i = day)) W.n))) h) := by
  refine q_enter K.st rfl rfl (by decide) rfl (Nat.le_of_ble_eq_true rfl) (L := [_, _, none]) rfl ?_
  have hn := V.n10
  refine q_iconst (v := nI 0) dX6_positionOn_0 (by decide) ?_
  refine q_istore_n (L' := [_, _, _]) dX6_positionOn_1 rfl (by decide) rfl ?_
  refine q_loop (ι := Nat) (μ := fun i => W.n - i) (P := fun i => i ≤ W.n ∧ ∀ j, j < i → decide (W.d j = day) = false) (Lf := fun i => [some (.ref 3), some (.int day), some (.int (nI (i)))]) (hf := fun i => h) (fun i hi2 ih2 => ?_) 0 (⟨by omega, fun j hj => absurd hj (Nat.not_lt_zero j)⟩) (q_sub_s rfl (q_sub_i rfl (q_sub_i rfl q_sub_0))) rfl
  skip
  obtain ⟨hi, hf⟩ := hi2
  refine q_iload_n dX6_positionOn_2 rfl ?_
  refine q_aload_n dX6_positionOn_3 rfl ?_
  refine fIX6_18 dX6_positionOn_4 rfl (by decide) (K.le (by decide)) ?_
  refine q_tv (show _ = (nI (W.n)) from V.n) ?_
  refine q_icmp_geN (by omega) (by omega) (tgt := 28) dX6_positionOn_7 rfl (fun c1 => ?_) (fun c2 => ?_)
  · refine q_iconst (v := (-1)) dX6_positionOn_28 (by decide) ?_
    refine q_iret dX6_positionOn_29 rfl (Or.inl rfl) ?_
    exact q_isI (q_ps_n fun j hj => hf j (by omega)).symm rfl
  · refine q_aload_n dX6_positionOn_10 rfl ?_
    refine fRX6_9 (o := some 4) dX6_positionOn_11 rfl (by decide) (K.le (by decide)) (K.lk rfl) ?_
    refine q_rfS ?_
    refine q_iload_n dX6_positionOn_14 rfl ?_
    refine q_ialdN (len := 10) rfl dX6_positionOn_15 (by decide) (K.le (by decide)) rfl (by omega) (by decide) ?_
    refine q_tv (show _ = (W.d (i)) from (congrFun V.d _)) ?_
    refine q_iload_n dX6_positionOn_16 rfl ?_
    refine q_icmp_ne (tgt := 22) dX6_positionOn_17 rfl (fun c3 => ?_) (fun c4 => ?_)
    · refine q_iincN (n := 1) (L' := [_, _, _]) (by decide) dX6_positionOn_22 rfl rfl (by decide) rfl ?_
      refine q_goto (tgt := 2) dX6_positionOn_25 rfl ?_
      exact q_to (ih2 (i + 1) (⟨by omega, q_ne_s hf (by simp [*])⟩) (by omega)) (q_sub_s rfl (q_sub_i rfl (q_sub_i rfl q_sub_0))) rfl
    · refine q_iload_n dX6_positionOn_20 rfl ?_
      refine q_iret dX6_positionOn_21 rfl (Or.inl rfl) ?_
      exact q_isI (q_ps_i (by omega) (by simp [*]) hf).symm rfl
theorem g_X8_zoneFor {Φ : q_Fx} {h : q_Hp} (K : q_Lk Φ h.R h.n) {W : q_W} (V : q_vw h W) {x t : Int32} : q_Ct Φ false yX8_zoneFor cX8_zoneFor mX8_zoneFor [.ref 6, .int x, .int t] h (q_is (some (.int (nI (q_zn W.bd x t)))) h) := by
  refine q_enter K.st rfl rfl (by decide) rfl (Nat.le_of_ble_eq_true rfl) (L := [_, _, _, none]) rfl ?_
  refine q_iconst (v := nI 5) dX8_zoneFor_0 (by decide) ?_
  refine q_istore_n (L' := [_, _, _, _]) dX8_zoneFor_1 rfl (by decide) rfl ?_
  refine q_iload_n dX8_zoneFor_2 rfl ?_
  refine q_iconst (v := nI 2) dX8_zoneFor_3 (by decide) ?_
  refine q_icmp_lt (tgt := 30) dX8_zoneFor_4 rfl (fun c => absurd c (by decide)) (fun _ => ?_)
  refine q_aload_n dX8_zoneFor_7 rfl ?_
  refine fRX8_18 (o := some 7) dX8_zoneFor_8 rfl (by decide) (K.le (by decide)) (K.lk rfl) ?_
  refine q_rfS ?_
  refine q_iload_n dX8_zoneFor_11 rfl ?_
  refine q_ialdN (len := 6) rfl dX8_zoneFor_12 (by decide) (K.le (by decide)) rfl (by omega) (by decide) ?_
  refine q_tv (show _ = (W.bd (5)) from (congrFun V.bd _)) ?_
  refine q_iload_n dX8_zoneFor_13 rfl ?_
  refine q_imul dX8_zoneFor_14 ?_
  refine q_bipush (v := nI 100) dX8_zoneFor_15 (by decide) ?_
  refine q_iload_n dX8_zoneFor_17 rfl ?_
  refine q_imul dX8_zoneFor_18 ?_
  refine q_icmp_gt (tgt := 24) dX8_zoneFor_19 rfl (fun c3 => ?_) (fun c4 => ?_)
  · refine q_iinc (v := nI 4) (L' := [_, _, _, _]) dX8_zoneFor_24 rfl (by decide) rfl (by decide) rfl ?_
    refine q_goto (tgt := 2) dX8_zoneFor_27 rfl ?_
    refine q_iload_n dX8_zoneFor_2 rfl ?_
    refine q_iconst (v := nI 2) dX8_zoneFor_3 (by decide) ?_
    refine q_icmp_lt (tgt := 30) dX8_zoneFor_4 rfl (fun c => absurd c (by decide)) (fun _ => ?_)
    refine q_aload_n dX8_zoneFor_7 rfl ?_
    refine fRX8_18 (o := some 7) dX8_zoneFor_8 rfl (by decide) (K.le (by decide)) (K.lk rfl) ?_
    refine q_rfS ?_
    refine q_iload_n dX8_zoneFor_11 rfl ?_
    refine q_ialdN (len := 6) rfl dX8_zoneFor_12 (by decide) (K.le (by decide)) rfl (by omega) (by decide) ?_
    refine q_tv (show _ = (W.bd (4)) from (congrFun V.bd _)) ?_
    refine q_iload_n dX8_zoneFor_13 rfl ?_
    refine q_imul dX8_zoneFor_14 ?_
    refine q_bipush (v := nI 100) dX8_zoneFor_15 (by decide) ?_
    refine q_iload_n dX8_zoneFor_17 rfl ?_
    refine q_imul dX8_zoneFor_18 ?_
    refine q_icmp_gt (tgt := 24) dX8_zoneFor_19 rfl (fun c7 => ?_) (fun c8 => ?_)
    · refine q_iinc (v := nI 3) (L' := [_, _, _, _]) dX8_zoneFor_24 rfl (by decide) rfl (by decide) rfl ?_
      refine q_goto (tgt := 2) dX8_zoneFor_27 rfl ?_
      refine q_iload_n dX8_zoneFor_2 rfl ?_
      refine q_iconst (v := nI 2) dX8_zoneFor_3 (by decide) ?_
      refine q_icmp_lt (tgt := 30) dX8_zoneFor_4 rfl (fun c => absurd c (by decide)) (fun _ => ?_)
      refine q_aload_n dX8_zoneFor_7 rfl ?_
      refine fRX8_18 (o := some 7) dX8_zoneFor_8 rfl (by decide) (K.le (by decide)) (K.lk rfl) ?_
      refine q_rfS ?_
      refine q_iload_n dX8_zoneFor_11 rfl ?_
      refine q_ialdN (len := 6) rfl dX8_zoneFor_12 (by decide) (K.le (by decide)) rfl (by omega) (by decide) ?_
      refine q_tv (show _ = (W.bd (3)) from (congrFun V.bd _)) ?_
      refine q_iload_n dX8_zoneFor_13 rfl ?_
      refine q_imul dX8_zoneFor_14 ?_
      refine q_bipush (v := nI 100) dX8_zoneFor_15 (by decide) ?_
      refine q_iload_n dX8_zoneFor_17 rfl ?_
      refine q_imul dX8_zoneFor_18 ?_
      refine q_icmp_gt (tgt := 24) dX8_zoneFor_19 rfl (fun c11 => ?_) (fun c12 => ?_)
      · refine q_iinc (v := nI 2) (L' := [_, _, _, _]) dX8_zoneFor_24 rfl (by decide) rfl (by decide) rfl ?_
        refine q_goto (tgt := 2) dX8_zoneFor_27 rfl ?_
        refine q_iload_n dX8_zoneFor_2 rfl ?_
        refine q_iconst (v := nI 2) dX8_zoneFor_3 (by decide) ?_
        refine q_icmp_lt (tgt := 30) dX8_zoneFor_4 rfl (fun c => absurd c (by decide)) (fun _ => ?_)
        refine q_aload_n dX8_zoneFor_7 rfl ?_
        refine fRX8_18 (o := some 7) dX8_zoneFor_8 rfl (by decide) (K.le (by decide)) (K.lk rfl) ?_
        refine q_rfS ?_
        refine q_iload_n dX8_zoneFor_11 rfl ?_
        refine q_ialdN (len := 6) rfl dX8_zoneFor_12 (by decide) (K.le (by decide)) rfl (by omega) (by decide) ?_
        refine q_tv (show _ = (W.bd (2)) from (congrFun V.bd _)) ?_
        refine q_iload_n dX8_zoneFor_13 rfl ?_
        refine q_imul dX8_zoneFor_14 ?_
        refine q_bipush (v := nI 100) dX8_zoneFor_15 (by decide) ?_
        refine q_iload_n dX8_zoneFor_17 rfl ?_
        refine q_imul dX8_zoneFor_18 ?_
        refine q_icmp_gt (tgt := 24) dX8_zoneFor_19 rfl (fun c15 => ?_) (fun c16 => ?_)
        · refine q_iinc (v := nI 1) (L' := [_, _, _, _]) dX8_zoneFor_24 rfl (by decide) rfl (by decide) rfl ?_
          refine q_goto (tgt := 2) dX8_zoneFor_27 rfl ?_
          refine q_iload_n dX8_zoneFor_2 rfl ?_
          refine q_iconst (v := nI 2) dX8_zoneFor_3 (by decide) ?_
          refine q_icmp_lt (tgt := 30) dX8_zoneFor_4 rfl (fun _ => ?_) (fun c => absurd (by decide) c)
          refine q_iconst (v := nI 1) dX8_zoneFor_30 (by decide) ?_
          refine q_iret dX8_zoneFor_31 rfl (Or.inl rfl) ?_
          exact q_isI (by unfold q_zn; repeat (first | rw [if_pos (by assumption)] | rw [if_pos (Int32.not_lt.mp (by assumption))] | rw [if_pos (Int32.not_le.mp (by assumption))] | rw [if_neg (by assumption)] | rw [if_neg (Int32.not_le.mpr (by assumption))] | rw [if_neg (Int32.not_lt.mpr (by assumption))])) rfl
        · refine q_iload_n dX8_zoneFor_22 rfl ?_
          refine q_iret dX8_zoneFor_23 rfl (Or.inl rfl) ?_
          exact q_isI (by unfold q_zn; repeat (first | rw [if_pos (by assumption)] | rw [if_pos (Int32.not_lt.mp (by assumption))] | rw [if_pos (Int32.not_le.mp (by assumption))] | rw [if_neg (by assumption)] | rw [if_neg (Int32.not_le.mpr (by assumption))] | rw [if_neg (Int32.not_lt.mpr (by assumption))])) rfl
      · refine q_iload_n dX8_zoneFor_22 rfl ?_
        refine q_iret dX8_zoneFor_23 rfl (Or.inl rfl) ?_
        exact q_isI (by unfold q_zn; repeat (first | rw [if_pos (by assumption)] | rw [if_pos (Int32.not_lt.mp (by assumption))] | rw [if_pos (Int32.not_le.mp (by assumption))] | rw [if_neg (by assumption)] | rw [if_neg (Int32.not_le.mpr (by assumption))] | rw [if_neg (Int32.not_lt.mpr (by assumption))])) rfl
    · refine q_iload_n dX8_zoneFor_22 rfl ?_
      refine q_iret dX8_zoneFor_23 rfl (Or.inl rfl) ?_
      exact q_isI (by unfold q_zn; repeat (first | rw [if_pos (by assumption)] | rw [if_pos (Int32.not_lt.mp (by assumption))] | rw [if_pos (Int32.not_le.mp (by assumption))] | rw [if_neg (by assumption)] | rw [if_neg (Int32.not_le.mpr (by assumption))] | rw [if_neg (Int32.not_lt.mpr (by assumption))])) rfl
  · refine q_iload_n dX8_zoneFor_22 rfl ?_
    refine q_iret dX8_zoneFor_23 rfl (Or.inl rfl) ?_
    exact q_isI (by unfold q_zn; repeat (first | rw [if_pos (by assumption)] | rw [if_pos (Int32.not_lt.mp (by assumption))] | rw [if_pos (Int32.not_le.mp (by assumption))] | rw [if_neg (by assumption)] | rw [if_neg (Int32.not_le.mpr (by assumption))] | rw [if_neg (Int32.not_lt.mpr (by assumption))])) rfl
theorem g_X8_boundsWouldIncrease {Φ : q_Fx} {h : q_Hp} (K : q_Lk Φ h.R h.n) {W : q_W} (V : q_vw h W) {z : Nat} {x : Int32} (hz : 2 ≤ z) (hz5 : z ≤ 5) : q_Ct Φ false yX8_boundsWouldIncrease cX8_boundsWouldIncrease mX8_boundsWouldIncrease [.ref 6, .int (nI (z)), .int x] h (q_is (some (.int (q_bl (decide ((z = 2 ∨ W.bd (z - 1) < x) ∧ (z = 5 ∨ x < W.bd (z + 1))))))) h) := by
  refine q_enter K.st rfl rfl (by decide) rfl (Nat.le_of_ble_eq_true rfl) (L := [_, _, _, none, none]) rfl ?_
  refine q_iload_n dX8_boundsWouldIncrease_0 rfl ?_
  refine q_iconst (v := nI 2) dX8_boundsWouldIncrease_1 (by decide) ?_
  refine q_icmp_eqN (by omega) (by omega) (tgt := 17) dX8_boundsWouldIncrease_2 rfl (fun c1 => ?_) (fun c2 => ?_)
  · refine q_iconst (v := nI 1) dX8_boundsWouldIncrease_17 (by decide) ?_
    refine q_goto (tgt := 22) dX8_boundsWouldIncrease_18 rfl ?_
    refine q_istore_n (L' := [_, _, _, _, _]) dX8_boundsWouldIncrease_22 rfl (by decide) rfl ?_
    refine q_iload_n dX8_boundsWouldIncrease_23 rfl ?_
    refine q_iconst (v := nI 5) dX8_boundsWouldIncrease_24 (by decide) ?_
    refine q_icmp_eqN (by omega) (by omega) (tgt := 40) dX8_boundsWouldIncrease_25 rfl (fun c3 => ?_) (fun c4 => ?_)
    · refine q_iconst (v := nI 1) dX8_boundsWouldIncrease_40 (by decide) ?_
      refine q_goto (tgt := 45) dX8_boundsWouldIncrease_41 rfl ?_
      refine q_istore (L' := [_, _, _, _, _]) dX8_boundsWouldIncrease_45 rfl (by decide) rfl ?_
      refine q_iload_n dX8_boundsWouldIncrease_47 rfl ?_
      refine q_if_eq (tgt := 60) dX8_boundsWouldIncrease_48 rfl (fun c => absurd c (by decide)) (fun _ => ?_)
      refine q_iload dX8_boundsWouldIncrease_51 rfl ?_
      refine q_if_eq (tgt := 60) dX8_boundsWouldIncrease_53 rfl (fun c => absurd c (by decide)) (fun _ => ?_)
      refine q_iconst (v := nI 1) dX8_boundsWouldIncrease_56 (by decide) ?_
      refine q_goto (tgt := 61) dX8_boundsWouldIncrease_57 rfl ?_
      refine q_zret (ty := .boolean) dX8_boundsWouldIncrease_61 rfl (by rfl) (Or.inl rfl) ?_
      exact q_isI (by simp only [q_bl]; split <;> first | rfl | (exfalso; simp only [decide_eq_true_eq, Int32.lt_iff_toInt_lt, Int32.le_iff_toInt_le] at *; omega)) rfl
    · refine q_iload_n dX8_boundsWouldIncrease_28 rfl ?_
      refine q_aload_n dX8_boundsWouldIncrease_29 rfl ?_
      refine fRX8_18 (o := some 7) dX8_boundsWouldIncrease_30 rfl (by decide) (K.le (by decide)) (K.lk rfl) ?_
      refine q_rfS ?_
      refine q_iload_n dX8_boundsWouldIncrease_33 rfl ?_
      refine q_iconst (v := nI 1) dX8_boundsWouldIncrease_34 (by decide) ?_
      refine q_iaddN dX8_boundsWouldIncrease_35 ?_
      refine q_ialdN (len := 6) rfl dX8_boundsWouldIncrease_36 (by decide) (K.le (by decide)) rfl (by omega) (by decide) ?_
      refine q_tv (show _ = (W.bd ((z) + (1))) from (congrFun V.bd _)) ?_
      refine q_icmp_ge (tgt := 44) dX8_boundsWouldIncrease_37 rfl (fun c9 => ?_) (fun c10 => ?_)
      · refine q_iconst (v := nI 0) dX8_boundsWouldIncrease_44 (by decide) ?_
        refine q_istore (L' := [_, _, _, _, _]) dX8_boundsWouldIncrease_45 rfl (by decide) rfl ?_
        refine q_iload_n dX8_boundsWouldIncrease_47 rfl ?_
        refine q_if_eq (tgt := 60) dX8_boundsWouldIncrease_48 rfl (fun c => absurd c (by decide)) (fun _ => ?_)
        refine q_iload dX8_boundsWouldIncrease_51 rfl ?_
        refine q_if_eq (tgt := 60) dX8_boundsWouldIncrease_53 rfl (fun _ => ?_) (fun c => absurd (by decide) c)
        refine q_iconst (v := nI 0) dX8_boundsWouldIncrease_60 (by decide) ?_
        refine q_zret (ty := .boolean) dX8_boundsWouldIncrease_61 rfl (by rfl) (Or.inl rfl) ?_
        exact q_isI (by simp only [q_bl]; split <;> first | rfl | (exfalso; simp only [decide_eq_true_eq, Int32.lt_iff_toInt_lt, Int32.le_iff_toInt_le] at *; omega)) rfl
      · refine q_iconst (v := nI 1) dX8_boundsWouldIncrease_40 (by decide) ?_
        refine q_goto (tgt := 45) dX8_boundsWouldIncrease_41 rfl ?_
        refine q_istore (L' := [_, _, _, _, _]) dX8_boundsWouldIncrease_45 rfl (by decide) rfl ?_
        refine q_iload_n dX8_boundsWouldIncrease_47 rfl ?_
        refine q_if_eq (tgt := 60) dX8_boundsWouldIncrease_48 rfl (fun c => absurd c (by decide)) (fun _ => ?_)
        refine q_iload dX8_boundsWouldIncrease_51 rfl ?_
        refine q_if_eq (tgt := 60) dX8_boundsWouldIncrease_53 rfl (fun c => absurd c (by decide)) (fun _ => ?_)
        refine q_iconst (v := nI 1) dX8_boundsWouldIncrease_56 (by decide) ?_
        refine q_goto (tgt := 61) dX8_boundsWouldIncrease_57 rfl ?_
        refine q_zret (ty := .boolean) dX8_boundsWouldIncrease_61 rfl (by rfl) (Or.inl rfl) ?_
        exact q_isI (by simp only [q_bl]; split <;> first | rfl | (exfalso; simp only [decide_eq_true_eq, Int32.lt_iff_toInt_lt, Int32.le_iff_toInt_le] at *; omega)) rfl
  · refine q_iload_n dX8_boundsWouldIncrease_5 rfl ?_
    refine q_aload_n dX8_boundsWouldIncrease_6 rfl ?_
    refine fRX8_18 (o := some 7) dX8_boundsWouldIncrease_7 rfl (by decide) (K.le (by decide)) (K.lk rfl) ?_
    refine q_rfS ?_
    refine q_iload_n dX8_boundsWouldIncrease_10 rfl ?_
    refine q_iconst (v := nI 1) dX8_boundsWouldIncrease_11 (by decide) ?_
    refine q_isubN (by omega) dX8_boundsWouldIncrease_12 ?_
    refine q_ialdN (len := 6) rfl dX8_boundsWouldIncrease_13 (by decide) (K.le (by decide)) rfl (by omega) (by decide) ?_
    refine q_tv (show _ = (W.bd ((z) - (1))) from (congrFun V.bd _)) ?_
    refine q_icmp_le (tgt := 21) dX8_boundsWouldIncrease_14 rfl (fun c19 => ?_) (fun c20 => ?_)
    · refine q_iconst (v := nI 0) dX8_boundsWouldIncrease_21 (by decide) ?_
      refine q_istore_n (L' := [_, _, _, _, _]) dX8_boundsWouldIncrease_22 rfl (by decide) rfl ?_
      refine q_iload_n dX8_boundsWouldIncrease_23 rfl ?_
      refine q_iconst (v := nI 5) dX8_boundsWouldIncrease_24 (by decide) ?_
      refine q_icmp_eqN (by omega) (by omega) (tgt := 40) dX8_boundsWouldIncrease_25 rfl (fun c21 => ?_) (fun c22 => ?_)
      · refine q_iconst (v := nI 1) dX8_boundsWouldIncrease_40 (by decide) ?_
        refine q_goto (tgt := 45) dX8_boundsWouldIncrease_41 rfl ?_
        refine q_istore (L' := [_, _, _, _, _]) dX8_boundsWouldIncrease_45 rfl (by decide) rfl ?_
        refine q_iload_n dX8_boundsWouldIncrease_47 rfl ?_
        refine q_if_eq (tgt := 60) dX8_boundsWouldIncrease_48 rfl (fun _ => ?_) (fun c => absurd (by decide) c)
        refine q_iconst (v := nI 0) dX8_boundsWouldIncrease_60 (by decide) ?_
        refine q_zret (ty := .boolean) dX8_boundsWouldIncrease_61 rfl (by rfl) (Or.inl rfl) ?_
        exact q_isI (by simp only [q_bl]; split <;> first | rfl | (exfalso; simp only [decide_eq_true_eq, Int32.lt_iff_toInt_lt, Int32.le_iff_toInt_le] at *; omega)) rfl
      · refine q_iload_n dX8_boundsWouldIncrease_28 rfl ?_
        refine q_aload_n dX8_boundsWouldIncrease_29 rfl ?_
        refine fRX8_18 (o := some 7) dX8_boundsWouldIncrease_30 rfl (by decide) (K.le (by decide)) (K.lk rfl) ?_
        refine q_rfS ?_
        refine q_iload_n dX8_boundsWouldIncrease_33 rfl ?_
        refine q_iconst (v := nI 1) dX8_boundsWouldIncrease_34 (by decide) ?_
        refine q_iaddN dX8_boundsWouldIncrease_35 ?_
        refine q_ialdN (len := 6) rfl dX8_boundsWouldIncrease_36 (by decide) (K.le (by decide)) rfl (by omega) (by decide) ?_
        refine q_tv (show _ = (W.bd ((z) + (1))) from (congrFun V.bd _)) ?_
        refine q_icmp_ge (tgt := 44) dX8_boundsWouldIncrease_37 rfl (fun c25 => ?_) (fun c26 => ?_)
        · refine q_iconst (v := nI 0) dX8_boundsWouldIncrease_44 (by decide) ?_
          refine q_istore (L' := [_, _, _, _, _]) dX8_boundsWouldIncrease_45 rfl (by decide) rfl ?_
          refine q_iload_n dX8_boundsWouldIncrease_47 rfl ?_
          refine q_if_eq (tgt := 60) dX8_boundsWouldIncrease_48 rfl (fun _ => ?_) (fun c => absurd (by decide) c)
          refine q_iconst (v := nI 0) dX8_boundsWouldIncrease_60 (by decide) ?_
          refine q_zret (ty := .boolean) dX8_boundsWouldIncrease_61 rfl (by rfl) (Or.inl rfl) ?_
          exact q_isI (by simp only [q_bl]; split <;> first | rfl | (exfalso; simp only [decide_eq_true_eq, Int32.lt_iff_toInt_lt, Int32.le_iff_toInt_le] at *; omega)) rfl
        · refine q_iconst (v := nI 1) dX8_boundsWouldIncrease_40 (by decide) ?_
          refine q_goto (tgt := 45) dX8_boundsWouldIncrease_41 rfl ?_
          refine q_istore (L' := [_, _, _, _, _]) dX8_boundsWouldIncrease_45 rfl (by decide) rfl ?_
          refine q_iload_n dX8_boundsWouldIncrease_47 rfl ?_
          refine q_if_eq (tgt := 60) dX8_boundsWouldIncrease_48 rfl (fun _ => ?_) (fun c => absurd (by decide) c)
          refine q_iconst (v := nI 0) dX8_boundsWouldIncrease_60 (by decide) ?_
          refine q_zret (ty := .boolean) dX8_boundsWouldIncrease_61 rfl (by rfl) (Or.inl rfl) ?_
          exact q_isI (by simp only [q_bl]; split <;> first | rfl | (exfalso; simp only [decide_eq_true_eq, Int32.lt_iff_toInt_lt, Int32.le_iff_toInt_le] at *; omega)) rfl
    · refine q_iconst (v := nI 1) dX8_boundsWouldIncrease_17 (by decide) ?_
      refine q_goto (tgt := 22) dX8_boundsWouldIncrease_18 rfl ?_
      refine q_istore_n (L' := [_, _, _, _, _]) dX8_boundsWouldIncrease_22 rfl (by decide) rfl ?_
      refine q_iload_n dX8_boundsWouldIncrease_23 rfl ?_
      refine q_iconst (v := nI 5) dX8_boundsWouldIncrease_24 (by decide) ?_
      refine q_icmp_eqN (by omega) (by omega) (tgt := 40) dX8_boundsWouldIncrease_25 rfl (fun c31 => ?_) (fun c32 => ?_)
      · refine q_iconst (v := nI 1) dX8_boundsWouldIncrease_40 (by decide) ?_
        refine q_goto (tgt := 45) dX8_boundsWouldIncrease_41 rfl ?_
        refine q_istore (L' := [_, _, _, _, _]) dX8_boundsWouldIncrease_45 rfl (by decide) rfl ?_
        refine q_iload_n dX8_boundsWouldIncrease_47 rfl ?_
        refine q_if_eq (tgt := 60) dX8_boundsWouldIncrease_48 rfl (fun c => absurd c (by decide)) (fun _ => ?_)
        refine q_iload dX8_boundsWouldIncrease_51 rfl ?_
        refine q_if_eq (tgt := 60) dX8_boundsWouldIncrease_53 rfl (fun c => absurd c (by decide)) (fun _ => ?_)
        refine q_iconst (v := nI 1) dX8_boundsWouldIncrease_56 (by decide) ?_
        refine q_goto (tgt := 61) dX8_boundsWouldIncrease_57 rfl ?_
        refine q_zret (ty := .boolean) dX8_boundsWouldIncrease_61 rfl (by rfl) (Or.inl rfl) ?_
        exact q_isI (by simp only [q_bl]; split <;> first | rfl | (exfalso; simp only [decide_eq_true_eq, Int32.lt_iff_toInt_lt, Int32.le_iff_toInt_le] at *; omega)) rfl
      · refine q_iload_n dX8_boundsWouldIncrease_28 rfl ?_
        refine q_aload_n dX8_boundsWouldIncrease_29 rfl ?_
        refine fRX8_18 (o := some 7) dX8_boundsWouldIncrease_30 rfl (by decide) (K.le (by decide)) (K.lk rfl) ?_
        refine q_rfS ?_
        refine q_iload_n dX8_boundsWouldIncrease_33 rfl ?_
        refine q_iconst (v := nI 1) dX8_boundsWouldIncrease_34 (by decide) ?_
        refine q_iaddN dX8_boundsWouldIncrease_35 ?_
        refine q_ialdN (len := 6) rfl dX8_boundsWouldIncrease_36 (by decide) (K.le (by decide)) rfl (by omega) (by decide) ?_
        refine q_tv (show _ = (W.bd ((z) + (1))) from (congrFun V.bd _)) ?_
        refine q_icmp_ge (tgt := 44) dX8_boundsWouldIncrease_37 rfl (fun c37 => ?_) (fun c38 => ?_)
        · refine q_iconst (v := nI 0) dX8_boundsWouldIncrease_44 (by decide) ?_
          refine q_istore (L' := [_, _, _, _, _]) dX8_boundsWouldIncrease_45 rfl (by decide) rfl ?_
          refine q_iload_n dX8_boundsWouldIncrease_47 rfl ?_
          refine q_if_eq (tgt := 60) dX8_boundsWouldIncrease_48 rfl (fun c => absurd c (by decide)) (fun _ => ?_)
          refine q_iload dX8_boundsWouldIncrease_51 rfl ?_
          refine q_if_eq (tgt := 60) dX8_boundsWouldIncrease_53 rfl (fun _ => ?_) (fun c => absurd (by decide) c)
          refine q_iconst (v := nI 0) dX8_boundsWouldIncrease_60 (by decide) ?_
          refine q_zret (ty := .boolean) dX8_boundsWouldIncrease_61 rfl (by rfl) (Or.inl rfl) ?_
          exact q_isI (by simp only [q_bl]; split <;> first | rfl | (exfalso; simp only [decide_eq_true_eq, Int32.lt_iff_toInt_lt, Int32.le_iff_toInt_le] at *; omega)) rfl
        · refine q_iconst (v := nI 1) dX8_boundsWouldIncrease_40 (by decide) ?_
          refine q_goto (tgt := 45) dX8_boundsWouldIncrease_41 rfl ?_
          refine q_istore (L' := [_, _, _, _, _]) dX8_boundsWouldIncrease_45 rfl (by decide) rfl ?_
          refine q_iload_n dX8_boundsWouldIncrease_47 rfl ?_
          refine q_if_eq (tgt := 60) dX8_boundsWouldIncrease_48 rfl (fun c => absurd c (by decide)) (fun _ => ?_)
          refine q_iload dX8_boundsWouldIncrease_51 rfl ?_
          refine q_if_eq (tgt := 60) dX8_boundsWouldIncrease_53 rfl (fun c => absurd c (by decide)) (fun _ => ?_)
          refine q_iconst (v := nI 1) dX8_boundsWouldIncrease_56 (by decide) ?_
          refine q_goto (tgt := 61) dX8_boundsWouldIncrease_57 rfl ?_
          refine q_zret (ty := .boolean) dX8_boundsWouldIncrease_61 rfl (by rfl) (Or.inl rfl) ?_
          exact q_isI (by simp only [q_bl]; split <;> first | rfl | (exfalso; simp only [decide_eq_true_eq, Int32.lt_iff_toInt_lt, Int32.le_iff_toInt_le] at *; omega)) rfl
theorem g_X3_length {Φ : q_Fx} {h : q_Hp} (K : q_Lk Φ h.R h.n) {W : q_W} (V : q_vw h W) {s : Nat} (hs : s < 40) : q_Ct Φ false yX3_length cX3_length mX3_length [.ref (11 + 3 * s)] h (q_is (some (.int (W.len s))) h) := by
  refine q_enter K.st rfl rfl (by decide) rfl (Nat.le_of_ble_eq_true rfl) (L := [_, none, none]) rfl ?_
  have hp := V.pn8 hs
  refine q_iconst (v := nI 0) dX3_length_0 (by decide) ?_
  refine q_istore_n (L' := [_, _, _]) dX3_length_1 rfl (by decide) rfl ?_
  refine q_iconst (v := nI 0) dX3_length_2 (by decide) ?_
  refine q_istore_n (L' := [_, _, _]) dX3_length_3 rfl (by decide) rfl ?_
  refine q_loop (ι := Nat) (μ := fun i => W.pn s - i) (P := fun i => i ≤ W.pn s) (Lf := fun i => [some (.ref (11 + 3 * s)), some (.int (q_sum (W.mn s) i)), some (.int (nI (i)))]) (hf := fun i => h) (fun i hi4 ih4 => ?_) 0 (by omega) (q_sub_s rfl (q_sub_i rfl (q_sub_i rfl q_sub_0))) rfl
  skip
  refine q_iload_n dX3_length_4 rfl ?_
  refine q_aload_n dX3_length_5 rfl ?_
  refine fIX3_18 dX3_length_6 (q_ts hs) (by omega) (K.le (q_bs hs)) ?_
  refine q_tv (show _ = (nI (W.pn s)) from (V.pn hs)) ?_
  refine q_icmp_geN (by omega) (by omega) (tgt := 27) dX3_length_9 rfl (fun c1 => ?_) (fun c2 => ?_)
  · refine q_iload_n dX3_length_27 rfl ?_
    refine q_iret dX3_length_28 rfl (Or.inl rfl) ?_
    exact q_isI (by rw [show i = W.pn s by omega]; rfl) rfl
  · refine q_iload_n dX3_length_12 rfl ?_
    refine q_aload_n dX3_length_13 rfl ?_
    refine fRX3_21 (o := some (12 + 3 * s)) dX3_length_14 (q_ts hs) (by omega) (K.le (q_bs hs)) (K.lk (q_lks3 hs)) ?_
    refine q_rfS ?_
    refine q_iload_n dX3_length_17 rfl ?_
    refine q_ialdN (len := 8) (q_ts1 hs) dX3_length_18 (by omega) (K.le (q_bs1 hs)) (q_ls1 hs) (by omega) (by decide) ?_
    refine q_tv (show _ = (W.mn s (i)) from (congrFun (V.mn hs) _)) ?_
    refine q_iadd dX3_length_19 ?_
    refine q_istore_n (L' := [_, _, _]) dX3_length_20 rfl (by decide) rfl ?_
    refine q_iincN (n := 1) (L' := [_, _, _]) (by decide) dX3_length_21 rfl rfl (by decide) rfl ?_
    refine q_goto (tgt := 4) dX3_length_24 rfl ?_
    exact q_to (ih4 (i + 1) (by omega) (by omega)) (q_sub_s rfl (q_sub_i rfl (q_sub_i rfl q_sub_0))) rfl
theorem g_X3_comesBefore {Φ : q_Fx} {h : q_Hp} (K : q_Lk Φ h.R h.n) {W : q_W} (V : q_vw h W) {s r : Nat} (hs : s < 40) (hr : r < 40) : q_Ct Φ false yX3_comesBefore cX3_comesBefore mX3_comesBefore [.ref (11 + 3 * s), .ref (11 + 3 * r)] h (q_is (some (.int (q_bl (decide (W.dy s < W.dy r ∨ (W.dy s = W.dy r ∧ W.id s < W.id r)))))) h) := by
  refine q_enter K.st rfl rfl (by decide) rfl (Nat.le_of_ble_eq_true rfl) (L := [_, _]) rfl ?_
  have hp := V.dy9 hs
  have hp2 := V.dy9 hr
  refine q_aload_n dX3_comesBefore_0 rfl ?_
  refine fIX3_15 dX3_comesBefore_1 (q_ts hs) (by omega) (K.le (q_bs hs)) ?_
  refine q_tv (show _ = (nI (W.dy s)) from (V.dy hs)) ?_
  refine q_aload_n dX3_comesBefore_4 rfl ?_
  refine fIX3_15 dX3_comesBefore_5 (q_ts hr) (by omega) (K.le (q_bs hr)) ?_
  refine q_tv (show _ = (nI (W.dy r)) from (V.dy hr)) ?_
  refine q_icmp_ltN (by omega) (by omega) (tgt := 33) dX3_comesBefore_8 rfl (fun c1 => ?_) (fun c2 => ?_)
  · refine q_iconst (v := nI 1) dX3_comesBefore_33 (by decide) ?_
    refine q_goto (tgt := 38) dX3_comesBefore_34 rfl ?_
    refine q_zret (ty := .boolean) dX3_comesBefore_38 rfl rfl (Or.inl rfl) ?_
    exact q_isI (by simp only [q_bl]; split <;> first | rfl | (exfalso; simp only [decide_eq_true_eq, Int32.lt_iff_toInt_lt, Int32.le_iff_toInt_le] at *; omega)) rfl
  · refine q_aload_n dX3_comesBefore_11 rfl ?_
    refine fIX3_15 dX3_comesBefore_12 (q_ts hs) (by omega) (K.le (q_bs hs)) ?_
    refine q_tv (show _ = (nI (W.dy s)) from (V.dy hs)) ?_
    refine q_aload_n dX3_comesBefore_15 rfl ?_
    refine fIX3_15 dX3_comesBefore_16 (q_ts hr) (by omega) (K.le (q_bs hr)) ?_
    refine q_tv (show _ = (nI (W.dy r)) from (V.dy hr)) ?_
    refine q_icmp_neN (by omega) (by omega) (tgt := 37) dX3_comesBefore_19 rfl (fun c3 => ?_) (fun c4 => ?_)
    · refine q_iconst (v := nI 0) dX3_comesBefore_37 (by decide) ?_
      refine q_zret (ty := .boolean) dX3_comesBefore_38 rfl rfl (Or.inl rfl) ?_
      exact q_isI (by simp only [q_bl]; split <;> first | rfl | (exfalso; simp only [decide_eq_true_eq, Int32.lt_iff_toInt_lt, Int32.le_iff_toInt_le] at *; omega)) rfl
    · refine q_aload_n dX3_comesBefore_22 rfl ?_
      refine fIX3_9 dX3_comesBefore_23 (q_ts hs) (by omega) (K.le (q_bs hs)) ?_
      refine q_tv (show _ = (W.id s) from (V.id hs)) ?_
      refine q_aload_n dX3_comesBefore_26 rfl ?_
      refine fIX3_9 dX3_comesBefore_27 (q_ts hr) (by omega) (K.le (q_bs hr)) ?_
      refine q_tv (show _ = (W.id r) from (V.id hr)) ?_
      refine q_icmp_ge (tgt := 37) dX3_comesBefore_30 rfl (fun c5 => ?_) (fun c6 => ?_)
      · refine q_iconst (v := nI 0) dX3_comesBefore_37 (by decide) ?_
        refine q_zret (ty := .boolean) dX3_comesBefore_38 rfl rfl (Or.inl rfl) ?_
        exact q_isI (by simp only [q_bl]; split <;> first | rfl | (exfalso; simp only [decide_eq_true_eq, Int32.lt_iff_toInt_lt, Int32.le_iff_toInt_le] at *; omega)) rfl
      · refine q_iconst (v := nI 1) dX3_comesBefore_33 (by decide) ?_
        refine q_goto (tgt := 38) dX3_comesBefore_34 rfl ?_
        refine q_zret (ty := .boolean) dX3_comesBefore_38 rfl rfl (Or.inl rfl) ?_
        exact q_isI (by simp only [q_bl]; split <;> first | rfl | (exfalso; simp only [decide_eq_true_eq, Int32.lt_iff_toInt_lt, Int32.le_iff_toInt_le] at *; omega)) rfl
theorem g_X4_positionWithId {Φ : q_Fx} {h : q_Hp} (K : q_Lk Φ h.R h.n) {W : q_W} (V : q_vw h W) {x : Int32} : q_Ct Φ false yX4_positionWithId cX4_positionWithId mX4_positionWithId [.ref 9, .int x] h (q_is (some (.int (q_ps (fun i => decide (W.id (W.σ i) = x)) W.c))) h) := by
  refine q_enter K.st rfl rfl (by decide) rfl (Nat.le_of_ble_eq_true rfl) (L := [_, _, none]) rfl ?_
  have hc := V.c40
  refine q_iconst (v := nI 0) dX4_positionWithId_0 (by decide) ?_
  refine q_istore_n (L' := [_, _, _]) dX4_positionWithId_1 rfl (by decide) rfl ?_
  refine q_loop (ι := Nat) (μ := fun i => W.c - i) (P := fun i => i ≤ W.c ∧ ∀ j, j < i → decide (W.id (W.σ j) = x) = false) (Lf := fun i => [some (.ref 9), some (.int x), some (.int (nI (i)))]) (hf := fun i => h) (fun i hi2 ih2 => ?_) 0 (⟨by omega, fun j hj => absurd hj (Nat.not_lt_zero j)⟩) (q_sub_s rfl (q_sub_i rfl (q_sub_i rfl q_sub_0))) rfl
  skip
  obtain ⟨hi, hf⟩ := hi2
  refine q_iload_n dX4_positionWithId_2 rfl ?_
  refine q_aload_n dX4_positionWithId_3 rfl ?_
  refine fIX4_17 dX4_positionWithId_4 rfl (by decide) (K.le (by decide)) ?_
  refine q_tv (show _ = (nI (W.c)) from V.c) ?_
  refine q_icmp_geN (by omega) (by omega) (tgt := 31) dX4_positionWithId_7 rfl (fun c1 => ?_) (fun c2 => ?_)
  · refine q_iconst (v := (-1)) dX4_positionWithId_31 (by decide) ?_
    refine q_iret dX4_positionWithId_32 rfl (Or.inl rfl) ?_
    exact q_isI (q_ps_n fun j hj => hf j (by omega)).symm rfl
  · refine q_aload_n dX4_positionWithId_10 rfl ?_
    refine fRX4_11 (o := some 10) dX4_positionWithId_11 rfl (by decide) (K.le (by decide)) (K.lk rfl) ?_
    refine q_rfS ?_
    refine q_iload_n dX4_positionWithId_14 rfl ?_
    refine q_aaldN (len := 40) (o := some (11 + 3 * W.σ (i))) (by decide) (by decide) dX4_positionWithId_15 (by decide) (K.le (by decide)) rfl (by omega) (by decide) (V.sg (by omega)) ?_
    refine q_rfS ?_
    refine fIX4_29 dX4_positionWithId_16 (q_ts (V.s40 (i := (i)) (by omega))) (by omega) (K.le (q_bs (V.s40 (i := (i)) (by omega)))) ?_
    refine q_tv (show _ = (W.id (W.σ (i))) from (V.id (V.s40 (i := (i)) (by omega)))) ?_
    refine q_iload_n dX4_positionWithId_19 rfl ?_
    refine q_icmp_ne (tgt := 25) dX4_positionWithId_20 rfl (fun c3 => ?_) (fun c4 => ?_)
    · refine q_iincN (n := 1) (L' := [_, _, _]) (by decide) dX4_positionWithId_25 rfl rfl (by decide) rfl ?_
      refine q_goto (tgt := 2) dX4_positionWithId_28 rfl ?_
      exact q_to (ih2 (i + 1) (⟨by omega, q_ne_s hf (by simp [*])⟩) (by omega)) (q_sub_s rfl (q_sub_i rfl (q_sub_i rfl q_sub_0))) rfl
    · refine q_iload_n dX4_positionWithId_23 rfl ?_
      refine q_iret dX4_positionWithId_24 rfl (Or.inl rfl) ?_
      exact q_isI (q_ps_i (by omega) (by simp [*]) hf).symm rfl
theorem g_X4_anyOn {Φ : q_Fx} {h : q_Hp} (K : q_Lk Φ h.R h.n) {W : q_W} (V : q_vw h W) {x : Nat} (hx : x < 2 ^ 31) : q_Ct Φ false yX4_anyOn cX4_anyOn mX4_anyOn [.ref 9, .int (nI (x))] h (q_is (some (.int (q_bl (q_any (fun i => decide (W.dy (W.σ i) = x)) W.c)))) h) := by
  refine q_enter K.st rfl rfl (by decide) rfl (Nat.le_of_ble_eq_true rfl) (L := [_, _, none]) rfl ?_
  have hc := V.c40
  refine q_iconst (v := nI 0) dX4_anyOn_0 (by decide) ?_
  refine q_istore_n (L' := [_, _, _]) dX4_anyOn_1 rfl (by decide) rfl ?_
  refine q_loop (ι := Nat) (μ := fun i => W.c - i) (P := fun i => i ≤ W.c ∧ ∀ j, j < i → decide (W.dy (W.σ j) = x) = false) (Lf := fun i => [some (.ref 9), some (.int (nI (x))), some (.int (nI (i)))]) (hf := fun i => h) (fun i hi2 ih2 => ?_) 0 (⟨by omega, fun j hj => absurd hj (Nat.not_lt_zero j)⟩) (q_sub_s rfl (q_sub_i rfl (q_sub_i rfl q_sub_0))) rfl
  skip
  obtain ⟨hi, hf⟩ := hi2
  refine q_iload_n dX4_anyOn_2 rfl ?_
  refine q_aload_n dX4_anyOn_3 rfl ?_
  refine fIX4_17 dX4_anyOn_4 rfl (by decide) (K.le (by decide)) ?_
  refine q_tv (show _ = (nI (W.c)) from V.c) ?_
  refine q_icmp_geN (by omega) (by omega) (tgt := 31) dX4_anyOn_7 rfl (fun c1 => ?_) (fun c2 => ?_)
  · refine q_iconst (v := nI 0) dX4_anyOn_31 (by decide) ?_
    refine q_zret (ty := .boolean) dX4_anyOn_32 rfl rfl (Or.inl rfl) ?_
    exact q_isI (by rw [q_any_n fun j hj => hf j (by omega)]; rfl) rfl
  · refine q_aload_n dX4_anyOn_10 rfl ?_
    refine fRX4_11 (o := some 10) dX4_anyOn_11 rfl (by decide) (K.le (by decide)) (K.lk rfl) ?_
    refine q_rfS ?_
    refine q_iload_n dX4_anyOn_14 rfl ?_
    refine q_aaldN (len := 40) (o := some (11 + 3 * W.σ (i))) (by decide) (by decide) dX4_anyOn_15 (by decide) (K.le (by decide)) rfl (by omega) (by decide) (V.sg (by omega)) ?_
    refine q_rfS ?_
    refine fIX4_32 dX4_anyOn_16 (q_ts (V.s40 (i := (i)) (by omega))) (by omega) (K.le (q_bs (V.s40 (i := (i)) (by omega)))) ?_
    refine q_tv (show _ = (nI (W.dy (W.σ (i)))) from (V.dy (V.s40 (i := (i)) (by omega)))) ?_
    refine q_iload_n dX4_anyOn_19 rfl ?_
    have hd := V.dy9 (V.s40 (i := i) (by omega))
    refine q_icmp_neN (by omega) (by omega) (tgt := 25) dX4_anyOn_20 rfl (fun c3 => ?_) (fun c4 => ?_)
    · refine q_iincN (n := 1) (L' := [_, _, _]) (by decide) dX4_anyOn_25 rfl rfl (by decide) rfl ?_
      refine q_goto (tgt := 2) dX4_anyOn_28 rfl ?_
      exact q_to (ih2 (i + 1) (⟨by omega, q_ne_s hf (by simp [*])⟩) (by omega)) (q_sub_s rfl (q_sub_i rfl (q_sub_i rfl q_sub_0))) rfl
    · refine q_iconst (v := nI 1) dX4_anyOn_23 (by decide) ?_
      refine q_zret (ty := .boolean) dX4_anyOn_24 rfl rfl (Or.inl rfl) ?_
      exact q_isI (by rw [q_any_i (i := i) (by omega) (by simp [*])]; rfl) rfl
theorem g_X5_sessionLoad {Φ : q_Fx} {h : q_Hp} (K : q_Lk Φ h.R h.n) {W : q_W} (V : q_vw h W) {s : Nat} (hs : s < 40) : q_Ct Φ false yX5_sessionLoad cX5_sessionLoad mX5_sessionLoad [.ref 2, .ref (11 + 3 * s)] h (q_is (some (.int (W.ld s))) h) := by
  refine q_enter K.st rfl rfl (by decide) rfl (Nat.le_of_ble_eq_true rfl) (L := [_, _, none, none, none, none]) rfl ?_
  have hp := V.pn8 hs
  refine q_aload_n dX5_sessionLoad_0 rfl ?_
  refine fRX5_16 (o := some 3) dX5_sessionLoad_1 rfl (by decide) (K.le (by decide)) (K.lk rfl) ?_
  refine q_rfS ?_
  refine q_aload_n dX5_sessionLoad_4 rfl ?_
  refine fIX5_54 dX5_sessionLoad_5 (q_ts hs) (by omega) (K.le (q_bs hs)) ?_
  refine q_tv (show _ = (nI (W.dy s)) from (V.dy hs)) ?_
  refine q_vD (kc := 0) (ks := 0) (g_X6_thresholdInForce (h := h) K V (day := (nI (W.dy s)))) wX6_thresholdInForce kX5_59 iX6_thresholdInForce eX6_thresholdInForce rfl rfl (by decide) (K.le (by decide)) (by decide) rfl rfl (Nat.le_of_ble_eq_true rfl) dX5_sessionLoad_8 rfl rfl ?_
  refine q_istore_n (L' := [_, _, _, _, _, _]) dX5_sessionLoad_11 rfl (by decide) rfl ?_
  refine q_iconst (v := nI 0) dX5_sessionLoad_12 (by decide) ?_
  refine q_istore_n (L' := [_, _, _, _, _, _]) dX5_sessionLoad_13 rfl (by decide) rfl ?_
  refine q_iconst (v := nI 0) dX5_sessionLoad_14 (by decide) ?_
  refine q_istore (L' := [_, _, _, _, _, _]) dX5_sessionLoad_15 rfl (by decide) rfl ?_
  refine q_loop (ι := Nat) (μ := fun i => W.pn s - i) (P := fun i => i ≤ W.pn s) (Lf := fun i => [some (.ref 2), some (.ref (11 + 3 * s)), some (.int (W.lt s)), some (.int (q_sum (fun p => W.mn s p * W.wt (W.z s p)) i)), some (.int (nI (i))), none]) (hf := fun i => h) (fun i hi17 ih17 => ?_) 0 (by omega) (q_sub_s rfl (q_sub_s rfl (q_sub_i rfl (q_sub_i rfl (q_sub_i rfl (q_sub_n q_sub_0)))))) rfl
  skip
  refine q_iload dX5_sessionLoad_17 rfl ?_
  refine q_aload_n dX5_sessionLoad_19 rfl ?_
  refine fIX5_63 dX5_sessionLoad_20 (q_ts hs) (by omega) (K.le (q_bs hs)) ?_
  refine q_tv (show _ = (nI (W.pn s)) from (V.pn hs)) ?_
  refine q_icmp_geN (by omega) (by omega) (tgt := 70) dX5_sessionLoad_23 rfl (fun c1 => ?_) (fun c2 => ?_)
  · refine q_iload_n dX5_sessionLoad_70 rfl ?_
    refine q_iret dX5_sessionLoad_71 rfl (Or.inl rfl) ?_
    exact q_isI (by rw [show i = W.pn s by omega]; rfl) rfl
  · refine q_aload_n dX5_sessionLoad_26 rfl ?_
    refine fRX5_23 (o := some 6) dX5_sessionLoad_27 rfl (by decide) (K.le (by decide)) (K.lk rfl) ?_
    refine q_rfS ?_
    refine q_aload_n dX5_sessionLoad_30 rfl ?_
    refine fRX5_66 (o := some (13 + 3 * s)) dX5_sessionLoad_31 (q_ts hs) (by omega) (K.le (q_bs hs)) (K.lk (q_lks4 hs)) ?_
    refine q_rfS ?_
    refine q_iload dX5_sessionLoad_34 rfl ?_
    refine q_ialdN (len := 8) (q_ts2 hs) dX5_sessionLoad_36 (by omega) (K.le (q_bs2 hs)) (q_ls2 hs) (by omega) (by decide) ?_
    refine q_tv (show _ = (W.it s (i)) from (congrFun (V.it hs) _)) ?_
    refine q_iload_n dX5_sessionLoad_37 rfl ?_
    refine q_vD (kc := 0) (ks := 0) (g_X8_zoneFor (h := h) K V (x := (W.it s (i))) (t := (W.lt s))) wX8_zoneFor kX5_70 iX8_zoneFor eX8_zoneFor rfl rfl (by decide) (K.le (by decide)) (by decide) rfl rfl (Nat.le_of_ble_eq_true rfl) dX5_sessionLoad_38 rfl rfl ?_
    have hz38 := q_zn_le W.bd (W.it s (i)) (W.lt s)
    refine q_istore (L' := [_, _, _, _, _, _]) dX5_sessionLoad_41 rfl (by decide) rfl ?_
    refine q_iload_n dX5_sessionLoad_43 rfl ?_
    refine q_aload_n dX5_sessionLoad_44 rfl ?_
    refine fRX5_74 (o := some (12 + 3 * s)) dX5_sessionLoad_45 (q_ts hs) (by omega) (K.le (q_bs hs)) (K.lk (q_lks3 hs)) ?_
    refine q_rfS ?_
    refine q_iload dX5_sessionLoad_48 rfl ?_
    refine q_ialdN (len := 8) (q_ts1 hs) dX5_sessionLoad_50 (by omega) (K.le (q_bs1 hs)) (q_ls1 hs) (by omega) (by decide) ?_
    refine q_tv (show _ = (W.mn s (i)) from (congrFun (V.mn hs) _)) ?_
    refine q_aload_n dX5_sessionLoad_51 rfl ?_
    refine fRX5_23 (o := some 6) dX5_sessionLoad_52 rfl (by decide) (K.le (by decide)) (K.lk rfl) ?_
    refine q_rfS ?_
    refine fRX5_77 (o := some 8) dX5_sessionLoad_55 rfl (by decide) (K.le (by decide)) (K.lk rfl) ?_
    refine q_rfS ?_
    refine q_iload dX5_sessionLoad_58 rfl ?_
    refine q_ialdN (len := 6) rfl dX5_sessionLoad_60 (by decide) (K.le (by decide)) rfl (by omega) (by decide) ?_
    refine q_tv (show _ = (W.wt (q_zn W.bd (W.it s (i)) (W.lt s))) from (congrFun V.wt _)) ?_
    refine q_imul dX5_sessionLoad_61 ?_
    refine q_iadd dX5_sessionLoad_62 ?_
    refine q_istore_n (L' := [_, _, _, _, _, _]) dX5_sessionLoad_63 rfl (by decide) rfl ?_
    refine q_iincN (n := 1) (L' := [_, _, _, _, _, _]) (by decide) dX5_sessionLoad_64 rfl rfl (by decide) rfl ?_
    refine q_goto (tgt := 17) dX5_sessionLoad_67 rfl ?_
    exact q_to (ih17 (i + 1) (by omega) (by omega)) (q_sub_s rfl (q_sub_s rfl (q_sub_i rfl (q_sub_i rfl (q_sub_i rfl (q_sub_n q_sub_0)))))) rfl
theorem g_X5_addZoneMinutes {Φ : q_Fx} {h : q_Hp} (K : q_Lk Φ h.R h.n) {W : q_W} (V : q_vw h W) {s : Nat} (hs : s < 40) : q_Ct Φ false yX5_addZoneMinutes cX5_addZoneMinutes mX5_addZoneMinutes [.ref 2, .ref (11 + 3 * s), .ref 1059] h (q_is none (h.rowI 1059 (q_az (h.I 1059) (W.z s) (W.mn s) (W.pn s)))) := by
  refine q_enter K.st rfl rfl (by decide) rfl (Nat.le_of_ble_eq_true rfl) (L := [_, _, _, none, none]) rfl ?_
  have hp := V.pn8 hs
  refine q_aload_n dX5_addZoneMinutes_0 rfl ?_
  refine fRX5_16 (o := some 3) dX5_addZoneMinutes_1 rfl (by decide) (K.le (by decide)) (K.lk rfl) ?_
  refine q_rfS ?_
  refine q_aload_n dX5_addZoneMinutes_4 rfl ?_
  refine fIX5_54 dX5_addZoneMinutes_5 (q_ts hs) (by omega) (K.le (q_bs hs)) ?_
  refine q_tv (show _ = (nI (W.dy s)) from (V.dy hs)) ?_
  refine q_vD (kc := 0) (ks := 0) (g_X6_thresholdInForce (h := h) K V (day := (nI (W.dy s)))) wX6_thresholdInForce kX5_59 iX6_thresholdInForce eX6_thresholdInForce rfl rfl (by decide) (K.le (by decide)) (by decide) rfl rfl (Nat.le_of_ble_eq_true rfl) dX5_addZoneMinutes_8 rfl rfl ?_
  refine q_istore_n (L' := [_, _, _, _, _]) dX5_addZoneMinutes_11 rfl (by decide) rfl ?_
  refine q_iconst (v := nI 0) dX5_addZoneMinutes_12 (by decide) ?_
  refine q_istore (L' := [_, _, _, _, _]) dX5_addZoneMinutes_13 rfl (by decide) rfl ?_
  refine q_loop (ι := Nat) (μ := fun i => W.pn s - i) (P := fun i => i ≤ W.pn s) (Lf := fun i => [some (.ref 2), some (.ref (11 + 3 * s)), some (.ref 1059), some (.int (W.lt s)), some (.int (nI (i)))]) (hf := fun i => (h.rowI 1059 (q_az (h.I 1059) (W.z s) (W.mn s) i))) (fun i hi15 ih15 => ?_) 0 (by omega) (q_sub_s rfl (q_sub_s rfl (q_sub_s rfl (q_sub_i rfl (q_sub_i rfl q_sub_0))))) (q_rid h 1059).symm
  skip
  refine q_iload dX5_addZoneMinutes_15 rfl ?_
  refine q_aload_n dX5_addZoneMinutes_17 rfl ?_
  refine fIX5_63 dX5_addZoneMinutes_18 (q_ts hs) (by omega) (K.le (q_bs hs)) ?_
  refine q_tv (show _ = (nI (W.pn s)) from ((congrFun (q_rIn _ _ (by omega)) _).trans (V.pn hs))) ?_
  refine q_icmp_geN (by omega) (by omega) (tgt := 57) dX5_addZoneMinutes_21 rfl (fun c1 => ?_) (fun c2 => ?_)
  · refine q_vret dX5_addZoneMinutes_57 rfl (Or.inl rfl) ?_
    exact ⟨rfl, by rw [show i = W.pn s by omega]⟩
  · refine q_aload_n dX5_addZoneMinutes_24 rfl ?_
    refine q_aload_n dX5_addZoneMinutes_25 rfl ?_
    refine fRX5_23 (o := some 6) dX5_addZoneMinutes_26 rfl (by decide) (K.le (by decide)) (K.lk rfl) ?_
    refine q_rfS ?_
    refine q_aload_n dX5_addZoneMinutes_29 rfl ?_
    refine fRX5_66 (o := some (13 + 3 * s)) dX5_addZoneMinutes_30 (q_ts hs) (by omega) (K.le (q_bs hs)) (K.lk (q_lks4 hs)) ?_
    refine q_rfS ?_
    refine q_iload dX5_addZoneMinutes_33 rfl ?_
    refine q_ialdN (len := 8) (q_ts2 hs) dX5_addZoneMinutes_35 (by omega) (K.le (q_bs2 hs)) (q_ls2 hs) (by omega) (by decide) ?_
    refine q_tv (show _ = (W.it s (i)) from ((congrFun (q_rIn _ _ (by omega)) _).trans (congrFun (V.it hs) _))) ?_
    refine q_iload_n dX5_addZoneMinutes_36 rfl ?_
    refine q_vD (kc := 0) (ks := 0) (g_X8_zoneFor (h := (h.rowI 1059 (q_az (h.I 1059) (W.z s) (W.mn s) i))) K (V.row (a := 1059) (by decide)) (x := (W.it s (i))) (t := (W.lt s))) wX8_zoneFor kX5_70 iX8_zoneFor eX8_zoneFor rfl rfl (by decide) (K.le (by decide)) (by decide) rfl rfl (Nat.le_of_ble_eq_true rfl) dX5_addZoneMinutes_37 rfl rfl ?_
    have hz37 := q_zn_le W.bd (W.it s (i)) (W.lt s)
    refine q_dup2 dX5_addZoneMinutes_40 rfl rfl ?_
    refine q_ialdN (len := 6) rfl dX5_addZoneMinutes_41 (by decide) (K.le (by decide)) rfl (by omega) (by decide) ?_
    refine q_tv (show _ = ((q_az (h.I 1059) (W.z s) (W.mn s) i) (q_zn W.bd (W.it s (i)) (W.lt s))) from (congrFun (q_rI _ _ _) _)) ?_
    refine q_aload_n dX5_addZoneMinutes_42 rfl ?_
    refine fRX5_74 (o := some (12 + 3 * s)) dX5_addZoneMinutes_43 (q_ts hs) (by omega) (K.le (q_bs hs)) (K.lk (q_lks3 hs)) ?_
    refine q_rfS ?_
    refine q_iload dX5_addZoneMinutes_46 rfl ?_
    refine q_ialdN (len := 8) (q_ts1 hs) dX5_addZoneMinutes_48 (by omega) (K.le (q_bs1 hs)) (q_ls1 hs) (by omega) (by decide) ?_
    refine q_tv (show _ = (W.mn s (i)) from ((congrFun (q_rIn _ _ (by omega)) _).trans (congrFun (V.mn hs) _))) ?_
    refine q_iadd dX5_addZoneMinutes_49 ?_
    refine q_iastN (len := 6) rfl dX5_addZoneMinutes_50 (by decide) (K.le (by decide)) rfl (by omega) (by decide) ?_
    refine q_iincN (n := 1) (L' := [_, _, _, _, _]) (by decide) dX5_addZoneMinutes_51 rfl rfl (by decide) rfl ?_
    refine q_goto (tgt := 15) dX5_addZoneMinutes_54 rfl ?_
    exact q_to (ih15 (i + 1) (by omega) (by omega)) (q_sub_s rfl (q_sub_s rfl (q_sub_s rfl (q_sub_i rfl (q_sub_i rfl q_sub_0))))) (by rw [q_rset]; rfl)
theorem g_X5_fillSessionLoads {Φ : q_Fx} {h : q_Hp} (K : q_Lk Φ h.R h.n) {W : q_W} (V : q_vw h W) : q_Ct Φ false yX5_fillSessionLoads cX5_fillSessionLoads mX5_fillSessionLoads [.ref 2, .ref 1058] h (q_is none (h.rowI 1058 (q_cpy (fun i => W.ld (W.σ i)) (h.I 1058) W.c))) := by
  refine q_enter K.st rfl rfl (by decide) rfl (Nat.le_of_ble_eq_true rfl) (L := [_, _, none]) rfl ?_
  have hc := V.c40
  refine q_iconst (v := nI 0) dX5_fillSessionLoads_0 (by decide) ?_
  refine q_istore_n (L' := [_, _, _]) dX5_fillSessionLoads_1 rfl (by decide) rfl ?_
  refine q_loop (ι := Nat) (μ := fun i => W.c - i) (P := fun i => i ≤ W.c) (Lf := fun i => [some (.ref 2), some (.ref 1058), some (.int (nI (i)))]) (hf := fun i => (h.rowI 1058 (q_cpy (fun i => W.ld (W.σ i)) (h.I 1058) i))) (fun i hi2 ih2 => ?_) 0 (by omega) (q_sub_s rfl (q_sub_s rfl (q_sub_i rfl q_sub_0))) (by rw [q_cpy_0]; exact (q_rid h 1058).symm)
  skip
  refine q_iload_n dX5_fillSessionLoads_2 rfl ?_
  refine q_aload_n dX5_fillSessionLoads_3 rfl ?_
  refine fRX5_30 (o := some 9) dX5_fillSessionLoads_4 rfl (by decide) (K.le (by decide)) (K.lk rfl) ?_
  refine q_rfS ?_
  refine fIX5_80 dX5_fillSessionLoads_7 rfl (by decide) (K.le (by decide)) ?_
  refine q_tv (show _ = (nI (W.c)) from ((congrFun (q_rIn _ _ (by omega)) _).trans V.c)) ?_
  refine q_icmp_geN (by omega) (by omega) (tgt := 35) dX5_fillSessionLoads_10 rfl (fun c1 => ?_) (fun c2 => ?_)
  · refine q_vret dX5_fillSessionLoads_35 rfl (Or.inl rfl) ?_
    exact ⟨rfl, by rw [show i = W.c by omega]⟩
  · refine q_aload_n dX5_fillSessionLoads_13 rfl ?_
    refine q_iload_n dX5_fillSessionLoads_14 rfl ?_
    refine q_aload_n dX5_fillSessionLoads_15 rfl ?_
    refine q_aload_n dX5_fillSessionLoads_16 rfl ?_
    refine fRX5_30 (o := some 9) dX5_fillSessionLoads_17 rfl (by decide) (K.le (by decide)) (K.lk rfl) ?_
    refine q_rfS ?_
    refine fRX5_83 (o := some 10) dX5_fillSessionLoads_20 rfl (by decide) (K.le (by decide)) (K.lk rfl) ?_
    refine q_rfS ?_
    refine q_iload_n dX5_fillSessionLoads_23 rfl ?_
    refine q_aaldN (len := 40) (o := some (11 + 3 * W.σ (i))) (by decide) (by decide) dX5_fillSessionLoads_24 (by decide) (K.le (by decide)) rfl (by omega) (by decide) (V.sg (by omega)) ?_
    refine q_rfS ?_
    refine q_vD (kc := 0) (ks := 0) (g_X5_sessionLoad (h := (h.rowI 1058 (q_cpy (fun i => W.ld (W.σ i)) (h.I 1058) i))) K (V.row (a := 1058) (by decide)) (V.s40 (i := (i)) (by omega))) wX5_sessionLoad kX5_87 iX5_sessionLoad eX5_sessionLoad rfl rfl (by decide) (K.le (by decide)) (by decide) rfl rfl (Nat.le_of_ble_eq_true rfl) dX5_fillSessionLoads_25 rfl rfl ?_
    refine q_iastN (len := 40) rfl dX5_fillSessionLoads_28 (by decide) (K.le (by decide)) rfl (by omega) (by decide) ?_
    refine q_iincN (n := 1) (L' := [_, _, _]) (by decide) dX5_fillSessionLoads_29 rfl rfl (by decide) rfl ?_
    refine q_goto (tgt := 2) dX5_fillSessionLoads_32 rfl ?_
    exact q_to (ih2 (i + 1) (by omega) (by omega)) (q_sub_s rfl (q_sub_s rfl (q_sub_i rfl q_sub_0))) (by rw [q_rset, q_cpy_s (fun i => W.ld (W.σ i))])
theorem g_X5_countChangedLoads {Φ : q_Fx} {h : q_Hp} (K : q_Lk Φ h.R h.n) {W : q_W} (V : q_vw h W) : q_Ct Φ false yX5_countChangedLoads cX5_countChangedLoads mX5_countChangedLoads [.ref 2, .ref 1058] h (q_is (some (.int (nI (q_cn (fun i => decide (W.ld (W.σ i) ≠ h.I 1058 i)) W.c)))) h) := by
  refine q_enter K.st rfl rfl (by decide) rfl (Nat.le_of_ble_eq_true rfl) (L := [_, _, none, none]) rfl ?_
  have hc := V.c40
  refine q_iconst (v := nI 0) dX5_countChangedLoads_0 (by decide) ?_
  refine q_istore_n (L' := [_, _, _, _]) dX5_countChangedLoads_1 rfl (by decide) rfl ?_
  refine q_iconst (v := nI 0) dX5_countChangedLoads_2 (by decide) ?_
  refine q_istore_n (L' := [_, _, _, _]) dX5_countChangedLoads_3 rfl (by decide) rfl ?_
  refine q_loop (ι := Nat) (μ := fun i => W.c - i) (P := fun i => i ≤ W.c) (Lf := fun i => [some (.ref 2), some (.ref 1058), some (.int (nI (q_cn (fun i => decide (W.ld (W.σ i) ≠ h.I 1058 i)) i))), some (.int (nI (i)))]) (hf := fun i => h) (fun i hi4 ih4 => ?_) 0 (by omega) (q_sub_s rfl (q_sub_s rfl (q_sub_i rfl (q_sub_i rfl q_sub_0)))) rfl
  skip
  refine q_iload_n dX5_countChangedLoads_4 rfl ?_
  refine q_aload_n dX5_countChangedLoads_5 rfl ?_
  refine fRX5_30 (o := some 9) dX5_countChangedLoads_6 rfl (by decide) (K.le (by decide)) (K.lk rfl) ?_
  refine q_rfS ?_
  refine fIX5_80 dX5_countChangedLoads_9 rfl (by decide) (K.le (by decide)) ?_
  refine q_tv (show _ = (nI (W.c)) from V.c) ?_
  refine q_icmp_geN (by omega) (by omega) (tgt := 43) dX5_countChangedLoads_12 rfl (fun c1 => ?_) (fun c2 => ?_)
  · refine q_iload_n dX5_countChangedLoads_43 rfl ?_
    refine q_iret dX5_countChangedLoads_44 rfl (Or.inl rfl) ?_
    exact q_isI (by rw [show i = W.c by omega]) rfl
  · refine q_aload_n dX5_countChangedLoads_15 rfl ?_
    refine q_aload_n dX5_countChangedLoads_16 rfl ?_
    refine fRX5_30 (o := some 9) dX5_countChangedLoads_17 rfl (by decide) (K.le (by decide)) (K.lk rfl) ?_
    refine q_rfS ?_
    refine fRX5_83 (o := some 10) dX5_countChangedLoads_20 rfl (by decide) (K.le (by decide)) (K.lk rfl) ?_
    refine q_rfS ?_
    refine q_iload_n dX5_countChangedLoads_23 rfl ?_
    refine q_aaldN (len := 40) (o := some (11 + 3 * W.σ (i))) (by decide) (by decide) dX5_countChangedLoads_24 (by decide) (K.le (by decide)) rfl (by omega) (by decide) (V.sg (by omega)) ?_
    refine q_rfS ?_
    refine q_vD (kc := 0) (ks := 0) (g_X5_sessionLoad (h := h) K V (V.s40 (i := (i)) (by omega))) wX5_sessionLoad kX5_87 iX5_sessionLoad eX5_sessionLoad rfl rfl (by decide) (K.le (by decide)) (by decide) rfl rfl (Nat.le_of_ble_eq_true rfl) dX5_countChangedLoads_25 rfl rfl ?_
    refine q_aload_n dX5_countChangedLoads_28 rfl ?_
    refine q_iload_n dX5_countChangedLoads_29 rfl ?_
    refine q_ialdN (len := 40) rfl dX5_countChangedLoads_30 (by decide) (K.le (by decide)) rfl (by omega) (by decide) ?_
    refine q_icmp_eq (tgt := 37) dX5_countChangedLoads_31 rfl (fun c3 => ?_) (fun c4 => ?_)
    · refine q_iincN (n := 1) (L' := [_, _, _, _]) (by decide) dX5_countChangedLoads_37 rfl rfl (by decide) rfl ?_
      refine q_goto (tgt := 4) dX5_countChangedLoads_40 rfl ?_
      exact q_to (ih4 (i + 1) (by omega) (by omega)) (q_sub_s rfl (q_sub_s rfl (q_sub_i (by simp [q_cn, *]) (q_sub_i rfl q_sub_0)))) rfl
    · refine q_iincN (n := 1) (L' := [_, _, _, _]) (by decide) dX5_countChangedLoads_34 rfl rfl (by decide) rfl ?_
      refine q_iincN (n := 1) (L' := [_, _, _, _]) (by decide) dX5_countChangedLoads_37 rfl rfl (by decide) rfl ?_
      refine q_goto (tgt := 4) dX5_countChangedLoads_40 rfl ?_
      exact q_to (ih4 (i + 1) (by omega) (by omega)) (q_sub_s rfl (q_sub_s rfl (q_sub_i (by simp [q_cn, *]) (q_sub_i rfl q_sub_0)))) rfl
theorem g_clear57 {Φ : q_Fx} {h : q_Hp} (K : q_Lk Φ h.R h.n)  : q_Cm Φ false yX9_clear cX9_clear mX9_clear [.ref 1057] h (q_is none (h.rowI 1057 (q_cpy (fun _ => nI 0) (h.I 1057) 200))) := by
  refine q_enterM K.st rfl rfl (by decide) rfl (Nat.le_of_ble_eq_true rfl) (L := [_, none]) rfl ?_
  refine q_iconst (v := nI 0) dX9_clear_0 (by decide) ?_
  refine q_istore_n (L' := [_, _]) dX9_clear_1 rfl (by decide) rfl ?_
  refine q_loop (ι := Nat) (μ := fun i => 200 - i) (P := fun i => i ≤ 200) (Lf := fun i => [some (.ref 1057), some (.int (nI (i)))]) (hf := fun i => (h.rowI 1057 (q_cpy (fun _ => nI 0) (h.I 1057) i))) (fun i hi2 ih2 => ?_) 0 (by omega) (q_sub_s rfl (q_sub_i rfl q_sub_0)) (by rw [q_cpy_0]; exact (q_rid h 1057).symm)
  skip
  refine q_iload_n dX9_clear_2 rfl ?_
  refine q_aload_n dX9_clear_3 rfl ?_
  refine q_alen (t0 := 1) (v := nI 200) (by decide) rfl (by decide) (by decide) dX9_clear_4 (by decide) (K.le (by decide)) ?_
  refine q_icmp_geN (by omega) (by omega) (tgt := 18) dX9_clear_5 rfl (fun c1 => ?_) (fun c2 => ?_)
  · refine q_vretM dX9_clear_18 rfl (Or.inl rfl) ?_
    exact ⟨rfl, by rw [show i = 200 by omega]⟩
  · refine q_aload_n dX9_clear_8 rfl ?_
    refine q_iload_n dX9_clear_9 rfl ?_
    refine q_iconst (v := nI 0) dX9_clear_10 (by decide) ?_
    refine q_iastN (len := 200) rfl dX9_clear_11 (by decide) (K.le (by decide)) rfl (by omega) (by decide) ?_
    refine q_iincN (n := 1) (L' := [_, _]) (by decide) dX9_clear_12 rfl rfl (by decide) rfl ?_
    refine q_goto (tgt := 2) dX9_clear_15 rfl ?_
    exact q_to (ih2 (i + 1) (by omega) (by omega)) (q_sub_s rfl (q_sub_i rfl q_sub_0)) (by rw [q_rset, q_cpy_s (fun _ => nI 0)])
theorem g_clear59 {Φ : q_Fx} {h : q_Hp} (K : q_Lk Φ h.R h.n)  : q_Ct Φ false yX9_clear cX9_clear mX9_clear [.ref 1059] h (q_is none (h.rowI 1059 (q_cpy (fun _ => nI 0) (h.I 1059) 6))) := by
  refine q_enter K.st rfl rfl (by decide) rfl (Nat.le_of_ble_eq_true rfl) (L := [_, none]) rfl ?_
  refine q_iconst (v := nI 0) dX9_clear_0 (by decide) ?_
  refine q_istore_n (L' := [_, _]) dX9_clear_1 rfl (by decide) rfl ?_
  refine q_loop (ι := Nat) (μ := fun i => 6 - i) (P := fun i => i ≤ 6) (Lf := fun i => [some (.ref 1059), some (.int (nI (i)))]) (hf := fun i => (h.rowI 1059 (q_cpy (fun _ => nI 0) (h.I 1059) i))) (fun i hi2 ih2 => ?_) 0 (by omega) (q_sub_s rfl (q_sub_i rfl q_sub_0)) (by rw [q_cpy_0]; exact (q_rid h 1059).symm)
  skip
  refine q_iload_n dX9_clear_2 rfl ?_
  refine q_aload_n dX9_clear_3 rfl ?_
  refine q_alen (t0 := 1) (v := nI 6) (by decide) rfl (by decide) (by decide) dX9_clear_4 (by decide) (K.le (by decide)) ?_
  refine q_icmp_geN (by omega) (by omega) (tgt := 18) dX9_clear_5 rfl (fun c1 => ?_) (fun c2 => ?_)
  · refine q_vret dX9_clear_18 rfl (Or.inl rfl) ?_
    exact ⟨rfl, by rw [show i = 6 by omega]⟩
  · refine q_aload_n dX9_clear_8 rfl ?_
    refine q_iload_n dX9_clear_9 rfl ?_
    refine q_iconst (v := nI 0) dX9_clear_10 (by decide) ?_
    refine q_iastN (len := 6) rfl dX9_clear_11 (by decide) (K.le (by decide)) rfl (by omega) (by decide) ?_
    refine q_iincN (n := 1) (L' := [_, _]) (by decide) dX9_clear_12 rfl rfl (by decide) rfl ?_
    refine q_goto (tgt := 2) dX9_clear_15 rfl ?_
    exact q_to (ih2 (i + 1) (by omega) (by omega)) (q_sub_s rfl (q_sub_i rfl q_sub_0)) (by rw [q_rset, q_cpy_s (fun _ => nI 0)])
/-- the days' loads behind n sessions in order -/
def q_W.dl (W : q_W) (g : Nat → Int32) : Nat → Nat → Int32
  | 0 => q_cpy (fun _ => nI 0) g 200
  | n + 1 => va_up (W.dl g n) (W.dy (W.σ n)) (W.dl g n (W.dy (W.σ n)) + W.ld (W.σ n))
theorem g_X5_fillDayLoads {Φ : q_Fx} {h : q_Hp} (K : q_Lk Φ h.R h.n) {W : q_W} (V : q_vw h W) : q_Ct Φ false yX5_fillDayLoads cX5_fillDayLoads mX5_fillDayLoads [.ref 2, .ref 1057] h (q_is none (h.rowI 1057 (W.dl (h.I 1057) W.c))) := by
  refine q_enter K.st rfl rfl (by decide) rfl (Nat.le_of_ble_eq_true rfl) (L := [_, _, none, none]) rfl ?_
  have hc := V.c40
  refine q_aload_n dX5_fillDayLoads_0 rfl ?_
  refine q_snD (kc := 0) (ks := 0) (g_clear57 (h := h) K) wX9_clear knX5_91 sX9_clear (by decide) rfl rfl (Nat.le_of_ble_eq_true rfl) dX5_fillDayLoads_1 rfl rfl ?_
  refine q_iconst (v := nI 0) dX5_fillDayLoads_4 (by decide) ?_
  refine q_istore_n (L' := [_, _, _, _]) dX5_fillDayLoads_5 rfl (by decide) rfl ?_
  refine q_loop (ι := Nat) (μ := fun i => W.c - i) (P := fun i => i ≤ W.c) (Lf := fun i => [some (.ref 2), some (.ref 1057), some (.int (nI (i))), none]) (hf := fun i => (h.rowI 1057 (W.dl (h.I 1057) i))) (fun i hi6 ih6 => ?_) 0 (by omega) (q_sub_s rfl (q_sub_s rfl (q_sub_i rfl (q_sub_n q_sub_0)))) rfl
  skip
  refine q_iload_n dX5_fillDayLoads_6 rfl ?_
  refine q_aload_n dX5_fillDayLoads_7 rfl ?_
  refine fRX5_30 (o := some 9) dX5_fillDayLoads_8 rfl (by decide) (K.le (by decide)) (K.lk rfl) ?_
  refine q_rfS ?_
  refine fIX5_80 dX5_fillDayLoads_11 rfl (by decide) (K.le (by decide)) ?_
  refine q_tv (show _ = (nI (W.c)) from ((congrFun (q_rIn _ _ (by omega)) _).trans V.c)) ?_
  refine q_icmp_geN (by omega) (by omega) (tgt := 47) dX5_fillDayLoads_14 rfl (fun c1 => ?_) (fun c2 => ?_)
  · refine q_vret dX5_fillDayLoads_47 rfl (Or.inl rfl) ?_
    exact ⟨rfl, by rw [show i = W.c by omega]⟩
  · refine q_aload_n dX5_fillDayLoads_17 rfl ?_
    refine fRX5_30 (o := some 9) dX5_fillDayLoads_18 rfl (by decide) (K.le (by decide)) (K.lk rfl) ?_
    refine q_rfS ?_
    refine fRX5_83 (o := some 10) dX5_fillDayLoads_21 rfl (by decide) (K.le (by decide)) (K.lk rfl) ?_
    refine q_rfS ?_
    refine q_iload_n dX5_fillDayLoads_24 rfl ?_
    refine q_aaldN (len := 40) (o := some (11 + 3 * W.σ (i))) (by decide) (by decide) dX5_fillDayLoads_25 (by decide) (K.le (by decide)) rfl (by omega) (by decide) (V.sg (by omega)) ?_
    refine q_rfS ?_
    refine q_astore_n (L' := [_, _, _, _]) dX5_fillDayLoads_26 rfl (by decide) rfl ?_
    refine q_aload_n dX5_fillDayLoads_27 rfl ?_
    refine q_aload_n dX5_fillDayLoads_28 rfl ?_
    refine fIX5_54 dX5_fillDayLoads_29 (q_ts (V.s40 (i := (i)) (by omega))) (by omega) (K.le (q_bs (V.s40 (i := (i)) (by omega)))) ?_
    refine q_tv (show _ = (nI (W.dy (W.σ (i)))) from ((congrFun (q_rIn _ _ (by omega)) _).trans (V.dy (V.s40 (i := (i)) (by omega))))) ?_
    have hd := V.dy9 (V.s40 (i := i) (by omega))
    refine q_dup2 dX5_fillDayLoads_32 rfl rfl ?_
    refine q_ialdN (len := 200) rfl dX5_fillDayLoads_33 (by decide) (K.le (by decide)) rfl (by omega) (by decide) ?_
    refine q_tv (show _ = ((W.dl (h.I 1057) i) (W.dy (W.σ (i)))) from (congrFun (q_rI _ _ _) _)) ?_
    refine q_aload_n dX5_fillDayLoads_34 rfl ?_
    refine q_aload_n dX5_fillDayLoads_35 rfl ?_
    refine q_vD (kc := 0) (ks := 0) (g_X5_sessionLoad (h := (h.rowI 1057 (W.dl (h.I 1057) i))) K (V.row (a := 1057) (by decide)) (V.s40 (i := (i)) (by omega))) wX5_sessionLoad kX5_87 iX5_sessionLoad eX5_sessionLoad rfl rfl (by decide) (K.le (by decide)) (by decide) rfl rfl (Nat.le_of_ble_eq_true rfl) dX5_fillDayLoads_36 rfl rfl ?_
    refine q_iadd dX5_fillDayLoads_39 ?_
    refine q_iastN (len := 200) rfl dX5_fillDayLoads_40 (by decide) (K.le (by decide)) rfl (by omega) (by decide) ?_
    refine q_iincN (n := 1) (L' := [_, _, _, _]) (by decide) dX5_fillDayLoads_41 rfl rfl (by decide) rfl ?_
    refine q_goto (tgt := 6) dX5_fillDayLoads_44 rfl ?_
    exact q_to (ih6 (i + 1) (by omega) (by omega)) (q_sub_s rfl (q_sub_s rfl (q_sub_i rfl (q_sub_n q_sub_0)))) (by rw [q_rset]; rfl)
theorem g_X7_forgetFrom {Φ : q_Fx} {h : q_Hp} (K : q_Lk Φ h.R h.n) {d k : Nat} (hk : h.I 1053 2 = nI k) (hk2 : k ≤ 200) (hd : d ≤ 200) : q_Ct Φ false yX7_forgetFrom cX7_forgetFrom mX7_forgetFrom [.ref 1053, .int (nI (d))] h (q_is none (h.setI 1053 2 (nI (min k d)))) := by
  refine q_enter K.st rfl rfl (by decide) rfl (Nat.le_of_ble_eq_true rfl) (L := [_, _]) rfl ?_
  refine q_aload_n dX7_forgetFrom_0 rfl ?_
  refine q_aload_n dX7_forgetFrom_1 rfl ?_
  refine fIX7_18 dX7_forgetFrom_2 rfl (by decide) (K.le (by decide)) ?_
  refine q_tv (show _ = (nI (k)) from hk) ?_
  refine q_iload_n dX7_forgetFrom_5 rfl ?_
  refine q_min kX7_22 dX7_forgetFrom_6 (by decide) (by decide) ?_
  refine q_tv (q_minN (by omega) (by omega)) ?_
  refine pIX7_18 dX7_forgetFrom_9 rfl (by decide) (K.le (by decide)) ?_
  refine q_vret dX7_forgetFrom_12 rfl (Or.inl rfl) ?_
  exact ⟨rfl, rfl⟩
