/-! THE CLASS'S READERS -/
theorem q_ts : ∀ {s : Nat}, s < 40 → q_tag (11 + 3 * s) = 3 := by decide +kernel
theorem q_ts1 : ∀ {s : Nat}, s < 40 → q_tag (12 + 3 * s) = 12 := by decide +kernel
theorem q_ts2 : ∀ {s : Nat}, s < 40 → q_tag (13 + 3 * s) = 12 := by decide +kernel
theorem q_ls1 : ∀ {s : Nat}, s < 40 → q_len (12 + 3 * s) = 8 := by decide +kernel
theorem q_ls2 : ∀ {s : Nat}, s < 40 → q_len (13 + 3 * s) = 8 := by decide +kernel
theorem q_lks3 : ∀ {s : Nat}, s < 40 → q_lkT (11 + 3 * s) 3 = some (12 + 3 * s) := by decide +kernel
theorem q_lks4 : ∀ {s : Nat}, s < 40 → q_lkT (11 + 3 * s) 4 = some (13 + 3 * s) := by decide +kernel
theorem q_minN {a b : Nat} (ha : a < 2 ^ 31) (hb : b < 2 ^ 31) : (if nI b < nI a then nI b else nI a) = nI (min a b) := by
  by_cases e : b < a
  · rw [if_pos ((nI_ltI hb ha).mpr e), Nat.min_eq_right (by omega)]
  · rw [if_neg fun c => e ((nI_ltI hb ha).mp c), Nat.min_eq_left (by omega)]
theorem q_maxN {a b : Nat} (ha : a < 2 ^ 31) (hb : b < 2 ^ 31) : (if nI a < nI b then nI b else nI a) = nI (max a b) := by
  by_cases e : a < b
  · rw [if_pos ((nI_ltI ha hb).mpr e), Nat.max_eq_right (by omega)]
  · rw [if_neg fun c => e ((nI_ltI ha hb).mp c), Nat.max_eq_left (by omega)]
/-- the threshold in force: over n tests of days d and thresholds v -/
def q_thr (d v : Nat → Int32) (day : Int32) : Nat → Int32 × Int32
  | 0 => (-1, 200)
  | n + 1 => if d n ≤ day ∧ (q_thr d v day n).1 < d n then (d n, v n) else q_thr d v day n
/-- a sum of n -/
def q_sum (f : Nat → Int32) : Nat → Int32
  | 0 => 0
  | n + 1 => q_sum f n + f n
theorem g_X9_requireRange {Φ : q_Fx} {h : q_Hp} (K : q_Lk Φ h.R h.n) {v lo hi : Int32} : q_Ct Φ false yX9_requireRange cX9_requireRange mX9_requireRange [.int v, .int lo, .int hi] h (q_tk (¬ (lo ≤ v ∧ v ≤ hi)) "java/lang/IllegalArgumentException" h none h) := by
  refine q_enter K.st rfl rfl (by decide) rfl (Nat.le_of_ble_eq_true rfl) (L := [_, _, _]) rfl ?_
  refine q_iload_n dX9_requireRange_0 rfl ?_
  refine q_iload_n dX9_requireRange_1 rfl ?_
  refine q_icmp_lt (tgt := 10) dX9_requireRange_2 rfl (fun c1 => ?_) (fun c2 => ?_)
  · refine q_throwW (text := "an argument is out of range") tw_343_347 (by decide) rfl ?_ dX9_requireRange_10 dX9_requireRange_13 dX9_requireRange_14 dX9_requireRange_17 dX9_requireRange_20 (by decide) (by decide) (by decide) (by decide)
    exact Or.inl ⟨fun c => by first | exact absurd c.1 (Int32.not_le.mpr (by assumption)) | exact absurd c.2 (by assumption), rfl, rfl⟩
  · refine q_iload_n dX9_requireRange_5 rfl ?_
    refine q_iload_n dX9_requireRange_6 rfl ?_
    refine q_icmp_le (tgt := 21) dX9_requireRange_7 rfl (fun c3 => ?_) (fun c4 => ?_)
    · refine q_vret dX9_requireRange_21 rfl (Or.inl rfl) ?_
      exact Or.inr ⟨fun c => c ⟨Int32.not_lt.mp (by assumption), by assumption⟩, rfl, rfl⟩
    · refine q_throwW (text := "an argument is out of range") tw_343_347 (by decide) rfl ?_ dX9_requireRange_10 dX9_requireRange_13 dX9_requireRange_14 dX9_requireRange_17 dX9_requireRange_20 (by decide) (by decide) (by decide) (by decide)
      exact Or.inl ⟨fun c => by first | exact absurd c.1 (Int32.not_le.mpr (by assumption)) | exact absurd c.2 (by assumption), rfl, rfl⟩
theorem g_X3_length {Φ : q_Fx} {h : q_Hp} (K : q_Lk Φ h.R h.n) {s n : Nat} (hs : s < 40) (hp : h.I (11 + 3 * s) 2 = nI n) (hn : n ≤ 8) : q_Ct Φ false yX3_length cX3_length mX3_length [.ref (11 + 3 * s)] h (q_is (some (.int (q_sum (h.I (12 + 3 * s)) n))) h) := by
  refine q_enter K.st rfl rfl (by decide) rfl (Nat.le_of_ble_eq_true rfl) (L := [_, none, none]) rfl ?_
  refine q_iconst (v := nI 0) dX3_length_0 (by decide) ?_
  refine q_istore_n (L' := [_, _, _]) dX3_length_1 rfl (by decide) rfl ?_
  refine q_iconst (v := nI 0) dX3_length_2 (by decide) ?_
  refine q_istore_n (L' := [_, _, _]) dX3_length_3 rfl (by decide) rfl ?_
  refine q_loop (ι := Nat) (μ := fun i => n - i) (P := fun i => i ≤ n) (Lf := fun i => [some (.ref (11 + 3 * s)), some (.int (q_sum (h.I (12 + 3 * s)) i)), some (.int (nI (i)))]) (hf := fun i => h) (fun i hi4 ih4 => ?_) 0 (by omega) (q_sub_s rfl (q_sub_i rfl (q_sub_i rfl q_sub_0))) rfl
  skip
  refine q_iload_n dX3_length_4 rfl ?_
  refine q_aload_n dX3_length_5 rfl ?_
  refine fIX3_18 dX3_length_6 (q_ts hs) (by omega) (K.le (by omega)) ?_
  refine q_tv (show _ = nI (n) from hp) ?_
  refine q_icmp_geN (by omega) (by omega) (tgt := 27) dX3_length_9 rfl (fun c1 => ?_) (fun c2 => ?_)
  · refine q_iload_n dX3_length_27 rfl ?_
    refine q_iret dX3_length_28 rfl (Or.inl rfl) ?_
    exact q_isI (by rw [show i = n by omega]) rfl
  · refine q_iload_n dX3_length_12 rfl ?_
    refine q_aload_n dX3_length_13 rfl ?_
    refine fRX3_21 (o := some (12 + 3 * s)) dX3_length_14 (q_ts hs) (by omega) (K.le (by omega)) (K.lk (q_lks3 hs)) ?_
    refine q_rfS ?_
    refine q_iload_n dX3_length_17 rfl ?_
    refine q_ialdN (len := 8) (q_ts1 hs) dX3_length_18 (by omega) (K.le (by omega)) (q_ls1 hs) (by omega) (by decide) ?_
    refine q_iadd dX3_length_19 ?_
    refine q_istore_n (L' := [_, _, _]) dX3_length_20 rfl (by decide) rfl ?_
    refine q_iincN (n := 1) (L' := [_, _, _]) (by decide) dX3_length_21 rfl rfl (by decide) rfl ?_
    refine q_goto (tgt := 4) dX3_length_24 rfl ?_
    exact q_to (ih4 (i + 1) (by omega) (by omega)) (q_sub_s rfl (q_sub_i rfl (q_sub_i rfl q_sub_0))) rfl
theorem g_X6_thresholdInForce {Φ : q_Fx} {h : q_Hp} (K : q_Lk Φ h.R h.n) {day : Int32} {n : Nat} (hp : h.I 3 2 = nI n) (hn : n ≤ 10) : q_Ct Φ false yX6_thresholdInForce cX6_thresholdInForce mX6_thresholdInForce [.ref 3, .int day] h (q_is (some (.int (q_thr (h.I 4) (h.I 5) day n).2)) h) := by
  refine q_enter K.st rfl rfl (by decide) rfl (Nat.le_of_ble_eq_true rfl) (L := [_, _, none, none, none]) rfl ?_
  refine q_sipush (v := nI 200) dX6_thresholdInForce_0 (by decide) ?_
  refine q_istore_n (L' := [_, _, _, _, _]) dX6_thresholdInForce_3 rfl (by decide) rfl ?_
  refine q_iconst (v := (-1)) dX6_thresholdInForce_4 (by decide) ?_
  refine q_istore_n (L' := [_, _, _, _, _]) dX6_thresholdInForce_5 rfl (by decide) rfl ?_
  refine q_iconst (v := nI 0) dX6_thresholdInForce_6 (by decide) ?_
  refine q_istore (L' := [_, _, _, _, _]) dX6_thresholdInForce_7 rfl (by decide) rfl ?_
  refine q_loop (ι := Nat) (μ := fun i => n - i) (P := fun i => i ≤ n) (Lf := fun i => [some (.ref 3), some (.int day), some (.int (q_thr (h.I 4) (h.I 5) day i).2), some (.int (q_thr (h.I 4) (h.I 5) day i).1), some (.int (nI (i)))]) (hf := fun i => h) (fun i hi9 ih9 => ?_) 0 (by omega) (q_sub_s rfl (q_sub_i rfl (q_sub_i rfl (q_sub_i rfl (q_sub_i rfl q_sub_0))))) rfl
  skip
  refine q_iload dX6_thresholdInForce_9 rfl ?_
  refine q_aload_n dX6_thresholdInForce_11 rfl ?_
  refine fIX6_18 dX6_thresholdInForce_12 rfl (by decide) (K.le (by decide)) ?_
  refine q_tv (show _ = nI (n) from hp) ?_
  refine q_icmp_geN (by omega) (by omega) (tgt := 62) dX6_thresholdInForce_15 rfl (fun c1 => ?_) (fun c2 => ?_)
  · refine q_iload_n dX6_thresholdInForce_62 rfl ?_
    refine q_iret dX6_thresholdInForce_63 rfl (Or.inl rfl) ?_
    exact q_isI (by rw [show i = n by omega]) rfl
  · refine q_aload_n dX6_thresholdInForce_18 rfl ?_
    refine fRX6_9 (o := some 4) dX6_thresholdInForce_19 rfl (by decide) (K.le (by decide)) (K.lk rfl) ?_
    refine q_rfS ?_
    refine q_iload dX6_thresholdInForce_22 rfl ?_
    refine q_ialdN (len := 10) rfl dX6_thresholdInForce_24 (by decide) (K.le (by decide)) rfl (by omega) (by decide) ?_
    refine q_iload_n dX6_thresholdInForce_25 rfl ?_
    refine q_icmp_gt (tgt := 56) dX6_thresholdInForce_26 rfl (fun c3 => ?_) (fun c4 => ?_)
    · refine q_iincN (n := 1) (L' := [_, _, _, _, _]) (by decide) dX6_thresholdInForce_56 rfl rfl (by decide) rfl ?_
      refine q_goto (tgt := 9) dX6_thresholdInForce_59 rfl ?_
      exact q_to (ih9 (i + 1) (by omega) (by omega)) (q_sub_s rfl (q_sub_i rfl (q_sub_i (by simp only [q_thr]; simp_all) (q_sub_i (by simp only [q_thr]; simp_all) (q_sub_i rfl q_sub_0))))) rfl
    · refine q_aload_n dX6_thresholdInForce_29 rfl ?_
      refine fRX6_9 (o := some 4) dX6_thresholdInForce_30 rfl (by decide) (K.le (by decide)) (K.lk rfl) ?_
      refine q_rfS ?_
      refine q_iload dX6_thresholdInForce_33 rfl ?_
      refine q_ialdN (len := 10) rfl dX6_thresholdInForce_35 (by decide) (K.le (by decide)) rfl (by omega) (by decide) ?_
      refine q_iload_n dX6_thresholdInForce_36 rfl ?_
      refine q_icmp_le (tgt := 56) dX6_thresholdInForce_37 rfl (fun c5 => ?_) (fun c6 => ?_)
      · refine q_iincN (n := 1) (L' := [_, _, _, _, _]) (by decide) dX6_thresholdInForce_56 rfl rfl (by decide) rfl ?_
        refine q_goto (tgt := 9) dX6_thresholdInForce_59 rfl ?_
        exact q_to (ih9 (i + 1) (by omega) (by omega)) (q_sub_s rfl (q_sub_i rfl (q_sub_i (by simp only [q_thr]; simp_all) (q_sub_i (by simp only [q_thr]; simp_all) (q_sub_i rfl q_sub_0))))) rfl
      · refine q_aload_n dX6_thresholdInForce_40 rfl ?_
        refine fRX6_9 (o := some 4) dX6_thresholdInForce_41 rfl (by decide) (K.le (by decide)) (K.lk rfl) ?_
        refine q_rfS ?_
        refine q_iload dX6_thresholdInForce_44 rfl ?_
        refine q_ialdN (len := 10) rfl dX6_thresholdInForce_46 (by decide) (K.le (by decide)) rfl (by omega) (by decide) ?_
        refine q_istore_n (L' := [_, _, _, _, _]) dX6_thresholdInForce_47 rfl (by decide) rfl ?_
        refine q_aload_n dX6_thresholdInForce_48 rfl ?_
        refine fRX6_15 (o := some 5) dX6_thresholdInForce_49 rfl (by decide) (K.le (by decide)) (K.lk rfl) ?_
        refine q_rfS ?_
        refine q_iload dX6_thresholdInForce_52 rfl ?_
        refine q_ialdN (len := 10) rfl dX6_thresholdInForce_54 (by decide) (K.le (by decide)) rfl (by omega) (by decide) ?_
        refine q_istore_n (L' := [_, _, _, _, _]) dX6_thresholdInForce_55 rfl (by decide) rfl ?_
        refine q_iincN (n := 1) (L' := [_, _, _, _, _]) (by decide) dX6_thresholdInForce_56 rfl rfl (by decide) rfl ?_
        refine q_goto (tgt := 9) dX6_thresholdInForce_59 rfl ?_
        exact q_to (ih9 (i + 1) (by omega) (by omega)) (q_sub_s rfl (q_sub_i rfl (q_sub_i (by simp only [q_thr]; simp_all) (q_sub_i (by simp only [q_thr]; simp_all) (q_sub_i rfl q_sub_0))))) rfl
