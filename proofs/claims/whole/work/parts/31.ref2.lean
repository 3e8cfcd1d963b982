/-! THE REFERENCE'S OWN METHODS -/
/-- a session of the reference in its order: how many are ahead -/
def q_W.ah (m : q_W) (k : Nat) : Nat := q_cn (fun j => decide (m.dy j < m.dy k ∨ (m.dy j = m.dy k ∧ m.id j < m.id k))) m.c
/-- the loads of days, 0 behind the last -/
def q_W.D2 (m : q_W) (k : Nat) : Int32 := if k ≤ 199 then m.D k else nI 0
theorem q_lt1 {x : Int32} {n i : Nat} (hx : x = nI n - nI 1) (hn : n < 2 ^ 30) (hi : i < 2 ^ 30) : (x < nI i ↔ n ≤ i) := by
  rw [hx, Int32.lt_iff_toInt_lt, pk_sub_toInt hn (by omega), nI_toInt (by omega)]
  omega
/-- as q_W.dl, in the reference's order -/
theorem q_dl_z (m : q_W) (g : Nat → Int32) (n : Nat) (hσ : ∀ i, m.σ i = i) : m.dl g (n + 1) = va_up (m.dl g n) (m.dy n) (m.dl g n (m.dy n) + m.ld n) := by
  show va_up (m.dl g n) (m.dy (m.σ n)) (m.dl g n (m.dy (m.σ n)) + m.ld (m.σ n)) = _
  rw [hσ]
theorem g_X10_isIn {Φ : q_Fx} {h : q_Hp} (K : q_Lk Φ h.R h.n) {v lo hi : Int32} : q_Ct Φ false yX10_isIn cX10_isIn mX10_isIn [.int v, .int lo, .int hi] h (q_is (some (.int (q_bl (decide (lo ≤ v ∧ v ≤ hi))))) h) := by
  refine q_enter K.st rfl rfl (by decide) rfl (Nat.le_of_ble_eq_true rfl) (L := [_, _, _]) rfl ?_
  refine q_iload_n dX10_isIn_0 rfl ?_
  refine q_iload_n dX10_isIn_1 rfl ?_
  refine q_icmp_lt (tgt := 14) dX10_isIn_2 rfl (fun c1 => ?_) (fun c2 => ?_)
  · refine q_iconst (v := nI 0) dX10_isIn_14 (by decide) ?_
    refine q_zret (ty := .boolean) dX10_isIn_15 rfl rfl (Or.inl rfl) ?_
    exact q_isI (by simp only [q_bl]; split <;> first | rfl | (exfalso; simp only [decide_eq_true_eq, Int32.lt_iff_toInt_lt, Int32.le_iff_toInt_le] at *; omega)) rfl
  · refine q_iload_n dX10_isIn_5 rfl ?_
    refine q_iload_n dX10_isIn_6 rfl ?_
    refine q_icmp_gt (tgt := 14) dX10_isIn_7 rfl (fun c3 => ?_) (fun c4 => ?_)
    · refine q_iconst (v := nI 0) dX10_isIn_14 (by decide) ?_
      refine q_zret (ty := .boolean) dX10_isIn_15 rfl rfl (Or.inl rfl) ?_
      exact q_isI (by simp only [q_bl]; split <;> first | rfl | (exfalso; simp only [decide_eq_true_eq, Int32.lt_iff_toInt_lt, Int32.le_iff_toInt_le] at *; omega)) rfl
    · refine q_iconst (v := nI 1) dX10_isIn_10 (by decide) ?_
      refine q_goto (tgt := 15) dX10_isIn_11 rfl ?_
      refine q_zret (ty := .boolean) dX10_isIn_15 rfl rfl (Or.inl rfl) ?_
      exact q_isI (by simp only [q_bl]; split <;> first | rfl | (exfalso; simp only [decide_eq_true_eq, Int32.lt_iff_toInt_lt, Int32.le_iff_toInt_le] at *; omega)) rfl
theorem g_thrT {Φ : q_Fx} {h : q_Hp} (K : q_Lk Φ h.R h.n) {a : Nat} : q_Ct Φ false yX10_isThrown cX10_isThrown mX10_isThrown [.ref 1061, .int (nI (1)), .int (nI (a))] h (q_is (some (.int (nI 1))) (h.setI 1061 12 (nI a))) := by
  refine q_enter K.st rfl rfl (by decide) rfl (Nat.le_of_ble_eq_true rfl) (L := [_, _, _]) rfl ?_
  refine q_aload_n dX10_isThrown_0 rfl ?_
  refine q_iload_n dX10_isThrown_1 rfl ?_
  refine q_if_eq (tgt := 9) dX10_isThrown_2 rfl (fun c => absurd c (by decide)) (fun _ => ?_)
  refine q_iload_n dX10_isThrown_5 rfl ?_
  refine q_goto (tgt := 10) dX10_isThrown_6 rfl ?_
  refine pIX10_31 dX10_isThrown_10 rfl (by decide) (K.le (by decide)) ?_
  refine q_iload_n dX10_isThrown_13 rfl ?_
  refine q_zret (ty := .boolean) dX10_isThrown_14 rfl rfl (Or.inl rfl) ?_
  exact ⟨rfl, rfl⟩
theorem g_thrF {Φ : q_Fx} {h : q_Hp} (K : q_Lk Φ h.R h.n) {a : Nat} : q_Ct Φ false yX10_isThrown cX10_isThrown mX10_isThrown [.ref 1061, .int (nI (0)), .int (nI (a))] h (q_is (some (.int (nI 0))) (h.setI 1061 12 (nI 0))) := by
  refine q_enter K.st rfl rfl (by decide) rfl (Nat.le_of_ble_eq_true rfl) (L := [_, _, _]) rfl ?_
  refine q_aload_n dX10_isThrown_0 rfl ?_
  refine q_iload_n dX10_isThrown_1 rfl ?_
  refine q_if_eq (tgt := 9) dX10_isThrown_2 rfl (fun _ => ?_) (fun c => absurd (by decide) c)
  refine q_iconst (v := nI 0) dX10_isThrown_9 (by decide) ?_
  refine pIX10_31 dX10_isThrown_10 rfl (by decide) (K.le (by decide)) ?_
  refine q_iload_n dX10_isThrown_13 rfl ?_
  refine q_zret (ty := .boolean) dX10_isThrown_14 rfl rfl (Or.inl rfl) ?_
  exact ⟨rfl, rfl⟩
theorem g_X10_at {Φ : q_Fx} {h : q_Hp} (K : q_Lk Φ h.R h.n) {k : Nat} : q_Ct Φ false yX10_at cX10_at mX10_at [.ref 1061, .int (nI (k))] h (q_is (some (.int (nI (70 + 19 * k)))) h) := by
  refine q_enter K.st rfl rfl (by decide) rfl (Nat.le_of_ble_eq_true rfl) (L := [_, _]) rfl ?_
  refine q_bipush (v := nI 70) dX10_at_0 (by decide) ?_
  refine q_bipush (v := nI 19) dX10_at_2 (by decide) ?_
  refine q_iload_n dX10_at_4 rfl ?_
  refine q_imulN dX10_at_5 ?_
  refine q_iaddN dX10_at_6 ?_
  refine q_iret dX10_at_7 rfl (Or.inl rfl) ?_
  exact q_isI rfl rfl
theorem q_ss (h : q_Hp) (a f : Nat) (v u : Int32) : (h.setI a f v).setI a f u = h.setI a f u := by
  rw [q_setI_row h, q_rset]
  show h.rowI a _ = h.rowI a _
  congr 1
  funext k
  unfold va_up
  split <;> rfl
theorem g_X10_isNoDay {Φ : q_Fx} {h : q_Hp} (K : q_Lk Φ h.R h.n) {w : Nat} (hw : q_mw w) (hs : h.R 1061 0 = some w) {m : q_W} (M : q_rw (h.I w) m) {d : Int32} : q_Ct Φ false yX10_isNoDay cX10_isNoDay mX10_isNoDay [.ref 1061, .int d] h (q_is (some (.int (q_bl (decide (¬ (nI 0 ≤ d ∧ d ≤ nI m.t)))))) h) := by
  refine q_enter K.st rfl rfl (by decide) rfl (Nat.le_of_ble_eq_true rfl) (L := [_, _]) rfl ?_
  have hw1 := q_mw1 hw
  refine q_iload_n dX10_isNoDay_0 rfl ?_
  refine q_iconst (v := nI 0) dX10_isNoDay_1 (by decide) ?_
  refine q_aload_n dX10_isNoDay_2 rfl ?_
  refine fRX10_9 (o := some w) dX10_isNoDay_3 rfl (by decide) (K.le (by decide)) hs ?_
  refine q_rfS ?_
  refine q_iconst (v := nI 0) dX10_isNoDay_6 (by decide) ?_
  refine q_ialdN (len := 830) (q_mwt hw) dX10_isNoDay_7 (q_mwn hw).1 (K.le (q_mwn hw).2) (q_mwl hw) (by omega) (by decide) ?_
  refine q_tv (show _ = (nI (m.t)) from M.t) ?_
  refine q_sD (kc := 0) (ks := 0) (g_X10_isIn (h := h) K (v := d) (lo := (nI (0))) (hi := (nI (m.t)))) wX10_isIn kX10_47 sX10_isIn (by decide) rfl rfl (Nat.le_of_ble_eq_true rfl) dX10_isNoDay_8 rfl rfl ?_
  refine q_spl (fun c1 => ?_) (fun c2 => ?_)
  · refine q_if_ne (tgt := 18) dX10_isNoDay_11 rfl (fun _ => ?_) (fun c => absurd c (by decide))
    refine q_iconst (v := nI 0) dX10_isNoDay_18 (by decide) ?_
    refine q_zret (ty := .boolean) dX10_isNoDay_19 rfl rfl (Or.inl rfl) ?_
    exact q_isI (by simp only [q_bl]; split <;> first | rfl | (exfalso; simp_all)) rfl
  · refine q_if_ne (tgt := 18) dX10_isNoDay_11 rfl (fun c => absurd (by decide) c) (fun _ => ?_)
    refine q_iconst (v := nI 1) dX10_isNoDay_14 (by decide) ?_
    refine q_goto (tgt := 19) dX10_isNoDay_15 rfl ?_
    refine q_zret (ty := .boolean) dX10_isNoDay_19 rfl rfl (Or.inl rfl) ?_
    exact q_isI (by simp only [q_bl]; split <;> first | rfl | (exfalso; simp_all)) rfl
theorem g_X10_testOn {Φ : q_Fx} {h : q_Hp} (K : q_Lk Φ h.R h.n) {w : Nat} (hw : q_mw w) (hs : h.R 1061 0 = some w) {m : q_W} (M : q_rw (h.I w) m) {d : Int32} : q_Ct Φ false yX10_testOn cX10_testOn mX10_testOn [.ref 1061, .int d] h (q_is (some (.int (q_pl (fun i => decide (m.d i = d)) m.n))) h) := by
  refine q_enter K.st rfl rfl (by decide) rfl (Nat.le_of_ble_eq_true rfl) (L := [_, _, none, none]) rfl ?_
  have hw1 := q_mw1 hw
  have hn := M.n10
  refine q_iconst (v := (-1)) dX10_testOn_0 (by decide) ?_
  refine q_istore_n (L' := [_, _, _, _]) dX10_testOn_1 rfl (by decide) rfl ?_
  refine q_iconst (v := nI 0) dX10_testOn_2 (by decide) ?_
  refine q_istore_n (L' := [_, _, _, _]) dX10_testOn_3 rfl (by decide) rfl ?_
  refine q_loop (ι := Nat) (μ := fun i => m.n - i) (P := fun i => i ≤ m.n) (Lf := fun i => [some (.ref 1061), some (.int d), some (.int (q_pl (fun i => decide (m.d i = d)) i)), some (.int (nI (i)))]) (hf := fun i => h) (fun i hi4 ih4 => ?_) 0 (by omega) (q_sub_s rfl (q_sub_i rfl (q_sub_i rfl (q_sub_i rfl q_sub_0)))) rfl
  skip
  refine q_iload_n dX10_testOn_4 rfl ?_
  refine q_aload_n dX10_testOn_5 rfl ?_
  refine fRX10_9 (o := some w) dX10_testOn_6 rfl (by decide) (K.le (by decide)) hs ?_
  refine q_rfS ?_
  refine q_iconst (v := nI 3) dX10_testOn_9 (by decide) ?_
  refine q_ialdN (len := 830) (q_mwt hw) dX10_testOn_10 (q_mwn hw).1 (K.le (q_mwn hw).2) (q_mwl hw) (by omega) (by decide) ?_
  refine q_tv (show _ = (nI (m.n)) from M.n) ?_
  refine q_icmp_geN (by omega) (by omega) (tgt := 41) dX10_testOn_11 rfl (fun c1 => ?_) (fun c2 => ?_)
  · refine q_iload_n dX10_testOn_41 rfl ?_
    refine q_iret dX10_testOn_42 rfl (Or.inl rfl) ?_
    exact q_isI (by rw [show i = m.n by omega]) rfl
  · refine q_aload_n dX10_testOn_14 rfl ?_
    refine fRX10_9 (o := some w) dX10_testOn_15 rfl (by decide) (K.le (by decide)) hs ?_
    refine q_rfS ?_
    refine q_bipush (v := nI 20) dX10_testOn_18 (by decide) ?_
    refine q_iconst (v := nI 2) dX10_testOn_20 (by decide) ?_
    refine q_iload_n dX10_testOn_21 rfl ?_
    refine q_imulN dX10_testOn_22 ?_
    refine q_iaddN dX10_testOn_23 ?_
    refine q_ialdN (len := 830) (q_mwt hw) dX10_testOn_24 (q_mwn hw).1 (K.le (q_mwn hw).2) (q_mwl hw) (by omega) (by decide) ?_
    refine q_tv (show _ = (m.d i) from ((congrArg (h.I w) (show ((20) + ((2) * (i))) = 20 + 2 * i by omega)).trans (M.d (k := i) (by omega)))) ?_
    refine q_iload_n dX10_testOn_25 rfl ?_
    refine q_icmp_ne (tgt := 33) dX10_testOn_26 rfl (fun c3 => ?_) (fun c4 => ?_)
    · refine q_iload_n dX10_testOn_33 rfl ?_
      refine q_istore_n (L' := [_, _, _, _]) dX10_testOn_34 rfl (by decide) rfl ?_
      refine q_iincN (n := 1) (L' := [_, _, _, _]) (by decide) dX10_testOn_35 rfl rfl (by decide) rfl ?_
      refine q_goto (tgt := 4) dX10_testOn_38 rfl ?_
      exact q_to (ih4 (i + 1) (by omega) (by omega)) (q_sub_s rfl (q_sub_i rfl (q_sub_i (by simp [q_pl, *]) (q_sub_i rfl q_sub_0)))) rfl
    · refine q_iload_n dX10_testOn_29 rfl ?_
      refine q_goto (tgt := 34) dX10_testOn_30 rfl ?_
      refine q_istore_n (L' := [_, _, _, _]) dX10_testOn_34 rfl (by decide) rfl ?_
      refine q_iincN (n := 1) (L' := [_, _, _, _]) (by decide) dX10_testOn_35 rfl rfl (by decide) rfl ?_
      refine q_goto (tgt := 4) dX10_testOn_38 rfl ?_
      exact q_to (ih4 (i + 1) (by omega) (by omega)) (q_sub_s rfl (q_sub_i rfl (q_sub_i (by simp [q_pl, *]) (q_sub_i rfl q_sub_0)))) rfl
theorem g_X10_threshold {Φ : q_Fx} {h : q_Hp} (K : q_Lk Φ h.R h.n) {w : Nat} (hw : q_mw w) (hs : h.R 1061 0 = some w) {m : q_W} (M : q_rw (h.I w) m) {d : Int32} : q_Ct Φ false yX10_threshold cX10_threshold mX10_threshold [.ref 1061, .int d] h (q_is (some (.int (m.th d))) h) := by
  refine q_enter K.st rfl rfl (by decide) rfl (Nat.le_of_ble_eq_true rfl) (L := [_, _, none, none, none]) rfl ?_
  have hw1 := q_mw1 hw
  have hn := M.n10
  refine q_iconst (v := (-1)) dX10_threshold_0 (by decide) ?_
  refine q_istore_n (L' := [_, _, _, _, _]) dX10_threshold_1 rfl (by decide) rfl ?_
  refine q_sipush (v := nI 200) dX10_threshold_2 (by decide) ?_
  refine q_istore_n (L' := [_, _, _, _, _]) dX10_threshold_5 rfl (by decide) rfl ?_
  refine q_iconst (v := nI 0) dX10_threshold_6 (by decide) ?_
  refine q_istore (L' := [_, _, _, _, _]) dX10_threshold_7 rfl (by decide) rfl ?_
  refine q_loop (ι := Nat) (μ := fun i => m.n - i) (P := fun i => i ≤ m.n) (Lf := fun i => [some (.ref 1061), some (.int d), some (.int (q_thr m.d m.v d i).1), some (.int (q_thr m.d m.v d i).2), some (.int (nI (i)))]) (hf := fun i => h) (fun i hi9 ih9 => ?_) 0 (by omega) (q_sub_s rfl (q_sub_i rfl (q_sub_i rfl (q_sub_i rfl (q_sub_i rfl q_sub_0))))) rfl
  skip
  refine q_iload dX10_threshold_9 rfl ?_
  refine q_aload_n dX10_threshold_11 rfl ?_
  refine fRX10_9 (o := some w) dX10_threshold_12 rfl (by decide) (K.le (by decide)) hs ?_
  refine q_rfS ?_
  refine q_iconst (v := nI 3) dX10_threshold_15 (by decide) ?_
  refine q_ialdN (len := 830) (q_mwt hw) dX10_threshold_16 (q_mwn hw).1 (K.le (q_mwn hw).2) (q_mwl hw) (by omega) (by decide) ?_
  refine q_tv (show _ = (nI (m.n)) from M.n) ?_
  refine q_icmp_geN (by omega) (by omega) (tgt := 86) dX10_threshold_17 rfl (fun c1 => ?_) (fun c2 => ?_)
  · refine q_iload_n dX10_threshold_86 rfl ?_
    refine q_iret dX10_threshold_87 rfl (Or.inl rfl) ?_
    exact q_isI (by rw [show i = m.n by omega]; rfl) rfl
  · refine q_aload_n dX10_threshold_20 rfl ?_
    refine fRX10_9 (o := some w) dX10_threshold_21 rfl (by decide) (K.le (by decide)) hs ?_
    refine q_rfS ?_
    refine q_bipush (v := nI 20) dX10_threshold_24 (by decide) ?_
    refine q_iconst (v := nI 2) dX10_threshold_26 (by decide) ?_
    refine q_iload dX10_threshold_27 rfl ?_
    refine q_imulN dX10_threshold_29 ?_
    refine q_iaddN dX10_threshold_30 ?_
    refine q_ialdN (len := 830) (q_mwt hw) dX10_threshold_31 (q_mwn hw).1 (K.le (q_mwn hw).2) (q_mwl hw) (by omega) (by decide) ?_
    refine q_tv (show _ = (m.d i) from ((congrArg (h.I w) (show ((20) + ((2) * (i))) = 20 + 2 * i by omega)).trans (M.d (k := i) (by omega)))) ?_
    refine q_iload_n dX10_threshold_32 rfl ?_
    refine q_icmp_gt (tgt := 80) dX10_threshold_33 rfl (fun c3 => ?_) (fun c4 => ?_)
    · refine q_iincN (n := 1) (L' := [_, _, _, _, _]) (by decide) dX10_threshold_80 rfl rfl (by decide) rfl ?_
      refine q_goto (tgt := 9) dX10_threshold_83 rfl ?_
      exact q_to (ih9 (i + 1) (by omega) (by omega)) (q_sub_s rfl (q_sub_i rfl (q_sub_i (by simp only [q_thr]; split <;> first | rfl | (exfalso; simp only [Int32.lt_iff_toInt_lt, Int32.le_iff_toInt_le] at *; omega)) (q_sub_i (by simp only [q_thr]; split <;> first | rfl | (exfalso; simp only [Int32.lt_iff_toInt_lt, Int32.le_iff_toInt_le] at *; omega)) (q_sub_i rfl q_sub_0))))) rfl
    · refine q_aload_n dX10_threshold_36 rfl ?_
      refine fRX10_9 (o := some w) dX10_threshold_37 rfl (by decide) (K.le (by decide)) hs ?_
      refine q_rfS ?_
      refine q_bipush (v := nI 20) dX10_threshold_40 (by decide) ?_
      refine q_iconst (v := nI 2) dX10_threshold_42 (by decide) ?_
      refine q_iload dX10_threshold_43 rfl ?_
      refine q_imulN dX10_threshold_45 ?_
      refine q_iaddN dX10_threshold_46 ?_
      refine q_ialdN (len := 830) (q_mwt hw) dX10_threshold_47 (q_mwn hw).1 (K.le (q_mwn hw).2) (q_mwl hw) (by omega) (by decide) ?_
      refine q_tv (show _ = (m.d i) from ((congrArg (h.I w) (show ((20) + ((2) * (i))) = 20 + 2 * i by omega)).trans (M.d (k := i) (by omega)))) ?_
      refine q_iload_n dX10_threshold_48 rfl ?_
      refine q_icmp_le (tgt := 80) dX10_threshold_49 rfl (fun c5 => ?_) (fun c6 => ?_)
      · refine q_iincN (n := 1) (L' := [_, _, _, _, _]) (by decide) dX10_threshold_80 rfl rfl (by decide) rfl ?_
        refine q_goto (tgt := 9) dX10_threshold_83 rfl ?_
        exact q_to (ih9 (i + 1) (by omega) (by omega)) (q_sub_s rfl (q_sub_i rfl (q_sub_i (by simp only [q_thr]; split <;> first | rfl | (exfalso; simp only [Int32.lt_iff_toInt_lt, Int32.le_iff_toInt_le] at *; omega)) (q_sub_i (by simp only [q_thr]; split <;> first | rfl | (exfalso; simp only [Int32.lt_iff_toInt_lt, Int32.le_iff_toInt_le] at *; omega)) (q_sub_i rfl q_sub_0))))) rfl
      · refine q_aload_n dX10_threshold_52 rfl ?_
        refine fRX10_9 (o := some w) dX10_threshold_53 rfl (by decide) (K.le (by decide)) hs ?_
        refine q_rfS ?_
        refine q_bipush (v := nI 20) dX10_threshold_56 (by decide) ?_
        refine q_iconst (v := nI 2) dX10_threshold_58 (by decide) ?_
        refine q_iload dX10_threshold_59 rfl ?_
        refine q_imulN dX10_threshold_61 ?_
        refine q_iaddN dX10_threshold_62 ?_
        refine q_ialdN (len := 830) (q_mwt hw) dX10_threshold_63 (q_mwn hw).1 (K.le (q_mwn hw).2) (q_mwl hw) (by omega) (by decide) ?_
        refine q_tv (show _ = (m.d i) from ((congrArg (h.I w) (show ((20) + ((2) * (i))) = 20 + 2 * i by omega)).trans (M.d (k := i) (by omega)))) ?_
        refine q_istore_n (L' := [_, _, _, _, _]) dX10_threshold_64 rfl (by decide) rfl ?_
        refine q_aload_n dX10_threshold_65 rfl ?_
        refine fRX10_9 (o := some w) dX10_threshold_66 rfl (by decide) (K.le (by decide)) hs ?_
        refine q_rfS ?_
        refine q_bipush (v := nI 20) dX10_threshold_69 (by decide) ?_
        refine q_iconst (v := nI 2) dX10_threshold_71 (by decide) ?_
        refine q_iload dX10_threshold_72 rfl ?_
        refine q_imulN dX10_threshold_74 ?_
        refine q_iaddN dX10_threshold_75 ?_
        refine q_iconst (v := nI 1) dX10_threshold_76 (by decide) ?_
        refine q_iaddN dX10_threshold_77 ?_
        refine q_ialdN (len := 830) (q_mwt hw) dX10_threshold_78 (q_mwn hw).1 (K.le (q_mwn hw).2) (q_mwl hw) (by omega) (by decide) ?_
        refine q_tv (show _ = (m.v i) from ((congrArg (h.I w) (show (((20) + ((2) * (i))) + (1)) = 21 + 2 * i by omega)).trans (M.v (k := i) (by omega)))) ?_
        refine q_istore_n (L' := [_, _, _, _, _]) dX10_threshold_79 rfl (by decide) rfl ?_
        refine q_iincN (n := 1) (L' := [_, _, _, _, _]) (by decide) dX10_threshold_80 rfl rfl (by decide) rfl ?_
        refine q_goto (tgt := 9) dX10_threshold_83 rfl ?_
        exact q_to (ih9 (i + 1) (by omega) (by omega)) (q_sub_s rfl (q_sub_i rfl (q_sub_i (by simp only [q_thr]; split <;> first | rfl | (exfalso; simp only [Int32.lt_iff_toInt_lt, Int32.le_iff_toInt_le] at *; omega)) (q_sub_i (by simp only [q_thr]; split <;> first | rfl | (exfalso; simp only [Int32.lt_iff_toInt_lt, Int32.le_iff_toInt_le] at *; omega)) (q_sub_i rfl q_sub_0))))) rfl
theorem g_X10_zone {Φ : q_Fx} {h : q_Hp} (K : q_Lk Φ h.R h.n) {w : Nat} (hw : q_mw w) (hs : h.R 1061 0 = some w) {m : q_W} (M : q_rw (h.I w) m) (v : q_val m) {d : Int32} {x : Nat} (hx : x ≤ 500) : q_Ct Φ false yX10_zone cX10_zone mX10_zone [.ref 1061, .int d, .int (nI (x))] h (q_is (some (.int (nI (q_zn m.bd (nI x) (m.th d))))) h) := by
  refine q_enter K.st rfl rfl (by decide) rfl (Nat.le_of_ble_eq_true rfl) (L := [_, _, _, none, none, none]) rfl ?_
  have hw1 := q_mw1 hw
  obtain ⟨t, ht1, ht4, ht⟩ := q_thr_v v d
  refine q_bipush (v := nI 100) dX10_zone_0 (by decide) ?_
  refine q_iload_n dX10_zone_2 rfl ?_
  refine q_imulN dX10_zone_3 ?_
  refine q_aload_n dX10_zone_4 rfl ?_
  refine q_iload_n dX10_zone_5 rfl ?_
  refine q_vD (kc := 0) (ks := 0) (g_X10_threshold (h := h) K (hw) hs (M) (d := d)) wX10_threshold kX10_69 iX10_threshold eX10_threshold rfl rfl (by decide) (K.le (by decide)) (by decide) rfl rfl (Nat.le_of_ble_eq_true rfl) dX10_zone_6 rfl rfl ?_
  rw [ht]
  refine q_idivN (by omega) (by omega) (by omega) dX10_zone_9 ?_
  refine q_istore_n (L' := [_, _, _, _, _, _]) dX10_zone_10 rfl (by decide) rfl ?_
  refine q_iconst (v := nI 1) dX10_zone_11 (by decide) ?_
  refine q_istore (L' := [_, _, _, _, _, _]) dX10_zone_12 rfl (by decide) rfl ?_
  refine q_iconst (v := nI 2) dX10_zone_14 (by decide) ?_
  refine q_istore (L' := [_, _, _, _, _, _]) dX10_zone_15 rfl (by decide) rfl ?_
  refine q_loop (ι := Nat) (μ := fun i => 4 - i) (P := fun i => i ≤ 4) (Lf := fun i => [some (.ref 1061), some (.int d), some (.int (nI (x))), some (.int (nI (100 * x / t))), some (.int (nI (q_zf m.bd (nI (100 * x / t)) i))), some (.int (nI (i + 2)))]) (hf := fun i => h) (fun i hi17 ih17 => ?_) 0 (by omega) (q_sub_s rfl (q_sub_i rfl (q_sub_i rfl (q_sub_i rfl (q_sub_i rfl (q_sub_i rfl q_sub_0)))))) rfl
  skip
  refine q_iload dX10_zone_17 rfl ?_
  refine q_iconst (v := nI 5) dX10_zone_19 (by decide) ?_
  refine q_icmp_gtN (by omega) (by omega) (tgt := 52) dX10_zone_20 rfl (fun c1 => ?_) (fun c2 => ?_)
  · refine q_iload dX10_zone_52 rfl ?_
    refine q_iret dX10_zone_54 rfl (Or.inl rfl) ?_
    exact q_isI (by rw [show i = 4 by omega, show nI (100 * x / t) = nI 100 * nI x / nI t by rw [pk_mul, pk_div (by omega) (by omega) (by omega)], q_zf_zn v hx ht1 ht4]) rfl
  · refine q_aload_n dX10_zone_23 rfl ?_
    refine fRX10_9 (o := some w) dX10_zone_24 rfl (by decide) (K.le (by decide)) hs ?_
    refine q_rfS ?_
    refine q_bipush (v := nI 8) dX10_zone_27 (by decide) ?_
    refine q_iload dX10_zone_29 rfl ?_
    refine q_iaddN dX10_zone_31 ?_
    refine q_ialdN (len := 830) (q_mwt hw) dX10_zone_32 (q_mwn hw).1 (K.le (q_mwn hw).2) (q_mwl hw) (by omega) (by decide) ?_
    refine q_tv (show _ = (m.bd (i + 2)) from ((congrArg (h.I w) (show ((8) + (i + 2)) = 8 + (i + 2) by omega)).trans (M.bd (z := (i + 2)) (by omega)))) ?_
    refine q_iload_n dX10_zone_33 rfl ?_
    refine q_icmp_gt (tgt := 42) dX10_zone_34 rfl (fun c3 => ?_) (fun c4 => ?_)
    · refine q_iload dX10_zone_42 rfl ?_
      refine q_istore (L' := [_, _, _, _, _, _]) dX10_zone_44 rfl (by decide) rfl ?_
      refine q_iincN (n := 1) (L' := [_, _, _, _, _, _]) (by decide) dX10_zone_46 rfl rfl (by decide) rfl ?_
      refine q_goto (tgt := 17) dX10_zone_49 rfl ?_
      exact q_to (ih17 (i + 1) (by omega) (by omega)) (q_sub_s rfl (q_sub_i rfl (q_sub_i rfl (q_sub_i rfl (q_sub_i (by simp only [q_zf]; split <;> first | rfl | (exfalso; simp only [Int32.lt_iff_toInt_lt, Int32.le_iff_toInt_le] at *; omega)) (q_sub_i rfl q_sub_0)))))) rfl
    · refine q_iload dX10_zone_37 rfl ?_
      refine q_goto (tgt := 44) dX10_zone_39 rfl ?_
      refine q_istore (L' := [_, _, _, _, _, _]) dX10_zone_44 rfl (by decide) rfl ?_
      refine q_iincN (n := 1) (L' := [_, _, _, _, _, _]) (by decide) dX10_zone_46 rfl rfl (by decide) rfl ?_
      refine q_goto (tgt := 17) dX10_zone_49 rfl ?_
      exact q_to (ih17 (i + 1) (by omega) (by omega)) (q_sub_s rfl (q_sub_i rfl (q_sub_i rfl (q_sub_i rfl (q_sub_i (by simp only [q_zf]; split <;> first | rfl | (exfalso; simp only [Int32.lt_iff_toInt_lt, Int32.le_iff_toInt_le] at *; omega)) (q_sub_i rfl q_sub_0)))))) rfl
theorem g_X10_place {Φ : q_Fx} {h : q_Hp} (K : q_Lk Φ h.R h.n) {w : Nat} (hw : q_mw w) (hs : h.R 1061 0 = some w) {m : q_W} (M : q_rw (h.I w) m) {x : Int32} : q_Ct Φ false yX10_place cX10_place mX10_place [.ref 1061, .int x] h (q_is (some (.int (q_pl (fun k => decide (m.id k = x)) m.c))) h) := by
  refine q_enter K.st rfl rfl (by decide) rfl (Nat.le_of_ble_eq_true rfl) (L := [_, _, none, none]) rfl ?_
  have hw1 := q_mw1 hw
  have hc := M.c40
  refine q_iconst (v := (-1)) dX10_place_0 (by decide) ?_
  refine q_istore_n (L' := [_, _, _, _]) dX10_place_1 rfl (by decide) rfl ?_
  refine q_iconst (v := nI 0) dX10_place_2 (by decide) ?_
  refine q_istore_n (L' := [_, _, _, _]) dX10_place_3 rfl (by decide) rfl ?_
  refine q_loop (ι := Nat) (μ := fun i => m.c - i) (P := fun i => i ≤ m.c) (Lf := fun i => [some (.ref 1061), some (.int x), some (.int (q_pl (fun k => decide (m.id k = x)) i)), some (.int (nI (i)))]) (hf := fun i => h) (fun i hi4 ih4 => ?_) 0 (by omega) (q_sub_s rfl (q_sub_i rfl (q_sub_i rfl (q_sub_i rfl q_sub_0)))) rfl
  skip
  refine q_iload_n dX10_place_4 rfl ?_
  refine q_aload_n dX10_place_5 rfl ?_
  refine fRX10_9 (o := some w) dX10_place_6 rfl (by decide) (K.le (by decide)) hs ?_
  refine q_rfS ?_
  refine q_iconst (v := nI 2) dX10_place_9 (by decide) ?_
  refine q_ialdN (len := 830) (q_mwt hw) dX10_place_10 (q_mwn hw).1 (K.le (q_mwn hw).2) (q_mwl hw) (by omega) (by decide) ?_
  refine q_tv (show _ = (nI (m.c)) from M.c) ?_
  refine q_icmp_geN (by omega) (by omega) (tgt := 40) dX10_place_11 rfl (fun c1 => ?_) (fun c2 => ?_)
  · refine q_iload_n dX10_place_40 rfl ?_
    refine q_iret dX10_place_41 rfl (Or.inl rfl) ?_
    exact q_isI (by rw [show i = m.c by omega]) rfl
  · refine q_aload_n dX10_place_14 rfl ?_
    refine fRX10_9 (o := some w) dX10_place_15 rfl (by decide) (K.le (by decide)) hs ?_
    refine q_rfS ?_
    refine q_aload_n dX10_place_18 rfl ?_
    refine q_iload_n dX10_place_19 rfl ?_
    refine q_vD (kc := 0) (ks := 0) (g_X10_at (h := h) K (k := i)) wX10_at kX10_75 iX10_at eX10_at rfl rfl (by decide) (K.le (by decide)) (by decide) rfl rfl (Nat.le_of_ble_eq_true rfl) dX10_place_20 rfl rfl ?_
    refine q_ialdN (len := 830) (q_mwt hw) dX10_place_23 (q_mwn hw).1 (K.le (q_mwn hw).2) (q_mwl hw) (by omega) (by decide) ?_
    refine q_tv (show _ = (m.id i) from (M.id (by omega))) ?_
    refine q_iload_n dX10_place_24 rfl ?_
    refine q_icmp_ne (tgt := 32) dX10_place_25 rfl (fun c3 => ?_) (fun c4 => ?_)
    · refine q_iload_n dX10_place_32 rfl ?_
      refine q_istore_n (L' := [_, _, _, _]) dX10_place_33 rfl (by decide) rfl ?_
      refine q_iincN (n := 1) (L' := [_, _, _, _]) (by decide) dX10_place_34 rfl rfl (by decide) rfl ?_
      refine q_goto (tgt := 4) dX10_place_37 rfl ?_
      exact q_to (ih4 (i + 1) (by omega) (by omega)) (q_sub_s rfl (q_sub_i rfl (q_sub_i (by simp [q_pl, *]) (q_sub_i rfl q_sub_0)))) rfl
    · refine q_iload_n dX10_place_28 rfl ?_
      refine q_goto (tgt := 33) dX10_place_29 rfl ?_
      refine q_istore_n (L' := [_, _, _, _]) dX10_place_33 rfl (by decide) rfl ?_
      refine q_iincN (n := 1) (L' := [_, _, _, _]) (by decide) dX10_place_34 rfl rfl (by decide) rfl ?_
      refine q_goto (tgt := 4) dX10_place_37 rfl ?_
      exact q_to (ih4 (i + 1) (by omega) (by omega)) (q_sub_s rfl (q_sub_i rfl (q_sub_i (by simp [q_pl, *]) (q_sub_i rfl q_sub_0)))) rfl
theorem g_X10_minutes {Φ : q_Fx} {h : q_Hp} (K : q_Lk Φ h.R h.n) {w : Nat} (hw : q_mw w) (hs : h.R 1061 0 = some w) {m : q_W} (M : q_rw (h.I w) m) {k : Nat} (hk : k < 40) : q_Ct Φ false yX10_minutes cX10_minutes mX10_minutes [.ref 1061, .int (nI (k))] h (q_is (some (.int (m.len k))) h) := by
  refine q_enter K.st rfl rfl (by decide) rfl (Nat.le_of_ble_eq_true rfl) (L := [_, _, none, none]) rfl ?_
  have hw1 := q_mw1 hw
  have hp := M.pn8 hk
  refine q_iconst (v := nI 0) dX10_minutes_0 (by decide) ?_
  refine q_istore_n (L' := [_, _, _, _]) dX10_minutes_1 rfl (by decide) rfl ?_
  refine q_iconst (v := nI 0) dX10_minutes_2 (by decide) ?_
  refine q_istore_n (L' := [_, _, _, _]) dX10_minutes_3 rfl (by decide) rfl ?_
  refine q_loop (ι := Nat) (μ := fun i => m.pn k - i) (P := fun i => i ≤ m.pn k) (Lf := fun i => [some (.ref 1061), some (.int (nI (k))), some (.int (q_sum (m.mn k) i)), some (.int (nI (i)))]) (hf := fun i => h) (fun i hi4 ih4 => ?_) 0 (by omega) (q_sub_s rfl (q_sub_i rfl (q_sub_i rfl (q_sub_i rfl q_sub_0)))) rfl
  skip
  refine q_iload_n dX10_minutes_4 rfl ?_
  refine q_aload_n dX10_minutes_5 rfl ?_
  refine fRX10_9 (o := some w) dX10_minutes_6 rfl (by decide) (K.le (by decide)) hs ?_
  refine q_rfS ?_
  refine q_aload_n dX10_minutes_9 rfl ?_
  refine q_iload_n dX10_minutes_10 rfl ?_
  refine q_vD (kc := 0) (ks := 0) (g_X10_at (h := h) K (k := k)) wX10_at kX10_75 iX10_at eX10_at rfl rfl (by decide) (K.le (by decide)) (by decide) rfl rfl (Nat.le_of_ble_eq_true rfl) dX10_minutes_11 rfl rfl ?_
  refine q_iconst (v := nI 2) dX10_minutes_14 (by decide) ?_
  refine q_iaddN dX10_minutes_15 ?_
  refine q_ialdN (len := 830) (q_mwt hw) dX10_minutes_16 (q_mwn hw).1 (K.le (q_mwn hw).2) (q_mwl hw) (by omega) (by decide) ?_
  refine q_tv (show _ = (nI (m.pn k)) from ((congrArg (h.I w) (show ((70 + 19 * k) + (2)) = 72 + 19 * k by omega)).trans (M.pn hk))) ?_
  refine q_icmp_geN (by omega) (by omega) (tgt := 43) dX10_minutes_17 rfl (fun c1 => ?_) (fun c2 => ?_)
  · refine q_iload_n dX10_minutes_43 rfl ?_
    refine q_iret dX10_minutes_44 rfl (Or.inl rfl) ?_
    exact q_isI (by rw [show i = m.pn k by omega]; rfl) rfl
  · refine q_iload_n dX10_minutes_20 rfl ?_
    refine q_aload_n dX10_minutes_21 rfl ?_
    refine fRX10_9 (o := some w) dX10_minutes_22 rfl (by decide) (K.le (by decide)) hs ?_
    refine q_rfS ?_
    refine q_aload_n dX10_minutes_25 rfl ?_
    refine q_iload_n dX10_minutes_26 rfl ?_
    refine q_vD (kc := 0) (ks := 0) (g_X10_at (h := h) K (k := k)) wX10_at kX10_75 iX10_at eX10_at rfl rfl (by decide) (K.le (by decide)) (by decide) rfl rfl (Nat.le_of_ble_eq_true rfl) dX10_minutes_27 rfl rfl ?_
    refine q_iconst (v := nI 3) dX10_minutes_30 (by decide) ?_
    refine q_iaddN dX10_minutes_31 ?_
    refine q_iload_n dX10_minutes_32 rfl ?_
    refine q_iaddN dX10_minutes_33 ?_
    refine q_ialdN (len := 830) (q_mwt hw) dX10_minutes_34 (q_mwn hw).1 (K.le (q_mwn hw).2) (q_mwl hw) (by omega) (by decide) ?_
    refine q_tv (show _ = (m.mn k i) from ((congrArg (h.I w) (show (((70 + 19 * k) + (3)) + (i)) = 73 + 19 * k + i by omega)).trans (M.mn hk (p := i) (by omega)))) ?_
    refine q_iadd dX10_minutes_35 ?_
    refine q_istore_n (L' := [_, _, _, _]) dX10_minutes_36 rfl (by decide) rfl ?_
    refine q_iincN (n := 1) (L' := [_, _, _, _]) (by decide) dX10_minutes_37 rfl rfl (by decide) rfl ?_
    refine q_goto (tgt := 4) dX10_minutes_40 rfl ?_
    exact q_to (ih4 (i + 1) (by omega) (by omega)) (q_sub_s rfl (q_sub_i rfl (q_sub_i rfl (q_sub_i rfl q_sub_0)))) rfl
theorem g_X10_zones {Φ : q_Fx} {h : q_Hp} (K : q_Lk Φ h.R h.n) {w : Nat} (hw : q_mw w) (hs : h.R 1061 0 = some w) {m : q_W} (M : q_rw (h.I w) m) (v : q_val m) {k : Nat} (hk : k < 40) : q_Ct Φ false yX10_zones cX10_zones mX10_zones [.ref 1061, .int (nI (k))] h (q_is none (h.rowI 1072 (q_az (h.I 1072) (m.z k) (m.mn k) (m.pn k)))) := by
  refine q_enter K.st rfl rfl (by decide) rfl (Nat.le_of_ble_eq_true rfl) (L := [_, _, none]) rfl ?_
  have hw1 := q_mw1 hw
  have hp := M.pn8 hk
  have hv := v.2.2.2.1 k hk
  refine q_iconst (v := nI 0) dX10_zones_0 (by decide) ?_
  refine q_istore_n (L' := [_, _, _]) dX10_zones_1 rfl (by decide) rfl ?_
  refine q_loop (ι := Nat) (μ := fun i => m.pn k - i) (P := fun i => i ≤ m.pn k) (Lf := fun i => [some (.ref 1061), some (.int (nI (k))), some (.int (nI (i)))]) (hf := fun i => (h.rowI 1072 (q_az (h.I 1072) (m.z k) (m.mn k) i))) (fun i hi2 ih2 => ?_) 0 (by omega) (q_sub_s rfl (q_sub_i rfl (q_sub_i rfl q_sub_0))) (q_rid h 1072).symm
  skip
  refine q_iload_n dX10_zones_2 rfl ?_
  refine q_aload_n dX10_zones_3 rfl ?_
  refine fRX10_9 (o := some w) dX10_zones_4 rfl (by decide) (K.le (by decide)) hs ?_
  refine q_rfS ?_
  refine q_aload_n dX10_zones_7 rfl ?_
  refine q_iload_n dX10_zones_8 rfl ?_
  refine q_vD (kc := 0) (ks := 0) (g_X10_at (h := (h.rowI 1072 (q_az (h.I 1072) (m.z k) (m.mn k) i))) K (k := k)) wX10_at kX10_75 iX10_at eX10_at rfl rfl (by decide) (K.le (by decide)) (by decide) rfl rfl (Nat.le_of_ble_eq_true rfl) dX10_zones_9 rfl rfl ?_
  refine q_iconst (v := nI 2) dX10_zones_12 (by decide) ?_
  refine q_iaddN dX10_zones_13 ?_
  refine q_ialdN (len := 830) (q_mwt hw) dX10_zones_14 (q_mwn hw).1 (K.le (q_mwn hw).2) (q_mwl hw) (by omega) (by decide) ?_
  refine q_tv (show _ = (nI (m.pn k)) from ((congrFun (q_rIn _ _ (by omega)) _).trans ((congrArg (h.I w) (show ((70 + 19 * k) + (2)) = 72 + 19 * k by omega)).trans (M.pn hk)))) ?_
  refine q_icmp_geN (by omega) (by omega) (tgt := 79) dX10_zones_15 rfl (fun c1 => ?_) (fun c2 => ?_)
  · refine q_vret dX10_zones_79 rfl (Or.inl rfl) ?_
    exact ⟨rfl, by rw [show i = m.pn k by omega]⟩
  · obtain ⟨xi, hxi5, hxi⟩ := hv.2 i (by omega)
    refine q_aload_n dX10_zones_18 rfl ?_
    refine fRX10_24 (o := some 1072) dX10_zones_19 rfl (by decide) (K.le (by decide)) (K.lk rfl) ?_
    refine q_rfS ?_
    refine q_aload_n dX10_zones_22 rfl ?_
    refine q_aload_n dX10_zones_23 rfl ?_
    refine fRX10_9 (o := some w) dX10_zones_24 rfl (by decide) (K.le (by decide)) hs ?_
    refine q_rfS ?_
    refine q_aload_n dX10_zones_27 rfl ?_
    refine q_iload_n dX10_zones_28 rfl ?_
    refine q_vD (kc := 0) (ks := 0) (g_X10_at (h := (h.rowI 1072 (q_az (h.I 1072) (m.z k) (m.mn k) i))) K (k := k)) wX10_at kX10_75 iX10_at eX10_at rfl rfl (by decide) (K.le (by decide)) (by decide) rfl rfl (Nat.le_of_ble_eq_true rfl) dX10_zones_29 rfl rfl ?_
    refine q_iconst (v := nI 1) dX10_zones_32 (by decide) ?_
    refine q_iaddN dX10_zones_33 ?_
    refine q_ialdN (len := 830) (q_mwt hw) dX10_zones_34 (q_mwn hw).1 (K.le (q_mwn hw).2) (q_mwl hw) (by omega) (by decide) ?_
    refine q_tv (show _ = (nI (m.dy k)) from ((congrFun (q_rIn _ _ (by omega)) _).trans ((congrArg (h.I w) (show ((70 + 19 * k) + (1)) = 71 + 19 * k by omega)).trans (M.dy hk)))) ?_
    refine q_aload_n dX10_zones_35 rfl ?_
    refine fRX10_9 (o := some w) dX10_zones_36 rfl (by decide) (K.le (by decide)) hs ?_
    refine q_rfS ?_
    refine q_aload_n dX10_zones_39 rfl ?_
    refine q_iload_n dX10_zones_40 rfl ?_
    refine q_vD (kc := 0) (ks := 0) (g_X10_at (h := (h.rowI 1072 (q_az (h.I 1072) (m.z k) (m.mn k) i))) K (k := k)) wX10_at kX10_75 iX10_at eX10_at rfl rfl (by decide) (K.le (by decide)) (by decide) rfl rfl (Nat.le_of_ble_eq_true rfl) dX10_zones_41 rfl rfl ?_
    refine q_iconst (v := nI 3) dX10_zones_44 (by decide) ?_
    refine q_iaddN dX10_zones_45 ?_
    refine q_bipush (v := nI 8) dX10_zones_46 (by decide) ?_
    refine q_iaddN dX10_zones_48 ?_
    refine q_iload_n dX10_zones_49 rfl ?_
    refine q_iaddN dX10_zones_50 ?_
    refine q_ialdN (len := 830) (q_mwt hw) dX10_zones_51 (q_mwn hw).1 (K.le (q_mwn hw).2) (q_mwl hw) (by omega) (by decide) ?_
    refine q_tv (show _ = (nI (xi)) from (by rw [← hxi]; exact (congrFun (q_rIn _ _ (by omega)) _).trans ((congrArg (h.I w) (show (((70 + 19 * k) + (3)) + (8)) + (i) = 81 + 19 * k + i by omega)).trans (M.it hk (p := i) (by omega))))) ?_
    refine q_vD (kc := 0) (ks := 0) (g_X10_zone (h := (h.rowI 1072 (q_az (h.I 1072) (m.z k) (m.mn k) i))) K (hw) hs ((show (h.rowI 1072 (q_az (h.I 1072) (m.z k) (m.mn k) i)).I w = h.I w from (q_rIn _ _ (by omega))).symm ▸ M) v (d := (nI (m.dy k))) (x := xi) (by omega)) wX10_zone kX10_72 iX10_zone eX10_zone rfl rfl (by decide) (K.le (by decide)) (by decide) rfl rfl (Nat.le_of_ble_eq_true rfl) dX10_zones_52 rfl rfl ?_
    have hz52 : 1 ≤ m.z k i ∧ m.z k i ≤ 5 := q_zn_le m.bd _ _
    rw [show q_zn m.bd (nI xi) (m.th (nI (m.dy k))) = m.z k i by rw [← hxi]; rfl]
    refine q_dup2 dX10_zones_55 rfl rfl ?_
    refine q_ialdN (len := 6) rfl dX10_zones_56 (by decide) (K.le (by decide)) rfl (by omega) (by decide) ?_
    refine q_tv (show _ = ((q_az (h.I 1072) (m.z k) (m.mn k) i) (m.z k i)) from (congrFun (q_rI _ _ _) _)) ?_
    refine q_aload_n dX10_zones_57 rfl ?_
    refine fRX10_9 (o := some w) dX10_zones_58 rfl (by decide) (K.le (by decide)) hs ?_
    refine q_rfS ?_
    refine q_aload_n dX10_zones_61 rfl ?_
    refine q_iload_n dX10_zones_62 rfl ?_
    refine q_vD (kc := 0) (ks := 0) (g_X10_at (h := (h.rowI 1072 (q_az (h.I 1072) (m.z k) (m.mn k) i))) K (k := k)) wX10_at kX10_75 iX10_at eX10_at rfl rfl (by decide) (K.le (by decide)) (by decide) rfl rfl (Nat.le_of_ble_eq_true rfl) dX10_zones_63 rfl rfl ?_
    refine q_iconst (v := nI 3) dX10_zones_66 (by decide) ?_
    refine q_iaddN dX10_zones_67 ?_
    refine q_iload_n dX10_zones_68 rfl ?_
    refine q_iaddN dX10_zones_69 ?_
    refine q_ialdN (len := 830) (q_mwt hw) dX10_zones_70 (q_mwn hw).1 (K.le (q_mwn hw).2) (q_mwl hw) (by omega) (by decide) ?_
    refine q_tv (show _ = (m.mn k i) from ((congrFun (q_rIn _ _ (by omega)) _).trans ((congrArg (h.I w) (show (((70 + 19 * k) + (3)) + (i)) = 73 + 19 * k + i by omega)).trans (M.mn hk (p := i) (by omega))))) ?_
    refine q_iadd dX10_zones_71 ?_
    refine q_iastN (len := 6) rfl dX10_zones_72 (by decide) (K.le (by decide)) rfl (by omega) (by decide) ?_
    refine q_iincN (n := 1) (L' := [_, _, _]) (by decide) dX10_zones_73 rfl rfl (by decide) rfl ?_
    refine q_goto (tgt := 2) dX10_zones_76 rfl ?_
    exact q_to (ih2 (i + 1) (by omega) (by omega)) (q_sub_s rfl (q_sub_i rfl (q_sub_i rfl q_sub_0))) (by rw [q_rset]; rfl)
theorem g_X10_noZones {Φ : q_Fx} {h : q_Hp} (K : q_Lk Φ h.R h.n)  : q_Ct Φ false yX10_noZones cX10_noZones mX10_noZones [.ref 1061] h (q_is none (h.rowI 1072 (q_cpy (fun _ => nI 0) (h.I 1072) 6))) := by
  refine q_enter K.st rfl rfl (by decide) rfl (Nat.le_of_ble_eq_true rfl) (L := [_, none]) rfl ?_
  refine q_iconst (v := nI 0) dX10_noZones_0 (by decide) ?_
  refine q_istore_n (L' := [_, _]) dX10_noZones_1 rfl (by decide) rfl ?_
  refine q_loop (ι := Nat) (μ := fun i => 6 - i) (P := fun i => i ≤ 6) (Lf := fun i => [some (.ref 1061), some (.int (nI (i)))]) (hf := fun i => (h.rowI 1072 (q_cpy (fun _ => nI 0) (h.I 1072) i))) (fun i hi2 ih2 => ?_) 0 (by omega) (q_sub_s rfl (q_sub_i rfl q_sub_0)) (by rw [q_cpy_0]; exact (q_rid h 1072).symm)
  skip
  refine q_iload_n dX10_noZones_2 rfl ?_
  refine q_bipush (v := nI 6) dX10_noZones_3 (by decide) ?_
  refine q_icmp_geN (by omega) (by omega) (tgt := 21) dX10_noZones_5 rfl (fun c1 => ?_) (fun c2 => ?_)
  · refine q_vret dX10_noZones_21 rfl (Or.inl rfl) ?_
    exact ⟨rfl, by rw [show i = 6 by omega]⟩
  · refine q_aload_n dX10_noZones_8 rfl ?_
    refine fRX10_24 (o := some 1072) dX10_noZones_9 rfl (by decide) (K.le (by decide)) (K.lk rfl) ?_
    refine q_rfS ?_
    refine q_iload_n dX10_noZones_12 rfl ?_
    refine q_iconst (v := nI 0) dX10_noZones_13 (by decide) ?_
    refine q_iastN (len := 6) rfl dX10_noZones_14 (by decide) (K.le (by decide)) rfl (by omega) (by decide) ?_
    refine q_iincN (n := 1) (L' := [_, _]) (by decide) dX10_noZones_15 rfl rfl (by decide) rfl ?_
    refine q_goto (tgt := 2) dX10_noZones_18 rfl ?_
    exact q_to (ih2 (i + 1) (by omega) (by omega)) (q_sub_s rfl (q_sub_i rfl q_sub_0)) (by rw [q_rset, q_cpy_s (fun _ => nI 0)])
theorem g_X10_loadAt {Φ : q_Fx} {h : q_Hp} (K : q_Lk Φ h.R h.n) {w : Nat} (hw : q_mw w) (hs : h.R 1061 0 = some w) {m : q_W} (M : q_rw (h.I w) m) (v : q_val m) {k : Nat} (hk : k < 40) : q_Ct Φ false yX10_loadAt cX10_loadAt mX10_loadAt [.ref 1061, .int (nI (k))] h (q_ex (fun v h' => v = some (.int (m.ld k)) ∧ ∃ g, h' = h.rowI 1072 g)) := by
  refine q_enter K.st rfl rfl (by decide) rfl (Nat.le_of_ble_eq_true rfl) (L := [_, _, none, none]) rfl ?_
  have hw1 := q_mw1 hw
  refine q_aload_n dX10_loadAt_0 rfl ?_
  refine q_vD (kc := 0) (ks := 0) (g_X10_noZones (h := h) K) wX10_noZones kX10_78 iX10_noZones eX10_noZones rfl rfl (by decide) (K.le (by decide)) (by decide) rfl rfl (Nat.le_of_ble_eq_true rfl) dX10_loadAt_1 rfl rfl ?_
  have hg72 : ∀ k, k < 6 → q_cpy (fun _ => nI 0) (h.I 1072) 6 k = nI 0 := fun k hk => q_cpy_lt _ _ hk
  generalize q_cpy (fun _ => nI 0) (h.I 1072) 6 = g72 at hg72 ⊢
  refine q_aload_n dX10_loadAt_4 rfl ?_
  refine q_iload_n dX10_loadAt_5 rfl ?_
  refine q_vD (kc := 0) (ks := 0) (g_X10_zones (h := (h.rowI 1072 g72)) K (hw) hs ((show (h.rowI 1072 g72).I w = h.I w from (q_rIn _ _ (by omega))).symm ▸ M) v (k := k) (by omega)) wX10_zones kX10_81 iX10_zones eX10_zones rfl rfl (by decide) (K.le (by decide)) (by decide) rfl rfl (Nat.le_of_ble_eq_true rfl) dX10_loadAt_6 rfl rfl ?_
  rw [q_rr, q_rI]
  refine q_iconst (v := nI 0) dX10_loadAt_9 (by decide) ?_
  refine q_istore_n (L' := [_, _, _, _]) dX10_loadAt_10 rfl (by decide) rfl ?_
  refine q_iconst (v := nI 1) dX10_loadAt_11 (by decide) ?_
  refine q_istore_n (L' := [_, _, _, _]) dX10_loadAt_12 rfl (by decide) rfl ?_
  refine q_loop (ι := Nat) (μ := fun i => 5 - i) (P := fun i => i ≤ 5) (Lf := fun i => [some (.ref 1061), some (.int (nI (k))), some (.int (q_sum (fun z => (q_az g72 (m.z k) (m.mn k) (m.pn k)) (z + 1) * m.wt (z + 1)) i)), some (.int (nI (i + 1)))]) (hf := fun i => (h.rowI 1072 (q_az g72 (m.z k) (m.mn k) (m.pn k)))) (fun i hi13 ih13 => ?_) 0 (by omega) (q_sub_s rfl (q_sub_i rfl (q_sub_i rfl (q_sub_i rfl q_sub_0)))) rfl
  skip
  refine q_iload_n dX10_loadAt_13 rfl ?_
  refine q_iconst (v := nI 5) dX10_loadAt_14 (by decide) ?_
  refine q_icmp_gtN (by omega) (by omega) (tgt := 43) dX10_loadAt_15 rfl (fun c1 => ?_) (fun c2 => ?_)
  · refine q_iload_n dX10_loadAt_43 rfl ?_
    refine q_iret dX10_loadAt_44 rfl (Or.inl rfl) ?_
    exact ⟨_, rfl, by rw [show i = 5 by omega, q_W.ld_z g72 hg72 k], _, rfl⟩
  · refine q_iload_n dX10_loadAt_18 rfl ?_
    refine q_aload_n dX10_loadAt_19 rfl ?_
    refine fRX10_24 (o := some 1072) dX10_loadAt_20 rfl (by decide) (K.le (by decide)) (K.lk rfl) ?_
    refine q_rfS ?_
    refine q_iload_n dX10_loadAt_23 rfl ?_
    refine q_ialdN (len := 6) rfl dX10_loadAt_24 (by decide) (K.le (by decide)) rfl (by omega) (by decide) ?_
    refine q_tv (show _ = ((q_az g72 (m.z k) (m.mn k) (m.pn k)) (i + 1)) from ((congrFun (q_rI _ _ _) _).trans rfl)) ?_
    refine q_aload_n dX10_loadAt_25 rfl ?_
    refine fRX10_9 (o := some w) dX10_loadAt_26 rfl (by decide) (K.le (by decide)) hs ?_
    refine q_rfS ?_
    refine q_bipush (v := nI 14) dX10_loadAt_29 (by decide) ?_
    refine q_iload_n dX10_loadAt_31 rfl ?_
    refine q_iaddN dX10_loadAt_32 ?_
    refine q_ialdN (len := 830) (q_mwt hw) dX10_loadAt_33 (q_mwn hw).1 (K.le (q_mwn hw).2) (q_mwl hw) (by omega) (by decide) ?_
    refine q_tv (show _ = (m.wt (i + 1)) from ((congrFun (q_rIn _ _ (by omega)) _).trans ((congrArg (h.I w) (show ((14) + (i + 1)) = 14 + (i + 1) by omega)).trans (M.wt (z := (i + 1)) (by omega))))) ?_
    refine q_imul dX10_loadAt_34 ?_
    refine q_iadd dX10_loadAt_35 ?_
    refine q_istore_n (L' := [_, _, _, _]) dX10_loadAt_36 rfl (by decide) rfl ?_
    refine q_iincN (n := 1) (L' := [_, _, _, _]) (by decide) dX10_loadAt_37 rfl rfl (by decide) rfl ?_
    refine q_goto (tgt := 13) dX10_loadAt_40 rfl ?_
    exact q_to (ih13 (i + 1) (by omega) (by omega)) (q_sub_s rfl (q_sub_i rfl (q_sub_i rfl (q_sub_i rfl q_sub_0)))) rfl
theorem g_nosT {Φ : q_Fx} {h : q_Hp} (K : q_Lk Φ h.R h.n) {w : Nat} (hw : q_mw w) (hs : h.R 1061 0 = some w) {m : q_W} (M : q_rw (h.I w) m) {x : Int32} (hx : q_pl (fun k => decide (m.id k = x)) m.c < 0) : q_Ct Φ false yX10_isNoSession cX10_isNoSession mX10_isNoSession [.ref 1061, .int x] h (q_is (some (.int (nI 1))) (h.setI 1061 12 (nI 1))) := by
  refine q_enter K.st rfl rfl (by decide) rfl (Nat.le_of_ble_eq_true rfl) (L := [_, _]) rfl ?_
  have hw1 := q_mw1 hw
  refine q_aload_n dX10_isNoSession_0 rfl ?_
  refine q_aload_n dX10_isNoSession_1 rfl ?_
  refine q_iload_n dX10_isNoSession_2 rfl ?_
  refine q_vD (kc := 0) (ks := 0) (g_X10_place (h := h) K (hw) hs (M) (x := x)) wX10_place kX10_84 iX10_place eX10_place rfl rfl (by decide) (K.le (by decide)) (by decide) rfl rfl (Nat.le_of_ble_eq_true rfl) dX10_isNoSession_3 rfl rfl ?_
  refine q_if_ge (tgt := 13) dX10_isNoSession_6 rfl (fun c => absurd hx (Int32.not_lt.mpr c)) (fun c1 => ?_)
  refine q_iconst (v := nI 1) dX10_isNoSession_9 (by decide) ?_
  refine q_goto (tgt := 14) dX10_isNoSession_10 rfl ?_
  refine q_iconst (v := nI 1) dX10_isNoSession_14 (by decide) ?_
  refine q_vD (kc := 0) (ks := 0) (g_thrT (h := h) K (a := 1)) wX10_isThrown kX10_51 iX10_isThrown eX10_isThrown rfl rfl (by decide) (K.le (by decide)) (by decide) rfl rfl (Nat.le_of_ble_eq_true rfl) dX10_isNoSession_15 rfl rfl ?_
  refine q_zret (ty := .boolean) dX10_isNoSession_18 rfl rfl (Or.inl rfl) ?_
  exact ⟨rfl, rfl⟩
theorem g_nosF {Φ : q_Fx} {h : q_Hp} (K : q_Lk Φ h.R h.n) {w : Nat} (hw : q_mw w) (hs : h.R 1061 0 = some w) {m : q_W} (M : q_rw (h.I w) m) {x : Int32} (hx : ¬ q_pl (fun k => decide (m.id k = x)) m.c < 0) : q_Ct Φ false yX10_isNoSession cX10_isNoSession mX10_isNoSession [.ref 1061, .int x] h (q_is (some (.int (nI 0))) (h.setI 1061 12 (nI 0))) := by
  refine q_enter K.st rfl rfl (by decide) rfl (Nat.le_of_ble_eq_true rfl) (L := [_, _]) rfl ?_
  have hw1 := q_mw1 hw
  refine q_aload_n dX10_isNoSession_0 rfl ?_
  refine q_aload_n dX10_isNoSession_1 rfl ?_
  refine q_iload_n dX10_isNoSession_2 rfl ?_
  refine q_vD (kc := 0) (ks := 0) (g_X10_place (h := h) K (hw) hs (M) (x := x)) wX10_place kX10_84 iX10_place eX10_place rfl rfl (by decide) (K.le (by decide)) (by decide) rfl rfl (Nat.le_of_ble_eq_true rfl) dX10_isNoSession_3 rfl rfl ?_
  refine q_if_ge (tgt := 13) dX10_isNoSession_6 rfl (fun c1 => ?_) (fun c => absurd (Int32.not_lt.mp hx) c)
  refine q_iconst (v := nI 0) dX10_isNoSession_13 (by decide) ?_
  refine q_iconst (v := nI 1) dX10_isNoSession_14 (by decide) ?_
  refine q_vD (kc := 0) (ks := 0) (g_thrF (h := h) K (a := 1)) wX10_isThrown kX10_51 iX10_isThrown eX10_isThrown rfl rfl (by decide) (K.le (by decide)) (by decide) rfl rfl (Nat.le_of_ble_eq_true rfl) dX10_isNoSession_15 rfl rfl ?_
  refine q_zret (ty := .boolean) dX10_isNoSession_18 rfl rfl (Or.inl rfl) ?_
  exact ⟨rfl, rfl⟩
