/-! THE REFERENCE'S FACE: SUMS, RECORDS, PLAN, LINE -/
theorem q_pm1 (n : Nat) : nI n + Int32.ofInt (-1) = nI n - nI 1 := by
  rw [Int32.sub_eq_add_neg]; rfl
/-- of n from 200 down: the last that p holds of -/
def q_fd (p : Nat → Bool) : Nat → Int32
  | 0 => -1
  | k + 1 => if p (200 - k) then nI (200 - k) else q_fd p k
def q_W.f2 (m : q_W) (d : Nat) : Int32 := q_dec (nI 42) m.D2 d - q_dec (nI 7) m.D2 d
def q_prF (h : q_Hp) (m : q_W) (P : q_P) (k : Nat → Prop) (val : UInt32) : Option Value → q_Hp → Prop := fun v h' =>
  ∃ (a : Nat) (b : UInt32), k a ∧ v = some (.float b) ∧ h'.I 1061 12 = nI a ∧ q_gm h h' ∧ q_mr h' m P ∧ (a = 0 → b = val)
theorem q_neg1 {k : Nat} (hk : k < 2 ^ 30) : (nI k - nI 1 < 0 ↔ k = 0) := by
  rw [Int32.lt_iff_toInt_lt, pk_sub_toInt hk (by omega)]
  have : (0 : Int32).toInt = 0 := by decide
  omega
def q_wl2 (m : q_W) (d : Nat) (g : Nat → Int32) (n : Nat) : Nat → Int32 := fun k => if k < n then (if k % 2 = 1 then nI 32 else nI (m.sg2 (m.zr (d + k / 2)) (d + k / 2))) else g k
theorem q_wl2_s (m : q_W) (d : Nat) (g : Nat → Int32) (n : Nat) (x : Int32) (hx : x = if n % 2 = 1 then nI 32 else nI (m.sg2 (m.zr (d + n / 2)) (d + n / 2))) : va_up (q_wl2 m d g n) n x = q_wl2 m d g (n + 1) := by
  funext k; unfold va_up q_wl2
  by_cases e : k = n
  · subst e; rw [if_pos rfl, if_pos (by omega), hx]
  · rw [if_neg e]
    show (if k < n then _ else _) = _
    by_cases e2 : k < n
    · rw [if_pos e2, if_pos (show k < n + 1 by omega)]
    · rw [if_neg e2, if_neg (show ¬ k < n + 1 by omega)]
theorem q_sg2_lt (m : q_W) (r : Nat → Int32) (d : Nat) : m.sg2 r d < 65536 := by
  unfold q_W.sg2
  have := q_bz_le r 4
  split
  · omega
  split
  · omega
  split <;> omega
theorem g_X10_loadOn {Φ : q_Fx} {h : q_Hp} (K : q_Lk Φ h.R h.n) {m : q_W} {P : q_P} (C : q_mr h m P) (v : q_val m) {d : Int32} : q_Ct Φ false yX10_loadOn cX10_loadOn mX10_loadOn [.ref 1061, .int d] h (q_ex (q_pr h m P (q_k1 (¬ (nI 0 ≤ d ∧ d ≤ nI m.t))) (m.D d.toNatClampNeg) (m) (P))) := by
  refine q_enter K.st rfl rfl (by decide) rfl (Nat.le_of_ble_eq_true rfl) (L := [_, _]) rfl ?_
  have hs := C.1
  have M := C.2.1.1
  have hσ := C.2.1.2
  have ht9 := M.t9
  have hc40 := M.c40
  have hn10 := M.n10
  have hp28 := M.pc28
  have hpe1 := M.pe1
  have hpf9 := M.pf9
  have hu := C.2.2.1.2.1
  have htp := C.2.2.1.2.2.2.1
  have hwr := C.2.2.1.2.2.2.2.2.1
  have hsv := C.2.2.1.2.2.2.2.2.2.2
  refine q_aload_n dX10_loadOn_0 rfl ?_
  refine q_vR (kc := 0) (ks := 0) (g_X10_loads (h := h) K ((Or.inl rfl)) hs (M) v hσ) wX10_loads kX10_96 iX10_loads eX10_loads rfl rfl (by decide) (K.le (by decide)) (by decide) rfl rfl (Nat.le_of_ble_eq_true rfl) dX10_loadOn_1 rfl rfl ?_
  rintro v' h1 ⟨rfl, F1, hD⟩
  have K : q_Lk Φ h1.R h1.n := by rw [F1.2.1, F1.2.2.2.2]; exact K
  have hs0 := hs
  have hs : h1.R 1061 0 = some 1062 := by rw [F1.2.1]; exact hs0
  have M0 := M
  have M : q_rw (h1.I 1062) m := by rw [F1.1 _ (by omega) (by omega)]; exact M0
  refine q_aload_n dX10_loadOn_4 rfl ?_
  refine q_aload_n dX10_loadOn_5 rfl ?_
  refine q_iload_n dX10_loadOn_6 rfl ?_
  refine q_vD (kc := 0) (ks := 0) (g_X10_isNoDay (h := h1) K ((Or.inl rfl)) hs (M) (d := d)) wX10_isNoDay kX10_58 iX10_isNoDay eX10_isNoDay rfl rfl (by decide) (K.le (by decide)) (by decide) rfl rfl (Nat.le_of_ble_eq_true rfl) dX10_loadOn_7 rfl rfl ?_
  refine q_spl (fun c1 => ?_) (fun c2 => ?_)
  · refine q_iconst (v := nI 1) dX10_loadOn_10 (by decide) ?_
    refine q_vD (kc := 0) (ks := 0) (g_thrT (h := h1) K (a := 1)) wX10_isThrown kX10_51 iX10_isThrown eX10_isThrown rfl rfl (by decide) (K.le (by decide)) (by decide) rfl rfl (Nat.le_of_ble_eq_true rfl) dX10_loadOn_11 rfl rfl ?_
    refine q_if_eq (tgt := 21) dX10_loadOn_14 rfl (fun c => absurd c (by decide)) (fun _ => ?_)
    refine q_iconst (v := nI 0) dX10_loadOn_17 (by decide) ?_
    refine q_goto (tgt := 27) dX10_loadOn_18 rfl ?_
    refine q_iret dX10_loadOn_27 rfl (Or.inl rfl) ?_
    first | exact ⟨_, rfl, 0, _, (Or.inr ⟨(by first | assumption | exact (fun c => c (by assumption)) | exact Int32.not_lt.mpr (by assumption) | exact Int32.not_le.mpr (by assumption) | exact Int32.not_lt.mp (by assumption) | exact Int32.not_le.mp (by assumption) | omega), rfl⟩), rfl, (by rw [q_sI, va_us]), (F1.gm.set (by omega) (by omega)), fun e => absurd rfl e, fun _ => ⟨rfl, ((C.lf F1).thr 12 (by omega) _)⟩⟩ | exact ⟨_, rfl, 1, _, (Or.inl ⟨(by first | assumption | exact (fun c => c (by assumption)) | exact Int32.not_lt.mpr (by assumption) | exact Int32.not_le.mpr (by assumption) | exact Int32.not_lt.mp (by assumption) | exact Int32.not_le.mp (by assumption) | omega), rfl⟩), rfl, (by rw [q_sI, va_us]), (F1.gm.set (by omega) (by omega)), fun _ => ((C.lf F1).thr 12 (by omega) _), fun e => absurd e (by decide)⟩
  · refine q_iconst (v := nI 1) dX10_loadOn_10 (by decide) ?_
    refine q_vD (kc := 0) (ks := 0) (g_thrF (h := h1) K (a := 1)) wX10_isThrown kX10_51 iX10_isThrown eX10_isThrown rfl rfl (by decide) (K.le (by decide)) (by decide) rfl rfl (Nat.le_of_ble_eq_true rfl) dX10_loadOn_11 rfl rfl ?_
    refine q_if_eq (tgt := 21) dX10_loadOn_14 rfl (fun _ => ?_) (fun c => absurd (by decide) c)
    obtain ⟨j, hj1, hj2, rfl⟩ := q_rng (x := d) (a := 0) (b := m.t) (fun f => by first | exact f (by assumption) | exact absurd f (by assumption)) (by omega) (by omega)
    try rw [nI_clamp (show j < 2 ^ 31 by omega)]
    refine q_aload_n dX10_loadOn_21 rfl ?_
    refine fRX10_21 (o := some 1071) dX10_loadOn_22 rfl (by decide) (K.le (by decide)) (K.lk rfl) ?_
    refine q_rfS ?_
    refine q_iload_n dX10_loadOn_25 rfl ?_
    refine q_ialdN (len := 200) rfl dX10_loadOn_26 (by decide) (K.le (by decide)) rfl (by omega) (by decide) ?_
    refine q_tv (show _ = (m.D (j)) from ((congrFun (q_sIn _ _ _ (by omega)) _).trans (hD _ (by omega)))) ?_
    refine q_iret dX10_loadOn_27 rfl (Or.inl rfl) ?_
    first | exact ⟨_, rfl, 0, _, (Or.inr ⟨(by first | assumption | exact (fun c => c (by assumption)) | exact Int32.not_lt.mpr (by assumption) | exact Int32.not_le.mpr (by assumption) | exact Int32.not_lt.mp (by assumption) | exact Int32.not_le.mp (by assumption) | omega), rfl⟩), rfl, (by rw [q_sI, va_us]), (F1.gm.set (by omega) (by omega)), fun e => absurd rfl e, fun _ => ⟨rfl, ((C.lf F1).thr 12 (by omega) _)⟩⟩ | exact ⟨_, rfl, 1, _, (Or.inl ⟨(by first | assumption | exact (fun c => c (by assumption)) | exact Int32.not_lt.mpr (by assumption) | exact Int32.not_le.mpr (by assumption) | exact Int32.not_lt.mp (by assumption) | exact Int32.not_le.mp (by assumption) | omega), rfl⟩), rfl, (by rw [q_sI, va_us]), (F1.gm.set (by omega) (by omega)), fun _ => ((C.lf F1).thr 12 (by omega) _), fun e => absurd e (by decide)⟩
theorem g_X10_fitnessOn {Φ : q_Fx} {h : q_Hp} (K : q_Lk Φ h.R h.n) {m : q_W} {P : q_P} (C : q_mr h m P) (v : q_val m) {d : Int32} : q_Ct Φ false yX10_fitnessOn cX10_fitnessOn mX10_fitnessOn [.ref 1061, .int d] h (q_ex (q_pr h m P (q_k1 (¬ (nI 0 ≤ d ∧ d ≤ nI m.t))) (q_dec (nI 42) m.D2 (d.toNatClampNeg + 1)) (m) (P))) := by
  refine q_enter K.st rfl rfl (by decide) rfl (Nat.le_of_ble_eq_true rfl) (L := [_, _]) rfl ?_
  have hs := C.1
  have M := C.2.1.1
  have hσ := C.2.1.2
  have ht9 := M.t9
  have hc40 := M.c40
  have hn10 := M.n10
  have hp28 := M.pc28
  have hpe1 := M.pe1
  have hpf9 := M.pf9
  have hu := C.2.2.1.2.1
  have htp := C.2.2.1.2.2.2.1
  have hwr := C.2.2.1.2.2.2.2.2.1
  have hsv := C.2.2.1.2.2.2.2.2.2.2
  refine q_aload_n dX10_fitnessOn_0 rfl ?_
  refine q_vR (kc := 0) (ks := 0) (g_X10_loads (h := h) K ((Or.inl rfl)) hs (M) v hσ) wX10_loads kX10_96 iX10_loads eX10_loads rfl rfl (by decide) (K.le (by decide)) (by decide) rfl rfl (Nat.le_of_ble_eq_true rfl) dX10_fitnessOn_1 rfl rfl ?_
  rintro v' h1 ⟨rfl, F1, hD⟩
  have K : q_Lk Φ h1.R h1.n := by rw [F1.2.1, F1.2.2.2.2]; exact K
  have hs0 := hs
  have hs : h1.R 1061 0 = some 1062 := by rw [F1.2.1]; exact hs0
  have M0 := M
  have M : q_rw (h1.I 1062) m := by rw [F1.1 _ (by omega) (by omega)]; exact M0
  refine q_aload_n dX10_fitnessOn_4 rfl ?_
  refine q_aload_n dX10_fitnessOn_5 rfl ?_
  refine q_iload_n dX10_fitnessOn_6 rfl ?_
  refine q_vD (kc := 0) (ks := 0) (g_X10_isNoDay (h := h1) K ((Or.inl rfl)) hs (M) (d := d)) wX10_isNoDay kX10_58 iX10_isNoDay eX10_isNoDay rfl rfl (by decide) (K.le (by decide)) (by decide) rfl rfl (Nat.le_of_ble_eq_true rfl) dX10_fitnessOn_7 rfl rfl ?_
  refine q_spl (fun c1 => ?_) (fun c2 => ?_)
  · refine q_iconst (v := nI 1) dX10_fitnessOn_10 (by decide) ?_
    refine q_vD (kc := 0) (ks := 0) (g_thrT (h := h1) K (a := 1)) wX10_isThrown kX10_51 iX10_isThrown eX10_isThrown rfl rfl (by decide) (K.le (by decide)) (by decide) rfl rfl (Nat.le_of_ble_eq_true rfl) dX10_fitnessOn_11 rfl rfl ?_
    refine q_if_eq (tgt := 21) dX10_fitnessOn_14 rfl (fun c => absurd c (by decide)) (fun _ => ?_)
    refine q_iconst (v := nI 0) dX10_fitnessOn_17 (by decide) ?_
    refine q_goto (tgt := 28) dX10_fitnessOn_18 rfl ?_
    refine q_iret dX10_fitnessOn_28 rfl (Or.inl rfl) ?_
    first | exact ⟨_, rfl, 0, _, (Or.inr ⟨(by first | assumption | exact (fun c => c (by assumption)) | exact Int32.not_lt.mpr (by assumption) | exact Int32.not_le.mpr (by assumption) | exact Int32.not_lt.mp (by assumption) | exact Int32.not_le.mp (by assumption) | omega), rfl⟩), rfl, (by rw [q_sI, va_us]), (F1.gm.set (by omega) (by omega)), fun e => absurd rfl e, fun _ => ⟨rfl, ((C.lf F1).thr 12 (by omega) _)⟩⟩ | exact ⟨_, rfl, 1, _, (Or.inl ⟨(by first | assumption | exact (fun c => c (by assumption)) | exact Int32.not_lt.mpr (by assumption) | exact Int32.not_le.mpr (by assumption) | exact Int32.not_lt.mp (by assumption) | exact Int32.not_le.mp (by assumption) | omega), rfl⟩), rfl, (by rw [q_sI, va_us]), (F1.gm.set (by omega) (by omega)), fun _ => ((C.lf F1).thr 12 (by omega) _), fun e => absurd e (by decide)⟩
  · refine q_iconst (v := nI 1) dX10_fitnessOn_10 (by decide) ?_
    refine q_vD (kc := 0) (ks := 0) (g_thrF (h := h1) K (a := 1)) wX10_isThrown kX10_51 iX10_isThrown eX10_isThrown rfl rfl (by decide) (K.le (by decide)) (by decide) rfl rfl (Nat.le_of_ble_eq_true rfl) dX10_fitnessOn_11 rfl rfl ?_
    refine q_if_eq (tgt := 21) dX10_fitnessOn_14 rfl (fun _ => ?_) (fun c => absurd (by decide) c)
    obtain ⟨j, hj1, hj2, rfl⟩ := q_rng (x := d) (a := 0) (b := m.t) (fun f => by first | exact f (by assumption) | exact absurd f (by assumption)) (by omega) (by omega)
    try rw [nI_clamp (show j < 2 ^ 31 by omega)]
    refine q_aload_n dX10_fitnessOn_21 rfl ?_
    refine q_iload_n dX10_fitnessOn_22 rfl ?_
    refine q_bipush (v := nI 42) dX10_fitnessOn_23 (by decide) ?_
    refine q_vD (kc := 0) (ks := 0) (g_X10_decayed (h := (h1.setI 1061 12 (nI (0)))) K (fun k hk => (congrFun (q_sIn _ _ _ (by omega)) _).trans (hD k hk)) (x := nI j) (b := nI 42) (n := j + 1) (by rw [pk_sub (by omega)]; rfl) (by decide) (by omega)) wX10_decayed kX10_99 iX10_decayed eX10_decayed rfl rfl (by decide) (K.le (by decide)) (by decide) rfl rfl (Nat.le_of_ble_eq_true rfl) dX10_fitnessOn_25 rfl rfl ?_
    refine q_iret dX10_fitnessOn_28 rfl (Or.inl rfl) ?_
    first | exact ⟨_, rfl, 0, _, (Or.inr ⟨(by first | assumption | exact (fun c => c (by assumption)) | exact Int32.not_lt.mpr (by assumption) | exact Int32.not_le.mpr (by assumption) | exact Int32.not_lt.mp (by assumption) | exact Int32.not_le.mp (by assumption) | omega), rfl⟩), rfl, (by rw [q_sI, va_us]), (F1.gm.set (by omega) (by omega)), fun e => absurd rfl e, fun _ => ⟨rfl, ((C.lf F1).thr 12 (by omega) _)⟩⟩ | exact ⟨_, rfl, 1, _, (Or.inl ⟨(by first | assumption | exact (fun c => c (by assumption)) | exact Int32.not_lt.mpr (by assumption) | exact Int32.not_le.mpr (by assumption) | exact Int32.not_lt.mp (by assumption) | exact Int32.not_le.mp (by assumption) | omega), rfl⟩), rfl, (by rw [q_sI, va_us]), (F1.gm.set (by omega) (by omega)), fun _ => ((C.lf F1).thr 12 (by omega) _), fun e => absurd e (by decide)⟩
theorem g_X10_fitnessFromStart {Φ : q_Fx} {h : q_Hp} (K : q_Lk Φ h.R h.n) {m : q_W} {P : q_P} (C : q_mr h m P) (v : q_val m) {d : Int32} : q_Ct Φ false yX10_fitnessFromStart cX10_fitnessFromStart mX10_fitnessFromStart [.ref 1061, .int d] h (q_ex (q_pr h m P (q_k1 (¬ (nI 0 ≤ d ∧ d ≤ nI m.t))) (q_dec (nI 42) m.D2 (d.toNatClampNeg + 1)) (m) (P))) := by
  refine q_enter K.st rfl rfl (by decide) rfl (Nat.le_of_ble_eq_true rfl) (L := [_, _]) rfl ?_
  have hs := C.1
  have M := C.2.1.1
  have hσ := C.2.1.2
  have ht9 := M.t9
  have hc40 := M.c40
  have hn10 := M.n10
  have hp28 := M.pc28
  have hpe1 := M.pe1
  have hpf9 := M.pf9
  have hu := C.2.2.1.2.1
  have htp := C.2.2.1.2.2.2.1
  have hwr := C.2.2.1.2.2.2.2.2.1
  have hsv := C.2.2.1.2.2.2.2.2.2.2
  refine q_aload_n dX10_fitnessFromStart_0 rfl ?_
  refine q_iload_n dX10_fitnessFromStart_1 rfl ?_
  refine q_vR (kc := 0) (ks := 0) (g_X10_fitnessOn (h := h) K C v (d := d)) wX10_fitnessOn kX10_102 iX10_fitnessOn eX10_fitnessOn rfl rfl (by decide) (K.le (by decide)) (by decide) rfl rfl (Nat.le_of_ble_eq_true rfl) dX10_fitnessFromStart_2 rfl rfl ?_
  rintro v' h' ⟨a, b, ha, rfl, rest⟩
  refine q_iret dX10_fitnessFromStart_5 rfl (Or.inl rfl) ?_
  exact ⟨_, rfl, a, b, ha, rfl, rest⟩
theorem g_X10_fatigueOn {Φ : q_Fx} {h : q_Hp} (K : q_Lk Φ h.R h.n) {m : q_W} {P : q_P} (C : q_mr h m P) (v : q_val m) {d : Int32} : q_Ct Φ false yX10_fatigueOn cX10_fatigueOn mX10_fatigueOn [.ref 1061, .int d] h (q_ex (q_pr h m P (q_k1 (¬ (nI 0 ≤ d ∧ d ≤ nI m.t))) (q_dec (nI 7) m.D2 (d.toNatClampNeg + 1)) (m) (P))) := by
  refine q_enter K.st rfl rfl (by decide) rfl (Nat.le_of_ble_eq_true rfl) (L := [_, _]) rfl ?_
  have hs := C.1
  have M := C.2.1.1
  have hσ := C.2.1.2
  have ht9 := M.t9
  have hc40 := M.c40
  have hn10 := M.n10
  have hp28 := M.pc28
  have hpe1 := M.pe1
  have hpf9 := M.pf9
  have hu := C.2.2.1.2.1
  have htp := C.2.2.1.2.2.2.1
  have hwr := C.2.2.1.2.2.2.2.2.1
  have hsv := C.2.2.1.2.2.2.2.2.2.2
  refine q_aload_n dX10_fatigueOn_0 rfl ?_
  refine q_vR (kc := 0) (ks := 0) (g_X10_loads (h := h) K ((Or.inl rfl)) hs (M) v hσ) wX10_loads kX10_96 iX10_loads eX10_loads rfl rfl (by decide) (K.le (by decide)) (by decide) rfl rfl (Nat.le_of_ble_eq_true rfl) dX10_fatigueOn_1 rfl rfl ?_
  rintro v' h1 ⟨rfl, F1, hD⟩
  have K : q_Lk Φ h1.R h1.n := by rw [F1.2.1, F1.2.2.2.2]; exact K
  have hs0 := hs
  have hs : h1.R 1061 0 = some 1062 := by rw [F1.2.1]; exact hs0
  have M0 := M
  have M : q_rw (h1.I 1062) m := by rw [F1.1 _ (by omega) (by omega)]; exact M0
  refine q_aload_n dX10_fatigueOn_4 rfl ?_
  refine q_aload_n dX10_fatigueOn_5 rfl ?_
  refine q_iload_n dX10_fatigueOn_6 rfl ?_
  refine q_vD (kc := 0) (ks := 0) (g_X10_isNoDay (h := h1) K ((Or.inl rfl)) hs (M) (d := d)) wX10_isNoDay kX10_58 iX10_isNoDay eX10_isNoDay rfl rfl (by decide) (K.le (by decide)) (by decide) rfl rfl (Nat.le_of_ble_eq_true rfl) dX10_fatigueOn_7 rfl rfl ?_
  refine q_spl (fun c1 => ?_) (fun c2 => ?_)
  · refine q_iconst (v := nI 1) dX10_fatigueOn_10 (by decide) ?_
    refine q_vD (kc := 0) (ks := 0) (g_thrT (h := h1) K (a := 1)) wX10_isThrown kX10_51 iX10_isThrown eX10_isThrown rfl rfl (by decide) (K.le (by decide)) (by decide) rfl rfl (Nat.le_of_ble_eq_true rfl) dX10_fatigueOn_11 rfl rfl ?_
    refine q_if_eq (tgt := 21) dX10_fatigueOn_14 rfl (fun c => absurd c (by decide)) (fun _ => ?_)
    refine q_iconst (v := nI 0) dX10_fatigueOn_17 (by decide) ?_
    refine q_goto (tgt := 28) dX10_fatigueOn_18 rfl ?_
    refine q_iret dX10_fatigueOn_28 rfl (Or.inl rfl) ?_
    first | exact ⟨_, rfl, 0, _, (Or.inr ⟨(by first | assumption | exact (fun c => c (by assumption)) | exact Int32.not_lt.mpr (by assumption) | exact Int32.not_le.mpr (by assumption) | exact Int32.not_lt.mp (by assumption) | exact Int32.not_le.mp (by assumption) | omega), rfl⟩), rfl, (by rw [q_sI, va_us]), (F1.gm.set (by omega) (by omega)), fun e => absurd rfl e, fun _ => ⟨rfl, ((C.lf F1).thr 12 (by omega) _)⟩⟩ | exact ⟨_, rfl, 1, _, (Or.inl ⟨(by first | assumption | exact (fun c => c (by assumption)) | exact Int32.not_lt.mpr (by assumption) | exact Int32.not_le.mpr (by assumption) | exact Int32.not_lt.mp (by assumption) | exact Int32.not_le.mp (by assumption) | omega), rfl⟩), rfl, (by rw [q_sI, va_us]), (F1.gm.set (by omega) (by omega)), fun _ => ((C.lf F1).thr 12 (by omega) _), fun e => absurd e (by decide)⟩
  · refine q_iconst (v := nI 1) dX10_fatigueOn_10 (by decide) ?_
    refine q_vD (kc := 0) (ks := 0) (g_thrF (h := h1) K (a := 1)) wX10_isThrown kX10_51 iX10_isThrown eX10_isThrown rfl rfl (by decide) (K.le (by decide)) (by decide) rfl rfl (Nat.le_of_ble_eq_true rfl) dX10_fatigueOn_11 rfl rfl ?_
    refine q_if_eq (tgt := 21) dX10_fatigueOn_14 rfl (fun _ => ?_) (fun c => absurd (by decide) c)
    obtain ⟨j, hj1, hj2, rfl⟩ := q_rng (x := d) (a := 0) (b := m.t) (fun f => by first | exact f (by assumption) | exact absurd f (by assumption)) (by omega) (by omega)
    try rw [nI_clamp (show j < 2 ^ 31 by omega)]
    refine q_aload_n dX10_fatigueOn_21 rfl ?_
    refine q_iload_n dX10_fatigueOn_22 rfl ?_
    refine q_bipush (v := nI 7) dX10_fatigueOn_23 (by decide) ?_
    refine q_vD (kc := 0) (ks := 0) (g_X10_decayed (h := (h1.setI 1061 12 (nI (0)))) K (fun k hk => (congrFun (q_sIn _ _ _ (by omega)) _).trans (hD k hk)) (x := nI j) (b := nI 7) (n := j + 1) (by rw [pk_sub (by omega)]; rfl) (by decide) (by omega)) wX10_decayed kX10_99 iX10_decayed eX10_decayed rfl rfl (by decide) (K.le (by decide)) (by decide) rfl rfl (Nat.le_of_ble_eq_true rfl) dX10_fatigueOn_25 rfl rfl ?_
    refine q_iret dX10_fatigueOn_28 rfl (Or.inl rfl) ?_
    first | exact ⟨_, rfl, 0, _, (Or.inr ⟨(by first | assumption | exact (fun c => c (by assumption)) | exact Int32.not_lt.mpr (by assumption) | exact Int32.not_le.mpr (by assumption) | exact Int32.not_lt.mp (by assumption) | exact Int32.not_le.mp (by assumption) | omega), rfl⟩), rfl, (by rw [q_sI, va_us]), (F1.gm.set (by omega) (by omega)), fun e => absurd rfl e, fun _ => ⟨rfl, ((C.lf F1).thr 12 (by omega) _)⟩⟩ | exact ⟨_, rfl, 1, _, (Or.inl ⟨(by first | assumption | exact (fun c => c (by assumption)) | exact Int32.not_lt.mpr (by assumption) | exact Int32.not_le.mpr (by assumption) | exact Int32.not_lt.mp (by assumption) | exact Int32.not_le.mp (by assumption) | omega), rfl⟩), rfl, (by rw [q_sI, va_us]), (F1.gm.set (by omega) (by omega)), fun _ => ((C.lf F1).thr 12 (by omega) _), fun e => absurd e (by decide)⟩
theorem g_X10_fatigueFromStart {Φ : q_Fx} {h : q_Hp} (K : q_Lk Φ h.R h.n) {m : q_W} {P : q_P} (C : q_mr h m P) (v : q_val m) {d : Int32} : q_Ct Φ false yX10_fatigueFromStart cX10_fatigueFromStart mX10_fatigueFromStart [.ref 1061, .int d] h (q_ex (q_pr h m P (q_k1 (¬ (nI 0 ≤ d ∧ d ≤ nI m.t))) (q_dec (nI 7) m.D2 (d.toNatClampNeg + 1)) (m) (P))) := by
  refine q_enter K.st rfl rfl (by decide) rfl (Nat.le_of_ble_eq_true rfl) (L := [_, _]) rfl ?_
  have hs := C.1
  have M := C.2.1.1
  have hσ := C.2.1.2
  have ht9 := M.t9
  have hc40 := M.c40
  have hn10 := M.n10
  have hp28 := M.pc28
  have hpe1 := M.pe1
  have hpf9 := M.pf9
  have hu := C.2.2.1.2.1
  have htp := C.2.2.1.2.2.2.1
  have hwr := C.2.2.1.2.2.2.2.2.1
  have hsv := C.2.2.1.2.2.2.2.2.2.2
  refine q_aload_n dX10_fatigueFromStart_0 rfl ?_
  refine q_iload_n dX10_fatigueFromStart_1 rfl ?_
  refine q_vR (kc := 0) (ks := 0) (g_X10_fatigueOn (h := h) K C v (d := d)) wX10_fatigueOn kX10_105 iX10_fatigueOn eX10_fatigueOn rfl rfl (by decide) (K.le (by decide)) (by decide) rfl rfl (Nat.le_of_ble_eq_true rfl) dX10_fatigueFromStart_2 rfl rfl ?_
  rintro v' h' ⟨a, b, ha, rfl, rest⟩
  refine q_iret dX10_fatigueFromStart_5 rfl (Or.inl rfl) ?_
  exact ⟨_, rfl, a, b, ha, rfl, rest⟩
theorem g_X10_formOn {Φ : q_Fx} {h : q_Hp} (K : q_Lk Φ h.R h.n) {m : q_W} {P : q_P} (C : q_mr h m P) (v : q_val m) {d : Int32} : q_Ct Φ false yX10_formOn cX10_formOn mX10_formOn [.ref 1061, .int d] h (q_ex (q_pr h m P (q_k1 (¬ (nI 0 ≤ d ∧ d ≤ nI m.t))) (m.f2 d.toNatClampNeg) (m) (P))) := by
  refine q_enter K.st rfl rfl (by decide) rfl (Nat.le_of_ble_eq_true rfl) (L := [_, _]) rfl ?_
  have hs := C.1
  have M := C.2.1.1
  have hσ := C.2.1.2
  have ht9 := M.t9
  have hc40 := M.c40
  have hn10 := M.n10
  have hp28 := M.pc28
  have hpe1 := M.pe1
  have hpf9 := M.pf9
  have hu := C.2.2.1.2.1
  have htp := C.2.2.1.2.2.2.1
  have hwr := C.2.2.1.2.2.2.2.2.1
  have hsv := C.2.2.1.2.2.2.2.2.2.2
  refine q_aload_n dX10_formOn_0 rfl ?_
  refine q_vR (kc := 0) (ks := 0) (g_X10_loads (h := h) K ((Or.inl rfl)) hs (M) v hσ) wX10_loads kX10_96 iX10_loads eX10_loads rfl rfl (by decide) (K.le (by decide)) (by decide) rfl rfl (Nat.le_of_ble_eq_true rfl) dX10_formOn_1 rfl rfl ?_
  rintro v' h1 ⟨rfl, F1, hD⟩
  have K : q_Lk Φ h1.R h1.n := by rw [F1.2.1, F1.2.2.2.2]; exact K
  have hs0 := hs
  have hs : h1.R 1061 0 = some 1062 := by rw [F1.2.1]; exact hs0
  have M0 := M
  have M : q_rw (h1.I 1062) m := by rw [F1.1 _ (by omega) (by omega)]; exact M0
  refine q_aload_n dX10_formOn_4 rfl ?_
  refine q_aload_n dX10_formOn_5 rfl ?_
  refine q_iload_n dX10_formOn_6 rfl ?_
  refine q_vD (kc := 0) (ks := 0) (g_X10_isNoDay (h := h1) K ((Or.inl rfl)) hs (M) (d := d)) wX10_isNoDay kX10_58 iX10_isNoDay eX10_isNoDay rfl rfl (by decide) (K.le (by decide)) (by decide) rfl rfl (Nat.le_of_ble_eq_true rfl) dX10_formOn_7 rfl rfl ?_
  refine q_spl (fun c1 => ?_) (fun c2 => ?_)
  · refine q_iconst (v := nI 1) dX10_formOn_10 (by decide) ?_
    refine q_vD (kc := 0) (ks := 0) (g_thrT (h := h1) K (a := 1)) wX10_isThrown kX10_51 iX10_isThrown eX10_isThrown rfl rfl (by decide) (K.le (by decide)) (by decide) rfl rfl (Nat.le_of_ble_eq_true rfl) dX10_formOn_11 rfl rfl ?_
    refine q_if_eq (tgt := 21) dX10_formOn_14 rfl (fun c => absurd c (by decide)) (fun _ => ?_)
    refine q_iconst (v := nI 0) dX10_formOn_17 (by decide) ?_
    refine q_goto (tgt := 26) dX10_formOn_18 rfl ?_
    refine q_iret dX10_formOn_26 rfl (Or.inl rfl) ?_
    first | exact ⟨_, rfl, 0, _, (Or.inr ⟨(by first | assumption | exact (fun c => c (by assumption)) | exact Int32.not_lt.mpr (by assumption) | exact Int32.not_le.mpr (by assumption) | exact Int32.not_lt.mp (by assumption) | exact Int32.not_le.mp (by assumption) | omega), rfl⟩), rfl, (by rw [q_sI, va_us]), (F1.gm.set (by omega) (by omega)), fun e => absurd rfl e, fun _ => ⟨rfl, ((C.lf F1).thr 12 (by omega) _)⟩⟩ | exact ⟨_, rfl, 1, _, (Or.inl ⟨(by first | assumption | exact (fun c => c (by assumption)) | exact Int32.not_lt.mpr (by assumption) | exact Int32.not_le.mpr (by assumption) | exact Int32.not_lt.mp (by assumption) | exact Int32.not_le.mp (by assumption) | omega), rfl⟩), rfl, (by rw [q_sI, va_us]), (F1.gm.set (by omega) (by omega)), fun _ => ((C.lf F1).thr 12 (by omega) _), fun e => absurd e (by decide)⟩
  · refine q_iconst (v := nI 1) dX10_formOn_10 (by decide) ?_
    refine q_vD (kc := 0) (ks := 0) (g_thrF (h := h1) K (a := 1)) wX10_isThrown kX10_51 iX10_isThrown eX10_isThrown rfl rfl (by decide) (K.le (by decide)) (by decide) rfl rfl (Nat.le_of_ble_eq_true rfl) dX10_formOn_11 rfl rfl ?_
    refine q_if_eq (tgt := 21) dX10_formOn_14 rfl (fun _ => ?_) (fun c => absurd (by decide) c)
    obtain ⟨j, hj1, hj2, rfl⟩ := q_rng (x := d) (a := 0) (b := m.t) (fun f => by first | exact f (by assumption) | exact absurd f (by assumption)) (by omega) (by omega)
    try rw [nI_clamp (show j < 2 ^ 31 by omega)]
    refine q_aload_n dX10_formOn_21 rfl ?_
    refine q_iload_n dX10_formOn_22 rfl ?_
    refine q_vD (kc := 0) (ks := 0) (g_X10_form (h := (h1.setI 1061 12 (nI (0)))) K (fun k hk => (congrFun (q_sIn _ _ _ (by omega)) _).trans (hD k hk)) (n := j) (by omega)) wX10_form kX10_108 iX10_form eX10_form rfl rfl (by decide) (K.le (by decide)) (by decide) rfl rfl (Nat.le_of_ble_eq_true rfl) dX10_formOn_23 rfl rfl ?_
    refine q_iret dX10_formOn_26 rfl (Or.inl rfl) ?_
    first | exact ⟨_, rfl, 0, _, (Or.inr ⟨(by first | assumption | exact (fun c => c (by assumption)) | exact Int32.not_lt.mpr (by assumption) | exact Int32.not_le.mpr (by assumption) | exact Int32.not_lt.mp (by assumption) | exact Int32.not_le.mp (by assumption) | omega), rfl⟩), rfl, (by rw [q_sI, va_us]), (F1.gm.set (by omega) (by omega)), fun e => absurd rfl e, fun _ => ⟨rfl, ((C.lf F1).thr 12 (by omega) _)⟩⟩ | exact ⟨_, rfl, 1, _, (Or.inl ⟨(by first | assumption | exact (fun c => c (by assumption)) | exact Int32.not_lt.mpr (by assumption) | exact Int32.not_le.mpr (by assumption) | exact Int32.not_lt.mp (by assumption) | exact Int32.not_le.mp (by assumption) | omega), rfl⟩), rfl, (by rw [q_sI, va_us]), (F1.gm.set (by omega) (by omega)), fun _ => ((C.lf F1).thr 12 (by omega) _), fun e => absurd e (by decide)⟩
theorem g_X10_meanLoad {Φ : q_Fx} {h : q_Hp} (K : q_Lk Φ h.R h.n) {m : q_W} {P : q_P} (C : q_mr h m P) (v : q_val m) : q_Ct Φ false yX10_meanLoad cX10_meanLoad mX10_meanLoad [.ref 1061] h (q_ex (fun v h' => v = some (.double (FP.ddiv (FP.i2d (q_sum m.D (m.t + 1))) (FP.i2d (nI (m.t + 1))))) ∧ h'.I 1061 12 = nI 0 ∧ q_gm h h' ∧ q_mr h' m P)) := by
  refine q_enter K.st rfl rfl (by decide) rfl (Nat.le_of_ble_eq_true rfl) (L := [_, none, none]) rfl ?_
  have hs := C.1
  have M := C.2.1.1
  have hσ := C.2.1.2
  have ht9 := M.t9
  have hc40 := M.c40
  have hn10 := M.n10
  have hp28 := M.pc28
  have hpe1 := M.pe1
  have hpf9 := M.pf9
  have hu := C.2.2.1.2.1
  have htp := C.2.2.1.2.2.2.1
  have hwr := C.2.2.1.2.2.2.2.2.1
  have hsv := C.2.2.1.2.2.2.2.2.2.2
  refine q_aload_n dX10_meanLoad_0 rfl ?_
  refine q_iconst (v := nI 0) dX10_meanLoad_1 (by decide) ?_
  refine pIX10_31 dX10_meanLoad_2 rfl (by decide) (K.le (by decide)) ?_
  obtain ⟨h0, e0⟩ : ∃ z, z = h.setI 1061 12 (nI 0) := ⟨_, rfl⟩
  rw [← e0]
  have C0 : q_mr h0 m P := by rw [e0]; exact C.thr 12 (by omega) _
  have G0 : q_gm h h0 := by rw [e0]; exact q_gm.rf.set (by omega) (by omega)
  have T0 : h0.I 1061 12 = nI 0 := by rw [e0, q_sI, va_us]
  have K : q_Lk Φ h0.R h0.n := K.gm G0
  have hs := C0.1
  have M := C0.2.1.1
  refine q_aload_n dX10_meanLoad_5 rfl ?_
  refine q_vR (kc := 0) (ks := 0) (g_X10_loads (h := h0) K ((Or.inl rfl)) hs (M) v hσ) wX10_loads kX10_96 iX10_loads eX10_loads rfl rfl (by decide) (K.le (by decide)) (by decide) rfl rfl (Nat.le_of_ble_eq_true rfl) dX10_meanLoad_6 rfl rfl ?_
  rintro v' h1 ⟨rfl, F1, hD⟩
  have K : q_Lk Φ h1.R h1.n := by rw [F1.2.1, F1.2.2.2.2]; exact K
  have hs0 := hs
  have hs : h1.R 1061 0 = some 1062 := by rw [F1.2.1]; exact hs0
  have M0 := M
  have M : q_rw (h1.I 1062) m := by rw [F1.1 _ (by omega) (by omega)]; exact M0
  refine q_iconst (v := nI 0) dX10_meanLoad_9 (by decide) ?_
  refine q_istore_n (L' := [_, _, _]) dX10_meanLoad_10 rfl (by decide) rfl ?_
  refine q_iconst (v := nI 0) dX10_meanLoad_11 (by decide) ?_
  refine q_istore_n (L' := [_, _, _]) dX10_meanLoad_12 rfl (by decide) rfl ?_
  refine q_loop (ι := Nat) (μ := fun i => m.t + 1 - i) (P := fun i => i ≤ m.t + 1) (Lf := fun i => [some (.ref 1061), some (.int (q_sum m.D i)), some (.int (nI (i)))]) (hf := fun i => h1) (fun i hi13 ih13 => ?_) 0 (by omega) (q_sub_s rfl (q_sub_i rfl (q_sub_i rfl q_sub_0))) rfl
  skip
  refine q_iload_n dX10_meanLoad_13 rfl ?_
  refine q_aload_n dX10_meanLoad_14 rfl ?_
  refine fRX10_9 (o := some 1062) dX10_meanLoad_15 rfl (by decide) (K.le (by decide)) hs ?_
  refine q_rfS ?_
  refine q_iconst (v := nI 0) dX10_meanLoad_18 (by decide) ?_
  refine q_ialdN (len := 830) rfl dX10_meanLoad_19 (by decide) (K.le (by decide)) rfl (by omega) (by decide) ?_
  refine q_tv (show _ = (nI (m.t)) from M.t) ?_
  refine q_icmp_gtN (by omega) (by omega) (tgt := 38) dX10_meanLoad_20 rfl (fun c1 => ?_) (fun c2 => ?_)
  · refine q_iload_n dX10_meanLoad_38 rfl ?_
    refine q_i2d dX10_meanLoad_39 ?_
    refine q_aload_n dX10_meanLoad_40 rfl ?_
    refine fRX10_9 (o := some 1062) dX10_meanLoad_41 rfl (by decide) (K.le (by decide)) hs ?_
    refine q_rfS ?_
    refine q_iconst (v := nI 0) dX10_meanLoad_44 (by decide) ?_
    refine q_ialdN (len := 830) rfl dX10_meanLoad_45 (by decide) (K.le (by decide)) rfl (by omega) (by decide) ?_
    refine q_tv (show _ = (nI (m.t)) from M.t) ?_
    refine q_iconst (v := nI 1) dX10_meanLoad_46 (by decide) ?_
    refine q_iaddN dX10_meanLoad_47 ?_
    refine q_i2d dX10_meanLoad_48 ?_
    refine q_ddiv dX10_meanLoad_49 (q_ddn (nI_ne0 (by omega) (by omega))) ?_
    refine q_dret dX10_meanLoad_50 rfl (Or.inl rfl) ?_
    exact ⟨_, rfl, by rw [show i = m.t + 1 by omega], ((congrFun (F1.1 _ (by omega) (by omega)) _).trans T0), (G0.tr F1.gm), (C0.lf F1)⟩
  · refine q_iload_n dX10_meanLoad_23 rfl ?_
    refine q_aload_n dX10_meanLoad_24 rfl ?_
    refine fRX10_21 (o := some 1071) dX10_meanLoad_25 rfl (by decide) (K.le (by decide)) (K.lk rfl) ?_
    refine q_rfS ?_
    refine q_iload_n dX10_meanLoad_28 rfl ?_
    refine q_ialdN (len := 200) rfl dX10_meanLoad_29 (by decide) (K.le (by decide)) rfl (by omega) (by decide) ?_
    refine q_tv (show _ = (m.D (i)) from (hD _ (by omega))) ?_
    refine q_iadd dX10_meanLoad_30 ?_
    refine q_istore_n (L' := [_, _, _]) dX10_meanLoad_31 rfl (by decide) rfl ?_
    refine q_iincN (n := 1) (L' := [_, _, _]) (by decide) dX10_meanLoad_32 rfl rfl (by decide) rfl ?_
    refine q_goto (tgt := 13) dX10_meanLoad_35 rfl ?_
    exact q_to (ih13 (i + 1) (by omega) (by omega)) (q_sub_s rfl (q_sub_i rfl (q_sub_i rfl q_sub_0))) rfl
theorem g_X10_bestFormDay {Φ : q_Fx} {h : q_Hp} (K : q_Lk Φ h.R h.n) {m : q_W} {P : q_P} (C : q_mr h m P) (v : q_val m) : q_Ct Φ false yX10_bestFormDay cX10_bestFormDay mX10_bestFormDay [.ref 1061] h (q_ex (q_pr h m P q_k0 (nI (q_br m.f2 m.t)) (m) (P))) := by
  refine q_enter K.st rfl rfl (by decide) rfl (Nat.le_of_ble_eq_true rfl) (L := [_, none, none]) rfl ?_
  have hs := C.1
  have M := C.2.1.1
  have hσ := C.2.1.2
  have ht9 := M.t9
  have hc40 := M.c40
  have hn10 := M.n10
  have hp28 := M.pc28
  have hpe1 := M.pe1
  have hpf9 := M.pf9
  have hu := C.2.2.1.2.1
  have htp := C.2.2.1.2.2.2.1
  have hwr := C.2.2.1.2.2.2.2.2.1
  have hsv := C.2.2.1.2.2.2.2.2.2.2
  refine q_aload_n dX10_bestFormDay_0 rfl ?_
  refine q_iconst (v := nI 0) dX10_bestFormDay_1 (by decide) ?_
  refine pIX10_31 dX10_bestFormDay_2 rfl (by decide) (K.le (by decide)) ?_
  obtain ⟨h0, e0⟩ : ∃ z, z = h.setI 1061 12 (nI 0) := ⟨_, rfl⟩
  rw [← e0]
  have C0 : q_mr h0 m P := by rw [e0]; exact C.thr 12 (by omega) _
  have G0 : q_gm h h0 := by rw [e0]; exact q_gm.rf.set (by omega) (by omega)
  have T0 : h0.I 1061 12 = nI 0 := by rw [e0, q_sI, va_us]
  have K : q_Lk Φ h0.R h0.n := K.gm G0
  have hs := C0.1
  have M := C0.2.1.1
  refine q_aload_n dX10_bestFormDay_5 rfl ?_
  refine q_vR (kc := 0) (ks := 0) (g_X10_loads (h := h0) K ((Or.inl rfl)) hs (M) v hσ) wX10_loads kX10_96 iX10_loads eX10_loads rfl rfl (by decide) (K.le (by decide)) (by decide) rfl rfl (Nat.le_of_ble_eq_true rfl) dX10_bestFormDay_6 rfl rfl ?_
  rintro v' h1 ⟨rfl, F1, hD⟩
  have K : q_Lk Φ h1.R h1.n := by rw [F1.2.1, F1.2.2.2.2]; exact K
  have hs0 := hs
  have hs : h1.R 1061 0 = some 1062 := by rw [F1.2.1]; exact hs0
  have M0 := M
  have M : q_rw (h1.I 1062) m := by rw [F1.1 _ (by omega) (by omega)]; exact M0
  refine q_iconst (v := nI 0) dX10_bestFormDay_9 (by decide) ?_
  refine q_istore_n (L' := [_, _, _]) dX10_bestFormDay_10 rfl (by decide) rfl ?_
  refine q_iconst (v := nI 1) dX10_bestFormDay_11 (by decide) ?_
  refine q_istore_n (L' := [_, _, _]) dX10_bestFormDay_12 rfl (by decide) rfl ?_
  refine q_loop (ι := Nat) (μ := fun i => m.t - i) (P := fun i => i ≤ m.t) (Lf := fun i => [some (.ref 1061), some (.int (nI (q_br m.f2 i))), some (.int (nI (i + 1)))]) (hf := fun i => h1) (fun i hi13 ih13 => ?_) 0 (by omega) (q_sub_s rfl (q_sub_i rfl (q_sub_i rfl q_sub_0))) rfl
  skip
  have hbr := q_br_le m.f2 i
  refine q_iload_n dX10_bestFormDay_13 rfl ?_
  refine q_aload_n dX10_bestFormDay_14 rfl ?_
  refine fRX10_9 (o := some 1062) dX10_bestFormDay_15 rfl (by decide) (K.le (by decide)) hs ?_
  refine q_rfS ?_
  refine q_iconst (v := nI 0) dX10_bestFormDay_18 (by decide) ?_
  refine q_ialdN (len := 830) rfl dX10_bestFormDay_19 (by decide) (K.le (by decide)) rfl (by omega) (by decide) ?_
  refine q_tv (show _ = (nI (m.t)) from M.t) ?_
  refine q_icmp_gtN (by omega) (by omega) (tgt := 48) dX10_bestFormDay_20 rfl (fun c1 => ?_) (fun c2 => ?_)
  · refine q_iload_n dX10_bestFormDay_48 rfl ?_
    refine q_iret dX10_bestFormDay_49 rfl (Or.inl rfl) ?_
    exact ⟨_, rfl, 0, _, rfl, rfl, ((congrFun (F1.1 _ (by omega) (by omega)) _).trans T0), (G0.tr F1.gm), fun e => absurd rfl e, fun _ => ⟨by rw [show i = m.t by omega], (C0.lf F1)⟩⟩
  · refine q_aload_n dX10_bestFormDay_23 rfl ?_
    refine q_iload_n dX10_bestFormDay_24 rfl ?_
    refine q_vD (kc := 0) (ks := 0) (g_X10_form (h := h1) K hD (n := i + 1) (by omega)) wX10_form kX10_108 iX10_form eX10_form rfl rfl (by decide) (K.le (by decide)) (by decide) rfl rfl (Nat.le_of_ble_eq_true rfl) dX10_bestFormDay_25 rfl rfl ?_
    refine q_aload_n dX10_bestFormDay_28 rfl ?_
    refine q_iload_n dX10_bestFormDay_29 rfl ?_
    refine q_vD (kc := 0) (ks := 0) (g_X10_form (h := h1) K hD (n := q_br m.f2 i) (by omega)) wX10_form kX10_108 iX10_form eX10_form rfl rfl (by decide) (K.le (by decide)) (by decide) rfl rfl (Nat.le_of_ble_eq_true rfl) dX10_bestFormDay_30 rfl rfl ?_
    refine q_icmp_le (tgt := 40) dX10_bestFormDay_33 rfl (fun c3 => ?_) (fun c4 => ?_)
    · refine q_iload_n dX10_bestFormDay_40 rfl ?_
      refine q_istore_n (L' := [_, _, _]) dX10_bestFormDay_41 rfl (by decide) rfl ?_
      refine q_iincN (n := 1) (L' := [_, _, _]) (by decide) dX10_bestFormDay_42 rfl rfl (by decide) rfl ?_
      refine q_goto (tgt := 13) dX10_bestFormDay_45 rfl ?_
      exact q_to (ih13 (i + 1) (by omega) (by omega)) (q_sub_s rfl (q_sub_i (by simp only [q_br]; split <;> first | rfl | (exfalso; simp only [q_W.f2, Int32.lt_iff_toInt_lt, Int32.le_iff_toInt_le] at *; omega)) (q_sub_i rfl q_sub_0))) rfl
    · refine q_iload_n dX10_bestFormDay_36 rfl ?_
      refine q_goto (tgt := 41) dX10_bestFormDay_37 rfl ?_
      refine q_istore_n (L' := [_, _, _]) dX10_bestFormDay_41 rfl (by decide) rfl ?_
      refine q_iincN (n := 1) (L' := [_, _, _]) (by decide) dX10_bestFormDay_42 rfl rfl (by decide) rfl ?_
      refine q_goto (tgt := 13) dX10_bestFormDay_45 rfl ?_
      exact q_to (ih13 (i + 1) (by omega) (by omega)) (q_sub_s rfl (q_sub_i (by simp only [q_br]; split <;> first | rfl | (exfalso; simp only [q_W.f2, Int32.lt_iff_toInt_lt, Int32.le_iff_toInt_le] at *; omega)) (q_sub_i rfl q_sub_0))) rfl
theorem g_X10_daysToForm {Φ : q_Fx} {h : q_Hp} (K : q_Lk Φ h.R h.n) {m : q_W} {P : q_P} (C : q_mr h m P) (v : q_val m) {x : Int32} : q_Ct Φ false yX10_daysToForm cX10_daysToForm mX10_daysToForm [.ref 1061, .int x] h (q_ex (q_pr h m P (q_k2 (¬ (-100000 ≤ x ∧ x ≤ nI 100000)) (q_fd (fun n => decide (x ≤ m.f2 (m.t + n))) 201 < 0)) (q_fd (fun n => decide (x ≤ m.f2 (m.t + n))) 201) (m) (P))) := by
  refine q_enter K.st rfl rfl (by decide) rfl (Nat.le_of_ble_eq_true rfl) (L := [_, _, none, none]) rfl ?_
  have hs := C.1
  have M := C.2.1.1
  have hσ := C.2.1.2
  have ht9 := M.t9
  have hc40 := M.c40
  have hn10 := M.n10
  have hp28 := M.pc28
  have hpe1 := M.pe1
  have hpf9 := M.pf9
  have hu := C.2.2.1.2.1
  have htp := C.2.2.1.2.2.2.1
  have hwr := C.2.2.1.2.2.2.2.2.1
  have hsv := C.2.2.1.2.2.2.2.2.2.2
  refine q_aload_n dX10_daysToForm_0 rfl ?_
  refine q_vR (kc := 0) (ks := 0) (g_X10_loads (h := h) K ((Or.inl rfl)) hs (M) v hσ) wX10_loads kX10_96 iX10_loads eX10_loads rfl rfl (by decide) (K.le (by decide)) (by decide) rfl rfl (Nat.le_of_ble_eq_true rfl) dX10_daysToForm_1 rfl rfl ?_
  rintro v' h1 ⟨rfl, F1, hD⟩
  have K : q_Lk Φ h1.R h1.n := by rw [F1.2.1, F1.2.2.2.2]; exact K
  have hs0 := hs
  have hs : h1.R 1061 0 = some 1062 := by rw [F1.2.1]; exact hs0
  have M0 := M
  have M : q_rw (h1.I 1062) m := by rw [F1.1 _ (by omega) (by omega)]; exact M0
  refine q_iconst (v := (-1)) dX10_daysToForm_4 (by decide) ?_
  refine q_istore_n (L' := [_, _, _, _]) dX10_daysToForm_5 rfl (by decide) rfl ?_
  refine q_sipush (v := nI 200) dX10_daysToForm_6 (by decide) ?_
  refine q_istore_n (L' := [_, _, _, _]) dX10_daysToForm_9 rfl (by decide) rfl ?_
  refine q_loop (ι := Nat) (μ := fun q => 201 - q) (P := fun q => q ≤ 201) (Lf := fun q => [some (.ref 1061), some (.int x), some (.int (q_fd (fun n => decide (x ≤ m.f2 (m.t + n))) q)), some (.int (nI (201 - q) - nI 1))]) (hf := fun q => h1) (fun q hi10 ih10 => ?_) 0 (by omega) (q_sub_s rfl (q_sub_i rfl (q_sub_i rfl (q_sub_i (show nI 200 = nI 201 - nI 1 from by decide) q_sub_0)))) rfl
  skip
  refine q_iload_n dX10_daysToForm_10 rfl ?_
  refine q_if_lt (tgt := 42) dX10_daysToForm_11 rfl (fun c1 => ?_) (fun c2 => ?_)
  · have hq : q = 201 := by have := (q_neg1 (k := 201 - q) (by omega)).mp (by first | assumption | exact Int32.not_le.mp (by assumption)); omega
    rw [hq]
    refine q_aload_n dX10_daysToForm_42 rfl ?_
    refine q_iload_n dX10_daysToForm_43 rfl ?_
    refine q_ldc dX10_daysToForm_44 kcX10_111 ?_
    refine q_ldc dX10_daysToForm_46 kcX10_112 ?_
    refine q_tv (show _ = nI 100000 from by decide) ?_
    refine q_sD (kc := 0) (ks := 0) (g_X10_isIn (h := h1) K (v := x) (lo := (-100000)) (hi := (nI (100000)))) wX10_isIn kX10_47 sX10_isIn (by decide) rfl rfl (Nat.le_of_ble_eq_true rfl) dX10_daysToForm_48 rfl rfl ?_
    refine q_spl (fun c3 => ?_) (fun c4 => ?_)
    · refine q_if_ne (tgt := 58) dX10_daysToForm_51 rfl (fun _ => ?_) (fun c => absurd c (by decide))
      refine q_iconst (v := nI 0) dX10_daysToForm_58 (by decide) ?_
      refine q_iconst (v := nI 1) dX10_daysToForm_59 (by decide) ?_
      refine q_vD (kc := 0) (ks := 0) (g_thrF (h := h1) K (a := 1)) wX10_isThrown kX10_51 iX10_isThrown eX10_isThrown rfl rfl (by decide) (K.le (by decide)) (by decide) rfl rfl (Nat.le_of_ble_eq_true rfl) dX10_daysToForm_60 rfl rfl ?_
      refine q_if_ne (tgt := 83) dX10_daysToForm_63 rfl (fun c => absurd (by decide) c) (fun _ => ?_)
      refine q_aload_n dX10_daysToForm_66 rfl ?_
      refine q_iload_n dX10_daysToForm_67 rfl ?_
      refine q_if_ge (tgt := 75) dX10_daysToForm_68 rfl (fun c9 => ?_) (fun c10 => ?_)
      · refine q_iconst (v := nI 0) dX10_daysToForm_75 (by decide) ?_
        refine q_iconst (v := nI 2) dX10_daysToForm_76 (by decide) ?_
        refine q_vD (kc := 0) (ks := 0) (g_thrF (h := (h1.setI 1061 12 (nI (0)))) K (a := 2)) wX10_isThrown kX10_51 iX10_isThrown eX10_isThrown rfl rfl (by decide) (K.le (by decide)) (by decide) rfl rfl (Nat.le_of_ble_eq_true rfl) dX10_daysToForm_77 rfl rfl ?_
        rw [q_ss]
        refine q_if_eq (tgt := 87) dX10_daysToForm_80 rfl (fun _ => ?_) (fun c => absurd (by decide) c)
        refine q_iload_n dX10_daysToForm_87 rfl ?_
        refine q_iret dX10_daysToForm_88 rfl (Or.inl rfl) ?_
        first | exact ⟨_, rfl, 0, _, (Or.inr (Or.inr ⟨(by first | assumption | exact (fun c => c (by assumption)) | exact Int32.not_lt.mpr (by assumption) | exact Int32.not_le.mpr (by assumption) | exact Int32.not_lt.mp (by assumption) | exact Int32.not_le.mp (by assumption) | omega), (by first | assumption | exact (fun c => c (by assumption)) | exact Int32.not_lt.mpr (by assumption) | exact Int32.not_le.mpr (by assumption) | exact Int32.not_lt.mp (by assumption) | exact Int32.not_le.mp (by assumption) | omega), rfl⟩)), rfl, (by rw [q_sI, va_us]), (F1.gm.set (by omega) (by omega)), fun e => absurd rfl e, fun _ => ⟨rfl, ((C.lf F1).thr 12 (by omega) _)⟩⟩ | exact ⟨_, rfl, 1, _, (Or.inl ⟨(by first | assumption | exact (fun c => c (by assumption)) | exact Int32.not_lt.mpr (by assumption) | exact Int32.not_le.mpr (by assumption) | exact Int32.not_lt.mp (by assumption) | exact Int32.not_le.mp (by assumption) | omega), rfl⟩), rfl, (by rw [q_sI, va_us]), (F1.gm.set (by omega) (by omega)), fun _ => ((C.lf F1).thr 12 (by omega) _), fun e => absurd e (by decide)⟩ | exact ⟨_, rfl, 2, _, (Or.inr (Or.inl ⟨(by first | assumption | exact (fun c => c (by assumption)) | exact Int32.not_lt.mpr (by assumption) | exact Int32.not_le.mpr (by assumption) | exact Int32.not_lt.mp (by assumption) | exact Int32.not_le.mp (by assumption) | omega), (by first | assumption | exact (fun c => c (by assumption)) | exact Int32.not_lt.mpr (by assumption) | exact Int32.not_le.mpr (by assumption) | exact Int32.not_lt.mp (by assumption) | exact Int32.not_le.mp (by assumption) | omega), rfl⟩)), rfl, (by rw [q_sI, va_us]), (F1.gm.set (by omega) (by omega)), fun _ => ((C.lf F1).thr 12 (by omega) _), fun e => absurd e (by decide)⟩
      · refine q_iconst (v := nI 1) dX10_daysToForm_71 (by decide) ?_
        refine q_goto (tgt := 76) dX10_daysToForm_72 rfl ?_
        refine q_iconst (v := nI 2) dX10_daysToForm_76 (by decide) ?_
        refine q_vD (kc := 0) (ks := 0) (g_thrT (h := (h1.setI 1061 12 (nI (0)))) K (a := 2)) wX10_isThrown kX10_51 iX10_isThrown eX10_isThrown rfl rfl (by decide) (K.le (by decide)) (by decide) rfl rfl (Nat.le_of_ble_eq_true rfl) dX10_daysToForm_77 rfl rfl ?_
        rw [q_ss]
        refine q_if_eq (tgt := 87) dX10_daysToForm_80 rfl (fun c => absurd c (by decide)) (fun _ => ?_)
        refine q_iconst (v := nI 0) dX10_daysToForm_83 (by decide) ?_
        refine q_goto (tgt := 88) dX10_daysToForm_84 rfl ?_
        refine q_iret dX10_daysToForm_88 rfl (Or.inl rfl) ?_
        first | exact ⟨_, rfl, 0, _, (Or.inr (Or.inr ⟨(by first | assumption | exact (fun c => c (by assumption)) | exact Int32.not_lt.mpr (by assumption) | exact Int32.not_le.mpr (by assumption) | exact Int32.not_lt.mp (by assumption) | exact Int32.not_le.mp (by assumption) | omega), (by first | assumption | exact (fun c => c (by assumption)) | exact Int32.not_lt.mpr (by assumption) | exact Int32.not_le.mpr (by assumption) | exact Int32.not_lt.mp (by assumption) | exact Int32.not_le.mp (by assumption) | omega), rfl⟩)), rfl, (by rw [q_sI, va_us]), (F1.gm.set (by omega) (by omega)), fun e => absurd rfl e, fun _ => ⟨rfl, ((C.lf F1).thr 12 (by omega) _)⟩⟩ | exact ⟨_, rfl, 1, _, (Or.inl ⟨(by first | assumption | exact (fun c => c (by assumption)) | exact Int32.not_lt.mpr (by assumption) | exact Int32.not_le.mpr (by assumption) | exact Int32.not_lt.mp (by assumption) | exact Int32.not_le.mp (by assumption) | omega), rfl⟩), rfl, (by rw [q_sI, va_us]), (F1.gm.set (by omega) (by omega)), fun _ => ((C.lf F1).thr 12 (by omega) _), fun e => absurd e (by decide)⟩ | exact ⟨_, rfl, 2, _, (Or.inr (Or.inl ⟨(by first | assumption | exact (fun c => c (by assumption)) | exact Int32.not_lt.mpr (by assumption) | exact Int32.not_le.mpr (by assumption) | exact Int32.not_lt.mp (by assumption) | exact Int32.not_le.mp (by assumption) | omega), (by first | assumption | exact (fun c => c (by assumption)) | exact Int32.not_lt.mpr (by assumption) | exact Int32.not_le.mpr (by assumption) | exact Int32.not_lt.mp (by assumption) | exact Int32.not_le.mp (by assumption) | omega), rfl⟩)), rfl, (by rw [q_sI, va_us]), (F1.gm.set (by omega) (by omega)), fun _ => ((C.lf F1).thr 12 (by omega) _), fun e => absurd e (by decide)⟩
    · refine q_if_ne (tgt := 58) dX10_daysToForm_51 rfl (fun c => absurd (by decide) c) (fun _ => ?_)
      refine q_iconst (v := nI 1) dX10_daysToForm_54 (by decide) ?_
      refine q_goto (tgt := 59) dX10_daysToForm_55 rfl ?_
      refine q_iconst (v := nI 1) dX10_daysToForm_59 (by decide) ?_
      refine q_vD (kc := 0) (ks := 0) (g_thrT (h := h1) K (a := 1)) wX10_isThrown kX10_51 iX10_isThrown eX10_isThrown rfl rfl (by decide) (K.le (by decide)) (by decide) rfl rfl (Nat.le_of_ble_eq_true rfl) dX10_daysToForm_60 rfl rfl ?_
      refine q_if_ne (tgt := 83) dX10_daysToForm_63 rfl (fun _ => ?_) (fun c => absurd c (by decide))
      refine q_iconst (v := nI 0) dX10_daysToForm_83 (by decide) ?_
      refine q_goto (tgt := 88) dX10_daysToForm_84 rfl ?_
      refine q_iret dX10_daysToForm_88 rfl (Or.inl rfl) ?_
      first | exact ⟨_, rfl, 0, _, (Or.inr (Or.inr ⟨(by first | assumption | exact (fun c => c (by assumption)) | exact Int32.not_lt.mpr (by assumption) | exact Int32.not_le.mpr (by assumption) | exact Int32.not_lt.mp (by assumption) | exact Int32.not_le.mp (by assumption) | omega), (by first | assumption | exact (fun c => c (by assumption)) | exact Int32.not_lt.mpr (by assumption) | exact Int32.not_le.mpr (by assumption) | exact Int32.not_lt.mp (by assumption) | exact Int32.not_le.mp (by assumption) | omega), rfl⟩)), rfl, (by rw [q_sI, va_us]), (F1.gm.set (by omega) (by omega)), fun e => absurd rfl e, fun _ => ⟨rfl, ((C.lf F1).thr 12 (by omega) _)⟩⟩ | exact ⟨_, rfl, 1, _, (Or.inl ⟨(by first | assumption | exact (fun c => c (by assumption)) | exact Int32.not_lt.mpr (by assumption) | exact Int32.not_le.mpr (by assumption) | exact Int32.not_lt.mp (by assumption) | exact Int32.not_le.mp (by assumption) | omega), rfl⟩), rfl, (by rw [q_sI, va_us]), (F1.gm.set (by omega) (by omega)), fun _ => ((C.lf F1).thr 12 (by omega) _), fun e => absurd e (by decide)⟩ | exact ⟨_, rfl, 2, _, (Or.inr (Or.inl ⟨(by first | assumption | exact (fun c => c (by assumption)) | exact Int32.not_lt.mpr (by assumption) | exact Int32.not_le.mpr (by assumption) | exact Int32.not_lt.mp (by assumption) | exact Int32.not_le.mp (by assumption) | omega), (by first | assumption | exact (fun c => c (by assumption)) | exact Int32.not_lt.mpr (by assumption) | exact Int32.not_le.mpr (by assumption) | exact Int32.not_lt.mp (by assumption) | exact Int32.not_le.mp (by assumption) | omega), rfl⟩)), rfl, (by rw [q_sI, va_us]), (F1.gm.set (by omega) (by omega)), fun _ => ((C.lf F1).thr 12 (by omega) _), fun e => absurd e (by decide)⟩
  · have hk0 : q < 201 := by have := mt (q_neg1 (k := 201 - q) (by omega)).mpr (by first | assumption | exact Int32.not_lt.mpr (by assumption)); omega
    rw [show nI (201 - q) - nI 1 = nI (200 - q) from by rw [pk_sub (by omega), show 201 - q - 1 = 200 - q by omega]]
    refine q_aload_n dX10_daysToForm_14 rfl ?_
    refine q_aload_n dX10_daysToForm_15 rfl ?_
    refine fRX10_9 (o := some 1062) dX10_daysToForm_16 rfl (by decide) (K.le (by decide)) hs ?_
    refine q_rfS ?_
    refine q_iconst (v := nI 0) dX10_daysToForm_19 (by decide) ?_
    refine q_ialdN (len := 830) rfl dX10_daysToForm_20 (by decide) (K.le (by decide)) rfl (by omega) (by decide) ?_
    refine q_tv (show _ = (nI (m.t)) from M.t) ?_
    refine q_iload_n dX10_daysToForm_21 rfl ?_
    refine q_iaddN dX10_daysToForm_22 ?_
    refine q_vD (kc := 0) (ks := 0) (g_X10_form (h := h1) K hD (n := (m.t) + (200 - q)) (by omega)) wX10_form kX10_108 iX10_form eX10_form rfl rfl (by decide) (K.le (by decide)) (by decide) rfl rfl (Nat.le_of_ble_eq_true rfl) dX10_daysToForm_23 rfl rfl ?_
    refine q_iload_n dX10_daysToForm_26 rfl ?_
    refine q_icmp_lt (tgt := 34) dX10_daysToForm_27 rfl (fun c19 => ?_) (fun c20 => ?_)
    · refine q_iload_n dX10_daysToForm_34 rfl ?_
      refine q_istore_n (L' := [_, _, _, _]) dX10_daysToForm_35 rfl (by decide) rfl ?_
      refine q_iinc (v := nI (200 - q) - nI 1) (L' := [_, _, _, _]) dX10_daysToForm_36 rfl (q_pm1 _) rfl (by decide) rfl ?_
      refine q_goto (tgt := 10) dX10_daysToForm_39 rfl ?_
      exact q_to (ih10 (q + 1) (by omega) (by omega)) (q_sub_s rfl (q_sub_i rfl (q_sub_i (by simp only [q_fd]; split <;> first | rfl | (exfalso; simp only [q_W.f2, decide_eq_true_eq, Int32.lt_iff_toInt_lt, Int32.le_iff_toInt_le] at *; omega)) (q_sub_i (by rw [show 201 - (q + 1) = 200 - q by omega]) q_sub_0)))) rfl
    · refine q_iload_n dX10_daysToForm_30 rfl ?_
      refine q_goto (tgt := 35) dX10_daysToForm_31 rfl ?_
      refine q_istore_n (L' := [_, _, _, _]) dX10_daysToForm_35 rfl (by decide) rfl ?_
      refine q_iinc (v := nI (200 - q) - nI 1) (L' := [_, _, _, _]) dX10_daysToForm_36 rfl (q_pm1 _) rfl (by decide) rfl ?_
      refine q_goto (tgt := 10) dX10_daysToForm_39 rfl ?_
      exact q_to (ih10 (q + 1) (by omega) (by omega)) (q_sub_s rfl (q_sub_i rfl (q_sub_i (by simp only [q_fd]; split <;> first | rfl | (exfalso; simp only [q_W.f2, decide_eq_true_eq, Int32.lt_iff_toInt_lt, Int32.le_iff_toInt_le] at *; omega)) (q_sub_i (by rw [show 201 - (q + 1) = 200 - q by omega]) q_sub_0)))) rfl
theorem g_X10_isNoRow {Φ : q_Fx} {h : q_Hp} (K : q_Lk Φ h.R h.n) {m : q_W} {P : q_P} (C : q_mr h m P) (v : q_val m) {n : Int32} : q_Ct Φ false yX10_isNoRow cX10_isNoRow mX10_isNoRow [.ref 1061, .int n] h (q_ex (fun v h' => ∃ a, q_k2 (¬ (nI 1 ≤ n ∧ n ≤ nI 60)) (nI m.t < n - nI 1) a ∧ v = some (.int (nI (min a 1))) ∧ h' = h.setI 1061 12 (nI a))) := by
  refine q_enter K.st rfl rfl (by decide) rfl (Nat.le_of_ble_eq_true rfl) (L := [_, _]) rfl ?_
  have hs := C.1
  have M := C.2.1.1
  have hσ := C.2.1.2
  have ht9 := M.t9
  have hc40 := M.c40
  have hn10 := M.n10
  have hp28 := M.pc28
  have hpe1 := M.pe1
  have hpf9 := M.pf9
  have hu := C.2.2.1.2.1
  have htp := C.2.2.1.2.2.2.1
  have hwr := C.2.2.1.2.2.2.2.2.1
  have hsv := C.2.2.1.2.2.2.2.2.2.2
  refine q_aload_n dX10_isNoRow_0 rfl ?_
  refine q_iload_n dX10_isNoRow_1 rfl ?_
  refine q_iconst (v := nI 1) dX10_isNoRow_2 (by decide) ?_
  refine q_bipush (v := nI 60) dX10_isNoRow_3 (by decide) ?_
  refine q_sD (kc := 0) (ks := 0) (g_X10_isIn (h := h) K (v := n) (lo := (nI (1))) (hi := (nI (60)))) wX10_isIn kX10_47 sX10_isIn (by decide) rfl rfl (Nat.le_of_ble_eq_true rfl) dX10_isNoRow_5 rfl rfl ?_
  refine q_spl (fun c1 => ?_) (fun c2 => ?_)
  · refine q_if_ne (tgt := 15) dX10_isNoRow_8 rfl (fun _ => ?_) (fun c => absurd c (by decide))
    refine q_iconst (v := nI 0) dX10_isNoRow_15 (by decide) ?_
    refine q_iconst (v := nI 1) dX10_isNoRow_16 (by decide) ?_
    refine q_vD (kc := 0) (ks := 0) (g_thrF (h := h) K (a := 1)) wX10_isThrown kX10_51 iX10_isThrown eX10_isThrown rfl rfl (by decide) (K.le (by decide)) (by decide) rfl rfl (Nat.le_of_ble_eq_true rfl) dX10_isNoRow_17 rfl rfl ?_
    refine q_if_ne (tgt := 48) dX10_isNoRow_20 rfl (fun c => absurd (by decide) c) (fun _ => ?_)
    refine q_aload_n dX10_isNoRow_23 rfl ?_
    refine q_aload_n dX10_isNoRow_24 rfl ?_
    refine fRX10_9 (o := some 1062) dX10_isNoRow_25 rfl (by decide) (K.le (by decide)) hs ?_
    refine q_rfS ?_
    refine q_iconst (v := nI 0) dX10_isNoRow_28 (by decide) ?_
    refine q_ialdN (len := 830) rfl dX10_isNoRow_29 (by decide) (K.le (by decide)) rfl (by omega) (by decide) ?_
    refine q_tv (show _ = (nI (m.t)) from ((congrFun (q_sIn _ _ _ (by omega)) _).trans M.t)) ?_
    refine q_iload_n dX10_isNoRow_30 rfl ?_
    refine q_iconst (v := nI 1) dX10_isNoRow_31 (by decide) ?_
    refine q_isub dX10_isNoRow_32 ?_
    refine q_icmp_ge (tgt := 40) dX10_isNoRow_33 rfl (fun c7 => ?_) (fun c8 => ?_)
    · refine q_iconst (v := nI 0) dX10_isNoRow_40 (by decide) ?_
      refine q_iconst (v := nI 2) dX10_isNoRow_41 (by decide) ?_
      refine q_vD (kc := 0) (ks := 0) (g_thrF (h := (h.setI 1061 12 (nI (0)))) K (a := 2)) wX10_isThrown kX10_51 iX10_isThrown eX10_isThrown rfl rfl (by decide) (K.le (by decide)) (by decide) rfl rfl (Nat.le_of_ble_eq_true rfl) dX10_isNoRow_42 rfl rfl ?_
      rw [q_ss]
      refine q_if_eq (tgt := 52) dX10_isNoRow_45 rfl (fun _ => ?_) (fun c => absurd (by decide) c)
      refine q_iconst (v := nI 0) dX10_isNoRow_52 (by decide) ?_
      refine q_zret (ty := .boolean) dX10_isNoRow_53 rfl rfl (Or.inl rfl) ?_
      first | exact ⟨_, rfl, 0, (Or.inr (Or.inr ⟨(by first | assumption | exact (fun c => c (by assumption)) | exact Int32.not_lt.mpr (by assumption) | exact Int32.not_le.mpr (by assumption) | exact Int32.not_lt.mp (by assumption) | exact Int32.not_le.mp (by assumption) | omega), (by first | assumption | exact (fun c => c (by assumption)) | exact Int32.not_lt.mpr (by assumption) | exact Int32.not_le.mpr (by assumption) | exact Int32.not_lt.mp (by assumption) | exact Int32.not_le.mp (by assumption) | omega), rfl⟩)), rfl, rfl⟩ | exact ⟨_, rfl, 1, (Or.inl ⟨(by first | assumption | exact (fun c => c (by assumption)) | exact Int32.not_lt.mpr (by assumption) | exact Int32.not_le.mpr (by assumption) | exact Int32.not_lt.mp (by assumption) | exact Int32.not_le.mp (by assumption) | omega), rfl⟩), rfl, rfl⟩ | exact ⟨_, rfl, 2, (Or.inr (Or.inl ⟨(by first | assumption | exact (fun c => c (by assumption)) | exact Int32.not_lt.mpr (by assumption) | exact Int32.not_le.mpr (by assumption) | exact Int32.not_lt.mp (by assumption) | exact Int32.not_le.mp (by assumption) | omega), (by first | assumption | exact (fun c => c (by assumption)) | exact Int32.not_lt.mpr (by assumption) | exact Int32.not_le.mpr (by assumption) | exact Int32.not_lt.mp (by assumption) | exact Int32.not_le.mp (by assumption) | omega), rfl⟩)), rfl, rfl⟩
    · refine q_iconst (v := nI 1) dX10_isNoRow_36 (by decide) ?_
      refine q_goto (tgt := 41) dX10_isNoRow_37 rfl ?_
      refine q_iconst (v := nI 2) dX10_isNoRow_41 (by decide) ?_
      refine q_vD (kc := 0) (ks := 0) (g_thrT (h := (h.setI 1061 12 (nI (0)))) K (a := 2)) wX10_isThrown kX10_51 iX10_isThrown eX10_isThrown rfl rfl (by decide) (K.le (by decide)) (by decide) rfl rfl (Nat.le_of_ble_eq_true rfl) dX10_isNoRow_42 rfl rfl ?_
      rw [q_ss]
      refine q_if_eq (tgt := 52) dX10_isNoRow_45 rfl (fun c => absurd c (by decide)) (fun _ => ?_)
      refine q_iconst (v := nI 1) dX10_isNoRow_48 (by decide) ?_
      refine q_goto (tgt := 53) dX10_isNoRow_49 rfl ?_
      refine q_zret (ty := .boolean) dX10_isNoRow_53 rfl rfl (Or.inl rfl) ?_
      first | exact ⟨_, rfl, 0, (Or.inr (Or.inr ⟨(by first | assumption | exact (fun c => c (by assumption)) | exact Int32.not_lt.mpr (by assumption) | exact Int32.not_le.mpr (by assumption) | exact Int32.not_lt.mp (by assumption) | exact Int32.not_le.mp (by assumption) | omega), (by first | assumption | exact (fun c => c (by assumption)) | exact Int32.not_lt.mpr (by assumption) | exact Int32.not_le.mpr (by assumption) | exact Int32.not_lt.mp (by assumption) | exact Int32.not_le.mp (by assumption) | omega), rfl⟩)), rfl, rfl⟩ | exact ⟨_, rfl, 1, (Or.inl ⟨(by first | assumption | exact (fun c => c (by assumption)) | exact Int32.not_lt.mpr (by assumption) | exact Int32.not_le.mpr (by assumption) | exact Int32.not_lt.mp (by assumption) | exact Int32.not_le.mp (by assumption) | omega), rfl⟩), rfl, rfl⟩ | exact ⟨_, rfl, 2, (Or.inr (Or.inl ⟨(by first | assumption | exact (fun c => c (by assumption)) | exact Int32.not_lt.mpr (by assumption) | exact Int32.not_le.mpr (by assumption) | exact Int32.not_lt.mp (by assumption) | exact Int32.not_le.mp (by assumption) | omega), (by first | assumption | exact (fun c => c (by assumption)) | exact Int32.not_lt.mpr (by assumption) | exact Int32.not_le.mpr (by assumption) | exact Int32.not_lt.mp (by assumption) | exact Int32.not_le.mp (by assumption) | omega), rfl⟩)), rfl, rfl⟩
  · refine q_if_ne (tgt := 15) dX10_isNoRow_8 rfl (fun c => absurd (by decide) c) (fun _ => ?_)
    refine q_iconst (v := nI 1) dX10_isNoRow_11 (by decide) ?_
    refine q_goto (tgt := 16) dX10_isNoRow_12 rfl ?_
    refine q_iconst (v := nI 1) dX10_isNoRow_16 (by decide) ?_
    refine q_vD (kc := 0) (ks := 0) (g_thrT (h := h) K (a := 1)) wX10_isThrown kX10_51 iX10_isThrown eX10_isThrown rfl rfl (by decide) (K.le (by decide)) (by decide) rfl rfl (Nat.le_of_ble_eq_true rfl) dX10_isNoRow_17 rfl rfl ?_
    refine q_if_ne (tgt := 48) dX10_isNoRow_20 rfl (fun _ => ?_) (fun c => absurd c (by decide))
    refine q_iconst (v := nI 1) dX10_isNoRow_48 (by decide) ?_
    refine q_goto (tgt := 53) dX10_isNoRow_49 rfl ?_
    refine q_zret (ty := .boolean) dX10_isNoRow_53 rfl rfl (Or.inl rfl) ?_
    first | exact ⟨_, rfl, 0, (Or.inr (Or.inr ⟨(by first | assumption | exact (fun c => c (by assumption)) | exact Int32.not_lt.mpr (by assumption) | exact Int32.not_le.mpr (by assumption) | exact Int32.not_lt.mp (by assumption) | exact Int32.not_le.mp (by assumption) | omega), (by first | assumption | exact (fun c => c (by assumption)) | exact Int32.not_lt.mpr (by assumption) | exact Int32.not_le.mpr (by assumption) | exact Int32.not_lt.mp (by assumption) | exact Int32.not_le.mp (by assumption) | omega), rfl⟩)), rfl, rfl⟩ | exact ⟨_, rfl, 1, (Or.inl ⟨(by first | assumption | exact (fun c => c (by assumption)) | exact Int32.not_lt.mpr (by assumption) | exact Int32.not_le.mpr (by assumption) | exact Int32.not_lt.mp (by assumption) | exact Int32.not_le.mp (by assumption) | omega), rfl⟩), rfl, rfl⟩ | exact ⟨_, rfl, 2, (Or.inr (Or.inl ⟨(by first | assumption | exact (fun c => c (by assumption)) | exact Int32.not_lt.mpr (by assumption) | exact Int32.not_le.mpr (by assumption) | exact Int32.not_lt.mp (by assumption) | exact Int32.not_le.mp (by assumption) | omega), (by first | assumption | exact (fun c => c (by assumption)) | exact Int32.not_lt.mpr (by assumption) | exact Int32.not_le.mpr (by assumption) | exact Int32.not_lt.mp (by assumption) | exact Int32.not_le.mp (by assumption) | omega), rfl⟩)), rfl, rfl⟩
theorem q_k2_0 {c1 c2 : Prop} (h : q_k2 c1 c2 0) : ¬ c1 ∧ ¬ c2 := by
  rcases h with h | h | h
  · exact absurd h.2 (by decide)
  · exact absurd h.2.2 (by decide)
  · exact ⟨h.1, h.2.1⟩
theorem g_X10_bestDaysStart {Φ : q_Fx} {h : q_Hp} (K : q_Lk Φ h.R h.n) {m : q_W} {P : q_P} (C : q_mr h m P) (v : q_val m) {n : Int32} : q_Ct Φ false yX10_bestDaysStart cX10_bestDaysStart mX10_bestDaysStart [.ref 1061, .int n] h (q_ex (q_pr h m P (q_k2 (¬ (nI 1 ≤ n ∧ n ≤ nI 60)) (nI m.t < n - nI 1)) (nI (q_br (fun a => q_sum (fun k => m.D (a + k)) n.toNatClampNeg) (m.t + 1 - n.toNatClampNeg))) (m) (P))) := by
  refine q_enter K.st rfl rfl (by decide) rfl (Nat.le_of_ble_eq_true rfl) (L := [_, _]) rfl ?_
  have hs := C.1
  have M := C.2.1.1
  have hσ := C.2.1.2
  have ht9 := M.t9
  have hc40 := M.c40
  have hn10 := M.n10
  have hp28 := M.pc28
  have hpe1 := M.pe1
  have hpf9 := M.pf9
  have hu := C.2.2.1.2.1
  have htp := C.2.2.1.2.2.2.1
  have hwr := C.2.2.1.2.2.2.2.2.1
  have hsv := C.2.2.1.2.2.2.2.2.2.2
  refine q_aload_n dX10_bestDaysStart_0 rfl ?_
  refine q_iload_n dX10_bestDaysStart_1 rfl ?_
  refine q_vR (kc := 0) (ks := 0) (g_X10_isNoRow (h := h) K C v (n := n)) wX10_isNoRow kX10_116 iX10_isNoRow eX10_isNoRow rfl rfl (by decide) (K.le (by decide)) (by decide) rfl rfl (Nat.le_of_ble_eq_true rfl) dX10_bestDaysStart_2 rfl rfl ?_
  rintro v' h' ⟨a, hka, rfl, e9⟩
  rw [e9]
  refine q_if_eqN (by omega) (tgt := 12) dX10_bestDaysStart_5 rfl (fun c1 => ?_) (fun c2 => ?_)
  · obtain rfl : a = 0 := by omega
    have hka0 := q_k2_0 hka
    obtain ⟨j, hj1, hj2, rfl⟩ := q_rng hka0.1 (by omega) (by omega)
    have hjt : j ≤ m.t + 1 := q_rowt hka0.2 hj1 (by omega) (by omega)
    try rw [nI_clamp (show j < 2 ^ 31 by omega)]
    obtain ⟨h0, e0⟩ : ∃ z, z = h.setI 1061 12 (nI 0) := ⟨_, rfl⟩
    rw [← e0]
    have C0 : q_mr h0 m P := by rw [e0]; exact C.thr 12 (by omega) _
    have G0 : q_gm h h0 := by rw [e0]; exact q_gm.rf.set (by omega) (by omega)
    have T0 : h0.I 1061 12 = nI 0 := by rw [e0, q_sI, va_us]
    have K : q_Lk Φ h0.R h0.n := K.gm G0
    have hs := C0.1
    have M := C0.2.1.1
    refine q_aload_n dX10_bestDaysStart_12 rfl ?_
    refine q_iload_n dX10_bestDaysStart_13 rfl ?_
    refine q_vR (kc := 0) (ks := 0) (g_X10_bestRow (h := h0) K (Or.inl rfl) hs M v hσ (n := j) (by omega) (by omega)) wX10_bestRow kX10_119 iX10_bestRow eX10_bestRow rfl rfl (by decide) (K.le (by decide)) (by decide) rfl rfl (Nat.le_of_ble_eq_true rfl) dX10_bestDaysStart_14 rfl rfl ?_
    rintro v' h1 ⟨rfl, F1, hD⟩
    have K : q_Lk Φ h1.R h1.n := K.gm F1.gm
    have hbr := q_br_le (fun a => q_sum (fun k => m.D (a + k)) j) (m.t + 1 - j)
    refine q_iret dX10_bestDaysStart_17 rfl (Or.inl rfl) ?_
    exact ⟨_, rfl, 0, _, hka, rfl, ((congrFun (F1.1 _ (by omega) (by omega)) _).trans T0), (G0.tr F1.gm), fun e => absurd rfl e, fun _ => ⟨rfl, (C0.lf F1)⟩⟩
  · refine q_iconst (v := nI 0) dX10_bestDaysStart_8 (by decide) ?_
    refine q_goto (tgt := 17) dX10_bestDaysStart_9 rfl ?_
    refine q_iret dX10_bestDaysStart_17 rfl (Or.inl rfl) ?_
    exact ⟨_, rfl, a, _, hka, rfl, by rw [q_sI, va_us], q_gm.rf.set (by omega) (by omega), fun _ => C.thr 12 (by omega) _, fun e => absurd e (by omega)⟩
theorem g_X10_bestDays {Φ : q_Fx} {h : q_Hp} (K : q_Lk Φ h.R h.n) {m : q_W} {P : q_P} (C : q_mr h m P) (v : q_val m) {n : Int32} : q_Ct Φ false yX10_bestDays cX10_bestDays mX10_bestDays [.ref 1061, .int n] h (q_ex (q_pr h m P (q_k2 (¬ (nI 1 ≤ n ∧ n ≤ nI 60)) (nI m.t < n - nI 1)) (q_sum (fun k => m.D ((q_br (fun a => q_sum (fun k => m.D (a + k)) n.toNatClampNeg) (m.t + 1 - n.toNatClampNeg)) + k)) n.toNatClampNeg) (m) (P))) := by
  refine q_enter K.st rfl rfl (by decide) rfl (Nat.le_of_ble_eq_true rfl) (L := [_, _]) rfl ?_
  have hs := C.1
  have M := C.2.1.1
  have hσ := C.2.1.2
  have ht9 := M.t9
  have hc40 := M.c40
  have hn10 := M.n10
  have hp28 := M.pc28
  have hpe1 := M.pe1
  have hpf9 := M.pf9
  have hu := C.2.2.1.2.1
  have htp := C.2.2.1.2.2.2.1
  have hwr := C.2.2.1.2.2.2.2.2.1
  have hsv := C.2.2.1.2.2.2.2.2.2.2
  refine q_aload_n dX10_bestDays_0 rfl ?_
  refine q_iload_n dX10_bestDays_1 rfl ?_
  refine q_vR (kc := 0) (ks := 0) (g_X10_isNoRow (h := h) K C v (n := n)) wX10_isNoRow kX10_116 iX10_isNoRow eX10_isNoRow rfl rfl (by decide) (K.le (by decide)) (by decide) rfl rfl (Nat.le_of_ble_eq_true rfl) dX10_bestDays_2 rfl rfl ?_
  rintro v' h' ⟨a, hka, rfl, e9⟩
  rw [e9]
  refine q_if_eqN (by omega) (tgt := 12) dX10_bestDays_5 rfl (fun c1 => ?_) (fun c2 => ?_)
  · obtain rfl : a = 0 := by omega
    have hka0 := q_k2_0 hka
    obtain ⟨j, hj1, hj2, rfl⟩ := q_rng hka0.1 (by omega) (by omega)
    have hjt : j ≤ m.t + 1 := q_rowt hka0.2 hj1 (by omega) (by omega)
    try rw [nI_clamp (show j < 2 ^ 31 by omega)]
    obtain ⟨h0, e0⟩ : ∃ z, z = h.setI 1061 12 (nI 0) := ⟨_, rfl⟩
    rw [← e0]
    have C0 : q_mr h0 m P := by rw [e0]; exact C.thr 12 (by omega) _
    have G0 : q_gm h h0 := by rw [e0]; exact q_gm.rf.set (by omega) (by omega)
    have T0 : h0.I 1061 12 = nI 0 := by rw [e0, q_sI, va_us]
    have K : q_Lk Φ h0.R h0.n := K.gm G0
    have hs := C0.1
    have M := C0.2.1.1
    refine q_aload_n dX10_bestDays_12 rfl ?_
    refine q_aload_n dX10_bestDays_13 rfl ?_
    refine q_iload_n dX10_bestDays_14 rfl ?_
    refine q_vR (kc := 0) (ks := 0) (g_X10_bestRow (h := h0) K (Or.inl rfl) hs M v hσ (n := j) (by omega) (by omega)) wX10_bestRow kX10_119 iX10_bestRow eX10_bestRow rfl rfl (by decide) (K.le (by decide)) (by decide) rfl rfl (Nat.le_of_ble_eq_true rfl) dX10_bestDays_15 rfl rfl ?_
    rintro v' h1 ⟨rfl, F1, hD⟩
    have K : q_Lk Φ h1.R h1.n := K.gm F1.gm
    have hbr := q_br_le (fun a => q_sum (fun k => m.D (a + k)) j) (m.t + 1 - j)
    refine q_iload_n dX10_bestDays_18 rfl ?_
    refine q_vD (kc := 0) (ks := 0) (g_X10_row (h := h1) K hD (a := (q_br (fun a => q_sum (fun k => m.D (a + k)) j) (m.t + 1 - j))) (n := j) (by omega)) wX10_row kX10_113 iX10_row eX10_row rfl rfl (by decide) (K.le (by decide)) (by decide) rfl rfl (Nat.le_of_ble_eq_true rfl) dX10_bestDays_19 rfl rfl ?_
    refine q_iret dX10_bestDays_22 rfl (Or.inl rfl) ?_
    exact ⟨_, rfl, 0, _, hka, rfl, ((congrFun (F1.1 _ (by omega) (by omega)) _).trans T0), (G0.tr F1.gm), fun e => absurd rfl e, fun _ => ⟨rfl, (C0.lf F1)⟩⟩
  · refine q_iconst (v := nI 0) dX10_bestDays_8 (by decide) ?_
    refine q_goto (tgt := 22) dX10_bestDays_9 rfl ?_
    refine q_iret dX10_bestDays_22 rfl (Or.inl rfl) ?_
    exact ⟨_, rfl, a, _, hka, rfl, by rw [q_sI, va_us], q_gm.rf.set (by omega) (by omega), fun _ => C.thr 12 (by omega) _, fun e => absurd e (by omega)⟩
theorem g_X10_bestDaysByTrying {Φ : q_Fx} {h : q_Hp} (K : q_Lk Φ h.R h.n) {m : q_W} {P : q_P} (C : q_mr h m P) (v : q_val m) {n : Int32} : q_Ct Φ false yX10_bestDaysByTrying cX10_bestDaysByTrying mX10_bestDaysByTrying [.ref 1061, .int n] h (q_ex (q_pr h m P (q_k2 (¬ (nI 1 ≤ n ∧ n ≤ nI 60)) (nI m.t < n - nI 1)) (q_sum (fun k => m.D ((q_br (fun a => q_sum (fun k => m.D (a + k)) n.toNatClampNeg) (m.t + 1 - n.toNatClampNeg)) + k)) n.toNatClampNeg) (m) (P))) := by
  refine q_enter K.st rfl rfl (by decide) rfl (Nat.le_of_ble_eq_true rfl) (L := [_, _]) rfl ?_
  have hs := C.1
  have M := C.2.1.1
  have hσ := C.2.1.2
  have ht9 := M.t9
  have hc40 := M.c40
  have hn10 := M.n10
  have hp28 := M.pc28
  have hpe1 := M.pe1
  have hpf9 := M.pf9
  have hu := C.2.2.1.2.1
  have htp := C.2.2.1.2.2.2.1
  have hwr := C.2.2.1.2.2.2.2.2.1
  have hsv := C.2.2.1.2.2.2.2.2.2.2
  refine q_aload_n dX10_bestDaysByTrying_0 rfl ?_
  refine q_iload_n dX10_bestDaysByTrying_1 rfl ?_
  refine q_vR (kc := 0) (ks := 0) (g_X10_bestDays (h := h) K C v (n := n)) wX10_bestDays kX10_122 iX10_bestDays eX10_bestDays rfl rfl (by decide) (K.le (by decide)) (by decide) rfl rfl (Nat.le_of_ble_eq_true rfl) dX10_bestDaysByTrying_2 rfl rfl ?_
  rintro v' h' ⟨a, b, ha, rfl, rest⟩
  refine q_iret dX10_bestDaysByTrying_5 rfl (Or.inl rfl) ?_
  exact ⟨_, rfl, a, b, ha, rfl, rest⟩
theorem g_X10_isNoEffort {Φ : q_Fx} {h : q_Hp} (K : q_Lk Φ h.R h.n) {m : q_W} {P : q_P} (C : q_mr h m P) (v : q_val m) {rk : Nat → Nat} (hrk : ∀ r, r < m.c → q_ps (fun k => decide (m.ah k = r)) m.c = nI (rk r) ∧ rk r < m.c) {n : Int32} : q_Ct Φ false yX10_isNoEffort cX10_isNoEffort mX10_isNoEffort [.ref 1061, .int n] h (q_ex (fun v h' => ∃ a, q_k2 (¬ (nI 1 ≤ n ∧ n ≤ nI 240)) (q_on (q_sg (fun k => m.ef k n.toNatClampNeg) rk m.c) < 0) a ∧ v = some (.int (nI (min a 1))) ∧ h' = h.setI 1061 12 (nI a))) := by
  refine q_enter K.st rfl rfl (by decide) rfl (Nat.le_of_ble_eq_true rfl) (L := [_, _]) rfl ?_
  have hs := C.1
  have M := C.2.1.1
  have hσ := C.2.1.2
  have ht9 := M.t9
  have hc40 := M.c40
  have hn10 := M.n10
  have hp28 := M.pc28
  have hpe1 := M.pe1
  have hpf9 := M.pf9
  have hu := C.2.2.1.2.1
  have htp := C.2.2.1.2.2.2.1
  have hwr := C.2.2.1.2.2.2.2.2.1
  have hsv := C.2.2.1.2.2.2.2.2.2.2
  refine q_aload_n dX10_isNoEffort_0 rfl ?_
  refine q_iload_n dX10_isNoEffort_1 rfl ?_
  refine q_iconst (v := nI 1) dX10_isNoEffort_2 (by decide) ?_
  refine q_sipush (v := nI 240) dX10_isNoEffort_3 (by decide) ?_
  refine q_sD (kc := 0) (ks := 0) (g_X10_isIn (h := h) K (v := n) (lo := (nI (1))) (hi := (nI (240)))) wX10_isIn kX10_47 sX10_isIn (by decide) rfl rfl (Nat.le_of_ble_eq_true rfl) dX10_isNoEffort_6 rfl rfl ?_
  refine q_spl (fun c1 => ?_) (fun c2 => ?_)
  · refine q_if_ne (tgt := 16) dX10_isNoEffort_9 rfl (fun _ => ?_) (fun c => absurd c (by decide))
    refine q_iconst (v := nI 0) dX10_isNoEffort_16 (by decide) ?_
    refine q_iconst (v := nI 1) dX10_isNoEffort_17 (by decide) ?_
    refine q_vD (kc := 0) (ks := 0) (g_thrF (h := h) K (a := 1)) wX10_isThrown kX10_51 iX10_isThrown eX10_isThrown rfl rfl (by decide) (K.le (by decide)) (by decide) rfl rfl (Nat.le_of_ble_eq_true rfl) dX10_isNoEffort_18 rfl rfl ?_
    refine q_if_ne (tgt := 45) dX10_isNoEffort_21 rfl (fun c => absurd (by decide) c) (fun _ => ?_)
    obtain ⟨j, hj1, hj2, rfl⟩ := q_rng (x := n) (a := 1) (b := 240) (fun f => by first | exact f (by assumption) | exact absurd f (by assumption)) (by omega) (by omega)
    try rw [nI_clamp (show j < 2 ^ 31 by omega)]
    refine q_aload_n dX10_isNoEffort_24 rfl ?_
    refine q_aload_n dX10_isNoEffort_25 rfl ?_
    refine q_iload_n dX10_isNoEffort_26 rfl ?_
    refine q_vD (kc := 0) (ks := 0) (g_X10_strongest (h := (h.setI 1061 12 (nI (0)))) K ((Or.inl rfl)) hs ((show (h.setI 1061 12 (nI (0))).I 1062 = h.I 1062 from (q_sIn _ _ _ (by omega))).symm ▸ M) v hrk (n := j) (by omega) (by omega)) wX10_strongest kX10_134 iX10_strongest eX10_strongest rfl rfl (by decide) (K.le (by decide)) (by decide) rfl rfl (Nat.le_of_ble_eq_true rfl) dX10_isNoEffort_27 rfl rfl ?_
    refine q_if_ge (tgt := 37) dX10_isNoEffort_30 rfl (fun c7 => ?_) (fun c8 => ?_)
    · refine q_iconst (v := nI 0) dX10_isNoEffort_37 (by decide) ?_
      refine q_iconst (v := nI 2) dX10_isNoEffort_38 (by decide) ?_
      refine q_vD (kc := 0) (ks := 0) (g_thrF (h := (h.setI 1061 12 (nI (0)))) K (a := 2)) wX10_isThrown kX10_51 iX10_isThrown eX10_isThrown rfl rfl (by decide) (K.le (by decide)) (by decide) rfl rfl (Nat.le_of_ble_eq_true rfl) dX10_isNoEffort_39 rfl rfl ?_
      rw [q_ss]
      refine q_if_eq (tgt := 49) dX10_isNoEffort_42 rfl (fun _ => ?_) (fun c => absurd (by decide) c)
      refine q_iconst (v := nI 0) dX10_isNoEffort_49 (by decide) ?_
      refine q_zret (ty := .boolean) dX10_isNoEffort_50 rfl rfl (Or.inl rfl) ?_
      first | exact ⟨_, rfl, 0, (Or.inr (Or.inr ⟨(by first | assumption | exact (fun c => c (by assumption)) | exact Int32.not_lt.mpr (by assumption) | exact Int32.not_le.mpr (by assumption) | exact Int32.not_lt.mp (by assumption) | exact Int32.not_le.mp (by assumption) | omega), (by first | assumption | exact (fun c => c (by assumption)) | exact Int32.not_lt.mpr (by assumption) | exact Int32.not_le.mpr (by assumption) | exact Int32.not_lt.mp (by assumption) | exact Int32.not_le.mp (by assumption) | omega), rfl⟩)), rfl, rfl⟩ | exact ⟨_, rfl, 1, (Or.inl ⟨(by first | assumption | exact (fun c => c (by assumption)) | exact Int32.not_lt.mpr (by assumption) | exact Int32.not_le.mpr (by assumption) | exact Int32.not_lt.mp (by assumption) | exact Int32.not_le.mp (by assumption) | omega), rfl⟩), rfl, rfl⟩ | exact ⟨_, rfl, 2, (Or.inr (Or.inl ⟨(by first | assumption | exact (fun c => c (by assumption)) | exact Int32.not_lt.mpr (by assumption) | exact Int32.not_le.mpr (by assumption) | exact Int32.not_lt.mp (by assumption) | exact Int32.not_le.mp (by assumption) | omega), (by first | assumption | exact (fun c => c (by assumption)) | exact Int32.not_lt.mpr (by assumption) | exact Int32.not_le.mpr (by assumption) | exact Int32.not_lt.mp (by assumption) | exact Int32.not_le.mp (by assumption) | omega), rfl⟩)), rfl, rfl⟩
    · refine q_iconst (v := nI 1) dX10_isNoEffort_33 (by decide) ?_
      refine q_goto (tgt := 38) dX10_isNoEffort_34 rfl ?_
      refine q_iconst (v := nI 2) dX10_isNoEffort_38 (by decide) ?_
      refine q_vD (kc := 0) (ks := 0) (g_thrT (h := (h.setI 1061 12 (nI (0)))) K (a := 2)) wX10_isThrown kX10_51 iX10_isThrown eX10_isThrown rfl rfl (by decide) (K.le (by decide)) (by decide) rfl rfl (Nat.le_of_ble_eq_true rfl) dX10_isNoEffort_39 rfl rfl ?_
      rw [q_ss]
      refine q_if_eq (tgt := 49) dX10_isNoEffort_42 rfl (fun c => absurd c (by decide)) (fun _ => ?_)
      refine q_iconst (v := nI 1) dX10_isNoEffort_45 (by decide) ?_
      refine q_goto (tgt := 50) dX10_isNoEffort_46 rfl ?_
      refine q_zret (ty := .boolean) dX10_isNoEffort_50 rfl rfl (Or.inl rfl) ?_
      first | exact ⟨_, rfl, 0, (Or.inr (Or.inr ⟨(by first | assumption | exact (fun c => c (by assumption)) | exact Int32.not_lt.mpr (by assumption) | exact Int32.not_le.mpr (by assumption) | exact Int32.not_lt.mp (by assumption) | exact Int32.not_le.mp (by assumption) | omega), (by first | assumption | exact (fun c => c (by assumption)) | exact Int32.not_lt.mpr (by assumption) | exact Int32.not_le.mpr (by assumption) | exact Int32.not_lt.mp (by assumption) | exact Int32.not_le.mp (by assumption) | omega), rfl⟩)), rfl, rfl⟩ | exact ⟨_, rfl, 1, (Or.inl ⟨(by first | assumption | exact (fun c => c (by assumption)) | exact Int32.not_lt.mpr (by assumption) | exact Int32.not_le.mpr (by assumption) | exact Int32.not_lt.mp (by assumption) | exact Int32.not_le.mp (by assumption) | omega), rfl⟩), rfl, rfl⟩ | exact ⟨_, rfl, 2, (Or.inr (Or.inl ⟨(by first | assumption | exact (fun c => c (by assumption)) | exact Int32.not_lt.mpr (by assumption) | exact Int32.not_le.mpr (by assumption) | exact Int32.not_lt.mp (by assumption) | exact Int32.not_le.mp (by assumption) | omega), (by first | assumption | exact (fun c => c (by assumption)) | exact Int32.not_lt.mpr (by assumption) | exact Int32.not_le.mpr (by assumption) | exact Int32.not_lt.mp (by assumption) | exact Int32.not_le.mp (by assumption) | omega), rfl⟩)), rfl, rfl⟩
  · refine q_if_ne (tgt := 16) dX10_isNoEffort_9 rfl (fun c => absurd (by decide) c) (fun _ => ?_)
    refine q_iconst (v := nI 1) dX10_isNoEffort_12 (by decide) ?_
    refine q_goto (tgt := 17) dX10_isNoEffort_13 rfl ?_
    refine q_iconst (v := nI 1) dX10_isNoEffort_17 (by decide) ?_
    refine q_vD (kc := 0) (ks := 0) (g_thrT (h := h) K (a := 1)) wX10_isThrown kX10_51 iX10_isThrown eX10_isThrown rfl rfl (by decide) (K.le (by decide)) (by decide) rfl rfl (Nat.le_of_ble_eq_true rfl) dX10_isNoEffort_18 rfl rfl ?_
    refine q_if_ne (tgt := 45) dX10_isNoEffort_21 rfl (fun _ => ?_) (fun c => absurd c (by decide))
    refine q_iconst (v := nI 1) dX10_isNoEffort_45 (by decide) ?_
    refine q_goto (tgt := 50) dX10_isNoEffort_46 rfl ?_
    refine q_zret (ty := .boolean) dX10_isNoEffort_50 rfl rfl (Or.inl rfl) ?_
    first | exact ⟨_, rfl, 0, (Or.inr (Or.inr ⟨(by first | assumption | exact (fun c => c (by assumption)) | exact Int32.not_lt.mpr (by assumption) | exact Int32.not_le.mpr (by assumption) | exact Int32.not_lt.mp (by assumption) | exact Int32.not_le.mp (by assumption) | omega), (by first | assumption | exact (fun c => c (by assumption)) | exact Int32.not_lt.mpr (by assumption) | exact Int32.not_le.mpr (by assumption) | exact Int32.not_lt.mp (by assumption) | exact Int32.not_le.mp (by assumption) | omega), rfl⟩)), rfl, rfl⟩ | exact ⟨_, rfl, 1, (Or.inl ⟨(by first | assumption | exact (fun c => c (by assumption)) | exact Int32.not_lt.mpr (by assumption) | exact Int32.not_le.mpr (by assumption) | exact Int32.not_lt.mp (by assumption) | exact Int32.not_le.mp (by assumption) | omega), rfl⟩), rfl, rfl⟩ | exact ⟨_, rfl, 2, (Or.inr (Or.inl ⟨(by first | assumption | exact (fun c => c (by assumption)) | exact Int32.not_lt.mpr (by assumption) | exact Int32.not_le.mpr (by assumption) | exact Int32.not_lt.mp (by assumption) | exact Int32.not_le.mp (by assumption) | omega), (by first | assumption | exact (fun c => c (by assumption)) | exact Int32.not_lt.mpr (by assumption) | exact Int32.not_le.mpr (by assumption) | exact Int32.not_lt.mp (by assumption) | exact Int32.not_le.mp (by assumption) | omega), rfl⟩)), rfl, rfl⟩
theorem g_X10_bestEffort {Φ : q_Fx} {h : q_Hp} (K : q_Lk Φ h.R h.n) {m : q_W} {P : q_P} (C : q_mr h m P) (v : q_val m) {rk : Nat → Nat} (hrk : ∀ r, r < m.c → q_ps (fun k => decide (m.ah k = r)) m.c = nI (rk r) ∧ rk r < m.c) {n : Int32} : q_Ct Φ false yX10_bestEffort cX10_bestEffort mX10_bestEffort [.ref 1061, .int n] h (q_ex (q_pr h m P (q_k2 (¬ (nI 1 ≤ n ∧ n ≤ nI 240)) (q_on (q_sg (fun k => m.ef k n.toNatClampNeg) rk m.c) < 0)) (m.ef ((q_sg (fun k => m.ef k n.toNatClampNeg) rk m.c).getD 0) n.toNatClampNeg) (m) (P))) := by
  refine q_enter K.st rfl rfl (by decide) rfl (Nat.le_of_ble_eq_true rfl) (L := [_, _]) rfl ?_
  have hs := C.1
  have M := C.2.1.1
  have hσ := C.2.1.2
  have ht9 := M.t9
  have hc40 := M.c40
  have hn10 := M.n10
  have hp28 := M.pc28
  have hpe1 := M.pe1
  have hpf9 := M.pf9
  have hu := C.2.2.1.2.1
  have htp := C.2.2.1.2.2.2.1
  have hwr := C.2.2.1.2.2.2.2.2.1
  have hsv := C.2.2.1.2.2.2.2.2.2.2
  refine q_aload_n dX10_bestEffort_0 rfl ?_
  refine q_iload_n dX10_bestEffort_1 rfl ?_
  refine q_vR (kc := 0) (ks := 0) (g_X10_isNoEffort (h := h) K C v hrk (n := n)) wX10_isNoEffort kX10_137 iX10_isNoEffort eX10_isNoEffort rfl rfl (by decide) (K.le (by decide)) (by decide) rfl rfl (Nat.le_of_ble_eq_true rfl) dX10_bestEffort_2 rfl rfl ?_
  rintro v' h' ⟨a, hka, rfl, e9⟩
  rw [e9]
  refine q_if_eqN (by omega) (tgt := 12) dX10_bestEffort_5 rfl (fun c1 => ?_) (fun c2 => ?_)
  · obtain rfl : a = 0 := by omega
    have hka0 := q_k2_0 hka
    obtain ⟨j, hj1, hj2, rfl⟩ := q_rng hka0.1 (by omega) (by omega)
    rw [nI_clamp (show j < 2 ^ 31 by omega)] at hka0
    obtain ⟨bb, hbb⟩ := q_sg_some hka0.2
    have hbc := q_sg_lt (fun r hr => (hrk r hr).2) m.c (Nat.le_refl _) bb hbb
    try rw [nI_clamp (show j < 2 ^ 31 by omega)]
    try rw [hbb]
    try rw [Option.getD_some]
    obtain ⟨h0, e0⟩ : ∃ z, z = h.setI 1061 12 (nI 0) := ⟨_, rfl⟩
    rw [← e0]
    have C0 : q_mr h0 m P := by rw [e0]; exact C.thr 12 (by omega) _
    have G0 : q_gm h h0 := by rw [e0]; exact q_gm.rf.set (by omega) (by omega)
    have T0 : h0.I 1061 12 = nI 0 := by rw [e0, q_sI, va_us]
    have K : q_Lk Φ h0.R h0.n := K.gm G0
    have hs := C0.1
    have M := C0.2.1.1
    refine q_aload_n dX10_bestEffort_12 rfl ?_
    refine q_aload_n dX10_bestEffort_13 rfl ?_
    refine q_iload_n dX10_bestEffort_14 rfl ?_
    refine q_vD (kc := 0) (ks := 0) (g_X10_strongest (h := h0) K (Or.inl rfl) hs M v hrk (n := j) (by omega) (by omega)) wX10_strongest kX10_134 iX10_strongest eX10_strongest rfl rfl (by decide) (K.le (by decide)) (by decide) rfl rfl (Nat.le_of_ble_eq_true rfl) dX10_bestEffort_15 rfl rfl ?_
    rw [hbb]
    show q_G _ _ _ _ _ _ _ _ (.int (nI bb) :: _) _ _ _
    refine q_iload_n dX10_bestEffort_18 rfl ?_
    refine q_vD (kc := 0) (ks := 0) (g_X10_effort (h := h0) K ((Or.inl rfl)) hs (M) v (k := bb) (n := j) (by omega) (by omega) (by omega)) wX10_effort kX10_131 iX10_effort eX10_effort rfl rfl (by decide) (K.le (by decide)) (by decide) rfl rfl (Nat.le_of_ble_eq_true rfl) dX10_bestEffort_19 rfl rfl ?_
    refine q_iret dX10_bestEffort_22 rfl (Or.inl rfl) ?_
    exact ⟨_, rfl, 0, _, (by rw [nI_clamp (show j < 2 ^ 31 by omega), hbb] at hka; exact hka), rfl, T0, G0, fun e => absurd rfl e, fun _ => ⟨by first | rfl | simp only [hbb, Option.getD_some], C0⟩⟩
  · refine q_iconst (v := nI 0) dX10_bestEffort_8 (by decide) ?_
    refine q_goto (tgt := 22) dX10_bestEffort_9 rfl ?_
    refine q_iret dX10_bestEffort_22 rfl (Or.inl rfl) ?_
    exact ⟨_, rfl, a, _, hka, rfl, by rw [q_sI, va_us], q_gm.rf.set (by omega) (by omega), fun _ => C.thr 12 (by omega) _, fun e => absurd e (by omega)⟩
theorem g_X10_bestEffortSession {Φ : q_Fx} {h : q_Hp} (K : q_Lk Φ h.R h.n) {m : q_W} {P : q_P} (C : q_mr h m P) (v : q_val m) {rk : Nat → Nat} (hrk : ∀ r, r < m.c → q_ps (fun k => decide (m.ah k = r)) m.c = nI (rk r) ∧ rk r < m.c) {n : Int32} : q_Ct Φ false yX10_bestEffortSession cX10_bestEffortSession mX10_bestEffortSession [.ref 1061, .int n] h (q_ex (q_pr h m P (q_k2 (¬ (nI 1 ≤ n ∧ n ≤ nI 240)) (q_on (q_sg (fun k => m.ef k n.toNatClampNeg) rk m.c) < 0)) (m.id ((q_sg (fun k => m.ef k n.toNatClampNeg) rk m.c).getD 0)) (m) (P))) := by
  refine q_enter K.st rfl rfl (by decide) rfl (Nat.le_of_ble_eq_true rfl) (L := [_, _]) rfl ?_
  have hs := C.1
  have M := C.2.1.1
  have hσ := C.2.1.2
  have ht9 := M.t9
  have hc40 := M.c40
  have hn10 := M.n10
  have hp28 := M.pc28
  have hpe1 := M.pe1
  have hpf9 := M.pf9
  have hu := C.2.2.1.2.1
  have htp := C.2.2.1.2.2.2.1
  have hwr := C.2.2.1.2.2.2.2.2.1
  have hsv := C.2.2.1.2.2.2.2.2.2.2
  refine q_aload_n dX10_bestEffortSession_0 rfl ?_
  refine q_iload_n dX10_bestEffortSession_1 rfl ?_
  refine q_vR (kc := 0) (ks := 0) (g_X10_isNoEffort (h := h) K C v hrk (n := n)) wX10_isNoEffort kX10_137 iX10_isNoEffort eX10_isNoEffort rfl rfl (by decide) (K.le (by decide)) (by decide) rfl rfl (Nat.le_of_ble_eq_true rfl) dX10_bestEffortSession_2 rfl rfl ?_
  rintro v' h' ⟨a, hka, rfl, e9⟩
  rw [e9]
  refine q_if_eqN (by omega) (tgt := 12) dX10_bestEffortSession_5 rfl (fun c1 => ?_) (fun c2 => ?_)
  · obtain rfl : a = 0 := by omega
    have hka0 := q_k2_0 hka
    obtain ⟨j, hj1, hj2, rfl⟩ := q_rng hka0.1 (by omega) (by omega)
    rw [nI_clamp (show j < 2 ^ 31 by omega)] at hka0
    obtain ⟨bb, hbb⟩ := q_sg_some hka0.2
    have hbc := q_sg_lt (fun r hr => (hrk r hr).2) m.c (Nat.le_refl _) bb hbb
    try rw [nI_clamp (show j < 2 ^ 31 by omega)]
    try rw [hbb]
    try rw [Option.getD_some]
    obtain ⟨h0, e0⟩ : ∃ z, z = h.setI 1061 12 (nI 0) := ⟨_, rfl⟩
    rw [← e0]
    have C0 : q_mr h0 m P := by rw [e0]; exact C.thr 12 (by omega) _
    have G0 : q_gm h h0 := by rw [e0]; exact q_gm.rf.set (by omega) (by omega)
    have T0 : h0.I 1061 12 = nI 0 := by rw [e0, q_sI, va_us]
    have K : q_Lk Φ h0.R h0.n := K.gm G0
    have hs := C0.1
    have M := C0.2.1.1
    refine q_aload_n dX10_bestEffortSession_12 rfl ?_
    refine fRX10_9 (o := some 1062) dX10_bestEffortSession_13 rfl (by decide) (K.le (by decide)) hs ?_
    refine q_rfS ?_
    refine q_aload_n dX10_bestEffortSession_16 rfl ?_
    refine q_aload_n dX10_bestEffortSession_17 rfl ?_
    refine q_iload_n dX10_bestEffortSession_18 rfl ?_
    refine q_vD (kc := 0) (ks := 0) (g_X10_strongest (h := h0) K (Or.inl rfl) hs M v hrk (n := j) (by omega) (by omega)) wX10_strongest kX10_134 iX10_strongest eX10_strongest rfl rfl (by decide) (K.le (by decide)) (by decide) rfl rfl (Nat.le_of_ble_eq_true rfl) dX10_bestEffortSession_19 rfl rfl ?_
    rw [hbb]
    show q_G _ _ _ _ _ _ _ _ (.int (nI bb) :: _) _ _ _
    refine q_vD (kc := 0) (ks := 0) (g_X10_at (h := h0) K (k := bb)) wX10_at kX10_75 iX10_at eX10_at rfl rfl (by decide) (K.le (by decide)) (by decide) rfl rfl (Nat.le_of_ble_eq_true rfl) dX10_bestEffortSession_22 rfl rfl ?_
    refine q_ialdN (len := 830) rfl dX10_bestEffortSession_25 (by decide) (K.le (by decide)) rfl (by omega) (by decide) ?_
    refine q_tv (show _ = (m.id bb) from (M.id (by omega))) ?_
    refine q_iret dX10_bestEffortSession_26 rfl (Or.inl rfl) ?_
    exact ⟨_, rfl, 0, _, (by rw [nI_clamp (show j < 2 ^ 31 by omega), hbb] at hka; exact hka), rfl, T0, G0, fun e => absurd rfl e, fun _ => ⟨by first | rfl | simp only [hbb, Option.getD_some], C0⟩⟩
  · refine q_iconst (v := nI 0) dX10_bestEffortSession_8 (by decide) ?_
    refine q_goto (tgt := 26) dX10_bestEffortSession_9 rfl ?_
    refine q_iret dX10_bestEffortSession_26 rfl (Or.inl rfl) ?_
    exact ⟨_, rfl, a, _, hka, rfl, by rw [q_sI, va_us], q_gm.rf.set (by omega) (by omega), fun _ => C.thr 12 (by omega) _, fun e => absurd e (by omega)⟩
theorem g_X10_bestEffortByTrying {Φ : q_Fx} {h : q_Hp} (K : q_Lk Φ h.R h.n) {m : q_W} {P : q_P} (C : q_mr h m P) (v : q_val m) {rk : Nat → Nat} (hrk : ∀ r, r < m.c → q_ps (fun k => decide (m.ah k = r)) m.c = nI (rk r) ∧ rk r < m.c) {n : Int32} : q_Ct Φ false yX10_bestEffortByTrying cX10_bestEffortByTrying mX10_bestEffortByTrying [.ref 1061, .int n] h (q_ex (q_pr h m P (q_k2 (¬ (nI 1 ≤ n ∧ n ≤ nI 240)) (q_on (q_sg (fun k => m.ef k n.toNatClampNeg) rk m.c) < 0)) (m.ef ((q_sg (fun k => m.ef k n.toNatClampNeg) rk m.c).getD 0) n.toNatClampNeg) (m) (P))) := by
  refine q_enter K.st rfl rfl (by decide) rfl (Nat.le_of_ble_eq_true rfl) (L := [_, _]) rfl ?_
  have hs := C.1
  have M := C.2.1.1
  have hσ := C.2.1.2
  have ht9 := M.t9
  have hc40 := M.c40
  have hn10 := M.n10
  have hp28 := M.pc28
  have hpe1 := M.pe1
  have hpf9 := M.pf9
  have hu := C.2.2.1.2.1
  have htp := C.2.2.1.2.2.2.1
  have hwr := C.2.2.1.2.2.2.2.2.1
  have hsv := C.2.2.1.2.2.2.2.2.2.2
  refine q_aload_n dX10_bestEffortByTrying_0 rfl ?_
  refine q_iload_n dX10_bestEffortByTrying_1 rfl ?_
  refine q_vR (kc := 0) (ks := 0) (g_X10_bestEffort (h := h) K C v hrk (n := n)) wX10_bestEffort kX10_140 iX10_bestEffort eX10_bestEffort rfl rfl (by decide) (K.le (by decide)) (by decide) rfl rfl (Nat.le_of_ble_eq_true rfl) dX10_bestEffortByTrying_2 rfl rfl ?_
  rintro v' h' ⟨a, b, ha, rfl, rest⟩
  refine q_iret dX10_bestEffortByTrying_5 rfl (Or.inl rfl) ?_
  exact ⟨_, rfl, a, b, ha, rfl, rest⟩
