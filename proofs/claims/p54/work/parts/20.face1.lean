/-! THE CLASS'S FACE, FIRST HALF -/
def q_clX (h : q_Hp) (W : q_W) (O : q_O) : Prop := q_cl' h W O ∧ ∃ k, q_Tr h W k
/-- nothing that the document speaks of has changed -/
def q_rd (h h' : q_Hp) (W : q_W) (O : q_O) : Prop := q_clX h' W O ∧ q_fr h h'
/-- it is W2 and O2 now, and the trend is forgotten from d on -/
def q_mu (h h' : q_Hp) (W2 : q_W) (O2 : q_O) (d : Nat) : Prop := q_cl' h' W2 O2 ∧ q_fr h h' ∧ q_tf h h' d
theorem q_rd.rf {h : q_Hp} {W : q_W} {O : q_O} (C : q_clX h W O) : q_rd h h W O := ⟨C, q_fr.rf⟩
theorem q_Tr.cong {h h' : q_Hp} {W : q_W} {k : Nat} (T : q_Tr h W k) (e3 : h'.I 1053 = h.I 1053) (e4 : h'.I 1054 = h.I 1054) (e5 : h'.I 1055 = h.I 1055) : q_Tr h' W k := by
  unfold q_Tr; rw [e3, e4, e5]; exact T
theorem q_rd.row {h h1 : q_Hp} {W : q_W} {O : q_O} (r : q_rd h h1 W O) {a : Nat} {g : Nat → Int32} (ha : 1056 ≤ a) (hb : a < 1061) : q_rd h (h1.rowI a g) W O := by
  obtain ⟨⟨c, k, T⟩, F⟩ := r
  exact ⟨⟨c.row (by omega), k, T.cong (q_rIn _ _ (by omega)) (q_rIn _ _ (by omega)) (q_rIn _ _ (by omega))⟩, F.row hb⟩
theorem q_rd.tr {h h1 : q_Hp} {W : q_W} {O : q_O} (r : q_rd h h1 W O) {a b c : Nat → Int32} {k : Nat} (hk : k ≤ W.t + 1) (hc : c 2 = nI k) (ha : ∀ x, x < k → a x = q_dec (nI 42) W.D (x + 1)) (hb : ∀ x, x < k → b x = q_dec (nI 7) W.D (x + 1)) : q_rd h (((h1.rowI 1054 a).rowI 1055 b).rowI 1053 c) W O := by
  obtain ⟨⟨C, _⟩, F⟩ := r
  exact ⟨⟨((C.row (by omega)).row (by omega)).row (by omega), k, by rw [q_rI]; exact hc, hk, fun d hd => (congrFun ((q_rIn _ _ (by omega)).trans ((q_rIn _ _ (by omega)).trans (q_rI _ _ _))) d).trans (ha d hd), fun d hd => (congrFun ((q_rIn _ _ (by omega)).trans (q_rI _ _ _)) d).trans (hb d hd)⟩, ((F.row (by omega)).row (by omega)).row (by omega)⟩
theorem q_mu.mk {h h1 h2 : q_Hp} {W W2 : q_W} {O1 : q_O} (C1 : q_cl' h1 W O1) (F1 : q_kf h h1) (F2 : q_st h1 h2) (V2 : q_vw h2 W2) (o2 : q_ok0 W2) : q_mu h h2 W2 O1 200 :=
  ⟨⟨V2, o2, F2.ob C1.2.2⟩, F1.fr.tr F2.fr, q_tf.of ((F2.1 _ (by omega)).trans (F1.2.2.2.2 _ (by omega))) ((F2.1 _ (by omega)).trans (F1.2.2.2.2 _ (by omega))) ((F2.1 _ (by omega)).trans (F1.2.2.2.2 _ (by omega)))⟩
theorem q_mu.row {h h2 : q_Hp} {W2 : q_W} {O1 : q_O} {d : Nat} (m : q_mu h h2 W2 O1 d) {a : Nat} {g : Nat → Int32} (ha : 1056 ≤ a) (hb : a < 1061) : q_mu h (h2.rowI a g) W2 O1 d :=
  ⟨m.1.row (by omega), m.2.1.row hb, (q_rIn _ _ (by omega)).trans m.2.2.1, (q_rIn _ _ (by omega)).trans m.2.2.2.1, fun k e hk => (congrFun (q_rIn _ _ (by omega)) _).trans (m.2.2.2.2 k e hk)⟩
theorem q_mu.fg {h h2 : q_Hp} {W W2 : q_W} {O1 : q_O} (m : q_mu h h2 W2 O1 200) {k d : Nat} (hT : q_Tr h W k) (hk : k ≤ 200) : q_mu h (h2.setI 1053 2 (nI (min k d))) W2 O1 d := by
  refine ⟨m.1.set (by omega), m.2.1.set (by omega), (q_sIn _ _ _ (by omega)).trans m.2.2.1, (q_sIn _ _ _ (by omega)).trans m.2.2.2.1, fun k2 e hk2 => ?_⟩
  rw [hT.1] at e
  have := (nI_eq (by omega) (by omega)).mp e
  subst this
  rw [q_sI, va_us]
def q_u1 (h : q_Hp) (W : q_W) (O : q_O) (c : Prop) (E : String) (P : Option Value → q_Hp → Prop) : Except String (Option Value) → q_Hp → Prop := fun r h' => (c ∧ r = .error E ∧ q_rd h h' W O) ∨ (¬ c ∧ ∃ v, r = .ok v ∧ P v h')
def q_u2 (h : q_Hp) (W : q_W) (O : q_O) (c1 : Prop) (E1 : String) (c2 : Prop) (E2 : String) (P : Option Value → q_Hp → Prop) : Except String (Option Value) → q_Hp → Prop := fun r h' => (c1 ∧ r = .error E1 ∧ q_rd h h' W O) ∨ (¬ c1 ∧ c2 ∧ r = .error E2 ∧ q_rd h h' W O) ∨ (¬ c1 ∧ ¬ c2 ∧ ∃ v, r = .ok v ∧ P v h')
def q_u3 (h : q_Hp) (W : q_W) (O : q_O) (c1 : Prop) (E1 : String) (c2 : Prop) (E2 : String) (c3 : Prop) (E3 : String) (P : Option Value → q_Hp → Prop) : Except String (Option Value) → q_Hp → Prop := fun r h' => (c1 ∧ r = .error E1 ∧ q_rd h h' W O) ∨ (¬ c1 ∧ c2 ∧ r = .error E2 ∧ q_rd h h' W O) ∨ (¬ c1 ∧ ¬ c2 ∧ c3 ∧ r = .error E3 ∧ q_rd h h' W O) ∨ (¬ c1 ∧ ¬ c2 ∧ ¬ c3 ∧ ∃ v, r = .ok v ∧ P v h')
theorem q_no2 {A B : Prop} (a : ¬ A) (b : ¬ B) : ¬ (A ∨ B) := fun c => c.elim a b
theorem q_ok0_pn {W : q_W} {X : q_W} (hσ : X.σ = W.σ) (hp : X.pn = W.pn) (hm : X.mn = W.mn) (o : q_ok0 W) : q_ok0 X := by
  refine ⟨fun s hs => ?_, by rw [hσ]; exact o.2⟩
  unfold q_W.okS q_W.ml
  rw [hp, hm]; exact o.1 s hs
/-- the days of tests -/
def q_td (W : q_W) : Prop := ∀ i, i < W.n → ∃ k : Nat, k ≤ 199 ∧ W.d i = nI k
theorem q_cn_cong {p r : Nat → Bool} {n : Nat} (h : ∀ i, i < n → p i = r i) : q_cn p n = q_cn r n := by
  induction n with
  | zero => rfl
  | succ n ih =>
    unfold q_cn
    rw [h n (by omega), ih fun i hi => h i (by omega)]
theorem q_mu.st {h h1 h2 : q_Hp} {W W2 : q_W} {O1 : q_O} (m : q_mu h h1 W O1 200) (F2 : q_st h1 h2) (V2 : q_vw h2 W2) (o2 : q_ok0 W2) : q_mu h h2 W2 O1 200 :=
  ⟨⟨V2, o2, F2.ob m.1.2.2⟩, m.2.1.tr F2.fr, (F2.1 _ (by omega)).trans m.2.2.1, (F2.1 _ (by omega)).trans m.2.2.2.1, fun k e hk => (congrFun (F2.1 _ (by omega)) _).trans (m.2.2.2.2 k e hk)⟩
theorem q_clampI {p : Int32} {c : Nat} (h : c ≤ p.toNatClampNeg) (h0 : ¬ p < 0) : nI c ≤ p := by
  obtain ⟨j, hj, rfl⟩ := nI_of h0
  rw [nI_clamp hj] at h
  exact nI_le h hj
theorem g_X9_today {Φ : q_Fx} {h : q_Hp} (K : q_Lk Φ h.R h.n) {W : q_W} {O : q_O} (C : q_clX h W O) : q_Ct Φ false yX9_today cX9_today mX9_today [.ref 1] h (q_ex (fun v h' => v = some (.int (nI W.t)) ∧ q_rd h h' W O)) := by
  refine q_enter K.st rfl rfl (by decide) rfl (Nat.le_of_ble_eq_true rfl) (L := [_]) rfl ?_
  have C0 := C
  obtain ⟨k, hT⟩ := C.2
  have hk2 : k ≤ W.t + 1 := hT.2.1
  have V0 := C.1.1
  have V := C.1.1
  have ht9 := V.t9
  refine q_aload_n dX9_today_0 rfl ?_
  refine fRX9_12 (o := some 2) dX9_today_1 rfl (by decide) (K.le (by decide)) (K.lk rfl) ?_
  refine q_rfS ?_
  refine fIX9_69 dX9_today_4 rfl (by decide) (K.le (by decide)) ?_
  refine q_tv (show _ = (nI (W.t)) from V.t) ?_
  refine q_iret dX9_today_7 rfl (Or.inl rfl) ?_
  exact ⟨_, rfl, rfl, q_rd.rf C⟩
theorem g_X9_testCount {Φ : q_Fx} {h : q_Hp} (K : q_Lk Φ h.R h.n) {W : q_W} {O : q_O} (C : q_clX h W O) : q_Ct Φ false yX9_testCount cX9_testCount mX9_testCount [.ref 1] h (q_ex (fun v h' => v = some (.int (nI W.n)) ∧ q_rd h h' W O)) := by
  refine q_enter K.st rfl rfl (by decide) rfl (Nat.le_of_ble_eq_true rfl) (L := [_]) rfl ?_
  have C0 := C
  obtain ⟨k, hT⟩ := C.2
  have hk2 : k ≤ W.t + 1 := hT.2.1
  have V0 := C.1.1
  have V := C.1.1
  have ht9 := V.t9
  refine q_aload_n dX9_testCount_0 rfl ?_
  refine fRX9_12 (o := some 2) dX9_testCount_1 rfl (by decide) (K.le (by decide)) (K.lk rfl) ?_
  refine q_rfS ?_
  refine fRX9_87 (o := some 3) dX9_testCount_4 rfl (by decide) (K.le (by decide)) (K.lk rfl) ?_
  refine q_rfS ?_
  refine fIX9_91 dX9_testCount_7 rfl (by decide) (K.le (by decide)) ?_
  refine q_tv (show _ = (nI (W.n)) from V.n) ?_
  refine q_iret dX9_testCount_10 rfl (Or.inl rfl) ?_
  exact ⟨_, rfl, rfl, q_rd.rf C⟩
theorem g_X9_sessionCount {Φ : q_Fx} {h : q_Hp} (K : q_Lk Φ h.R h.n) {W : q_W} {O : q_O} (C : q_clX h W O) : q_Ct Φ false yX9_sessionCount cX9_sessionCount mX9_sessionCount [.ref 1] h (q_ex (fun v h' => v = some (.int (nI W.c)) ∧ q_rd h h' W O)) := by
  refine q_enter K.st rfl rfl (by decide) rfl (Nat.le_of_ble_eq_true rfl) (L := [_]) rfl ?_
  have C0 := C
  obtain ⟨k, hT⟩ := C.2
  have hk2 : k ≤ W.t + 1 := hT.2.1
  have V0 := C.1.1
  have V := C.1.1
  have ht9 := V.t9
  refine q_aload_n dX9_sessionCount_0 rfl ?_
  refine fRX9_12 (o := some 2) dX9_sessionCount_1 rfl (by decide) (K.le (by decide)) (K.lk rfl) ?_
  refine q_rfS ?_
  refine fRX9_156 (o := some 9) dX9_sessionCount_4 rfl (by decide) (K.le (by decide)) (K.lk rfl) ?_
  refine q_rfS ?_
  refine fIX9_160 dX9_sessionCount_7 rfl (by decide) (K.le (by decide)) ?_
  refine q_tv (show _ = (nI (W.c)) from V.c) ?_
  refine q_iret dX9_sessionCount_10 rfl (Or.inl rfl) ?_
  exact ⟨_, rfl, rfl, q_rd.rf C⟩
theorem g_X9_thresholdOn {Φ : q_Fx} {h : q_Hp} (K : q_Lk Φ h.R h.n) {W : q_W} {O : q_O} (C : q_clX h W O) {d : Int32} : q_Ct Φ false yX9_thresholdOn cX9_thresholdOn mX9_thresholdOn [.ref 1, .int d] h (q_u1 h W O (¬ (nI 0 ≤ d ∧ d ≤ nI 199)) "java/lang/IllegalArgumentException" (fun v h' => v = some (.int (W.th d)) ∧ q_rd h h' W O)) := by
  refine q_enter K.st rfl rfl (by decide) rfl (Nat.le_of_ble_eq_true rfl) (L := [_, _]) rfl ?_
  have C0 := C
  obtain ⟨k, hT⟩ := C.2
  have hk2 : k ≤ W.t + 1 := hT.2.1
  have V0 := C.1.1
  have V := C.1.1
  have ht9 := V.t9
  refine q_iload_n dX9_thresholdOn_0 rfl ?_
  refine q_iconst (v := nI 0) dX9_thresholdOn_1 (by decide) ?_
  refine q_sipush (v := nI 199) dX9_thresholdOn_2 (by decide) ?_
  refine q_sT (kc := 0) (ks := 0) (g_X9_requireRange (h := h) K (v := d) (lo := (nI (0))) (hi := (nI (199)))) wX9_requireRange kX9_65 sX9_requireRange (by decide) rfl rfl (Nat.le_of_ble_eq_true rfl) dX9_thresholdOn_5 rfl rfl rfl (fun c1 => by exact Or.inl ⟨c1, rfl, q_rd.rf C⟩) (fun c2 => ?_)
  have n5 := c2
  refine q_aload_n dX9_thresholdOn_8 rfl ?_
  refine fRX9_12 (o := some 2) dX9_thresholdOn_9 rfl (by decide) (K.le (by decide)) (K.lk rfl) ?_
  refine q_rfS ?_
  refine fRX9_87 (o := some 3) dX9_thresholdOn_12 rfl (by decide) (K.le (by decide)) (K.lk rfl) ?_
  refine q_rfS ?_
  refine q_iload_n dX9_thresholdOn_15 rfl ?_
  refine q_vD (kc := 0) (ks := 0) (g_X6_thresholdInForce (h := h) K V (day := d)) wX6_thresholdInForce kX9_128 iX6_thresholdInForce eX6_thresholdInForce rfl rfl (by decide) (K.le (by decide)) (by decide) rfl rfl (Nat.le_of_ble_eq_true rfl) dX9_thresholdOn_16 rfl rfl ?_
  refine q_iret dX9_thresholdOn_19 rfl (Or.inl rfl) ?_
  exact Or.inr ⟨n5, _, rfl, rfl, q_rd.rf C⟩
theorem g_X9_boundOf {Φ : q_Fx} {h : q_Hp} (K : q_Lk Φ h.R h.n) {W : q_W} {O : q_O} (C : q_clX h W O) {z : Int32} : q_Ct Φ false yX9_boundOf cX9_boundOf mX9_boundOf [.ref 1, .int z] h (q_u1 h W O (¬ (nI 2 ≤ z ∧ z ≤ nI 5)) "java/lang/IllegalArgumentException" (fun v h' => v = some (.int (W.bd z.toNatClampNeg)) ∧ q_rd h h' W O)) := by
  refine q_enter K.st rfl rfl (by decide) rfl (Nat.le_of_ble_eq_true rfl) (L := [_, _]) rfl ?_
  have C0 := C
  obtain ⟨k, hT⟩ := C.2
  have hk2 : k ≤ W.t + 1 := hT.2.1
  have V0 := C.1.1
  have V := C.1.1
  have ht9 := V.t9
  refine q_iload_n dX9_boundOf_0 rfl ?_
  refine q_iconst (v := nI 2) dX9_boundOf_1 (by decide) ?_
  refine q_iconst (v := nI 5) dX9_boundOf_2 (by decide) ?_
  refine q_sT (kc := 0) (ks := 0) (g_X9_requireRange (h := h) K (v := z) (lo := (nI (2))) (hi := (nI (5)))) wX9_requireRange kX9_65 sX9_requireRange (by decide) rfl rfl (Nat.le_of_ble_eq_true rfl) dX9_boundOf_3 rfl rfl rfl (fun c1 => by exact Or.inl ⟨c1, rfl, q_rd.rf C⟩) (fun c2 => ?_)
  have n3 := c2
  obtain ⟨j, hj1, hj2, rfl⟩ := q_rng n3 (by omega) (by omega)
  refine q_aload_n dX9_boundOf_6 rfl ?_
  refine fRX9_12 (o := some 2) dX9_boundOf_7 rfl (by decide) (K.le (by decide)) (K.lk rfl) ?_
  refine q_rfS ?_
  refine fRX9_131 (o := some 6) dX9_boundOf_10 rfl (by decide) (K.le (by decide)) (K.lk rfl) ?_
  refine q_rfS ?_
  refine fRX9_143 (o := some 7) dX9_boundOf_13 rfl (by decide) (K.le (by decide)) (K.lk rfl) ?_
  refine q_rfS ?_
  refine q_iload_n dX9_boundOf_16 rfl ?_
  refine q_ialdN (len := 6) rfl dX9_boundOf_17 (by decide) (K.le (by decide)) rfl (by omega) (by decide) ?_
  refine q_tv (show _ = (W.bd (j)) from (congrFun V.bd _)) ?_
  refine q_iret dX9_boundOf_18 rfl (Or.inl rfl) ?_
  exact Or.inr ⟨n3, _, rfl, by rw [nI_clamp (by omega)], q_rd.rf C⟩
theorem g_X9_weightOf {Φ : q_Fx} {h : q_Hp} (K : q_Lk Φ h.R h.n) {W : q_W} {O : q_O} (C : q_clX h W O) {z : Int32} : q_Ct Φ false yX9_weightOf cX9_weightOf mX9_weightOf [.ref 1, .int z] h (q_u1 h W O (¬ (nI 1 ≤ z ∧ z ≤ nI 5)) "java/lang/IllegalArgumentException" (fun v h' => v = some (.int (W.wt z.toNatClampNeg)) ∧ q_rd h h' W O)) := by
  refine q_enter K.st rfl rfl (by decide) rfl (Nat.le_of_ble_eq_true rfl) (L := [_, _]) rfl ?_
  have C0 := C
  obtain ⟨k, hT⟩ := C.2
  have hk2 : k ≤ W.t + 1 := hT.2.1
  have V0 := C.1.1
  have V := C.1.1
  have ht9 := V.t9
  refine q_iload_n dX9_weightOf_0 rfl ?_
  refine q_sT (kc := 0) (ks := 0) (g_X9_requireZone (h := h) K (z := z)) wX9_requireZone kX9_146 sX9_requireZone (by decide) rfl rfl (Nat.le_of_ble_eq_true rfl) dX9_weightOf_1 rfl rfl rfl (fun c1 => by exact Or.inl ⟨c1, rfl, q_rd.rf C⟩) (fun c2 => ?_)
  have n1 := c2
  obtain ⟨j, hj1, hj2, rfl⟩ := q_rng n1 (by omega) (by omega)
  refine q_aload_n dX9_weightOf_4 rfl ?_
  refine fRX9_12 (o := some 2) dX9_weightOf_5 rfl (by decide) (K.le (by decide)) (K.lk rfl) ?_
  refine q_rfS ?_
  refine fRX9_131 (o := some 6) dX9_weightOf_8 rfl (by decide) (K.le (by decide)) (K.lk rfl) ?_
  refine q_rfS ?_
  refine fRX9_149 (o := some 8) dX9_weightOf_11 rfl (by decide) (K.le (by decide)) (K.lk rfl) ?_
  refine q_rfS ?_
  refine q_iload_n dX9_weightOf_14 rfl ?_
  refine q_ialdN (len := 6) rfl dX9_weightOf_15 (by decide) (K.le (by decide)) rfl (by omega) (by decide) ?_
  refine q_tv (show _ = (W.wt (j)) from (congrFun V.wt _)) ?_
  refine q_iret dX9_weightOf_16 rfl (Or.inl rfl) ?_
  exact Or.inr ⟨n1, _, rfl, by rw [nI_clamp (by omega)], q_rd.rf C⟩
theorem g_X9_zoneOf {Φ : q_Fx} {h : q_Hp} (K : q_Lk Φ h.R h.n) {W : q_W} {O : q_O} (C : q_clX h W O) {d x : Int32} : q_Ct Φ false yX9_zoneOf cX9_zoneOf mX9_zoneOf [.ref 1, .int d, .int x] h (q_u1 h W O (¬ (nI 0 ≤ d ∧ d ≤ nI 199) ∨ ¬ (nI 0 ≤ x ∧ x ≤ nI 500)) "java/lang/IllegalArgumentException" (fun v h' => v = some (.int (nI (q_zn W.bd x (W.th d)))) ∧ q_rd h h' W O)) := by
  refine q_enter K.st rfl rfl (by decide) rfl (Nat.le_of_ble_eq_true rfl) (L := [_, _, _]) rfl ?_
  have C0 := C
  obtain ⟨k, hT⟩ := C.2
  have hk2 : k ≤ W.t + 1 := hT.2.1
  have V0 := C.1.1
  have V := C.1.1
  have ht9 := V.t9
  refine q_iload_n dX9_zoneOf_0 rfl ?_
  refine q_iconst (v := nI 0) dX9_zoneOf_1 (by decide) ?_
  refine q_sipush (v := nI 199) dX9_zoneOf_2 (by decide) ?_
  refine q_sT (kc := 1) (ks := 6) (g_X9_requireRange (h := h) K (v := d) (lo := (nI (0))) (hi := (nI (199)))) wX9_requireRange kX9_65 sX9_requireRange (by decide) rfl rfl (Nat.le_of_ble_eq_true rfl) dX9_zoneOf_5 rfl rfl rfl (fun c1 => by exact Or.inl ⟨Or.inl c1, rfl, q_rd.rf C⟩) (fun c2 => ?_)
  have n5 := c2
  refine q_iload_n dX9_zoneOf_8 rfl ?_
  refine q_iconst (v := nI 0) dX9_zoneOf_9 (by decide) ?_
  refine q_sipush (v := nI 500) dX9_zoneOf_10 (by decide) ?_
  refine q_sT (kc := 0) (ks := 0) (g_X9_requireRange (h := h) K (v := x) (lo := (nI (0))) (hi := (nI (500)))) wX9_requireRange kX9_65 sX9_requireRange (by decide) rfl rfl (Nat.le_of_ble_eq_true rfl) dX9_zoneOf_13 rfl rfl rfl (fun c3 => by exact Or.inl ⟨Or.inr c3, rfl, q_rd.rf C⟩) (fun c4 => ?_)
  have n13 := c4
  refine q_aload_n dX9_zoneOf_16 rfl ?_
  refine fRX9_12 (o := some 2) dX9_zoneOf_17 rfl (by decide) (K.le (by decide)) (K.lk rfl) ?_
  refine q_rfS ?_
  refine fRX9_131 (o := some 6) dX9_zoneOf_20 rfl (by decide) (K.le (by decide)) (K.lk rfl) ?_
  refine q_rfS ?_
  refine q_iload_n dX9_zoneOf_23 rfl ?_
  refine q_aload_n dX9_zoneOf_24 rfl ?_
  refine fRX9_12 (o := some 2) dX9_zoneOf_25 rfl (by decide) (K.le (by decide)) (K.lk rfl) ?_
  refine q_rfS ?_
  refine fRX9_87 (o := some 3) dX9_zoneOf_28 rfl (by decide) (K.le (by decide)) (K.lk rfl) ?_
  refine q_rfS ?_
  refine q_iload_n dX9_zoneOf_31 rfl ?_
  refine q_vD (kc := 0) (ks := 0) (g_X6_thresholdInForce (h := h) K V (day := d)) wX6_thresholdInForce kX9_128 iX6_thresholdInForce eX6_thresholdInForce rfl rfl (by decide) (K.le (by decide)) (by decide) rfl rfl (Nat.le_of_ble_eq_true rfl) dX9_zoneOf_32 rfl rfl ?_
  refine q_vD (kc := 0) (ks := 0) (g_X8_zoneFor (h := h) K V (x := x) (t := (W.th d))) wX8_zoneFor kX9_152 iX8_zoneFor eX8_zoneFor rfl rfl (by decide) (K.le (by decide)) (by decide) rfl rfl (Nat.le_of_ble_eq_true rfl) dX9_zoneOf_35 rfl rfl ?_
  have hz35 := q_zn_le W.bd x (W.th d)
  refine q_iret dX9_zoneOf_38 rfl (Or.inl rfl) ?_
  exact Or.inr ⟨q_no2 n5 n13, _, rfl, rfl, q_rd.rf C⟩
theorem g_X9_sessionAt {Φ : q_Fx} {h : q_Hp} (K : q_Lk Φ h.R h.n) {W : q_W} {O : q_O} (C : q_clX h W O) {p : Int32} : q_Ct Φ false yX9_sessionAt cX9_sessionAt mX9_sessionAt [.ref 1, .int p] h (q_u1 h W O (p < 0 ∨ nI W.c ≤ p) "java/lang/IndexOutOfBoundsException" (fun v h' => v = some (.int (W.id (W.σ p.toNatClampNeg))) ∧ q_rd h h' W O)) := by
  refine q_enter K.st rfl rfl (by decide) rfl (Nat.le_of_ble_eq_true rfl) (L := [_, _]) rfl ?_
  have C0 := C
  obtain ⟨k, hT⟩ := C.2
  have hk2 : k ≤ W.t + 1 := hT.2.1
  have V0 := C.1.1
  have V := C.1.1
  have ht9 := V.t9
  have hc := V.c40
  refine q_iload_n dX9_sessionAt_0 rfl ?_
  refine q_if_lt (tgt := 18) dX9_sessionAt_1 rfl (fun c1 => ?_) (fun c2 => ?_)
  · refine q_throw (text := "there is no such position") tw_200_204 (by decide) rfl ?_ dX9_sessionAt_18 dX9_sessionAt_21 dX9_sessionAt_22 dX9_sessionAt_24 dX9_sessionAt_27 (by decide) (by decide) (by decide) (by decide)
    exact Or.inl ⟨by first | exact Or.inl (by assumption) | exact Or.inr (Int32.not_lt.mp (by assumption)), rfl, q_rd.rf C⟩
  · refine q_iload_n dX9_sessionAt_4 rfl ?_
    refine q_aload_n dX9_sessionAt_5 rfl ?_
    refine fRX9_12 (o := some 2) dX9_sessionAt_6 rfl (by decide) (K.le (by decide)) (K.lk rfl) ?_
    refine q_rfS ?_
    refine fRX9_156 (o := some 9) dX9_sessionAt_9 rfl (by decide) (K.le (by decide)) (K.lk rfl) ?_
    refine q_rfS ?_
    refine fIX9_160 dX9_sessionAt_12 rfl (by decide) (K.le (by decide)) ?_
    refine q_tv (show _ = (nI (W.c)) from V.c) ?_
    refine q_icmp_lt (tgt := 28) dX9_sessionAt_15 rfl (fun c3 => ?_) (fun c4 => ?_)
    · have np : ¬ (p < 0 ∨ nI W.c ≤ p) := q_no2 (by assumption) (Int32.not_le.mpr (by assumption))
      obtain ⟨j, hj1, rfl⟩ := vp_in_of (x := p) (n := W.c) (fun c => np (c.elim Or.inl fun c => Or.inr (by first | exact q_clampI c (fun e => np (Or.inl e)) | omega))) (by omega)
      refine q_aload_n dX9_sessionAt_28 rfl ?_
      refine fRX9_12 (o := some 2) dX9_sessionAt_29 rfl (by decide) (K.le (by decide)) (K.lk rfl) ?_
      refine q_rfS ?_
      refine fRX9_156 (o := some 9) dX9_sessionAt_32 rfl (by decide) (K.le (by decide)) (K.lk rfl) ?_
      refine q_rfS ?_
      refine fRX9_205 (o := some 10) dX9_sessionAt_35 rfl (by decide) (K.le (by decide)) (K.lk rfl) ?_
      refine q_rfS ?_
      refine q_iload_n dX9_sessionAt_38 rfl ?_
      refine q_aaldN (len := 40) (o := some (11 + 3 * W.σ (j))) (by decide) (by decide) dX9_sessionAt_39 (by decide) (K.le (by decide)) rfl (by omega) (by decide) (V.sg (by omega)) ?_
      refine q_rfS ?_
      refine fIX9_209 dX9_sessionAt_40 (q_ts (V.s40 (i := (j)) (by omega))) (by omega) (K.le (q_bs (V.s40 (i := (j)) (by omega)))) ?_
      refine q_tv (show _ = (W.id (W.σ (j))) from (V.id (V.s40 (i := (j)) (by omega)))) ?_
      refine q_iret dX9_sessionAt_43 rfl (Or.inl rfl) ?_
      exact Or.inr ⟨np, _, rfl, by rw [nI_clamp (by omega)], q_rd.rf C⟩
    · refine q_throw (text := "there is no such position") tw_200_204 (by decide) rfl ?_ dX9_sessionAt_18 dX9_sessionAt_21 dX9_sessionAt_22 dX9_sessionAt_24 dX9_sessionAt_27 (by decide) (by decide) (by decide) (by decide)
      exact Or.inl ⟨by first | exact Or.inl (by assumption) | exact Or.inr (Int32.not_lt.mp (by assumption)), rfl, q_rd.rf C⟩
theorem g_X9_dayOf {Φ : q_Fx} {h : q_Hp} (K : q_Lk Φ h.R h.n) {W : q_W} {O : q_O} (C : q_clX h W O) {x : Int32} : q_Ct Φ false yX9_dayOf cX9_dayOf mX9_dayOf [.ref 1, .int x] h (q_u1 h W O (W.no x) "java/util/NoSuchElementException" (fun v h' => v = some (.int (nI (W.dy (W.σ (W.at_ x))))) ∧ q_rd h h' W O)) := by
  refine q_enter K.st rfl rfl (by decide) rfl (Nat.le_of_ble_eq_true rfl) (L := [_, _]) rfl ?_
  have C0 := C
  obtain ⟨k, hT⟩ := C.2
  have hk2 : k ≤ W.t + 1 := hT.2.1
  have V0 := C.1.1
  have V := C.1.1
  have ht9 := V.t9
  refine q_aload_n dX9_dayOf_0 rfl ?_
  refine q_iload_n dX9_dayOf_1 rfl ?_
  refine q_vT (kc := 0) (ks := 0) (g_X9_existingSession (h := h) K V (x := x)) wX9_existingSession kX9_168 iX9_existingSession eX9_existingSession rfl rfl (by decide) (K.le (by decide)) (by decide) rfl rfl (Nat.le_of_ble_eq_true rfl) dX9_dayOf_2 rfl rfl rfl (fun c1 => by exact Or.inl ⟨c1, rfl, q_rd.rf C⟩) (fun c2 => ?_)
  have n2 := c2
  have hat := V.at_ c2
  have hc40 := V.c40
  refine fIX9_184 dX9_dayOf_5 (q_ts (V.s40 (i := (W.at_ x)) (by omega))) (by omega) (K.le (q_bs (V.s40 (i := (W.at_ x)) (by omega)))) ?_
  refine q_tv (show _ = (nI (W.dy (W.σ (W.at_ x)))) from (V.dy (V.s40 (i := (W.at_ x)) (by omega)))) ?_
  refine q_iret dX9_dayOf_8 rfl (Or.inl rfl) ?_
  exact Or.inr ⟨n2, _, rfl, rfl, q_rd.rf C⟩
theorem g_X9_minutesOf {Φ : q_Fx} {h : q_Hp} (K : q_Lk Φ h.R h.n) {W : q_W} {O : q_O} (C : q_clX h W O) {x : Int32} : q_Ct Φ false yX9_minutesOf cX9_minutesOf mX9_minutesOf [.ref 1, .int x] h (q_u1 h W O (W.no x) "java/util/NoSuchElementException" (fun v h' => v = some (.int (W.len (W.σ (W.at_ x)))) ∧ q_rd h h' W O)) := by
  refine q_enter K.st rfl rfl (by decide) rfl (Nat.le_of_ble_eq_true rfl) (L := [_, _]) rfl ?_
  have C0 := C
  obtain ⟨k, hT⟩ := C.2
  have hk2 : k ≤ W.t + 1 := hT.2.1
  have V0 := C.1.1
  have V := C.1.1
  have ht9 := V.t9
  refine q_aload_n dX9_minutesOf_0 rfl ?_
  refine q_iload_n dX9_minutesOf_1 rfl ?_
  refine q_vT (kc := 0) (ks := 0) (g_X9_existingSession (h := h) K V (x := x)) wX9_existingSession kX9_168 iX9_existingSession eX9_existingSession rfl rfl (by decide) (K.le (by decide)) (by decide) rfl rfl (Nat.le_of_ble_eq_true rfl) dX9_minutesOf_2 rfl rfl rfl (fun c1 => by exact Or.inl ⟨c1, rfl, q_rd.rf C⟩) (fun c2 => ?_)
  have n2 := c2
  have hat := V.at_ c2
  have hc40 := V.c40
  refine q_vD (kc := 0) (ks := 0) (g_X3_length (h := h) K V (V.s40 (i := (W.at_ x)) (by omega))) wX3_length kX9_177 iX3_length eX3_length (q_ts (V.s40 (i := (W.at_ x)) (by omega))) rfl (by omega) (K.le (q_bs (V.s40 (i := (W.at_ x)) (by omega)))) (by decide) rfl rfl (Nat.le_of_ble_eq_true rfl) dX9_minutesOf_5 rfl rfl ?_
  refine q_iret dX9_minutesOf_8 rfl (Or.inl rfl) ?_
  exact Or.inr ⟨n2, _, rfl, rfl, q_rd.rf C⟩
theorem g_X9_loadOf {Φ : q_Fx} {h : q_Hp} (K : q_Lk Φ h.R h.n) {W : q_W} {O : q_O} (C : q_clX h W O) {x : Int32} : q_Ct Φ false yX9_loadOf cX9_loadOf mX9_loadOf [.ref 1, .int x] h (q_u1 h W O (W.no x) "java/util/NoSuchElementException" (fun v h' => v = some (.int (W.ld (W.σ (W.at_ x)))) ∧ q_rd h h' W O)) := by
  refine q_enter K.st rfl rfl (by decide) rfl (Nat.le_of_ble_eq_true rfl) (L := [_, _]) rfl ?_
  have C0 := C
  obtain ⟨k, hT⟩ := C.2
  have hk2 : k ≤ W.t + 1 := hT.2.1
  have V0 := C.1.1
  have V := C.1.1
  have ht9 := V.t9
  refine q_aload_n dX9_loadOf_0 rfl ?_
  refine fRX9_12 (o := some 2) dX9_loadOf_1 rfl (by decide) (K.le (by decide)) (K.lk rfl) ?_
  refine q_rfS ?_
  refine q_aload_n dX9_loadOf_4 rfl ?_
  refine q_iload_n dX9_loadOf_5 rfl ?_
  refine q_vT (kc := 0) (ks := 0) (g_X9_existingSession (h := h) K V (x := x)) wX9_existingSession kX9_168 iX9_existingSession eX9_existingSession rfl rfl (by decide) (K.le (by decide)) (by decide) rfl rfl (Nat.le_of_ble_eq_true rfl) dX9_loadOf_6 rfl rfl rfl (fun c1 => by exact Or.inl ⟨c1, rfl, q_rd.rf C⟩) (fun c2 => ?_)
  have n6 := c2
  have hat := V.at_ c2
  have hc40 := V.c40
  refine q_vD (kc := 0) (ks := 0) (g_X5_sessionLoad (h := h) K V (V.s40 (i := (W.at_ x)) (by omega))) wX5_sessionLoad kX9_219 iX5_sessionLoad eX5_sessionLoad rfl rfl (by decide) (K.le (by decide)) (by decide) rfl rfl (Nat.le_of_ble_eq_true rfl) dX9_loadOf_9 rfl rfl ?_
  refine q_iret dX9_loadOf_12 rfl (Or.inl rfl) ?_
  exact Or.inr ⟨n6, _, rfl, rfl, q_rd.rf C⟩
theorem g_X9_minutesInZone {Φ : q_Fx} {h : q_Hp} (K : q_Lk Φ h.R h.n) {W : q_W} {O : q_O} (C : q_clX h W O) {x z : Int32} : q_Ct Φ false yX9_minutesInZone cX9_minutesInZone mX9_minutesInZone [.ref 1, .int x, .int z] h (q_u2 h W O (W.no x) "java/util/NoSuchElementException" (¬ (nI 1 ≤ z ∧ z ≤ nI 5)) "java/lang/IllegalArgumentException" (fun v h' => v = some (.int (q_az (fun _ => nI 0) (W.z (W.σ (W.at_ x))) (W.mn (W.σ (W.at_ x))) (W.pn (W.σ (W.at_ x))) z.toNatClampNeg)) ∧ q_rd h h' W O)) := by
  refine q_enter K.st rfl rfl (by decide) rfl (Nat.le_of_ble_eq_true rfl) (L := [_, _, _, none]) rfl ?_
  have C0 := C
  obtain ⟨k, hT⟩ := C.2
  have hk2 : k ≤ W.t + 1 := hT.2.1
  have V0 := C.1.1
  have V := C.1.1
  have ht9 := V.t9
  refine q_aload_n dX9_minutesInZone_0 rfl ?_
  refine q_iload_n dX9_minutesInZone_1 rfl ?_
  refine q_vT (kc := 1) (ks := 6) (g_X9_existingSession (h := h) K V (x := x)) wX9_existingSession kX9_168 iX9_existingSession eX9_existingSession rfl rfl (by decide) (K.le (by decide)) (by decide) rfl rfl (Nat.le_of_ble_eq_true rfl) dX9_minutesInZone_2 rfl rfl rfl (fun c1 => by exact Or.inl ⟨c1, rfl, q_rd.rf C⟩) (fun c2 => ?_)
  have n2 := c2
  have hat := V.at_ c2
  have hc40 := V.c40
  refine q_astore_n (L' := [_, _, _, _]) dX9_minutesInZone_5 rfl (by decide) rfl ?_
  refine q_iload_n dX9_minutesInZone_6 rfl ?_
  refine q_sT (kc := 0) (ks := 0) (g_X9_requireZone (h := h) K (z := z)) wX9_requireZone kX9_146 sX9_requireZone (by decide) rfl rfl (Nat.le_of_ble_eq_true rfl) dX9_minutesInZone_7 rfl rfl rfl (fun c3 => by exact Or.inr (Or.inl ⟨n2, c3, rfl, q_rd.rf C⟩)) (fun c4 => ?_)
  have n7 := c4
  obtain ⟨j, hj1, hj2, rfl⟩ := q_rng n7 (by omega) (by omega)
  refine q_aload_n dX9_minutesInZone_10 rfl ?_
  refine fRX9_59 (o := some 1059) dX9_minutesInZone_11 rfl (by decide) (K.le (by decide)) (K.lk rfl) ?_
  refine q_rfS ?_
  refine q_sD (kc := 0) (ks := 0) (g_clear59 (h := h) K) wX9_clear kX9_212 sX9_clear (by decide) rfl rfl (Nat.le_of_ble_eq_true rfl) dX9_minutesInZone_14 rfl rfl ?_
  have hg59 : ∀ k, k < 6 → q_cpy (fun _ => nI 0) (h.I 1059) 6 k = nI 0 := fun k hk => q_cpy_lt _ _ hk
  generalize q_cpy (fun _ => nI 0) (h.I 1059) 6 = g59 at hg59 ⊢
  refine q_aload_n dX9_minutesInZone_17 rfl ?_
  refine fRX9_12 (o := some 2) dX9_minutesInZone_18 rfl (by decide) (K.le (by decide)) (K.lk rfl) ?_
  refine q_rfS ?_
  refine q_aload_n dX9_minutesInZone_21 rfl ?_
  refine q_aload_n dX9_minutesInZone_22 rfl ?_
  refine fRX9_59 (o := some 1059) dX9_minutesInZone_23 rfl (by decide) (K.le (by decide)) (K.lk rfl) ?_
  refine q_rfS ?_
  refine q_vD (kc := 0) (ks := 0) (g_X5_addZoneMinutes (h := (h.rowI 1059 g59)) K (V.row (a := 1059) (by decide)) (V.s40 (i := (W.at_ x)) (by omega))) wX5_addZoneMinutes kX9_215 iX5_addZoneMinutes eX5_addZoneMinutes rfl rfl (by decide) (K.le (by decide)) (by decide) rfl rfl (Nat.le_of_ble_eq_true rfl) dX9_minutesInZone_26 rfl rfl ?_
  rw [q_rr, q_rI]
  refine q_aload_n dX9_minutesInZone_29 rfl ?_
  refine fRX9_59 (o := some 1059) dX9_minutesInZone_30 rfl (by decide) (K.le (by decide)) (K.lk rfl) ?_
  refine q_rfS ?_
  refine q_iload_n dX9_minutesInZone_33 rfl ?_
  refine q_ialdN (len := 6) rfl dX9_minutesInZone_34 (by decide) (K.le (by decide)) rfl (by omega) (by decide) ?_
  refine q_tv (show _ = ((q_az g59 (W.z (W.σ (W.at_ x))) (W.mn (W.σ (W.at_ x))) (W.pn (W.σ (W.at_ x)))) (j)) from (congrFun (q_rI _ _ _) _)) ?_
  refine q_iret dX9_minutesInZone_35 rfl (Or.inl rfl) ?_
  exact Or.inr (Or.inr ⟨n2, n7, _, rfl, by rw [nI_clamp (by omega), q_az_in hg59 _ (fun p => W.z_lt _ p) _ _ _ (by omega)], (q_rd.rf C).row (by omega) (by omega)⟩)
theorem g_X9_loadOn {Φ : q_Fx} {h : q_Hp} (K : q_Lk Φ h.R h.n) {W : q_W} {O : q_O} (C : q_clX h W O) {d : Int32} : q_Ct Φ false yX9_loadOn cX9_loadOn mX9_loadOn [.ref 1, .int d] h (q_u1 h W O (¬ (nI 0 ≤ d ∧ d ≤ nI W.t)) "java/lang/IllegalArgumentException" (fun v h' => v = some (.int (W.D d.toNatClampNeg)) ∧ q_rd h h' W O)) := by
  refine q_enter K.st rfl rfl (by decide) rfl (Nat.le_of_ble_eq_true rfl) (L := [_, _]) rfl ?_
  have C0 := C
  obtain ⟨k, hT⟩ := C.2
  have hk2 : k ≤ W.t + 1 := hT.2.1
  have V0 := C.1.1
  have V := C.1.1
  have ht9 := V.t9
  refine q_aload_n dX9_loadOn_0 rfl ?_
  refine q_iload_n dX9_loadOn_1 rfl ?_
  refine q_vT (kc := 0) (ks := 0) (g_X9_requireDayUpToToday (h := h) K V (d := d)) wX9_requireDayUpToToday kX9_83 iX9_requireDayUpToToday eX9_requireDayUpToToday rfl rfl (by decide) (K.le (by decide)) (by decide) rfl rfl (Nat.le_of_ble_eq_true rfl) dX9_loadOn_2 rfl rfl rfl (fun c1 => by exact Or.inl ⟨c1, rfl, q_rd.rf C⟩) (fun c2 => ?_)
  have n2 := c2
  obtain ⟨j, hj1, hj2, rfl⟩ := q_rng n2 (by omega) (by omega)
  refine q_aload_n dX9_loadOn_5 rfl ?_
  refine fRX9_12 (o := some 2) dX9_loadOn_6 rfl (by decide) (K.le (by decide)) (K.lk rfl) ?_
  refine q_rfS ?_
  refine q_aload_n dX9_loadOn_9 rfl ?_
  refine fRX9_52 (o := some 1057) dX9_loadOn_10 rfl (by decide) (K.le (by decide)) (K.lk rfl) ?_
  refine q_rfS ?_
  refine q_vD (kc := 0) (ks := 0) (g_X5_fillDayLoads (h := h) K V) wX5_fillDayLoads kX9_223 iX5_fillDayLoads eX5_fillDayLoads rfl rfl (by decide) (K.le (by decide)) (by decide) rfl rfl (Nat.le_of_ble_eq_true rfl) dX9_loadOn_13 rfl rfl ?_
  have hg57 : ∀ k, k < 200 → W.dl (h.I 1057) W.c k = W.D k := fun k hk => W.dl_in _ _ _ k hk
  generalize W.dl (h.I 1057) W.c = g57 at hg57 ⊢
  refine q_aload_n dX9_loadOn_16 rfl ?_
  refine fRX9_52 (o := some 1057) dX9_loadOn_17 rfl (by decide) (K.le (by decide)) (K.lk rfl) ?_
  refine q_rfS ?_
  refine q_iload_n dX9_loadOn_20 rfl ?_
  refine q_ialdN (len := 200) rfl dX9_loadOn_21 (by decide) (K.le (by decide)) rfl (by omega) (by decide) ?_
  refine q_tv (show _ = (W.D (j)) from ((congrFun (q_rI _ _ _) _).trans (hg57 _ (by omega)))) ?_
  refine q_iret dX9_loadOn_22 rfl (Or.inl rfl) ?_
  exact Or.inr ⟨n2, _, rfl, by rw [nI_clamp (by omega)], (q_rd.rf C).row (by omega) (by omega)⟩
theorem g_X9_lineAt {Φ : q_Fx} {h : q_Hp} (K : q_Lk Φ h.R h.n) {W : q_W} {O : q_O} (C : q_clX h W O) {p : Int32} (hlc : ∀ j, j < O.ll → narrow .char (.int (O.ln j)) = .int (O.ln j)) : q_Ct Φ false yX9_lineAt cX9_lineAt mX9_lineAt [.ref 1, .int p] h (q_u1 h W O (p < 0 ∨ nI O.ll ≤ p) "java/lang/IndexOutOfBoundsException" (fun v h' => v = some (.int (O.ln p.toNatClampNeg)) ∧ q_rd h h' W O)) := by
  refine q_enter K.st rfl rfl (by decide) rfl (Nat.le_of_ble_eq_true rfl) (L := [_, _]) rfl ?_
  have C0 := C
  obtain ⟨k, hT⟩ := C.2
  have hk2 : k ≤ W.t + 1 := hT.2.1
  have V0 := C.1.1
  have V := C.1.1
  have ht9 := V.t9
  have hc := C.1.2.2.2.2.2.2.1
  refine q_iload_n dX9_lineAt_0 rfl ?_
  refine q_if_lt (tgt := 12) dX9_lineAt_1 rfl (fun c1 => ?_) (fun c2 => ?_)
  · refine q_throwW (text := "there is no such character") tw_200_204 (by decide) rfl ?_ dX9_lineAt_12 dX9_lineAt_15 dX9_lineAt_16 dX9_lineAt_19 dX9_lineAt_22 (by decide) (by decide) (by decide) (by decide)
    exact Or.inl ⟨by first | exact Or.inl (by assumption) | exact Or.inr (Int32.not_lt.mp (by assumption)), rfl, q_rd.rf C⟩
  · refine q_iload_n dX9_lineAt_4 rfl ?_
    refine q_aload_n dX9_lineAt_5 rfl ?_
    refine fIX9_34 dX9_lineAt_6 rfl (by decide) (K.le (by decide)) ?_
    refine q_tv (show _ = (nI (O.ll)) from C.1.2.2.2.2.2.1) ?_
    refine q_icmp_lt (tgt := 23) dX9_lineAt_9 rfl (fun c3 => ?_) (fun c4 => ?_)
    · have np : ¬ (p < 0 ∨ nI O.ll ≤ p) := q_no2 (by assumption) (Int32.not_le.mpr (by assumption))
      obtain ⟨j, hj1, rfl⟩ := vp_in_of (x := p) (n := O.ll) (fun c => np (c.elim Or.inl fun c => Or.inr (by first | exact q_clampI c (fun e => np (Or.inl e)) | omega))) (by omega)
      refine q_aload_n dX9_lineAt_23 rfl ?_
      refine fRX9_30 (o := some 1052) dX9_lineAt_24 rfl (by decide) (K.le (by decide)) (K.lk rfl) ?_
      refine q_rfS ?_
      refine q_iload_n dX9_lineAt_27 rfl ?_
      refine q_caldN (len := 13) rfl dX9_lineAt_28 (by decide) (K.le (by decide)) rfl (by omega) (by decide) ?_
      refine q_tv (show _ = (O.ln (j)) from (congrFun C.1.2.2.2.2.2.2.2 _)) ?_
      refine q_zret (ty := .char) dX9_lineAt_29 rfl (hlc j hj1) (Or.inl rfl) ?_
      exact Or.inr ⟨np, _, rfl, by rw [nI_clamp (by omega)], q_rd.rf C⟩
    · refine q_throwW (text := "there is no such character") tw_200_204 (by decide) rfl ?_ dX9_lineAt_12 dX9_lineAt_15 dX9_lineAt_16 dX9_lineAt_19 dX9_lineAt_22 (by decide) (by decide) (by decide) (by decide)
      exact Or.inl ⟨by first | exact Or.inl (by assumption) | exact Or.inr (Int32.not_lt.mp (by assumption)), rfl, q_rd.rf C⟩
theorem g_X9_targetAt {Φ : q_Fx} {h : q_Hp} (K : q_Lk Φ h.R h.n) {W : q_W} {O : q_O} (C : q_clX h W O) {p : Int32} : q_Ct Φ false yX9_targetAt cX9_targetAt mX9_targetAt [.ref 1, .int p] h (q_u1 h W O (p < 0 ∨ nI W.pc ≤ p) "java/lang/IndexOutOfBoundsException" (fun v h' => v = some (.int (W.tg p.toNatClampNeg)) ∧ q_rd h h' W O)) := by
  refine q_enter K.st rfl rfl (by decide) rfl (Nat.le_of_ble_eq_true rfl) (L := [_, _]) rfl ?_
  have C0 := C
  obtain ⟨k, hT⟩ := C.2
  have hk2 : k ≤ W.t + 1 := hT.2.1
  have V0 := C.1.1
  have V := C.1.1
  have ht9 := V.t9
  have hc := V.pc28
  refine q_iload_n dX9_targetAt_0 rfl ?_
  refine q_if_lt (tgt := 18) dX9_targetAt_1 rfl (fun c1 => ?_) (fun c2 => ?_)
  · refine q_throwW (text := "there is no such entry") tw_200_204 (by decide) rfl ?_ dX9_targetAt_18 dX9_targetAt_21 dX9_targetAt_22 dX9_targetAt_25 dX9_targetAt_28 (by decide) (by decide) (by decide) (by decide)
    exact Or.inl ⟨by first | exact Or.inl (by assumption) | exact Or.inr (Int32.not_lt.mp (by assumption)), rfl, q_rd.rf C⟩
  · refine q_iload_n dX9_targetAt_4 rfl ?_
    refine q_aload_n dX9_targetAt_5 rfl ?_
    refine fRX9_12 (o := some 2) dX9_targetAt_6 rfl (by decide) (K.le (by decide)) (K.lk rfl) ?_
    refine q_rfS ?_
    refine fRX9_281 (o := some 131) dX9_targetAt_9 rfl (by decide) (K.le (by decide)) (K.lk rfl) ?_
    refine q_rfS ?_
    refine fIX9_285 dX9_targetAt_12 rfl (by decide) (K.le (by decide)) ?_
    refine q_tv (show _ = (nI (W.pc)) from V.pc) ?_
    refine q_icmp_lt (tgt := 29) dX9_targetAt_15 rfl (fun c3 => ?_) (fun c4 => ?_)
    · have np : ¬ (p < 0 ∨ nI W.pc ≤ p) := q_no2 (by assumption) (Int32.not_le.mpr (by assumption))
      obtain ⟨j, hj1, rfl⟩ := vp_in_of (x := p) (n := W.pc) (fun c => np (c.elim Or.inl fun c => Or.inr (by first | exact q_clampI c (fun e => np (Or.inl e)) | omega))) (by omega)
      refine q_aload_n dX9_targetAt_29 rfl ?_
      refine fRX9_12 (o := some 2) dX9_targetAt_30 rfl (by decide) (K.le (by decide)) (K.lk rfl) ?_
      refine q_rfS ?_
      refine fRX9_281 (o := some 131) dX9_targetAt_33 rfl (by decide) (K.le (by decide)) (K.lk rfl) ?_
      refine q_rfS ?_
      refine fRX9_305 (o := some 132) dX9_targetAt_36 rfl (by decide) (K.le (by decide)) (K.lk rfl) ?_
      refine q_rfS ?_
      refine q_iload_n dX9_targetAt_39 rfl ?_
      refine q_ialdN (len := 28) rfl dX9_targetAt_40 (by decide) (K.le (by decide)) rfl (by omega) (by decide) ?_
      refine q_tv (show _ = (W.tg (j)) from (congrFun V.tg _)) ?_
      refine q_iret dX9_targetAt_41 rfl (Or.inl rfl) ?_
      exact Or.inr ⟨np, _, rfl, by rw [nI_clamp (by omega)], q_rd.rf C⟩
    · refine q_throwW (text := "there is no such entry") tw_200_204 (by decide) rfl ?_ dX9_targetAt_18 dX9_targetAt_21 dX9_targetAt_22 dX9_targetAt_25 dX9_targetAt_28 (by decide) (by decide) (by decide) (by decide)
      exact Or.inl ⟨by first | exact Or.inl (by assumption) | exact Or.inr (Int32.not_lt.mp (by assumption)), rfl, q_rd.rf C⟩
theorem g_X9_pass {Φ : q_Fx} {h : q_Hp} (K : q_Lk Φ h.R h.n) {W : q_W} {O : q_O} (C : q_clX h W O) {x : Int32} : q_Ct Φ false yX9_pass cX9_pass mX9_pass [.ref 1, .int x] h (q_u2 h W O (¬ (nI 1 ≤ x ∧ x ≤ nI 30)) "java/lang/IllegalArgumentException" (nI 200 ≤ nI W.t + x) "java/lang/IllegalStateException" (fun v h' => v = some (.int (nI (W.t + x.toNatClampNeg))) ∧ ∃ Y, q_eqv W Y ∧ q_ok0 Y ∧ q_mu h h' (W.sA (W.t + x.toNatClampNeg)) (O.kept Y) 200)) := by
  refine q_enter K.st rfl rfl (by decide) rfl (Nat.le_of_ble_eq_true rfl) (L := [_, _]) rfl ?_
  have C0 := C
  obtain ⟨k, hT⟩ := C.2
  have hk2 : k ≤ W.t + 1 := hT.2.1
  have V0 := C.1.1
  have V := C.1.1
  have ht9 := V.t9
  refine q_iload_n dX9_pass_0 rfl ?_
  refine q_iconst (v := nI 1) dX9_pass_1 (by decide) ?_
  refine q_bipush (v := nI 30) dX9_pass_2 (by decide) ?_
  refine q_sT (kc := 1) (ks := 6) (g_X9_requireRange (h := h) K (v := x) (lo := (nI (1))) (hi := (nI (30)))) wX9_requireRange kX9_65 sX9_requireRange (by decide) rfl rfl (Nat.le_of_ble_eq_true rfl) dX9_pass_4 rfl rfl rfl (fun c1 => by exact Or.inl ⟨c1, rfl, q_rd.rf C⟩) (fun c2 => ?_)
  have n4 := c2
  obtain ⟨j, hj1, hj2, rfl⟩ := q_rng n4 (by omega) (by omega)
  refine q_aload_n dX9_pass_7 rfl ?_
  refine fRX9_12 (o := some 2) dX9_pass_8 rfl (by decide) (K.le (by decide)) (K.lk rfl) ?_
  refine q_rfS ?_
  refine fIX9_69 dX9_pass_11 rfl (by decide) (K.le (by decide)) ?_
  refine q_tv (show _ = (nI (W.t)) from V.t) ?_
  refine q_iload_n dX9_pass_14 rfl ?_
  refine q_iaddN dX9_pass_15 ?_
  refine q_sipush (v := nI 200) dX9_pass_16 (by decide) ?_
  refine q_icmp_ltN (by omega) (by omega) (tgt := 32) dX9_pass_19 rfl (fun c3 => ?_) (fun c4 => ?_)
  · refine q_aload_n dX9_pass_32 rfl ?_
    refine fRX9_19 (o := some 133) dX9_pass_33 rfl (by decide) (K.le (by decide)) (K.lk rfl) ?_
    refine q_rfS ?_
    refine q_aload_n dX9_pass_36 rfl ?_
    refine fRX9_12 (o := some 2) dX9_pass_37 rfl (by decide) (K.le (by decide)) (K.lk rfl) ?_
    refine q_rfS ?_
    refine q_vR (kc := 1) (ks := 6) (g_X1_keep (h := h) K C.1) wX1_keep kX9_79 iX1_keep eX1_keep rfl rfl (by decide) (K.le (by decide)) (by decide) rfl rfl (Nat.le_of_ble_eq_true rfl) dX9_pass_40 rfl rfl ?_
    rintro v h1 ⟨rfl, Y, y1, y2, C1, F1⟩
    have K := K.fr F1.fr
    have V := C1.1
    have hk1 : h1.I 1053 2 = nI k := (congrFun (F1.2.2.2.2 _ (by omega)) _).trans hT.1
    refine q_aload_n dX9_pass_43 rfl ?_
    refine fRX9_12 (o := some 2) dX9_pass_44 rfl (by decide) (K.le (by decide)) (K.lk rfl) ?_
    refine q_rfS ?_
    refine q_dup dX9_pass_47 rfl ?_
    refine fIX9_69 dX9_pass_48 rfl (by decide) (K.le (by decide)) ?_
    refine q_tv (show _ = (nI (W.t)) from V.t) ?_
    refine q_iload_n dX9_pass_51 rfl ?_
    refine q_iaddN dX9_pass_52 ?_
    refine pIX9_69 dX9_pass_53 rfl (by decide) (K.le (by decide)) ?_
    refine q_aload_n dX9_pass_56 rfl ?_
    refine fRX9_12 (o := some 2) dX9_pass_57 rfl (by decide) (K.le (by decide)) (K.lk rfl) ?_
    refine q_rfS ?_
    refine fIX9_69 dX9_pass_60 rfl (by decide) (K.le (by decide)) ?_
    refine q_tv (show _ = (nI ((W.t) + (j))) from ((congrFun (q_sI _ _ _ _) _).trans (va_us _ _ _))) ?_
    refine q_iret dX9_pass_63 rfl (Or.inl rfl) ?_
    exact Or.inr (Or.inr ⟨n4, (by rw [nI_add, nI_leI (by omega) (by omega)]; omega), _, rfl, by rw [nI_clamp (by omega)], Y, y1, y2, by rw [nI_clamp (by omega)]; exact q_mu.mk C1 F1 (q_st.rf.set (by omega) (by omega)) (V.pass (by omega)) (q_ok0_pn rfl rfl rfl C1.2.1)⟩)
  · refine q_throw (text := "the diary ends before that day") tw_72_76 (by decide) rfl ?_ dX9_pass_22 dX9_pass_25 dX9_pass_26 dX9_pass_28 dX9_pass_31 (by decide) (by decide) (by decide) (by decide)
    exact Or.inr (Or.inl ⟨n4, by rw [nI_add, nI_leI (by omega) (by omega)]; omega, rfl, q_rd.rf C⟩)
theorem g_X9_addTest {Φ : q_Fx} {h : q_Hp} (K : q_Lk Φ h.R h.n) {W : q_W} {O : q_O} (C : q_clX h W O) {d x : Int32} : q_Ct Φ false yX9_addTest cX9_addTest mX9_addTest [.ref 1, .int d, .int x] h (q_u2 h W O (¬ (nI 0 ≤ d ∧ d ≤ nI W.t) ∨ ¬ (nI 50 ≤ x ∧ x ≤ nI 400)) "java/lang/IllegalArgumentException" (W.n = 10 ∨ 0 ≤ q_ps (fun i => decide (W.d i = d)) W.n) "java/lang/IllegalStateException" (fun v h' => v = some (.int (nI (q_cn (fun i => decide ((W.sT (W.n + 1) (va_up W.d W.n d) (va_up W.v W.n x)).ld (W.σ i) ≠ W.ld (W.σ i))) W.c))) ∧ ∃ Y, q_eqv W Y ∧ q_ok0 Y ∧ q_mu h h' (W.sT (W.n + 1) (va_up W.d W.n d) (va_up W.v W.n x)) (O.kept Y) d.toNatClampNeg)) := by
  refine q_enter K.st rfl rfl (by decide) rfl (Nat.le_of_ble_eq_true rfl) (L := [_, _, _, none]) rfl ?_
  have C0 := C
  obtain ⟨k, hT⟩ := C.2
  have hk2 : k ≤ W.t + 1 := hT.2.1
  have V0 := C.1.1
  have V := C.1.1
  have ht9 := V.t9
  have hn := V.n10
  have hc40 := V.c40
  refine q_aload_n dX9_addTest_0 rfl ?_
  refine q_iload_n dX9_addTest_1 rfl ?_
  refine q_vT (kc := 2) (ks := 12) (g_X9_requireDayUpToToday (h := h) K V (d := d)) wX9_requireDayUpToToday kX9_83 iX9_requireDayUpToToday eX9_requireDayUpToToday rfl rfl (by decide) (K.le (by decide)) (by decide) rfl rfl (Nat.le_of_ble_eq_true rfl) dX9_addTest_2 rfl rfl rfl (fun c1 => by exact Or.inl ⟨Or.inl c1, rfl, q_rd.rf C⟩) (fun c2 => ?_)
  have n2 := c2
  obtain ⟨j, hj1, hj2, rfl⟩ := q_rng n2 (by omega) (by omega)
  refine q_iload_n dX9_addTest_5 rfl ?_
  refine q_bipush (v := nI 50) dX9_addTest_6 (by decide) ?_
  refine q_sipush (v := nI 400) dX9_addTest_8 (by decide) ?_
  refine q_sT (kc := 1) (ks := 6) (g_X9_requireRange (h := h) K (v := x) (lo := (nI (50))) (hi := (nI (400)))) wX9_requireRange kX9_65 sX9_requireRange (by decide) rfl rfl (Nat.le_of_ble_eq_true rfl) dX9_addTest_11 rfl rfl rfl (fun c3 => by exact Or.inl ⟨Or.inr c3, rfl, q_rd.rf C⟩) (fun c4 => ?_)
  have n11 := c4
  refine q_aload_n dX9_addTest_14 rfl ?_
  refine fRX9_12 (o := some 2) dX9_addTest_15 rfl (by decide) (K.le (by decide)) (K.lk rfl) ?_
  refine q_rfS ?_
  refine fRX9_87 (o := some 3) dX9_addTest_18 rfl (by decide) (K.le (by decide)) (K.lk rfl) ?_
  refine q_rfS ?_
  refine q_astore_n (L' := [_, _, _, _]) dX9_addTest_21 rfl (by decide) rfl ?_
  refine q_aload_n dX9_addTest_22 rfl ?_
  refine fIX9_91 dX9_addTest_23 rfl (by decide) (K.le (by decide)) ?_
  refine q_tv (show _ = (nI (W.n)) from V.n) ?_
  refine q_bipush (v := nI 10) dX9_addTest_26 (by decide) ?_
  refine q_icmp_geN (by omega) (by omega) (tgt := 39) dX9_addTest_28 rfl (fun c5 => ?_) (fun c6 => ?_)
  · refine q_throw (text := "no further test is possible on this day") tw_72_76 (by decide) rfl ?_ dX9_addTest_39 dX9_addTest_42 dX9_addTest_43 dX9_addTest_45 dX9_addTest_48 (by decide) (by decide) (by decide) (by decide)
    exact Or.inr (Or.inl ⟨q_no2 n2 n11, by first | exact Or.inl (by omega) | exact Or.inr (Int32.not_lt.mp (by assumption)), rfl, q_rd.rf C⟩)
  · refine q_aload_n dX9_addTest_31 rfl ?_
    refine q_iload_n dX9_addTest_32 rfl ?_
    refine q_vD (kc := 1) (ks := 6) (g_X6_positionOn (h := h) K V (day := (nI (j)))) wX6_positionOn kX9_96 iX6_positionOn eX6_positionOn rfl rfl (by decide) (K.le (by decide)) (by decide) rfl rfl (Nat.le_of_ble_eq_true rfl) dX9_addTest_33 rfl rfl ?_
    refine q_if_lt (tgt := 49) dX9_addTest_36 rfl (fun c7 => ?_) (fun c8 => ?_)
    · refine q_aload_n dX9_addTest_49 rfl ?_
      refine fRX9_19 (o := some 133) dX9_addTest_50 rfl (by decide) (K.le (by decide)) (K.lk rfl) ?_
      refine q_rfS ?_
      refine q_aload_n dX9_addTest_53 rfl ?_
      refine fRX9_12 (o := some 2) dX9_addTest_54 rfl (by decide) (K.le (by decide)) (K.lk rfl) ?_
      refine q_rfS ?_
      refine q_vR (kc := 1) (ks := 6) (g_X1_keep (h := h) K C.1) wX1_keep kX9_79 iX1_keep eX1_keep rfl rfl (by decide) (K.le (by decide)) (by decide) rfl rfl (Nat.le_of_ble_eq_true rfl) dX9_addTest_57 rfl rfl ?_
      rintro v h1 ⟨rfl, Y, y1, y2, C1, F1⟩
      have K := K.fr F1.fr
      have V := C1.1
      have hk1 : h1.I 1053 2 = nI k := (congrFun (F1.2.2.2.2 _ (by omega)) _).trans hT.1
      refine q_aload_n dX9_addTest_60 rfl ?_
      refine fRX9_12 (o := some 2) dX9_addTest_61 rfl (by decide) (K.le (by decide)) (K.lk rfl) ?_
      refine q_rfS ?_
      refine q_aload_n dX9_addTest_64 rfl ?_
      refine fRX9_56 (o := some 1058) dX9_addTest_65 rfl (by decide) (K.le (by decide)) (K.lk rfl) ?_
      refine q_rfS ?_
      refine q_vD (kc := 1) (ks := 6) (g_X5_fillSessionLoads (h := h1) K V) wX5_fillSessionLoads kX9_102 iX5_fillSessionLoads eX5_fillSessionLoads rfl rfl (by decide) (K.le (by decide)) (by decide) rfl rfl (Nat.le_of_ble_eq_true rfl) dX9_addTest_68 rfl rfl ?_
      refine q_aload_n dX9_addTest_71 rfl ?_
      refine q_iload_n dX9_addTest_72 rfl ?_
      refine q_iload_n dX9_addTest_73 rfl ?_
      refine q_vD (kc := 1) (ks := 6) (g_X6_append (h := (h1.rowI 1058 (q_cpy (fun i => W.ld (W.σ i)) (h1.I 1058) W.c))) K (V.row (a := 1058) (by decide)) (by omega) (x := (nI (j))) (y := x)) wX6_append kX9_106 iX6_append eX6_append rfl rfl (by decide) (K.le (by decide)) (by decide) rfl rfl (Nat.le_of_ble_eq_true rfl) dX9_addTest_74 rfl rfl ?_
      have V := q_vw.addT (h := (h1.rowI 1058 (q_cpy (fun i => W.ld (W.σ i)) (h1.I 1058) W.c))) (V.row (a := 1058) (by decide)) (x := (nI (j))) (y := x) (by omega)
      have F2 : q_st ((h1.rowI 1058 (q_cpy (fun i => W.ld (W.σ i)) (h1.I 1058) W.c))) ((((h1.rowI 1058 (q_cpy (fun i => W.ld (W.σ i)) (h1.I 1058) W.c)).setI 4 W.n (nI (j))).setI 5 W.n x).setI 3 2 (nI (W.n + 1))) := ((q_st.rf.set (by omega) (by omega)).set (by omega) (by omega)).set (by omega) (by omega)
      have K := q_Lk.fr (h := (h1.rowI 1058 (q_cpy (fun i => W.ld (W.σ i)) (h1.I 1058) W.c))) K F2.fr
      obtain ⟨h2, e2⟩ : ∃ z, z = ((((h1.rowI 1058 (q_cpy (fun i => W.ld (W.σ i)) (h1.I 1058) W.c)).setI 4 W.n (nI (j))).setI 5 W.n x).setI 3 2 (nI (W.n + 1))) := ⟨_, rfl⟩
      rw [← e2] at V F2 K ⊢
      have hk2t : h2.I 1053 2 = nI k := (congrFun (F2.1 _ (by omega)) _).trans ((congrFun (q_rIn _ _ (by omega)) _).trans hk1)
      refine q_aload_n dX9_addTest_77 rfl ?_
      refine fRX9_41 (o := some 1053) dX9_addTest_78 rfl (by decide) (K.le (by decide)) (K.lk rfl) ?_
      refine q_rfS ?_
      refine q_iload_n dX9_addTest_81 rfl ?_
      refine q_vD (kc := 1) (ks := 6) (g_X7_forgetFrom (h := h2) K (k := k) (d := j) hk2t (by omega) (by omega)) wX7_forgetFrom kX9_110 iX7_forgetFrom eX7_forgetFrom rfl rfl (by decide) (K.le (by decide)) (by decide) rfl rfl (Nat.le_of_ble_eq_true rfl) dX9_addTest_82 rfl rfl ?_
      refine q_aload_n dX9_addTest_85 rfl ?_
      refine fRX9_12 (o := some 2) dX9_addTest_86 rfl (by decide) (K.le (by decide)) (K.lk rfl) ?_
      refine q_rfS ?_
      refine q_aload_n dX9_addTest_89 rfl ?_
      refine fRX9_56 (o := some 1058) dX9_addTest_90 rfl (by decide) (K.le (by decide)) (K.lk rfl) ?_
      refine q_rfS ?_
      refine q_vD (kc := 1) (ks := 6) (g_X5_countChangedLoads (h := (h2.setI 1053 2 (nI (min k (j))))) K (V.set (a := 1053) (by decide))) wX5_countChangedLoads kX9_113 iX5_countChangedLoads eX5_countChangedLoads rfl rfl (by decide) (K.le (by decide)) (by decide) rfl rfl (Nat.le_of_ble_eq_true rfl) dX9_addTest_93 rfl rfl ?_
      refine q_iret dX9_addTest_96 rfl (Or.inl rfl) ?_
      have e58 : ∀ i, i < W.c → ((h2.setI 1053 2 (nI (min k j)))).I 1058 i = W.ld (W.σ i) := fun i hi => by rw [q_sIn _ _ _ (by omega), F2.1 _ (by omega), q_rI, q_cpy_lt _ _ hi]
      exact Or.inr (Or.inr ⟨q_no2 n2 n11, q_no2 (by omega) (Int32.not_le.mpr (by assumption)), _, rfl, congrArg (fun n => some (Value.int (nI n))) (q_cn_cong fun i hi => by rw [e58 i hi]; rfl), Y, y1, y2, by rw [nI_clamp (by omega)]; exact q_mu.fg (q_mu.st (q_mu.row (q_mu.mk C1 F1 q_st.rf C1.1 C1.2.1) (by omega) (by omega)) F2 V (q_ok0_pn rfl rfl rfl C1.2.1)) hT (by omega)⟩)
    · refine q_throw (text := "no further test is possible on this day") tw_72_76 (by decide) rfl ?_ dX9_addTest_39 dX9_addTest_42 dX9_addTest_43 dX9_addTest_45 dX9_addTest_48 (by decide) (by decide) (by decide) (by decide)
      exact Or.inr (Or.inl ⟨q_no2 n2 n11, by first | exact Or.inl (by omega) | exact Or.inr (Int32.not_lt.mp (by assumption)), rfl, q_rd.rf C⟩)
