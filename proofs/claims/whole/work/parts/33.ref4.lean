/-! THE REFERENCE: WHAT IT KEEPS -/
/-- undoable, top, written, saved; old states; snapshot; line -/
def q_P : Type := (Nat × Nat × Nat × Nat) × (Nat → q_W) × q_W × (Nat → Int32)
def q_P.un (P : q_P) : Nat := P.1.1
def q_P.tp (P : q_P) : Nat := P.1.2.1
def q_P.wr (P : q_P) : Nat := P.1.2.2.1
def q_P.sv (P : q_P) : Nat := P.1.2.2.2
def q_P.ob (P : q_P) : Nat → q_W := P.2.1
def q_P.sn (P : q_P) : q_W := P.2.2.1
def q_P.ln (P : q_P) : Nat → Int32 := P.2.2.2
def q_rI' (r : Nat → Int32) (m : q_W) : Prop := q_rw r m ∧ ∀ i, m.σ i = i
def q_mr (h : q_Hp) (m : q_W) (P : q_P) : Prop :=
  h.R 1061 0 = some 1062 ∧ q_rI' (h.I 1062) m ∧ (h.I 1061 6 = nI P.un ∧ P.un ≤ 6 ∧ h.I 1061 7 = nI P.tp ∧ P.tp < 6 ∧ h.I 1061 8 = nI P.wr ∧ P.wr ≤ 13 ∧ h.I 1061 13 = nI P.sv ∧ P.sv ≤ 1) ∧
  (∀ j, j < 6 → q_rI' (h.I (1064 + j)) (P.ob j)) ∧ q_rI' (h.I 1070) P.sn ∧ h.I 1073 = P.ln
/-- what a call on the reference leaves as it was -/
def q_gm (h h' : q_Hp) : Prop := (∀ p, p < 1061 ∨ 1074 ≤ p → h'.I p = h.I p) ∧ h'.R = h.R ∧ h'.J = h.J ∧ h'.E = h.E ∧ h'.n = h.n
theorem q_gm.rf {h : q_Hp} : q_gm h h := ⟨fun _ _ => rfl, rfl, rfl, rfl, rfl⟩
theorem q_gm.tr {h h1 h2 : q_Hp} (a : q_gm h h1) (b : q_gm h1 h2) : q_gm h h2 := ⟨fun p hp => (b.1 p hp).trans (a.1 p hp), b.2.1.trans a.2.1, b.2.2.1.trans a.2.2.1, b.2.2.2.1.trans a.2.2.2.1, b.2.2.2.2.trans a.2.2.2.2⟩
theorem q_gm.set {h h1 : q_Hp} (a : q_gm h h1) {p f : Nat} {v : Int32} (hp : 1061 ≤ p) (hp2 : p < 1074) : q_gm h (h1.setI p f v) := ⟨fun q hq => (q_sIn _ _ _ (by omega)).trans (a.1 q hq), a.2⟩
theorem q_gm.row {h h1 : q_Hp} (a : q_gm h h1) {p : Nat} {g : Nat → Int32} (hp : 1061 ≤ p) (hp2 : p < 1074) : q_gm h (h1.rowI p g) := ⟨fun q hq => (q_rIn _ _ (by omega)).trans (a.1 q hq), a.2⟩
theorem q_Lk.gm {Φ : q_Fx} {h h' : q_Hp} (K : q_Lk Φ h.R h.n) (F : q_gm h h') : q_Lk Φ h'.R h'.n := by rw [F.2.1, F.2.2.2.2]; exact K
theorem q_lf.gm {h h' : q_Hp} (F : q_lf h h') : q_gm h h' := ⟨fun p hp => F.1 p (by omega) (by omega), F.2⟩
theorem q_rw.cong {r r' : Nat → Int32} {m : q_W} (M : q_rw r m) (e : ∀ k, k < 830 → r' k = r k) : q_rw r' m := by
  obtain ⟨h1, h2, h3, h4, h5, h6, h7, h8, h9, h10, h11, h12, h13, hz, hk, he, hs⟩ := M
  refine ⟨(e _ (by omega)).trans h1, h2, (e _ (by omega)).trans h3, (e _ (by omega)).trans h4, h5, (e _ (by omega)).trans h6, h7, (e _ (by omega)).trans h8, h9, (e _ (by omega)).trans h10, h11, (e _ (by omega)).trans h12, h13, fun z hz2 => ⟨(e _ (by omega)).trans (hz z hz2).1, (e _ (by omega)).trans (hz z hz2).2⟩, fun k hk2 => ⟨(e _ (by omega)).trans (hk k hk2).1, (e _ (by omega)).trans (hk k hk2).2⟩, fun x hx => (e _ (by omega)).trans (he x hx), fun k hk2 => ?_⟩
  obtain ⟨a1, a2, a3, a4, a5, a6⟩ := hs k hk2
  exact ⟨(e _ (by omega)).trans a1, (e _ (by omega)).trans a2, a3, (e _ (by omega)).trans a4, a5, fun p hp => ⟨(e _ (by omega)).trans (a6 p hp).1, (e _ (by omega)).trans (a6 p hp).2⟩⟩
/-- the rest stands where rows and slots stand -/
theorem q_mr.cong {h h' : q_Hp} {m : q_W} {P : q_P} (C : q_mr h m P) (hR : h'.R = h.R) (hI : ∀ p, 1062 ≤ p → p < 1074 → p ≠ 1071 → p ≠ 1072 → h'.I p = h.I p) (h6 : h'.I 1061 6 = h.I 1061 6) (h7 : h'.I 1061 7 = h.I 1061 7) (h8 : h'.I 1061 8 = h.I 1061 8) (h13 : h'.I 1061 13 = h.I 1061 13) : q_mr h' m P := by
  obtain ⟨c1, c2, c3, c4, c5, c6⟩ := C
  refine ⟨by rw [hR]; exact c1, by rw [hI _ (by omega) (by omega) (by omega) (by omega)]; exact c2, by rw [h6, h7, h8, h13]; exact c3, fun j hj => by rw [hI _ (by omega) (by omega) (by omega) (by omega)]; exact c4 j hj, by rw [hI _ (by omega) (by omega) (by omega) (by omega)]; exact c5, by rw [hI _ (by omega) (by omega) (by omega) (by omega)]; exact c6⟩
theorem q_mr.thr {h : q_Hp} {m : q_W} {P : q_P} (C : q_mr h m P) (f : Nat) (hf : 9 ≤ f ∧ f ≤ 12) (v : Int32) : q_mr (h.setI 1061 f v) m P :=
  C.cong rfl (fun p a b c d => q_sIn _ _ _ (by omega)) (by rw [q_sI, va_un _ _ (by omega)]) (by rw [q_sI, va_un _ _ (by omega)]) (by rw [q_sI, va_un _ _ (by omega)]) (by rw [q_sI, va_un _ _ (by omega)])
theorem q_mr.d3 {h : q_Hp} {m : q_W} {P : q_P} (C : q_mr h m P) (a b c : Int32) : q_mr (h.rowI 1061 (q_d3 (h.I 1061) a b c)) m P :=
  C.cong rfl (fun p a b c d => q_rIn _ _ (by omega)) (by rw [q_rI]; rfl) (by rw [q_rI]; rfl) (by rw [q_rI]; rfl) (by rw [q_rI]; rfl)
theorem q_mr.row {h : q_Hp} {m : q_W} {P : q_P} (C : q_mr h m P) {p : Nat} (g : Nat → Int32) (hp : p = 1071 ∨ p = 1072) : q_mr (h.rowI p g) m P :=
  C.cong rfl (fun q a b c d => q_rIn _ _ (by omega)) (congrFun (q_rIn _ _ (by omega)) _) (congrFun (q_rIn _ _ (by omega)) _) (congrFun (q_rIn _ _ (by omega)) _) (congrFun (q_rIn _ _ (by omega)) _)
theorem q_mr.lf {h h' : q_Hp} {m : q_W} {P : q_P} (C : q_mr h m P) (F : q_lf h h') : q_mr h' m P :=
  C.cong F.2.1 (fun q a b c d => F.1 q c d) (congrFun (F.1 _ (by omega) (by omega)) _) (congrFun (F.1 _ (by omega) (by omega)) _) (congrFun (F.1 _ (by omega) (by omega)) _) (congrFun (F.1 _ (by omega) (by omega)) _)
def q_P.kept (P : q_P) (m : q_W) : q_P := ((min 6 (P.un + 1), (P.tp + 1) % 6, P.wr, P.sv), (fun j => if j = (P.tp + 1) % 6 then m else P.ob j), P.sn, P.ln)
def q_kph (h : q_Hp) (P : q_P) : q_Hp := ((h.setI 1061 7 (nI ((P.tp + 1) % 6))).rowI (1064 + (P.tp + 1) % 6) (q_cpy (h.I 1062) (h.I (1064 + (P.tp + 1) % 6)) 830)).setI 1061 6 (nI (min 6 (P.un + 1)))
theorem q_kph_n (h : q_Hp) (P : q_P) {p : Nat} (h1 : p ≠ 1061) (h2 : p ≠ 1064 + (P.tp + 1) % 6) : (q_kph h P).I p = h.I p := by
  unfold q_kph; rw [q_sIn _ _ _ h1, q_rIn _ _ h2, q_sIn _ _ _ h1]
theorem q_kph_61 (h : q_Hp) (P : q_P) : (q_kph h P).I 1061 = va_up (va_up (h.I 1061) 7 (nI ((P.tp + 1) % 6))) 6 (nI (min 6 (P.un + 1))) := by
  unfold q_kph; rw [q_sI, q_rIn _ _ (by omega), q_sI]
theorem q_mr.kept {h : q_Hp} {m : q_W} {P : q_P} (C : q_mr h m P) : q_mr (q_kph h P) m (P.kept m) ∧ q_gm h (q_kph h P) ∧ (q_kph h P).I 1061 12 = h.I 1061 12 ∧ (q_kph h P).I 1062 = h.I 1062 := by
  obtain ⟨c1, c2, ⟨u1, u2, u3, u4, u5, u6, u7, u8⟩, c4, c5, c6⟩ := C
  have ht : (P.tp + 1) % 6 < 6 := Nat.mod_lt _ (by decide)
  refine ⟨⟨c1, ?_, ⟨?_, Nat.min_le_left _ _, ?_, ht, ?_, u6, ?_, u8⟩, fun j hj => ?_, ?_, ?_⟩, ⟨fun p hp => q_kph_n h P (by omega) (by omega), rfl, rfl, rfl, rfl⟩, ?_, q_kph_n h P (by omega) (by omega)⟩
  · rw [q_kph_n h P (by omega) (by omega)]; exact c2
  · rw [q_kph_61, va_us]; rfl
  · rw [q_kph_61, va_un _ _ (by decide), va_us]; rfl
  · rw [q_kph_61, va_un _ _ (by decide), va_un _ _ (by decide)]; exact u5
  · rw [q_kph_61, va_un _ _ (by decide), va_un _ _ (by decide)]; exact u7
  · by_cases e : j = (P.tp + 1) % 6
    · subst e
      show q_rI' _ (if _ then m else _)
      rw [if_pos rfl]
      refine ⟨c2.1.cong fun k hk => ?_, c2.2⟩
      unfold q_kph
      rw [q_sIn _ _ _ (by omega), q_rI, q_cpy_lt _ _ hk]
    · show q_rI' _ (if _ then m else _)
      rw [if_neg e, q_kph_n h P (by omega) (by omega)]; exact c4 j hj
  · rw [q_kph_n h P (by omega) (by omega)]; exact c5
  · rw [q_kph_n h P (by omega) (by omega)]; exact c6
  · rw [q_kph_61, va_un _ _ (by decide), va_un _ _ (by decide)]
theorem q_lkMo : ∀ {j : Nat}, j < 6 → q_lkT 1063 j = some (1064 + j) := by decide +kernel
theorem q_lkMo2 : ∀ {j : Nat}, j < 6 → q_tag (1064 + j) = 12 ∧ q_len (1064 + j) = 830 := by decide +kernel
theorem g_X10_keeps {Φ : q_Fx} {h : q_Hp} (K : q_Lk Φ h.R h.n) {m : q_W} {P : q_P} (C : q_mr h m P) : q_Ct Φ false yX10_keeps cX10_keeps mX10_keeps [.ref 1061] h (q_ex (fun v h' => v = none ∧ h' = q_kph h P)) := by
  refine q_enter K.st rfl rfl (by decide) rfl (Nat.le_of_ble_eq_true rfl) (L := [_, none]) rfl ?_
  have hs := C.1
  have M := C.2.1.1
  have hσ := C.2.1.2
  have ht9 := M.t9
  have hc40 := M.c40
  have hn10 := M.n10
  have hp28 := M.pc28
  have hpe1 := M.pe1
  have hpf9 := M.pf9
  have hu := C.2.2.1.2.1
  have htp := C.2.2.1.2.2.2.1
  have hwr := C.2.2.1.2.2.2.2.2.1
  have hsv := C.2.2.1.2.2.2.2.2.2.2
  have htm : (P.tp + 1) % 6 < 6 := Nat.mod_lt _ (by decide)
  refine q_aload_n dX10_keeps_0 rfl ?_
  refine q_aload_n dX10_keeps_1 rfl ?_
  refine fIX10_35 dX10_keeps_2 rfl (by decide) (K.le (by decide)) ?_
  refine q_tv (show _ = (nI (P.tp)) from C.2.2.1.2.2.1) ?_
  refine q_iconst (v := nI 1) dX10_keeps_5 (by decide) ?_
  refine q_iaddN dX10_keeps_6 ?_
  refine q_bipush (v := nI 6) dX10_keeps_7 (by decide) ?_
  refine q_iremN (by omega) (by omega) (by omega) dX10_keeps_9 ?_
  refine pIX10_35 dX10_keeps_10 rfl (by decide) (K.le (by decide)) ?_
  refine q_iconst (v := nI 0) dX10_keeps_13 (by decide) ?_
  refine q_istore_n (L' := [_, _]) dX10_keeps_14 rfl (by decide) rfl ?_
  refine q_loop (ι := Nat) (μ := fun i => 830 - i) (P := fun i => i ≤ 830) (Lf := fun i => [some (.ref 1061), some (.int (nI (i)))]) (hf := fun i => ((h.setI 1061 7 (nI ((P.tp + 1) % 6))).rowI (1064 + (P.tp + 1) % 6) (q_cpy (h.I 1062) (h.I (1064 + (P.tp + 1) % 6)) i))) (fun i hi15 ih15 => ?_) 0 (by omega) (q_sub_s rfl (q_sub_i rfl q_sub_0)) (by rw [q_cpy_0, ← q_sIn h (a := 1061) (b := 1064 + (P.tp + 1) % 6) 7 (nI ((P.tp + 1) % 6)) (by omega), q_rid])
  skip
  refine q_iload_n dX10_keeps_15 rfl ?_
  refine q_sipush (v := nI 830) dX10_keeps_16 (by decide) ?_
  refine q_icmp_geN (by omega) (by omega) (tgt := 45) dX10_keeps_19 rfl (fun c1 => ?_) (fun c2 => ?_)
  · refine q_aload_n dX10_keeps_45 rfl ?_
    refine q_bipush (v := nI 6) dX10_keeps_46 (by decide) ?_
    refine q_aload_n dX10_keeps_48 rfl ?_
    refine fIX10_38 dX10_keeps_49 rfl (by decide) (K.le (by decide)) ?_
    refine q_tv (show _ = (nI (P.un)) from ((congrFun (q_rIn _ _ (by omega)) _).trans ((congrFun (q_sI _ _ _ _) _).trans ((va_un _ _ (by decide)).trans C.2.2.1.1)))) ?_
    refine q_iconst (v := nI 1) dX10_keeps_52 (by decide) ?_
    refine q_iaddN dX10_keeps_53 ?_
    refine q_min kX10_41 dX10_keeps_54 (by decide) (by decide) ?_
    refine q_tv (q_minN (by omega) (by omega)) ?_
    refine pIX10_38 dX10_keeps_57 rfl (by decide) (K.le (by decide)) ?_
    refine q_vret dX10_keeps_60 rfl (Or.inl rfl) ?_
    exact ⟨_, rfl, rfl, by rw [show i = 830 by omega]; rfl⟩
  · refine q_aload_n dX10_keeps_22 rfl ?_
    refine fRX10_15 (o := some 1063) dX10_keeps_23 rfl (by decide) (K.le (by decide)) (K.lk rfl) ?_
    refine q_rfS ?_
    refine q_aload_n dX10_keeps_26 rfl ?_
    refine fIX10_35 dX10_keeps_27 rfl (by decide) (K.le (by decide)) ?_
    refine q_tv (show _ = (nI ((P.tp + 1) % 6)) from ((congrFun (q_rIn _ _ (by omega)) _).trans ((congrFun (q_sI _ _ _ _) _).trans (va_us _ _ _)))) ?_
    refine q_aaldN (len := 6) (o := some (1064 + ((P.tp + 1) % 6))) (by decide) (by decide) dX10_keeps_30 (by decide) (K.le (by decide)) rfl (by omega) (by decide) (K.lk (q_lkMo htm)) ?_
    refine q_rfS ?_
    refine q_iload_n dX10_keeps_31 rfl ?_
    refine q_aload_n dX10_keeps_32 rfl ?_
    refine fRX10_9 (o := some 1062) dX10_keeps_33 rfl (by decide) (K.le (by decide)) hs ?_
    refine q_rfS ?_
    refine q_iload_n dX10_keeps_36 rfl ?_
    refine q_ialdN (len := 830) rfl dX10_keeps_37 (by decide) (K.le (by decide)) rfl (by omega) (by decide) ?_
    refine q_tv (show _ = (h.I 1062 i) from ((congrFun (q_rIn _ _ (by omega)) _).trans (congrFun (q_sIn _ _ _ (by omega)) _))) ?_
    refine q_iastN (len := 830) (q_lkMo2 htm).1 dX10_keeps_38 (by omega) (K.le (by omega)) (q_lkMo2 htm).2 (by omega) (by decide) ?_
    refine q_iincN (n := 1) (L' := [_, _]) (by decide) dX10_keeps_39 rfl rfl (by decide) rfl ?_
    refine q_goto (tgt := 15) dX10_keeps_42 rfl ?_
    exact q_to (ih15 (i + 1) (by omega) (by omega)) (q_sub_s rfl (q_sub_i rfl q_sub_0)) (by rw [q_rset, q_cpy_s (h.I 1062)])
theorem g_X10_goes {Φ : q_Fx} {h : q_Hp} (K : q_Lk Φ h.R h.n) {m : q_W} {P : q_P} (C : q_mr h m P) (v : q_val m) : q_Ct Φ false yX10_goes cX10_goes mX10_goes [.ref 1061] h (q_ex (fun v h' => v = some (.int (q_bl (decide (m.pe = 1 ∧ m.due < m.pc)))) ∧ ∃ h1, q_lf h h1 ∧ h' = h1.rowI 1061 (q_d3 (h1.I 1061) (nI m.due) (nI m.mis) (nI m.drp)))) := by
  refine q_enter K.st rfl rfl (by decide) rfl (Nat.le_of_ble_eq_true rfl) (L := [_, none, none, none]) rfl ?_
  have hs := C.1
  have M := C.2.1.1
  have hσ := C.2.1.2
  have ht9 := M.t9
  have hc40 := M.c40
  have hn10 := M.n10
  have hp28 := M.pc28
  have hpe1 := M.pe1
  have hpf9 := M.pf9
  have hu := C.2.2.1.2.1
  have htp := C.2.2.1.2.2.2.1
  have hwr := C.2.2.1.2.2.2.2.2.1
  have hsv := C.2.2.1.2.2.2.2.2.2.2
  have hv0 := v.2.2.2.2.2.2
  refine q_aload_n dX10_goes_0 rfl ?_
  refine q_vR (kc := 0) (ks := 0) (g_X10_loads (h := h) K ((Or.inl rfl)) hs (M) v hσ) wX10_loads kX10_96 iX10_loads eX10_loads rfl rfl (by decide) (K.le (by decide)) (by decide) rfl rfl (Nat.le_of_ble_eq_true rfl) dX10_goes_1 rfl rfl ?_
  rintro v' h1 ⟨rfl, F1, hD⟩
  have K : q_Lk Φ h1.R h1.n := by rw [F1.2.1, F1.2.2.2.2]; exact K
  have hs0 := hs
  have hs : h1.R 1061 0 = some 1062 := by rw [F1.2.1]; exact hs0
  have M0 := M
  have M : q_rw (h1.I 1062) m := by rw [F1.1 _ (by omega) (by omega)]; exact M0
  refine q_aload_n dX10_goes_4 rfl ?_
  refine q_iconst (v := nI 0) dX10_goes_5 (by decide) ?_
  refine pIX10_143 dX10_goes_6 rfl (by decide) (K.le (by decide)) ?_
  refine q_aload_n dX10_goes_9 rfl ?_
  refine q_iconst (v := nI 0) dX10_goes_10 (by decide) ?_
  refine pIX10_146 dX10_goes_11 rfl (by decide) (K.le (by decide)) ?_
  refine q_aload_n dX10_goes_14 rfl ?_
  refine q_iconst (v := nI 0) dX10_goes_15 (by decide) ?_
  refine pIX10_149 dX10_goes_16 rfl (by decide) (K.le (by decide)) ?_
  refine q_iconst (v := nI 0) dX10_goes_19 (by decide) ?_
  refine q_istore_n (L' := [_, _, _, _]) dX10_goes_20 rfl (by decide) rfl ?_
  refine q_aload_n dX10_goes_21 rfl ?_
  refine fRX10_9 (o := some 1062) dX10_goes_22 rfl (by decide) (K.le (by decide)) hs ?_
  refine q_rfS ?_
  refine q_iconst (v := nI 5) dX10_goes_25 (by decide) ?_
  refine q_ialdN (len := 830) rfl dX10_goes_26 (by decide) (K.le (by decide)) rfl (by omega) (by decide) ?_
  refine q_tv (show _ = (nI (m.pf)) from ((congrFun (q_sIn _ _ _ (by omega)) _).trans ((congrFun (q_sIn _ _ _ (by omega)) _).trans ((congrFun (q_sIn _ _ _ (by omega)) _).trans M.pf)))) ?_
  refine q_istore_n (L' := [_, _, _, _]) dX10_goes_27 rfl (by decide) rfl ?_
  refine q_loop (ι := Nat) (μ := fun i => m.t - m.pf - i) (P := fun i => i ≤ m.t - m.pf) (Lf := fun i => [some (.ref 1061), some (.int (nI ((m.fo i).2.2.2))), some (.int (nI (m.pf + i))), none]) (hf := fun i => (h1.rowI 1061 (q_d3 (h1.I 1061) (nI (m.fo i).1) (nI (m.fo i).2.1) (nI (m.fo i).2.2.1)))) (fun i hi28 ih28 => ?_) 0 (by omega) (q_sub_s rfl (q_sub_i rfl (q_sub_i rfl (q_sub_n q_sub_0)))) (q_d3_i h1 1061 _ _ _)
  skip
  have hle := m.fo_le i
  refine q_aload_n dX10_goes_28 rfl ?_
  refine fRX10_9 (o := some 1062) dX10_goes_29 rfl (by decide) (K.le (by decide)) hs ?_
  refine q_rfS ?_
  refine q_iconst (v := nI 4) dX10_goes_32 (by decide) ?_
  refine q_ialdN (len := 830) rfl dX10_goes_33 (by decide) (K.le (by decide)) rfl (by omega) (by decide) ?_
  refine q_tv (show _ = (nI (m.pe)) from ((congrFun (q_rIn _ _ (by omega)) _).trans M.pe)) ?_
  refine q_iconst (v := nI 1) dX10_goes_34 (by decide) ?_
  refine q_icmp_neN (by omega) (by omega) (tgt := 173) dX10_goes_35 rfl (fun c1 => ?_) (fun c2 => ?_)
  · refine q_aload_n dX10_goes_173 rfl ?_
    refine fRX10_9 (o := some 1062) dX10_goes_174 rfl (by decide) (K.le (by decide)) hs ?_
    refine q_rfS ?_
    refine q_iconst (v := nI 4) dX10_goes_177 (by decide) ?_
    refine q_ialdN (len := 830) rfl dX10_goes_178 (by decide) (K.le (by decide)) rfl (by omega) (by decide) ?_
    refine q_tv (show _ = (nI (m.pe)) from ((congrFun (q_rIn _ _ (by omega)) _).trans M.pe)) ?_
    refine q_iconst (v := nI 1) dX10_goes_179 (by decide) ?_
    refine q_icmp_neN (by omega) (by omega) (tgt := 201) dX10_goes_180 rfl (fun c3 => ?_) (fun c => by exfalso; first | omega | exact absurd c1 c | exact absurd c c1)
    refine q_iconst (v := nI 0) dX10_goes_201 (by decide) ?_
    refine q_zret (ty := .boolean) dX10_goes_202 rfl rfl (Or.inl rfl) ?_
    have e := m.fo_end (i := i) (by omega) (by omega)
    have e1 : (m.fo i).1 = m.due := by rw [e]; rfl
    exact ⟨_, rfl, by simp only [q_bl]; split <;> first | rfl | (exfalso; simp only [decide_eq_true_eq] at *; omega), h1, F1, by rw [e]; rfl⟩
  · refine q_iload_n dX10_goes_38 rfl ?_
    refine q_aload_n dX10_goes_39 rfl ?_
    refine fRX10_9 (o := some 1062) dX10_goes_40 rfl (by decide) (K.le (by decide)) hs ?_
    refine q_rfS ?_
    refine q_iconst (v := nI 0) dX10_goes_43 (by decide) ?_
    refine q_ialdN (len := 830) rfl dX10_goes_44 (by decide) (K.le (by decide)) rfl (by omega) (by decide) ?_
    refine q_tv (show _ = (nI (m.t)) from ((congrFun (q_rIn _ _ (by omega)) _).trans M.t)) ?_
    refine q_icmp_geN (by omega) (by omega) (tgt := 173) dX10_goes_45 rfl (fun c5 => ?_) (fun c6 => ?_)
    · refine q_aload_n dX10_goes_173 rfl ?_
      refine fRX10_9 (o := some 1062) dX10_goes_174 rfl (by decide) (K.le (by decide)) hs ?_
      refine q_rfS ?_
      refine q_iconst (v := nI 4) dX10_goes_177 (by decide) ?_
      refine q_ialdN (len := 830) rfl dX10_goes_178 (by decide) (K.le (by decide)) rfl (by omega) (by decide) ?_
      refine q_tv (show _ = (nI (m.pe)) from ((congrFun (q_rIn _ _ (by omega)) _).trans M.pe)) ?_
      refine q_iconst (v := nI 1) dX10_goes_179 (by decide) ?_
      refine q_icmp_neN (by omega) (by omega) (tgt := 201) dX10_goes_180 rfl (fun c => by exfalso; first | omega | exact absurd c2 c | exact absurd c c2) (fun c7 => ?_)
      refine q_aload_n dX10_goes_183 rfl ?_
      refine fIX10_143 dX10_goes_184 rfl (by decide) (K.le (by decide)) ?_
      refine q_tv (show _ = (nI ((m.fo i).1)) from ((congrFun (q_rI _ _ _) _).trans rfl)) ?_
      refine q_aload_n dX10_goes_187 rfl ?_
      refine fRX10_9 (o := some 1062) dX10_goes_188 rfl (by decide) (K.le (by decide)) hs ?_
      refine q_rfS ?_
      refine q_bipush (v := nI 6) dX10_goes_191 (by decide) ?_
      refine q_ialdN (len := 830) rfl dX10_goes_193 (by decide) (K.le (by decide)) rfl (by omega) (by decide) ?_
      refine q_tv (show _ = (nI (m.pc)) from ((congrFun (q_rIn _ _ (by omega)) _).trans M.pc)) ?_
      refine q_icmp_geN (by omega) (by omega) (tgt := 201) dX10_goes_194 rfl (fun c9 => ?_) (fun c10 => ?_)
      · refine q_iconst (v := nI 0) dX10_goes_201 (by decide) ?_
        refine q_zret (ty := .boolean) dX10_goes_202 rfl rfl (Or.inl rfl) ?_
        have e := m.fo_end (i := i) (by omega) (by omega)
        have e1 : (m.fo i).1 = m.due := by rw [e]; rfl
        exact ⟨_, rfl, by simp only [q_bl]; split <;> first | rfl | (exfalso; simp only [decide_eq_true_eq] at *; omega), h1, F1, by rw [e]; rfl⟩
      · refine q_iconst (v := nI 1) dX10_goes_197 (by decide) ?_
        refine q_goto (tgt := 202) dX10_goes_198 rfl ?_
        refine q_zret (ty := .boolean) dX10_goes_202 rfl rfl (Or.inl rfl) ?_
        have e := m.fo_end (i := i) (by omega) (by omega)
        have e1 : (m.fo i).1 = m.due := by rw [e]; rfl
        exact ⟨_, rfl, by simp only [q_bl]; split <;> first | rfl | (exfalso; simp only [decide_eq_true_eq] at *; omega), h1, F1, by rw [e]; rfl⟩
    · refine q_aload_n dX10_goes_48 rfl ?_
      refine fIX10_143 dX10_goes_49 rfl (by decide) (K.le (by decide)) ?_
      refine q_tv (show _ = (nI ((m.fo i).1)) from ((congrFun (q_rI _ _ _) _).trans rfl)) ?_
      refine q_aload_n dX10_goes_52 rfl ?_
      refine fRX10_9 (o := some 1062) dX10_goes_53 rfl (by decide) (K.le (by decide)) hs ?_
      refine q_rfS ?_
      refine q_bipush (v := nI 6) dX10_goes_56 (by decide) ?_
      refine q_ialdN (len := 830) rfl dX10_goes_58 (by decide) (K.le (by decide)) rfl (by omega) (by decide) ?_
      refine q_tv (show _ = (nI (m.pc)) from ((congrFun (q_rIn _ _ (by omega)) _).trans M.pc)) ?_
      refine q_icmp_geN (by omega) (by omega) (tgt := 173) dX10_goes_59 rfl (fun c11 => ?_) (fun c12 => ?_)
      · refine q_aload_n dX10_goes_173 rfl ?_
        refine fRX10_9 (o := some 1062) dX10_goes_174 rfl (by decide) (K.le (by decide)) hs ?_
        refine q_rfS ?_
        refine q_iconst (v := nI 4) dX10_goes_177 (by decide) ?_
        refine q_ialdN (len := 830) rfl dX10_goes_178 (by decide) (K.le (by decide)) rfl (by omega) (by decide) ?_
        refine q_tv (show _ = (nI (m.pe)) from ((congrFun (q_rIn _ _ (by omega)) _).trans M.pe)) ?_
        refine q_iconst (v := nI 1) dX10_goes_179 (by decide) ?_
        refine q_icmp_neN (by omega) (by omega) (tgt := 201) dX10_goes_180 rfl (fun c => by exfalso; first | omega | exact absurd c2 c | exact absurd c c2) (fun c13 => ?_)
        refine q_aload_n dX10_goes_183 rfl ?_
        refine fIX10_143 dX10_goes_184 rfl (by decide) (K.le (by decide)) ?_
        refine q_tv (show _ = (nI ((m.fo i).1)) from ((congrFun (q_rI _ _ _) _).trans rfl)) ?_
        refine q_aload_n dX10_goes_187 rfl ?_
        refine fRX10_9 (o := some 1062) dX10_goes_188 rfl (by decide) (K.le (by decide)) hs ?_
        refine q_rfS ?_
        refine q_bipush (v := nI 6) dX10_goes_191 (by decide) ?_
        refine q_ialdN (len := 830) rfl dX10_goes_193 (by decide) (K.le (by decide)) rfl (by omega) (by decide) ?_
        refine q_tv (show _ = (nI (m.pc)) from ((congrFun (q_rIn _ _ (by omega)) _).trans M.pc)) ?_
        refine q_icmp_geN (by omega) (by omega) (tgt := 201) dX10_goes_194 rfl (fun c15 => ?_) (fun c => by exfalso; first | omega | exact absurd c11 c | exact absurd c c11)
        refine q_iconst (v := nI 0) dX10_goes_201 (by decide) ?_
        refine q_zret (ty := .boolean) dX10_goes_202 rfl rfl (Or.inl rfl) ?_
        have e := m.fo_end (i := i) (by omega) (by omega)
        have e1 : (m.fo i).1 = m.due := by rw [e]; rfl
        exact ⟨_, rfl, by simp only [q_bl]; split <;> first | rfl | (exfalso; simp only [decide_eq_true_eq] at *; omega), h1, F1, by rw [e]; rfl⟩
      · refine q_iconst (v := nI 2) dX10_goes_62 (by decide) ?_
        refine q_aload_n dX10_goes_63 rfl ?_
        refine fRX10_21 (o := some 1071) dX10_goes_64 rfl (by decide) (K.le (by decide)) (K.lk rfl) ?_
        refine q_rfS ?_
        refine q_iload_n dX10_goes_67 rfl ?_
        refine q_ialdN (len := 200) rfl dX10_goes_68 (by decide) (K.le (by decide)) rfl (by omega) (by decide) ?_
        refine q_tv (show _ = (m.D (m.pf + i)) from ((congrFun (q_rIn _ _ (by omega)) _).trans (hD _ (by omega)))) ?_
        refine q_imul dX10_goes_69 ?_
        refine q_aload_n dX10_goes_70 rfl ?_
        refine fRX10_9 (o := some 1062) dX10_goes_71 rfl (by decide) (K.le (by decide)) hs ?_
        refine q_rfS ?_
        refine q_bipush (v := nI 40) dX10_goes_74 (by decide) ?_
        refine q_aload_n dX10_goes_76 rfl ?_
        refine fIX10_143 dX10_goes_77 rfl (by decide) (K.le (by decide)) ?_
        refine q_tv (show _ = (nI ((m.fo i).1)) from ((congrFun (q_rI _ _ _) _).trans rfl)) ?_
        refine q_iaddN dX10_goes_80 ?_
        refine q_ialdN (len := 830) rfl dX10_goes_81 (by decide) (K.le (by decide)) rfl (by omega) (by decide) ?_
        refine q_tv (show _ = (m.tg ((m.fo i).1)) from ((congrFun (q_rIn _ _ (by omega)) _).trans ((congrArg (h1.I 1062) (show ((40) + ((m.fo i).1)) = 40 + ((m.fo i).1) by omega)).trans (M.tg (e := ((m.fo i).1)) (by omega))))) ?_
        refine q_icmp_ge (tgt := 89) dX10_goes_82 rfl (fun c17 => ?_) (fun c18 => ?_)
        · refine q_iconst (v := nI 0) dX10_goes_89 (by decide) ?_
          refine q_istore_n (L' := [_, _, _, _]) dX10_goes_90 rfl (by decide) rfl ?_
          refine q_iload_n dX10_goes_91 rfl ?_
          refine q_if_eq (tgt := 101) dX10_goes_92 rfl (fun _ => ?_) (fun c => absurd (by decide) c)
          refine q_iconst (v := nI 0) dX10_goes_101 (by decide) ?_
          refine q_istore_n (L' := [_, _, _, _]) dX10_goes_102 rfl (by decide) rfl ?_
          refine q_aload_n dX10_goes_103 rfl ?_
          refine q_dup dX10_goes_104 rfl ?_
          refine fIX10_146 dX10_goes_105 rfl (by decide) (K.le (by decide)) ?_
          refine q_tv (show _ = (nI ((m.fo i).2.1)) from ((congrFun (q_rI _ _ _) _).trans rfl)) ?_
          refine q_iload_n dX10_goes_108 rfl ?_
          refine q_if_eq (tgt := 116) dX10_goes_109 rfl (fun _ => ?_) (fun c => absurd (by decide) c)
          refine q_iconst (v := nI 0) dX10_goes_116 (by decide) ?_
          refine q_iaddN dX10_goes_117 ?_
          refine pIX10_146 dX10_goes_118 rfl (by decide) (K.le (by decide)) ?_
          refine q_aload_n dX10_goes_121 rfl ?_
          refine q_dup dX10_goes_122 rfl ?_
          refine fIX10_149 dX10_goes_123 rfl (by decide) (K.le (by decide)) ?_
          refine q_tv (show _ = (nI ((m.fo i).2.2.1)) from (((congrFun (q_sI _ _ _ _) _).trans (va_un _ _ (by omega))).trans ((congrFun (q_rI _ _ _) _).trans rfl))) ?_
          refine q_iload_n dX10_goes_126 rfl ?_
          refine q_iconst (v := nI 3) dX10_goes_127 (by decide) ?_
          refine q_icmp_ne (tgt := 135) dX10_goes_128 rfl (fun _ => ?_) (fun c => absurd c (by decide))
          refine q_iconst (v := nI 0) dX10_goes_135 (by decide) ?_
          refine q_iaddN dX10_goes_136 ?_
          refine pIX10_149 dX10_goes_137 rfl (by decide) (K.le (by decide)) ?_
          refine q_aload_n dX10_goes_140 rfl ?_
          refine q_dup dX10_goes_141 rfl ?_
          refine fIX10_143 dX10_goes_142 rfl (by decide) (K.le (by decide)) ?_
          refine q_tv (show _ = (nI ((m.fo i).1)) from (((congrFun (q_sI _ _ _ _) _).trans (va_un _ _ (by omega))).trans (((congrFun (q_sI _ _ _ _) _).trans (va_un _ _ (by omega))).trans ((congrFun (q_rI _ _ _) _).trans rfl)))) ?_
          refine q_iload_n dX10_goes_145 rfl ?_
          refine q_if_eq (tgt := 154) dX10_goes_146 rfl (fun _ => ?_) (fun c => absurd (by decide) c)
          refine q_iconst (v := nI 1) dX10_goes_154 (by decide) ?_
          refine q_goto (tgt := 159) dX10_goes_155 rfl ?_
          refine q_iaddN dX10_goes_159 ?_
          refine pIX10_143 dX10_goes_160 rfl (by decide) (K.le (by decide)) ?_
          refine q_iload_n dX10_goes_163 rfl ?_
          refine q_iconst (v := nI 3) dX10_goes_164 (by decide) ?_
          refine q_iremN (by omega) (by omega) (by omega) dX10_goes_165 ?_
          refine q_istore_n (L' := [_, _, _, _]) dX10_goes_166 rfl (by decide) rfl ?_
          refine q_iincN (n := 1) (L' := [_, _, _, _]) (by decide) dX10_goes_167 rfl rfl (by decide) rfl ?_
          refine q_goto (tgt := 28) dX10_goes_170 rfl ?_
          first | have e := m.fo_c (i := i) (by omega) (by assumption) | have e := m.fo_a (i := i) (by omega) (by assumption) (by omega) | have e := m.fo_b (i := i) (by omega) (by assumption) (by omega)
          exact q_to (ih28 (i + 1) (by omega) (by omega)) (q_sub_s rfl (q_sub_i (by first | (rw [e]; done) | (rw [e]; exact congrArg nI (by show _ % 3 = _; dsimp only <;> omega))) (q_sub_i rfl (q_sub_n q_sub_0)))) (by rw [e]; simp only [q_rset, q_d3_9, q_d3_10, q_d3_11] <;> rfl)
        · refine q_iconst (v := nI 1) dX10_goes_85 (by decide) ?_
          refine q_goto (tgt := 90) dX10_goes_86 rfl ?_
          refine q_istore_n (L' := [_, _, _, _]) dX10_goes_90 rfl (by decide) rfl ?_
          refine q_iload_n dX10_goes_91 rfl ?_
          refine q_if_eq (tgt := 101) dX10_goes_92 rfl (fun c => absurd c (by decide)) (fun _ => ?_)
          refine q_iload_n dX10_goes_95 rfl ?_
          refine q_iconst (v := nI 1) dX10_goes_96 (by decide) ?_
          refine q_iaddN dX10_goes_97 ?_
          refine q_goto (tgt := 102) dX10_goes_98 rfl ?_
          refine q_istore_n (L' := [_, _, _, _]) dX10_goes_102 rfl (by decide) rfl ?_
          refine q_aload_n dX10_goes_103 rfl ?_
          refine q_dup dX10_goes_104 rfl ?_
          refine fIX10_146 dX10_goes_105 rfl (by decide) (K.le (by decide)) ?_
          refine q_tv (show _ = (nI ((m.fo i).2.1)) from ((congrFun (q_rI _ _ _) _).trans rfl)) ?_
          refine q_iload_n dX10_goes_108 rfl ?_
          refine q_if_eq (tgt := 116) dX10_goes_109 rfl (fun c => absurd c (by decide)) (fun _ => ?_)
          refine q_iconst (v := nI 1) dX10_goes_112 (by decide) ?_
          refine q_goto (tgt := 117) dX10_goes_113 rfl ?_
          refine q_iaddN dX10_goes_117 ?_
          refine pIX10_146 dX10_goes_118 rfl (by decide) (K.le (by decide)) ?_
          refine q_aload_n dX10_goes_121 rfl ?_
          refine q_dup dX10_goes_122 rfl ?_
          refine fIX10_149 dX10_goes_123 rfl (by decide) (K.le (by decide)) ?_
          refine q_tv (show _ = (nI ((m.fo i).2.2.1)) from (((congrFun (q_sI _ _ _ _) _).trans (va_un _ _ (by omega))).trans ((congrFun (q_rI _ _ _) _).trans rfl))) ?_
          refine q_iload_n dX10_goes_126 rfl ?_
          refine q_iconst (v := nI 3) dX10_goes_127 (by decide) ?_
          refine q_icmp_neN (by omega) (by omega) (tgt := 135) dX10_goes_128 rfl (fun c31 => ?_) (fun c32 => ?_)
          · refine q_iconst (v := nI 0) dX10_goes_135 (by decide) ?_
            refine q_iaddN dX10_goes_136 ?_
            refine pIX10_149 dX10_goes_137 rfl (by decide) (K.le (by decide)) ?_
            refine q_aload_n dX10_goes_140 rfl ?_
            refine q_dup dX10_goes_141 rfl ?_
            refine fIX10_143 dX10_goes_142 rfl (by decide) (K.le (by decide)) ?_
            refine q_tv (show _ = (nI ((m.fo i).1)) from (((congrFun (q_sI _ _ _ _) _).trans (va_un _ _ (by omega))).trans (((congrFun (q_sI _ _ _ _) _).trans (va_un _ _ (by omega))).trans ((congrFun (q_rI _ _ _) _).trans rfl)))) ?_
            refine q_iload_n dX10_goes_145 rfl ?_
            refine q_if_eq (tgt := 154) dX10_goes_146 rfl (fun c => absurd c (by decide)) (fun _ => ?_)
            refine q_iload_n dX10_goes_149 rfl ?_
            refine q_iconst (v := nI 3) dX10_goes_150 (by decide) ?_
            refine q_icmp_neN (by omega) (by omega) (tgt := 158) dX10_goes_151 rfl (fun c35 => ?_) (fun c => by exfalso; first | omega | exact absurd c31 c | exact absurd c c31)
            refine q_iconst (v := nI 0) dX10_goes_158 (by decide) ?_
            refine q_iaddN dX10_goes_159 ?_
            refine pIX10_143 dX10_goes_160 rfl (by decide) (K.le (by decide)) ?_
            refine q_iload_n dX10_goes_163 rfl ?_
            refine q_iconst (v := nI 3) dX10_goes_164 (by decide) ?_
            refine q_iremN (by omega) (by omega) (by omega) dX10_goes_165 ?_
            refine q_istore_n (L' := [_, _, _, _]) dX10_goes_166 rfl (by decide) rfl ?_
            refine q_iincN (n := 1) (L' := [_, _, _, _]) (by decide) dX10_goes_167 rfl rfl (by decide) rfl ?_
            refine q_goto (tgt := 28) dX10_goes_170 rfl ?_
            first | have e := m.fo_c (i := i) (by omega) (by assumption) | have e := m.fo_a (i := i) (by omega) (by assumption) (by omega) | have e := m.fo_b (i := i) (by omega) (by assumption) (by omega)
            exact q_to (ih28 (i + 1) (by omega) (by omega)) (q_sub_s rfl (q_sub_i (by first | (rw [e]; done) | (rw [e]; exact congrArg nI (by show _ % 3 = _; dsimp only <;> omega))) (q_sub_i rfl (q_sub_n q_sub_0)))) (by rw [e]; simp only [q_rset, q_d3_9, q_d3_10, q_d3_11] <;> rfl)
          · refine q_iconst (v := nI 1) dX10_goes_131 (by decide) ?_
            refine q_goto (tgt := 136) dX10_goes_132 rfl ?_
            refine q_iaddN dX10_goes_136 ?_
            refine pIX10_149 dX10_goes_137 rfl (by decide) (K.le (by decide)) ?_
            refine q_aload_n dX10_goes_140 rfl ?_
            refine q_dup dX10_goes_141 rfl ?_
            refine fIX10_143 dX10_goes_142 rfl (by decide) (K.le (by decide)) ?_
            refine q_tv (show _ = (nI ((m.fo i).1)) from (((congrFun (q_sI _ _ _ _) _).trans (va_un _ _ (by omega))).trans (((congrFun (q_sI _ _ _ _) _).trans (va_un _ _ (by omega))).trans ((congrFun (q_rI _ _ _) _).trans rfl)))) ?_
            refine q_iload_n dX10_goes_145 rfl ?_
            refine q_if_eq (tgt := 154) dX10_goes_146 rfl (fun c => absurd c (by decide)) (fun _ => ?_)
            refine q_iload_n dX10_goes_149 rfl ?_
            refine q_iconst (v := nI 3) dX10_goes_150 (by decide) ?_
            refine q_icmp_neN (by omega) (by omega) (tgt := 158) dX10_goes_151 rfl (fun c => by exfalso; first | omega | exact absurd c32 c | exact absurd c c32) (fun c39 => ?_)
            refine q_iconst (v := nI 1) dX10_goes_154 (by decide) ?_
            refine q_goto (tgt := 159) dX10_goes_155 rfl ?_
            refine q_iaddN dX10_goes_159 ?_
            refine pIX10_143 dX10_goes_160 rfl (by decide) (K.le (by decide)) ?_
            refine q_iload_n dX10_goes_163 rfl ?_
            refine q_iconst (v := nI 3) dX10_goes_164 (by decide) ?_
            refine q_iremN (by omega) (by omega) (by omega) dX10_goes_165 ?_
            refine q_istore_n (L' := [_, _, _, _]) dX10_goes_166 rfl (by decide) rfl ?_
            refine q_iincN (n := 1) (L' := [_, _, _, _]) (by decide) dX10_goes_167 rfl rfl (by decide) rfl ?_
            refine q_goto (tgt := 28) dX10_goes_170 rfl ?_
            first | have e := m.fo_c (i := i) (by omega) (by assumption) | have e := m.fo_a (i := i) (by omega) (by assumption) (by omega) | have e := m.fo_b (i := i) (by omega) (by assumption) (by omega)
            exact q_to (ih28 (i + 1) (by omega) (by omega)) (q_sub_s rfl (q_sub_i (by first | (rw [e]; done) | (rw [e]; exact congrArg nI (by show _ % 3 = _; dsimp only <;> omega))) (q_sub_i rfl (q_sub_n q_sub_0)))) (by rw [e]; simp only [q_rset, q_d3_9, q_d3_10, q_d3_11] <;> rfl)
