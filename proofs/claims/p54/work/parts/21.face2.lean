/-! THE CLASS'S FACE: CHANGES -/
theorem q_mv_inj {f : Nat → Nat} (hf : ∀ a, a < 40 → ∀ b, b < 40 → f a = f b → a = b) {p r : Nat} (hp : p < 40) (hr : r < 40) : ∀ a, a < 40 → ∀ b, b < 40 → q_mv f p r a = q_mv f p r b → a = b := by
  intro a ha b hb e
  have key : ∀ k, k < 40 → ∃ j, j < 40 ∧ q_mv f p r k = f j ∧ ((k = r ∧ j = p) ∨ (k ≠ r ∧ r < k ∧ k ≤ p ∧ j = k - 1) ∨ (k ≠ r ∧ p ≤ k ∧ k < r ∧ j = k + 1) ∨ (k ≠ r ∧ ¬ (r < k ∧ k ≤ p) ∧ ¬ (p ≤ k ∧ k < r) ∧ j = k)) := by
    intro k hk
    unfold q_mv
    by_cases h1 : k = r
    · exact ⟨p, hp, by rw [if_pos h1], Or.inl ⟨h1, rfl⟩⟩
    · rw [if_neg h1]
      by_cases h2 : r < k ∧ k ≤ p
      · exact ⟨k - 1, by omega, by rw [if_pos h2], Or.inr (Or.inl ⟨h1, h2.1, h2.2, rfl⟩)⟩
      · rw [if_neg h2]
        by_cases h3 : p ≤ k ∧ k < r
        · exact ⟨k + 1, by omega, by rw [if_pos h3], Or.inr (Or.inr (Or.inl ⟨h1, h3.1, h3.2, rfl⟩))⟩
        · exact ⟨k, hk, by rw [if_neg h3], Or.inr (Or.inr (Or.inr ⟨h1, h2, h3, rfl⟩))⟩
  obtain ⟨ja, h1, h2, h3⟩ := key a ha
  obtain ⟨jb, h4, h5, h6⟩ := key b hb
  rw [h2, h5] at e
  have := hf ja h1 jb h4 e
  omega
theorem q_W.len_ml {W : q_W} {s : Nat} (h : W.okS s) : W.len s = nI (W.ml s) := by
  have key : ∀ n, n ≤ W.pn s → q_sum (W.mn s) n = nI (q_cm (W.mn s) n) := by
    intro n hn
    induction n with
    | zero => rfl
    | succ n ih =>
      obtain ⟨k, h1, h2, e⟩ := h.1 n (by omega)
      show q_sum (W.mn s) n + W.mn s n = nI (q_cm (W.mn s) n + (W.mn s n).toNatClampNeg)
      rw [ih (by omega), ← nI_add, ← q_nI_clamp h2 e]
  exact key _ (Nat.le_refl _)
theorem q_ok0.addP {W : q_W} (o : q_ok0 W) {s m : Nat} {y : Int32} (hm : 1 ≤ m) (hm2 : m ≤ 120) (hl : W.ml s + m ≤ 240) : q_ok0 (W.addP s (nI m) y) := by
  refine ⟨fun r hr => ?_, o.2⟩
  by_cases e : r = s
  · subst e
    have hp : (W.addP r (nI m) y).pn r = W.pn r + 1 := va_us _ _ _
    have hmn : (W.addP r (nI m) y).mn r = va_up (W.mn r) (W.pn r) (nI m) := va_us _ _ _
    refine ⟨fun p hp2 => ?_, ?_⟩
    · rw [hp] at hp2
      rw [hmn]
      by_cases e : p = W.pn r
      · subst e; exact ⟨m, hm, hm2, va_us _ _ _⟩
      · rw [va_un _ _ e]; exact (o.1 r hr).1 p (by omega)
    · show q_cm ((W.addP r (nI m) y).mn r) ((W.addP r (nI m) y).pn r) ≤ 240
      rw [hp, hmn]
      show q_cm (va_up (W.mn r) (W.pn r) (nI m)) (W.pn r) + (va_up (W.mn r) (W.pn r) (nI m) (W.pn r)).toNatClampNeg ≤ 240
      rw [va_us, nI_clamp (by omega), q_cm_cong (m' := W.mn r) fun p hp => va_un _ _ (by omega)]
      exact hl
  · exact q_okS_cong (W := W) (s := r) (va_un _ _ e) (fun p _ => congrFun (va_un _ _ e) p) (o.1 r hr)
theorem q_okS_0 {W : q_W} {s : Nat} (h : W.pn s = 0) : W.okS s := ⟨fun p hp => by rw [h] at hp; exact absurd hp (Nat.not_lt_zero p), by show q_cm _ _ ≤ 240; rw [h]; exact Nat.zero_le _⟩
theorem q_ok0.clrP {W : q_W} (o : q_ok0 W) (s : Nat) : q_ok0 (W.clrP s) := by
  refine ⟨fun r hr => ?_, o.2⟩
  by_cases e : r = s
  · subst e; exact q_okS_0 (va_us _ _ _)
  · exact q_okS_cong (W := W) (s := r) (va_un _ _ e) (fun p _ => rfl) (o.1 r hr)
theorem q_ok0.addS {W : q_W} (o : q_ok0 W) (d : Nat) {p r : Nat} (hp : p < 40) (hr : r < 40) : q_ok0 ((W.addS d).sσ (q_mv W.σ p r)) := by
  refine ⟨fun x hx => ?_, q_mv_inj o.2 hp hr⟩
  by_cases e : x = W.σ W.c
  · subst e; exact q_okS_0 (va_us _ _ _)
  · exact q_okS_cong (W := W) (s := x) (va_un _ _ e) (fun p _ => rfl) (o.1 x hx)
theorem q_ok0.mvS {W : q_W} (o : q_ok0 W) {X : q_W} {p r : Nat} (hp : p < 40) (hr : r < 40) (e1 : X.σ = q_mv W.σ p r) (e2 : X.pn = W.pn) (e3 : X.mn = W.mn) : q_ok0 X := by
  refine ⟨fun s hs => ?_, by rw [e1]; exact q_mv_inj o.2 hp hr⟩
  unfold q_W.okS q_W.ml
  rw [e2, e3]; exact o.1 s hs
/-! taking back, saving, restoring -/
def q_O.back (O : q_O) : q_O := (((O.nx + 6 - 1) % 6, O.cn - 1), O.OB, (O.hs, O.SW), (O.ll, O.ln))
def q_O.savd (O : q_O) (Y : q_W) : q_O := ((O.nx, O.cn), O.OB, (1, Y), (O.ll, O.ln))
def q_O.rest (O : q_O) : q_O := ((O.nx, 0), O.OB, (O.hs, O.SW), (O.ll, O.ln))
theorem q_tookB {h g : q_Hp} {W : q_W} {O : q_O} (C : q_cl' h W O) (hcn : 1 ≤ O.cn) {W' : q_W} {h1 : q_Hp} (e1 : h1 = (h.setI 133 1 (nI ((O.nx + 6 - 1) % 6))).setI 133 2 (nI (O.cn - 1))) (c : q_cpd h1 g 2 W' W) : ∃ Y, q_eqv W' Y ∧ q_cl' g Y O.back ∧ q_fr h g ∧ q_tf h g 200 := by
  obtain ⟨c1, c2, c3, c4, c5, Y, y1, y2, y3⟩ := c
  have hn : ∀ p, p ≠ 133 → h1.I p = h.I p := fun p hp => by rw [e1, q_sIn _ _ _ hp, q_sIn _ _ _ hp]
  have hg : ∀ p, p < 2 ∨ 133 ≤ p → p ≠ 133 → g.I p = h.I p := fun p hp h2 => (c5 p (by omega)).trans (hn p h2)
  have hR : g.R = h.R := c1.trans (by rw [e1]; rfl)
  obtain ⟨V, o, ⟨a1, a2, a3, a4⟩, b, ⟨s1, s2, s3, s4⟩, d1, d2, d3⟩ := C
  refine ⟨Y, y2, ⟨y1, y3, ⟨?_, Nat.mod_lt _ (by decide), ?_, ?_⟩, fun j hj => ⟨(b j hj).1.cong (fun p h1 h2 => hg p (by omega) (by omega)) (congrFun hR _), (b j hj).2⟩, ⟨?_, s2, s3.cong (fun p h1 h2 => hg p (by omega) (by omega)) (congrFun hR _), s4⟩, ?_, d2, ?_⟩, ⟨fun p hp => hg p (by omega) (by omega), fun p _ => congrFun hR p, c2.trans (by rw [e1]; rfl), c3.trans (by rw [e1]; rfl), c4.trans (by rw [e1]; rfl)⟩, q_tf.of (hg _ (by omega) (by omega)) (hg _ (by omega) (by omega)) (hg _ (by omega) (by omega))⟩
  · rw [c5 133 (by omega), e1, q_sI, va_un _ _ (by decide), q_sI, va_us]; rfl
  · rw [c5 133 (by omega), e1, q_sI, va_us]; rfl
  · show O.cn - 1 ≤ 6; omega
  · rw [hg 1 (by omega) (by omega)]; exact s1
  · rw [hg 1 (by omega) (by omega)]; exact d1
  · rw [hg 1052 (by omega) (by omega)]; exact d3
theorem q_saved {h g : q_Hp} {W : q_W} {O : q_O} (C : q_cl' h W O) (c : q_cpd h g 921 W O.SW) : ∃ Y, q_eqv W Y ∧ q_ok0 Y ∧ q_cl' (g.setI 1 3 (nI 1)) W (O.savd Y) ∧ q_fr h (g.setI 1 3 (nI 1)) ∧ q_tf h (g.setI 1 3 (nI 1)) 200 := by
  obtain ⟨c1, c2, c3, c4, c5, Y, y1, y2, y3⟩ := c
  have hg : ∀ p, p < 921 ∨ 1052 ≤ p → p ≠ 1 → (g.setI 1 3 (nI 1)).I p = h.I p := fun p hp h2 => by rw [q_sIn _ _ _ h2]; exact c5 p (by omega)
  obtain ⟨V, o, ⟨a1, a2, a3, a4⟩, b, ⟨s1, s2, s3, s4⟩, d1, d2, d3⟩ := C
  refine ⟨Y, y2, y3, ⟨V.cong (fun p h1 h2 => hg p (by omega) (by omega)) (congrFun c1 _), o, ⟨?_, a2, ?_, a4⟩, fun j hj => ⟨(b j hj).1.cong (fun p h1 h2 => hg p (by omega) (by omega)) (congrFun c1 _), (b j hj).2⟩, ⟨?_, by show 1 ≤ 1; omega, y1.cong (fun p h1 h2 => q_sIn _ _ _ (by omega)) rfl, y3⟩, ?_, d2, ?_⟩, ⟨fun p hp => hg p (by omega) (by omega), fun p _ => congrFun c1 p, c2, c3, c4⟩, q_tf.of (hg _ (by omega) (by omega)) (hg _ (by omega) (by omega)) (hg _ (by omega) (by omega))⟩
  · rw [hg 133 (by omega) (by omega)]; exact a1
  · rw [hg 133 (by omega) (by omega)]; exact a3
  · rw [q_sI, va_us]; rfl
  · rw [q_sI, va_un _ _ (by decide), c5 1 (by omega)]; exact d1
  · rw [hg 1052 (by omega) (by omega)]; exact d3
theorem q_restd {h g : q_Hp} {W : q_W} {O : q_O} (C : q_cl' h W O) (c : q_cpd h g 2 O.SW W) : ∃ Y, q_eqv O.SW Y ∧ q_cl' (g.setI 133 2 (nI 0)) Y O.rest ∧ q_fr h (g.setI 133 2 (nI 0)) ∧ q_tf h (g.setI 133 2 (nI 0)) 200 := by
  obtain ⟨c1, c2, c3, c4, c5, Y, y1, y2, y3⟩ := c
  have hg : ∀ p, p < 2 ∨ 133 ≤ p → p ≠ 133 → (g.setI 133 2 (nI 0)).I p = h.I p := fun p hp h2 => by rw [q_sIn _ _ _ h2]; exact c5 p (by omega)
  obtain ⟨V, o, ⟨a1, a2, a3, a4⟩, b, ⟨s1, s2, s3, s4⟩, d1, d2, d3⟩ := C
  refine ⟨Y, y2, ⟨y1.cong (fun p h1 h2 => q_sIn _ _ _ (by omega)) rfl, y3, ⟨?_, a2, ?_, ?_⟩, fun j hj => ⟨(b j hj).1.cong (fun p h1 h2 => hg p (by omega) (by omega)) (congrFun c1 _), (b j hj).2⟩, ⟨?_, s2, s3.cong (fun p h1 h2 => hg p (by omega) (by omega)) (congrFun c1 _), s4⟩, ?_, d2, ?_⟩, ⟨fun p hp => hg p (by omega) (by omega), fun p _ => congrFun c1 p, c2, c3, c4⟩, q_tf.of (hg _ (by omega) (by omega)) (hg _ (by omega) (by omega)) (hg _ (by omega) (by omega))⟩
  · rw [q_sI, va_un _ _ (by decide), c5 133 (by omega)]; exact a1
  · rw [q_sI, va_us]; rfl
  · show 0 ≤ 6; omega
  · rw [hg 1 (by omega) (by omega)]; exact s1
  · rw [hg 1 (by omega) (by omega)]; exact d1
  · rw [hg 1052 (by omega) (by omega)]; exact d3
theorem g_X9_removeTest {Φ : q_Fx} {h : q_Hp} (K : q_Lk Φ h.R h.n) {W : q_W} {O : q_O} (C : q_clX h W O) (htd : q_td W) {x : Int32} : q_Ct Φ false yX9_removeTest cX9_removeTest mX9_removeTest [.ref 1, .int x] h (q_u1 h W O (q_ps (fun i => decide (W.d i = x)) W.n < 0) "java/util/NoSuchElementException" (fun v h' => v = some (.int (W.v (q_ps (fun i => decide (W.d i = x)) W.n).toNatClampNeg)) ∧ ∃ Y, q_eqv W Y ∧ q_ok0 Y ∧ q_mu h h' (W.sT (W.n - 1) (va_up W.d (q_ps (fun i => decide (W.d i = x)) W.n).toNatClampNeg (W.d (W.n - 1))) (va_up W.v (q_ps (fun i => decide (W.d i = x)) W.n).toNatClampNeg (W.v (W.n - 1)))) (O.kept Y) x.toNatClampNeg)) := by
  refine q_enter K.st rfl rfl (by decide) rfl (Nat.le_of_ble_eq_true rfl) (L := [_, _, none, none]) rfl ?_
  have C0 := C
  obtain ⟨k, hT⟩ := C.2
  have hk2 : k ≤ W.t + 1 := hT.2.1
  have V0 := C.1.1
  have V := C.1.1
  have ht9 := V.t9
  have hn10 := V.n10
  refine q_aload_n dX9_removeTest_0 rfl ?_
  refine fRX9_12 (o := some 2) dX9_removeTest_1 rfl (by decide) (K.le (by decide)) (K.lk rfl) ?_
  refine q_rfS ?_
  refine fRX9_87 (o := some 3) dX9_removeTest_4 rfl (by decide) (K.le (by decide)) (K.lk rfl) ?_
  refine q_rfS ?_
  refine q_iload_n dX9_removeTest_7 rfl ?_
  refine q_vD (kc := 1) (ks := 6) (g_X6_positionOn (h := h) K V (day := x)) wX6_positionOn kX9_96 iX6_positionOn eX6_positionOn rfl rfl (by decide) (K.le (by decide)) (by decide) rfl rfl (Nat.le_of_ble_eq_true rfl) dX9_removeTest_8 rfl rfl ?_
  refine q_istore_n (L' := [_, _, _, _]) dX9_removeTest_11 rfl (by decide) rfl ?_
  refine q_iload_n dX9_removeTest_12 rfl ?_
  refine q_if_ge (tgt := 26) dX9_removeTest_13 rfl (fun c1 => ?_) (fun c2 => ?_)
  · have ng : ¬ q_ps (fun i => decide (W.d i = x)) W.n < 0 := Int32.not_lt.mpr (by assumption)
    obtain ⟨i, hi, hpi, hfi, e, -⟩ := q_ps_pos (by omega) ng
    obtain ⟨dn, hdn, edn⟩ := htd i hi
    obtain rfl : x = nI dn := by rw [← edn]; exact (of_decide_eq_true hpi).symm
    rw [e, nI_clamp (show i < 2 ^ 31 by omega), nI_clamp (show dn < 2 ^ 31 by omega)]
    rw [e] at ng
    refine q_aload_n dX9_removeTest_26 rfl ?_
    refine fRX9_19 (o := some 133) dX9_removeTest_27 rfl (by decide) (K.le (by decide)) (K.lk rfl) ?_
    refine q_rfS ?_
    refine q_aload_n dX9_removeTest_30 rfl ?_
    refine fRX9_12 (o := some 2) dX9_removeTest_31 rfl (by decide) (K.le (by decide)) (K.lk rfl) ?_
    refine q_rfS ?_
    refine q_vR (kc := 1) (ks := 6) (g_X1_keep (h := h) K C.1) wX1_keep kX9_79 iX1_keep eX1_keep rfl rfl (by decide) (K.le (by decide)) (by decide) rfl rfl (Nat.le_of_ble_eq_true rfl) dX9_removeTest_34 rfl rfl ?_
    rintro v h1 ⟨rfl, Y, y1, y2, C1, F1⟩
    have K := K.fr F1.fr
    have V := C1.1
    have hk1 : h1.I 1053 2 = nI k := (congrFun (F1.2.2.2.2 _ (by omega)) _).trans hT.1
    refine q_aload_n dX9_removeTest_37 rfl ?_
    refine fRX9_12 (o := some 2) dX9_removeTest_38 rfl (by decide) (K.le (by decide)) (K.lk rfl) ?_
    refine q_rfS ?_
    refine fRX9_87 (o := some 3) dX9_removeTest_41 rfl (by decide) (K.le (by decide)) (K.lk rfl) ?_
    refine q_rfS ?_
    refine fRX9_122 (o := some 5) dX9_removeTest_44 rfl (by decide) (K.le (by decide)) (K.lk rfl) ?_
    refine q_rfS ?_
    refine q_iload_n dX9_removeTest_47 rfl ?_
    refine q_ialdN (len := 10) rfl dX9_removeTest_48 (by decide) (K.le (by decide)) rfl (by omega) (by decide) ?_
    refine q_tv (show _ = (W.v (i)) from (congrFun V.v _)) ?_
    refine q_istore_n (L' := [_, _, _, _]) dX9_removeTest_49 rfl (by decide) rfl ?_
    refine q_aload_n dX9_removeTest_50 rfl ?_
    refine fRX9_12 (o := some 2) dX9_removeTest_51 rfl (by decide) (K.le (by decide)) (K.lk rfl) ?_
    refine q_rfS ?_
    refine fRX9_87 (o := some 3) dX9_removeTest_54 rfl (by decide) (K.le (by decide)) (K.lk rfl) ?_
    refine q_rfS ?_
    refine q_iload_n dX9_removeTest_57 rfl ?_
    refine q_vD (kc := 1) (ks := 6) (g_X6_removeAt (h := h1) K V (i := i) (by omega)) wX6_removeAt kX9_125 iX6_removeAt eX6_removeAt rfl rfl (by decide) (K.le (by decide)) (by decide) rfl rfl (Nat.le_of_ble_eq_true rfl) dX9_removeTest_58 rfl rfl ?_
    have V := q_vw.remT (h := h1) V (i := i)
    have F2 : q_st h1 (((h1.setI 3 2 (nI (W.n - 1))).setI 4 i (W.d (W.n - 1))).setI 5 i (W.v (W.n - 1))) := ((q_st.rf.set (by omega) (by omega)).set (by omega) (by omega)).set (by omega) (by omega)
    have K := q_Lk.fr (h := h1) K F2.fr
    obtain ⟨h2, e2⟩ : ∃ z, z = (((h1.setI 3 2 (nI (W.n - 1))).setI 4 i (W.d (W.n - 1))).setI 5 i (W.v (W.n - 1))) := ⟨_, rfl⟩
    rw [← e2] at V F2 K ⊢
    have hk2t : h2.I 1053 2 = nI k := (congrFun (F2.1 _ (by omega)) _).trans hk1
    refine q_aload_n dX9_removeTest_61 rfl ?_
    refine fRX9_41 (o := some 1053) dX9_removeTest_62 rfl (by decide) (K.le (by decide)) (K.lk rfl) ?_
    refine q_rfS ?_
    refine q_iload_n dX9_removeTest_65 rfl ?_
    refine q_vD (kc := 1) (ks := 6) (g_X7_forgetFrom (h := h2) K (k := k) (d := dn) hk2t (by omega) (by omega)) wX7_forgetFrom kX9_110 iX7_forgetFrom eX7_forgetFrom rfl rfl (by decide) (K.le (by decide)) (by decide) rfl rfl (Nat.le_of_ble_eq_true rfl) dX9_removeTest_66 rfl rfl ?_
    refine q_iload_n dX9_removeTest_69 rfl ?_
    refine q_iret dX9_removeTest_70 rfl (Or.inl rfl) ?_
    exact Or.inr ⟨ng, _, rfl, rfl, Y, y1, y2, q_mu.fg (q_mu.mk C1 F1 F2 V (q_ok0_pn rfl rfl rfl C1.2.1)) hT (by omega)⟩
  · refine q_throw13 (text := "there is no test on this day") tw_117_121 (by decide) rfl ?_ dX9_removeTest_16 dX9_removeTest_19 dX9_removeTest_20 dX9_removeTest_22 dX9_removeTest_25 (by decide) (by decide) (by decide) (by decide)
    exact Or.inl ⟨Int32.not_le.mp (by assumption), rfl, q_rd.rf C⟩
theorem g_X9_setBound {Φ : q_Fx} {h : q_Hp} (K : q_Lk Φ h.R h.n) {W : q_W} {O : q_O} (C : q_clX h W O) {z x : Int32} : q_Ct Φ false yX9_setBound cX9_setBound mX9_setBound [.ref 1, .int z, .int x] h (q_u2 h W O (¬ (nI 2 ≤ z ∧ z ≤ nI 5) ∨ ¬ (nI 1 ≤ x ∧ x ≤ nI 300)) "java/lang/IllegalArgumentException" (¬ ((z.toNatClampNeg = 2 ∨ W.bd (z.toNatClampNeg - 1) < x) ∧ (z.toNatClampNeg = 5 ∨ x < W.bd (z.toNatClampNeg + 1)))) "java/lang/IllegalStateException" (fun v h' => v = some (.int (W.bd z.toNatClampNeg)) ∧ ∃ Y, q_eqv W Y ∧ q_ok0 Y ∧ q_mu h h' (W.sZ (va_up W.bd z.toNatClampNeg x) W.wt) (O.kept Y) 0)) := by
  refine q_enter K.st rfl rfl (by decide) rfl (Nat.le_of_ble_eq_true rfl) (L := [_, _, _, none]) rfl ?_
  have C0 := C
  obtain ⟨k, hT⟩ := C.2
  have hk2 : k ≤ W.t + 1 := hT.2.1
  have V0 := C.1.1
  have V := C.1.1
  have ht9 := V.t9
  refine q_iload_n dX9_setBound_0 rfl ?_
  refine q_iconst (v := nI 2) dX9_setBound_1 (by decide) ?_
  refine q_iconst (v := nI 5) dX9_setBound_2 (by decide) ?_
  refine q_sT (kc := 2) (ks := 12) (g_X9_requireRange (h := h) K (v := z) (lo := (nI (2))) (hi := (nI (5)))) wX9_requireRange kX9_65 sX9_requireRange (by decide) rfl rfl (Nat.le_of_ble_eq_true rfl) dX9_setBound_3 rfl rfl rfl (fun c1 => by exact Or.inl ⟨Or.inl c1, rfl, q_rd.rf C⟩) (fun c2 => ?_)
  have n3 := c2
  obtain ⟨j, hj1, hj2, rfl⟩ := q_rng n3 (by omega) (by omega)
  try rw [nI_clamp (show j < 2 ^ 31 by omega)]
  refine q_iload_n dX9_setBound_6 rfl ?_
  refine q_iconst (v := nI 1) dX9_setBound_7 (by decide) ?_
  refine q_sipush (v := nI 300) dX9_setBound_8 (by decide) ?_
  refine q_sT (kc := 1) (ks := 6) (g_X9_requireRange (h := h) K (v := x) (lo := (nI (1))) (hi := (nI (300)))) wX9_requireRange kX9_65 sX9_requireRange (by decide) rfl rfl (Nat.le_of_ble_eq_true rfl) dX9_setBound_11 rfl rfl rfl (fun c3 => by exact Or.inl ⟨Or.inr c3, rfl, q_rd.rf C⟩) (fun c4 => ?_)
  have n11 := c4
  refine q_aload_n dX9_setBound_14 rfl ?_
  refine fRX9_12 (o := some 2) dX9_setBound_15 rfl (by decide) (K.le (by decide)) (K.lk rfl) ?_
  refine q_rfS ?_
  refine fRX9_131 (o := some 6) dX9_setBound_18 rfl (by decide) (K.le (by decide)) (K.lk rfl) ?_
  refine q_rfS ?_
  refine q_iload_n dX9_setBound_21 rfl ?_
  refine q_iload_n dX9_setBound_22 rfl ?_
  refine q_vD (kc := 1) (ks := 6) (g_X8_boundsWouldIncrease (h := h) K V (z := j) (x := x) (by omega) (by omega)) wX8_boundsWouldIncrease kX9_135 iX8_boundsWouldIncrease eX8_boundsWouldIncrease rfl rfl (by decide) (K.le (by decide)) (by decide) rfl rfl (Nat.le_of_ble_eq_true rfl) dX9_setBound_23 rfl rfl ?_
  refine q_spl (fun c5 => ?_) (fun c6 => ?_)
  · refine q_if_ne (tgt := 39) dX9_setBound_26 rfl (fun _ => ?_) (fun c => absurd c (by decide))
    refine q_aload_n dX9_setBound_39 rfl ?_
    refine fRX9_19 (o := some 133) dX9_setBound_40 rfl (by decide) (K.le (by decide)) (K.lk rfl) ?_
    refine q_rfS ?_
    refine q_aload_n dX9_setBound_43 rfl ?_
    refine fRX9_12 (o := some 2) dX9_setBound_44 rfl (by decide) (K.le (by decide)) (K.lk rfl) ?_
    refine q_rfS ?_
    refine q_vR (kc := 1) (ks := 6) (g_X1_keep (h := h) K C.1) wX1_keep kX9_79 iX1_keep eX1_keep rfl rfl (by decide) (K.le (by decide)) (by decide) rfl rfl (Nat.le_of_ble_eq_true rfl) dX9_setBound_47 rfl rfl ?_
    rintro v h1 ⟨rfl, Y, y1, y2, C1, F1⟩
    have K := K.fr F1.fr
    have V := C1.1
    have hk1 : h1.I 1053 2 = nI k := (congrFun (F1.2.2.2.2 _ (by omega)) _).trans hT.1
    refine q_aload_n dX9_setBound_50 rfl ?_
    refine fRX9_12 (o := some 2) dX9_setBound_51 rfl (by decide) (K.le (by decide)) (K.lk rfl) ?_
    refine q_rfS ?_
    refine fRX9_131 (o := some 6) dX9_setBound_54 rfl (by decide) (K.le (by decide)) (K.lk rfl) ?_
    refine q_rfS ?_
    refine fRX9_143 (o := some 7) dX9_setBound_57 rfl (by decide) (K.le (by decide)) (K.lk rfl) ?_
    refine q_rfS ?_
    refine q_iload_n dX9_setBound_60 rfl ?_
    refine q_ialdN (len := 6) rfl dX9_setBound_61 (by decide) (K.le (by decide)) rfl (by omega) (by decide) ?_
    refine q_tv (show _ = (W.bd (j)) from (congrFun V.bd _)) ?_
    refine q_istore_n (L' := [_, _, _, _]) dX9_setBound_62 rfl (by decide) rfl ?_
    refine q_aload_n dX9_setBound_63 rfl ?_
    refine fRX9_12 (o := some 2) dX9_setBound_64 rfl (by decide) (K.le (by decide)) (K.lk rfl) ?_
    refine q_rfS ?_
    refine fRX9_131 (o := some 6) dX9_setBound_67 rfl (by decide) (K.le (by decide)) (K.lk rfl) ?_
    refine q_rfS ?_
    refine fRX9_143 (o := some 7) dX9_setBound_70 rfl (by decide) (K.le (by decide)) (K.lk rfl) ?_
    refine q_rfS ?_
    refine q_iload_n dX9_setBound_73 rfl ?_
    refine q_iload_n dX9_setBound_74 rfl ?_
    refine q_iastN (len := 6) rfl dX9_setBound_75 (by decide) (K.le (by decide)) rfl (by omega) (by decide) ?_
    have V := V.bnd (z := j) (x := x)
    have F2 : q_st h1 (h1.setI 7 j x) := q_st.rf.set (by omega) (by omega)
    have K := q_Lk.fr (h := h1) K F2.fr
    obtain ⟨h2, e2⟩ : ∃ z, z = (h1.setI 7 j x) := ⟨_, rfl⟩
    rw [← e2] at V F2 K ⊢
    have hk2t : h2.I 1053 2 = nI k := (congrFun (F2.1 _ (by omega)) _).trans hk1
    refine q_aload_n dX9_setBound_76 rfl ?_
    refine fRX9_41 (o := some 1053) dX9_setBound_77 rfl (by decide) (K.le (by decide)) (K.lk rfl) ?_
    refine q_rfS ?_
    refine q_iconst (v := nI 0) dX9_setBound_80 (by decide) ?_
    refine q_vD (kc := 1) (ks := 6) (g_X7_forgetFrom (h := h2) K (k := k) (d := 0) hk2t (by omega) (by omega)) wX7_forgetFrom kX9_110 iX7_forgetFrom eX7_forgetFrom rfl rfl (by decide) (K.le (by decide)) (by decide) rfl rfl (Nat.le_of_ble_eq_true rfl) dX9_setBound_81 rfl rfl ?_
    refine q_iload_n dX9_setBound_84 rfl ?_
    refine q_iret dX9_setBound_85 rfl (Or.inl rfl) ?_
    exact Or.inr (Or.inr ⟨q_no2 n3 n11, (fun c => c (by assumption)), _, rfl, rfl, Y, y1, y2, q_mu.fg (q_mu.mk C1 F1 F2 V (q_ok0_pn rfl rfl rfl C1.2.1)) hT (by omega)⟩)
  · refine q_if_ne (tgt := 39) dX9_setBound_26 rfl (fun c => absurd (by decide) c) (fun _ => ?_)
    refine q_throw (text := "the bounds would not increase") tw_72_76 (by decide) rfl ?_ dX9_setBound_29 dX9_setBound_32 dX9_setBound_33 dX9_setBound_35 dX9_setBound_38 (by decide) (by decide) (by decide) (by decide)
    exact Or.inr (Or.inl ⟨q_no2 n3 n11, by assumption, rfl, q_rd.rf C⟩)
theorem g_X9_setWeight {Φ : q_Fx} {h : q_Hp} (K : q_Lk Φ h.R h.n) {W : q_W} {O : q_O} (C : q_clX h W O) {z x : Int32} : q_Ct Φ false yX9_setWeight cX9_setWeight mX9_setWeight [.ref 1, .int z, .int x] h (q_u1 h W O (¬ (nI 1 ≤ z ∧ z ≤ nI 5) ∨ ¬ (nI 0 ≤ x ∧ x ≤ nI 100)) "java/lang/IllegalArgumentException" (fun v h' => v = some (.int (W.wt z.toNatClampNeg)) ∧ ∃ Y, q_eqv W Y ∧ q_ok0 Y ∧ q_mu h h' (W.sZ W.bd (va_up W.wt z.toNatClampNeg x)) (O.kept Y) 0)) := by
  refine q_enter K.st rfl rfl (by decide) rfl (Nat.le_of_ble_eq_true rfl) (L := [_, _, _, none]) rfl ?_
  have C0 := C
  obtain ⟨k, hT⟩ := C.2
  have hk2 : k ≤ W.t + 1 := hT.2.1
  have V0 := C.1.1
  have V := C.1.1
  have ht9 := V.t9
  refine q_iload_n dX9_setWeight_0 rfl ?_
  refine q_sT (kc := 1) (ks := 6) (g_X9_requireZone (h := h) K (z := z)) wX9_requireZone kX9_146 sX9_requireZone (by decide) rfl rfl (Nat.le_of_ble_eq_true rfl) dX9_setWeight_1 rfl rfl rfl (fun c1 => by exact Or.inl ⟨Or.inl c1, rfl, q_rd.rf C⟩) (fun c2 => ?_)
  have n1 := c2
  obtain ⟨j, hj1, hj2, rfl⟩ := q_rng n1 (by omega) (by omega)
  try rw [nI_clamp (show j < 2 ^ 31 by omega)]
  refine q_iload_n dX9_setWeight_4 rfl ?_
  refine q_iconst (v := nI 0) dX9_setWeight_5 (by decide) ?_
  refine q_bipush (v := nI 100) dX9_setWeight_6 (by decide) ?_
  refine q_sT (kc := 0) (ks := 0) (g_X9_requireRange (h := h) K (v := x) (lo := (nI (0))) (hi := (nI (100)))) wX9_requireRange kX9_65 sX9_requireRange (by decide) rfl rfl (Nat.le_of_ble_eq_true rfl) dX9_setWeight_8 rfl rfl rfl (fun c3 => by exact Or.inl ⟨Or.inr c3, rfl, q_rd.rf C⟩) (fun c4 => ?_)
  have n8 := c4
  refine q_aload_n dX9_setWeight_11 rfl ?_
  refine fRX9_19 (o := some 133) dX9_setWeight_12 rfl (by decide) (K.le (by decide)) (K.lk rfl) ?_
  refine q_rfS ?_
  refine q_aload_n dX9_setWeight_15 rfl ?_
  refine fRX9_12 (o := some 2) dX9_setWeight_16 rfl (by decide) (K.le (by decide)) (K.lk rfl) ?_
  refine q_rfS ?_
  refine q_vR (kc := 0) (ks := 0) (g_X1_keep (h := h) K C.1) wX1_keep kX9_79 iX1_keep eX1_keep rfl rfl (by decide) (K.le (by decide)) (by decide) rfl rfl (Nat.le_of_ble_eq_true rfl) dX9_setWeight_19 rfl rfl ?_
  rintro v h1 ⟨rfl, Y, y1, y2, C1, F1⟩
  have K := K.fr F1.fr
  have V := C1.1
  have hk1 : h1.I 1053 2 = nI k := (congrFun (F1.2.2.2.2 _ (by omega)) _).trans hT.1
  refine q_aload_n dX9_setWeight_22 rfl ?_
  refine fRX9_12 (o := some 2) dX9_setWeight_23 rfl (by decide) (K.le (by decide)) (K.lk rfl) ?_
  refine q_rfS ?_
  refine fRX9_131 (o := some 6) dX9_setWeight_26 rfl (by decide) (K.le (by decide)) (K.lk rfl) ?_
  refine q_rfS ?_
  refine fRX9_149 (o := some 8) dX9_setWeight_29 rfl (by decide) (K.le (by decide)) (K.lk rfl) ?_
  refine q_rfS ?_
  refine q_iload_n dX9_setWeight_32 rfl ?_
  refine q_ialdN (len := 6) rfl dX9_setWeight_33 (by decide) (K.le (by decide)) rfl (by omega) (by decide) ?_
  refine q_tv (show _ = (W.wt (j)) from (congrFun V.wt _)) ?_
  refine q_istore_n (L' := [_, _, _, _]) dX9_setWeight_34 rfl (by decide) rfl ?_
  refine q_aload_n dX9_setWeight_35 rfl ?_
  refine fRX9_12 (o := some 2) dX9_setWeight_36 rfl (by decide) (K.le (by decide)) (K.lk rfl) ?_
  refine q_rfS ?_
  refine fRX9_131 (o := some 6) dX9_setWeight_39 rfl (by decide) (K.le (by decide)) (K.lk rfl) ?_
  refine q_rfS ?_
  refine fRX9_149 (o := some 8) dX9_setWeight_42 rfl (by decide) (K.le (by decide)) (K.lk rfl) ?_
  refine q_rfS ?_
  refine q_iload_n dX9_setWeight_45 rfl ?_
  refine q_iload_n dX9_setWeight_46 rfl ?_
  refine q_iastN (len := 6) rfl dX9_setWeight_47 (by decide) (K.le (by decide)) rfl (by omega) (by decide) ?_
  have V := V.wgt (z := j) (x := x)
  have F2 : q_st h1 (h1.setI 8 j x) := q_st.rf.set (by omega) (by omega)
  have K := q_Lk.fr (h := h1) K F2.fr
  obtain ⟨h2, e2⟩ : ∃ z, z = (h1.setI 8 j x) := ⟨_, rfl⟩
  rw [← e2] at V F2 K ⊢
  have hk2t : h2.I 1053 2 = nI k := (congrFun (F2.1 _ (by omega)) _).trans hk1
  refine q_aload_n dX9_setWeight_48 rfl ?_
  refine fRX9_41 (o := some 1053) dX9_setWeight_49 rfl (by decide) (K.le (by decide)) (K.lk rfl) ?_
  refine q_rfS ?_
  refine q_iconst (v := nI 0) dX9_setWeight_52 (by decide) ?_
  refine q_vD (kc := 0) (ks := 0) (g_X7_forgetFrom (h := h2) K (k := k) (d := 0) hk2t (by omega) (by omega)) wX7_forgetFrom kX9_110 iX7_forgetFrom eX7_forgetFrom rfl rfl (by decide) (K.le (by decide)) (by decide) rfl rfl (Nat.le_of_ble_eq_true rfl) dX9_setWeight_53 rfl rfl ?_
  refine q_iload_n dX9_setWeight_56 rfl ?_
  refine q_iret dX9_setWeight_57 rfl (Or.inl rfl) ?_
  exact Or.inr ⟨q_no2 n1 n8, _, rfl, rfl, Y, y1, y2, q_mu.fg (q_mu.mk C1 F1 F2 V (q_ok0_pn rfl rfl rfl C1.2.1)) hT (by omega)⟩
theorem g_X9_addSession {Φ : q_Fx} {h : q_Hp} (K : q_Lk Φ h.R h.n) {W : q_W} {O : q_O} (C : q_clX h W O) {d : Int32} : q_Ct Φ false yX9_addSession cX9_addSession mX9_addSession [.ref 1, .int d] h (q_u2 h W O (¬ (nI 0 ≤ d ∧ d ≤ nI W.t)) "java/lang/IllegalArgumentException" (W.c = 40) "java/lang/IllegalStateException" (fun v h' => v = some (.int W.nx) ∧ ∃ Y r, q_eqv W Y ∧ q_ok0 Y ∧ q_sd (W.addS d.toNatClampNeg) W.c r ∧ q_mu h h' ((W.addS d.toNatClampNeg).sσ (q_mv W.σ W.c r)) (O.kept Y) 200)) := by
  refine q_enter K.st rfl rfl (by decide) rfl (Nat.le_of_ble_eq_true rfl) (L := [_, _]) rfl ?_
  have C0 := C
  obtain ⟨k, hT⟩ := C.2
  have hk2 : k ≤ W.t + 1 := hT.2.1
  have V0 := C.1.1
  have V := C.1.1
  have ht9 := V.t9
  have hc40 := V.c40
  refine q_aload_n dX9_addSession_0 rfl ?_
  refine q_iload_n dX9_addSession_1 rfl ?_
  refine q_vT (kc := 1) (ks := 6) (g_X9_requireDayUpToToday (h := h) K V (d := d)) wX9_requireDayUpToToday kX9_83 iX9_requireDayUpToToday eX9_requireDayUpToToday rfl rfl (by decide) (K.le (by decide)) (by decide) rfl rfl (Nat.le_of_ble_eq_true rfl) dX9_addSession_2 rfl rfl rfl (fun c1 => by exact Or.inl ⟨c1, rfl, q_rd.rf C⟩) (fun c2 => ?_)
  have n2 := c2
  obtain ⟨j, hj1, hj2, rfl⟩ := q_rng n2 (by omega) (by omega)
  try rw [nI_clamp (show j < 2 ^ 31 by omega)]
  refine q_aload_n dX9_addSession_5 rfl ?_
  refine fRX9_12 (o := some 2) dX9_addSession_6 rfl (by decide) (K.le (by decide)) (K.lk rfl) ?_
  refine q_rfS ?_
  refine fRX9_156 (o := some 9) dX9_addSession_9 rfl (by decide) (K.le (by decide)) (K.lk rfl) ?_
  refine q_rfS ?_
  refine fIX9_160 dX9_addSession_12 rfl (by decide) (K.le (by decide)) ?_
  refine q_tv (show _ = (nI (W.c)) from V.c) ?_
  refine q_bipush (v := nI 40) dX9_addSession_15 (by decide) ?_
  refine q_icmp_ltN (by omega) (by omega) (tgt := 30) dX9_addSession_17 rfl (fun c3 => ?_) (fun c4 => ?_)
  · refine q_aload_n dX9_addSession_30 rfl ?_
    refine fRX9_19 (o := some 133) dX9_addSession_31 rfl (by decide) (K.le (by decide)) (K.lk rfl) ?_
    refine q_rfS ?_
    refine q_aload_n dX9_addSession_34 rfl ?_
    refine fRX9_12 (o := some 2) dX9_addSession_35 rfl (by decide) (K.le (by decide)) (K.lk rfl) ?_
    refine q_rfS ?_
    refine q_vR (kc := 1) (ks := 6) (g_X1_keep (h := h) K C.1) wX1_keep kX9_79 iX1_keep eX1_keep rfl rfl (by decide) (K.le (by decide)) (by decide) rfl rfl (Nat.le_of_ble_eq_true rfl) dX9_addSession_38 rfl rfl ?_
    rintro v h1 ⟨rfl, Y, y1, y2, C1, F1⟩
    have K := K.fr F1.fr
    have V := C1.1
    have hk1 : h1.I 1053 2 = nI k := (congrFun (F1.2.2.2.2 _ (by omega)) _).trans hT.1
    refine q_aload_n dX9_addSession_41 rfl ?_
    refine fRX9_12 (o := some 2) dX9_addSession_42 rfl (by decide) (K.le (by decide)) (K.lk rfl) ?_
    refine q_rfS ?_
    refine fRX9_156 (o := some 9) dX9_addSession_45 rfl (by decide) (K.le (by decide)) (K.lk rfl) ?_
    refine q_rfS ?_
    refine q_iload_n dX9_addSession_48 rfl ?_
    refine q_vR (kc := 1) (ks := 6) (g_X4_add (h := h1) K V (by omega) (d := j) (by omega)) wX4_add kX9_165 iX4_add eX4_add rfl rfl (by decide) (K.le (by decide)) (by decide) rfl rfl (Nat.le_of_ble_eq_true rfl) dX9_addSession_49 rfl rfl ?_
    rintro v h2 ⟨rfl, r, sd, V2, F2⟩
    refine q_iret dX9_addSession_52 rfl (Or.inl rfl) ?_
    have hr : r < W.c + 1 := sd.1
    exact Or.inr (Or.inr ⟨n2, by omega, _, rfl, rfl, Y, r, y1, y2, sd, q_mu.mk C1 F1 F2 V2 (q_ok0.addS C1.2.1 j (by omega) (by omega))⟩)
  · refine q_throw (text := "no further session is possible") tw_72_76 (by decide) rfl ?_ dX9_addSession_20 dX9_addSession_23 dX9_addSession_24 dX9_addSession_26 dX9_addSession_29 (by decide) (by decide) (by decide) (by decide)
    exact Or.inr (Or.inl ⟨n2, by omega, rfl, q_rd.rf C⟩)
theorem g_X9_addPart {Φ : q_Fx} {h : q_Hp} (K : q_Lk Φ h.R h.n) {W : q_W} {O : q_O} (C : q_clX h W O) {x m y : Int32} : q_Ct Φ false yX9_addPart cX9_addPart mX9_addPart [.ref 1, .int x, .int m, .int y] h (q_u3 h W O (W.no x) "java/util/NoSuchElementException" (¬ (nI 1 ≤ m ∧ m ≤ nI 120) ∨ ¬ (nI 0 ≤ y ∧ y ≤ nI 500)) "java/lang/IllegalArgumentException" (W.pn (W.σ (W.at_ x)) = 8 ∨ nI 240 < W.len (W.σ (W.at_ x)) + m) "java/lang/IllegalStateException" (fun v h' => v = some (.int (nI (W.pn (W.σ (W.at_ x)) + 1))) ∧ ∃ Y, q_eqv W Y ∧ q_ok0 Y ∧ q_mu h h' (W.addP (W.σ (W.at_ x)) m y) (O.kept Y) (W.dy (W.σ (W.at_ x))))) := by
  refine q_enter K.st rfl rfl (by decide) rfl (Nat.le_of_ble_eq_true rfl) (L := [_, _, _, _, none]) rfl ?_
  have C0 := C
  obtain ⟨k, hT⟩ := C.2
  have hk2 : k ≤ W.t + 1 := hT.2.1
  have V0 := C.1.1
  have V := C.1.1
  have ht9 := V.t9
  refine q_aload_n dX9_addPart_0 rfl ?_
  refine q_iload_n dX9_addPart_1 rfl ?_
  refine q_vT (kc := 3) (ks := 18) (g_X9_existingSession (h := h) K V (x := x)) wX9_existingSession kX9_168 iX9_existingSession eX9_existingSession rfl rfl (by decide) (K.le (by decide)) (by decide) rfl rfl (Nat.le_of_ble_eq_true rfl) dX9_addPart_2 rfl rfl rfl (fun c1 => by exact Or.inl ⟨c1, rfl, q_rd.rf C⟩) (fun c2 => ?_)
  have n2 := c2
  have hat := V.at_ c2
  have hc40 := V.c40
  have hs40 := V.s40 (i := W.at_ x) (by omega)
  refine q_astore (L' := [_, _, _, _, _]) dX9_addPart_5 rfl (by decide) rfl ?_
  refine q_iload_n dX9_addPart_7 rfl ?_
  refine q_iconst (v := nI 1) dX9_addPart_8 (by decide) ?_
  refine q_bipush (v := nI 120) dX9_addPart_9 (by decide) ?_
  refine q_sT (kc := 2) (ks := 12) (g_X9_requireRange (h := h) K (v := m) (lo := (nI (1))) (hi := (nI (120)))) wX9_requireRange kX9_65 sX9_requireRange (by decide) rfl rfl (Nat.le_of_ble_eq_true rfl) dX9_addPart_11 rfl rfl rfl (fun c3 => by exact Or.inr (Or.inl ⟨n2, Or.inl c3, rfl, q_rd.rf C⟩)) (fun c4 => ?_)
  have n11 := c4
  refine q_iload_n dX9_addPart_14 rfl ?_
  refine q_iconst (v := nI 0) dX9_addPart_15 (by decide) ?_
  refine q_sipush (v := nI 500) dX9_addPart_16 (by decide) ?_
  refine q_sT (kc := 1) (ks := 6) (g_X9_requireRange (h := h) K (v := y) (lo := (nI (0))) (hi := (nI (500)))) wX9_requireRange kX9_65 sX9_requireRange (by decide) rfl rfl (Nat.le_of_ble_eq_true rfl) dX9_addPart_19 rfl rfl rfl (fun c5 => by exact Or.inr (Or.inl ⟨n2, Or.inr c5, rfl, q_rd.rf C⟩)) (fun c6 => ?_)
  have n19 := c6
  have hp8 := V.pn8 hs40
  refine q_aload dX9_addPart_22 rfl ?_
  refine fIX9_172 dX9_addPart_24 (q_ts (V.s40 (i := (W.at_ x)) (by omega))) (by omega) (K.le (q_bs (V.s40 (i := (W.at_ x)) (by omega)))) ?_
  refine q_tv (show _ = (nI (W.pn (W.σ (W.at_ x)))) from (V.pn (V.s40 (i := (W.at_ x)) (by omega)))) ?_
  refine q_bipush (v := nI 8) dX9_addPart_27 (by decide) ?_
  refine q_icmp_geN (by omega) (by omega) (tgt := 45) dX9_addPart_29 rfl (fun c7 => ?_) (fun c8 => ?_)
  · refine q_throw (text := "the session has no room for this part") tw_72_76 (by decide) rfl ?_ dX9_addPart_45 dX9_addPart_48 dX9_addPart_49 dX9_addPart_51 dX9_addPart_54 (by decide) (by decide) (by decide) (by decide)
    exact Or.inr (Or.inr (Or.inl ⟨n2, q_no2 n11 n19, by first | exact Or.inl (by omega) | exact Or.inr (Int32.not_le.mp (by assumption)), rfl, q_rd.rf C⟩))
  · refine q_aload dX9_addPart_32 rfl ?_
    refine q_vD (kc := 1) (ks := 6) (g_X3_length (h := h) K V (V.s40 (i := (W.at_ x)) (by omega))) wX3_length kX9_177 iX3_length eX3_length (q_ts (V.s40 (i := (W.at_ x)) (by omega))) rfl (by omega) (K.le (q_bs (V.s40 (i := (W.at_ x)) (by omega)))) (by decide) rfl rfl (Nat.le_of_ble_eq_true rfl) dX9_addPart_34 rfl rfl ?_
    refine q_iload_n dX9_addPart_37 rfl ?_
    refine q_iadd dX9_addPart_38 ?_
    refine q_sipush (v := nI 240) dX9_addPart_39 (by decide) ?_
    refine q_icmp_le (tgt := 55) dX9_addPart_42 rfl (fun c9 => ?_) (fun c10 => ?_)
    · refine q_aload_n dX9_addPart_55 rfl ?_
      refine fRX9_19 (o := some 133) dX9_addPart_56 rfl (by decide) (K.le (by decide)) (K.lk rfl) ?_
      refine q_rfS ?_
      refine q_aload_n dX9_addPart_59 rfl ?_
      refine fRX9_12 (o := some 2) dX9_addPart_60 rfl (by decide) (K.le (by decide)) (K.lk rfl) ?_
      refine q_rfS ?_
      refine q_vR (kc := 1) (ks := 6) (g_X1_keep (h := h) K C.1) wX1_keep kX9_79 iX1_keep eX1_keep rfl rfl (by decide) (K.le (by decide)) (by decide) rfl rfl (Nat.le_of_ble_eq_true rfl) dX9_addPart_63 rfl rfl ?_
      rintro v h1 ⟨rfl, Y, y1, y2, C1, F1⟩
      have K := K.fr F1.fr
      have V := C1.1
      have hk1 : h1.I 1053 2 = nI k := (congrFun (F1.2.2.2.2 _ (by omega)) _).trans hT.1
      refine q_aload dX9_addPart_66 rfl ?_
      refine q_iload_n dX9_addPart_68 rfl ?_
      refine q_iload_n dX9_addPart_69 rfl ?_
      refine q_vD (kc := 1) (ks := 6) (g_X3_append (h := h1) K V hs40 (by omega) (x := m) (y := y)) wX3_append kX9_183 iX3_append eX3_append (q_ts (V.s40 (i := (W.at_ x)) (by omega))) rfl (by omega) (K.le (q_bs (V.s40 (i := (W.at_ x)) (by omega)))) (by decide) rfl rfl (Nat.le_of_ble_eq_true rfl) dX9_addPart_70 rfl rfl ?_
      have V := V.addP (x := m) (y := y) hs40 (by omega)
      have F2 : q_st h1 (((h1.setI (12 + 3 * (W.σ (W.at_ x))) (W.pn (W.σ (W.at_ x))) m).setI (13 + 3 * (W.σ (W.at_ x))) (W.pn (W.σ (W.at_ x))) y).setI (11 + 3 * (W.σ (W.at_ x))) 2 (nI (W.pn (W.σ (W.at_ x)) + 1))) := ((q_st.rf.set (by omega) (by omega)).set (by omega) (by omega)).set (by omega) (by omega)
      have K := q_Lk.fr (h := h1) K F2.fr
      obtain ⟨h2, e2⟩ : ∃ z, z = (((h1.setI (12 + 3 * (W.σ (W.at_ x))) (W.pn (W.σ (W.at_ x))) m).setI (13 + 3 * (W.σ (W.at_ x))) (W.pn (W.σ (W.at_ x))) y).setI (11 + 3 * (W.σ (W.at_ x))) 2 (nI (W.pn (W.σ (W.at_ x)) + 1))) := ⟨_, rfl⟩
      rw [← e2] at V F2 K ⊢
      have hk2t : h2.I 1053 2 = nI k := (congrFun (F2.1 _ (by omega)) _).trans hk1
      refine q_aload_n dX9_addPart_73 rfl ?_
      refine fRX9_41 (o := some 1053) dX9_addPart_74 rfl (by decide) (K.le (by decide)) (K.lk rfl) ?_
      refine q_rfS ?_
      have hdy := V0.dy9 hs40
      refine q_aload dX9_addPart_77 rfl ?_
      refine fIX9_184 dX9_addPart_79 (q_ts (V.s40 (i := (W.at_ x)) (by omega))) (by omega) (K.le (q_bs (V.s40 (i := (W.at_ x)) (by omega)))) ?_
      refine q_tv (show _ = (nI (W.dy (W.σ (W.at_ x)))) from (V.dy (V.s40 (i := (W.at_ x)) (by omega)))) ?_
      refine q_vD (kc := 1) (ks := 6) (g_X7_forgetFrom (h := h2) K (k := k) (d := W.dy (W.σ (W.at_ x))) hk2t (by omega) (by omega)) wX7_forgetFrom kX9_110 iX7_forgetFrom eX7_forgetFrom rfl rfl (by decide) (K.le (by decide)) (by decide) rfl rfl (Nat.le_of_ble_eq_true rfl) dX9_addPart_82 rfl rfl ?_
      refine q_aload dX9_addPart_85 rfl ?_
      refine fIX9_172 dX9_addPart_87 (q_ts (V.s40 (i := (W.at_ x)) (by omega))) (by omega) (K.le (q_bs (V.s40 (i := (W.at_ x)) (by omega)))) ?_
      refine q_tv (show _ = (nI (W.pn (W.σ (W.at_ x)) + 1)) from ((congrFun (q_sIn _ _ _ (by omega)) _).trans ((V.pn hs40).trans (congrArg nI (va_us _ _ _))))) ?_
      refine q_iret dX9_addPart_90 rfl (Or.inl rfl) ?_
      have hdy := C.1.1.dy9 hs40
      obtain ⟨mj, hm1, hm2, rfl⟩ := q_rng n11 (by omega) (by omega)
      have hle : W.len (W.σ (W.at_ x)) + nI mj ≤ nI 240 := by assumption
      have hml : W.ml (W.σ (W.at_ x)) ≤ 240 := (C1.2.1.1 _ hs40).2
      rw [q_W.len_ml (C1.2.1.1 _ hs40), nI_add, nI_leI (by omega) (by omega)] at hle
      exact Or.inr (Or.inr (Or.inr ⟨n2, q_no2 n11 n19, q_no2 (by omega) (Int32.not_lt.mpr (by assumption)), _, rfl, rfl, Y, y1, y2, q_mu.fg (q_mu.mk C1 F1 F2 V (q_ok0.addP C1.2.1 hm1 hm2 hle)) hT (by omega)⟩))
    · refine q_throw (text := "the session has no room for this part") tw_72_76 (by decide) rfl ?_ dX9_addPart_45 dX9_addPart_48 dX9_addPart_49 dX9_addPart_51 dX9_addPart_54 (by decide) (by decide) (by decide) (by decide)
      exact Or.inr (Or.inr (Or.inl ⟨n2, q_no2 n11 n19, by first | exact Or.inl (by omega) | exact Or.inr (Int32.not_le.mp (by assumption)), rfl, q_rd.rf C⟩))
theorem g_X9_clearParts {Φ : q_Fx} {h : q_Hp} (K : q_Lk Φ h.R h.n) {W : q_W} {O : q_O} (C : q_clX h W O) {x : Int32} : q_Ct Φ false yX9_clearParts cX9_clearParts mX9_clearParts [.ref 1, .int x] h (q_u1 h W O (W.no x) "java/util/NoSuchElementException" (fun v h' => v = some (.int (nI (W.pn (W.σ (W.at_ x))))) ∧ ∃ Y, q_eqv W Y ∧ q_ok0 Y ∧ q_mu h h' (W.clrP (W.σ (W.at_ x))) (O.kept Y) (W.dy (W.σ (W.at_ x))))) := by
  refine q_enter K.st rfl rfl (by decide) rfl (Nat.le_of_ble_eq_true rfl) (L := [_, _, none, none]) rfl ?_
  have C0 := C
  obtain ⟨k, hT⟩ := C.2
  have hk2 : k ≤ W.t + 1 := hT.2.1
  have V0 := C.1.1
  have V := C.1.1
  have ht9 := V.t9
  refine q_aload_n dX9_clearParts_0 rfl ?_
  refine q_iload_n dX9_clearParts_1 rfl ?_
  refine q_vT (kc := 0) (ks := 0) (g_X9_existingSession (h := h) K V (x := x)) wX9_existingSession kX9_168 iX9_existingSession eX9_existingSession rfl rfl (by decide) (K.le (by decide)) (by decide) rfl rfl (Nat.le_of_ble_eq_true rfl) dX9_clearParts_2 rfl rfl rfl (fun c1 => by exact Or.inl ⟨c1, rfl, q_rd.rf C⟩) (fun c2 => ?_)
  have n2 := c2
  have hat := V.at_ c2
  have hc40 := V.c40
  have hs40 := V.s40 (i := W.at_ x) (by omega)
  refine q_astore_n (L' := [_, _, _, _]) dX9_clearParts_5 rfl (by decide) rfl ?_
  refine q_aload_n dX9_clearParts_6 rfl ?_
  refine fRX9_19 (o := some 133) dX9_clearParts_7 rfl (by decide) (K.le (by decide)) (K.lk rfl) ?_
  refine q_rfS ?_
  refine q_aload_n dX9_clearParts_10 rfl ?_
  refine fRX9_12 (o := some 2) dX9_clearParts_11 rfl (by decide) (K.le (by decide)) (K.lk rfl) ?_
  refine q_rfS ?_
  refine q_vR (kc := 0) (ks := 0) (g_X1_keep (h := h) K C.1) wX1_keep kX9_79 iX1_keep eX1_keep rfl rfl (by decide) (K.le (by decide)) (by decide) rfl rfl (Nat.le_of_ble_eq_true rfl) dX9_clearParts_14 rfl rfl ?_
  rintro v h1 ⟨rfl, Y, y1, y2, C1, F1⟩
  have K := K.fr F1.fr
  have V := C1.1
  have hk1 : h1.I 1053 2 = nI k := (congrFun (F1.2.2.2.2 _ (by omega)) _).trans hT.1
  refine q_aload_n dX9_clearParts_17 rfl ?_
  refine fIX9_172 dX9_clearParts_18 (q_ts (V.s40 (i := (W.at_ x)) (by omega))) (by omega) (K.le (q_bs (V.s40 (i := (W.at_ x)) (by omega)))) ?_
  refine q_tv (show _ = (nI (W.pn (W.σ (W.at_ x)))) from (V.pn (V.s40 (i := (W.at_ x)) (by omega)))) ?_
  refine q_istore_n (L' := [_, _, _, _]) dX9_clearParts_21 rfl (by decide) rfl ?_
  refine q_aload_n dX9_clearParts_22 rfl ?_
  refine q_iconst (v := nI 0) dX9_clearParts_23 (by decide) ?_
  refine pIX9_172 dX9_clearParts_24 (q_ts (V.s40 (i := (W.at_ x)) (by omega))) (by omega) (K.le (q_bs (V.s40 (i := (W.at_ x)) (by omega)))) ?_
  have V := V.clrP hs40
  have F2 : q_st h1 (h1.setI (11 + 3 * (W.σ (W.at_ x))) 2 (nI 0)) := q_st.rf.set (by omega) (by omega)
  have K := q_Lk.fr (h := h1) K F2.fr
  obtain ⟨h2, e2⟩ : ∃ z, z = (h1.setI (11 + 3 * (W.σ (W.at_ x))) 2 (nI 0)) := ⟨_, rfl⟩
  rw [← e2] at V F2 K ⊢
  have hk2t : h2.I 1053 2 = nI k := (congrFun (F2.1 _ (by omega)) _).trans hk1
  refine q_aload_n dX9_clearParts_27 rfl ?_
  refine fRX9_41 (o := some 1053) dX9_clearParts_28 rfl (by decide) (K.le (by decide)) (K.lk rfl) ?_
  refine q_rfS ?_
  refine q_aload_n dX9_clearParts_31 rfl ?_
  have hdy := V0.dy9 hs40
  refine fIX9_184 dX9_clearParts_32 (q_ts (V.s40 (i := (W.at_ x)) (by omega))) (by omega) (K.le (q_bs (V.s40 (i := (W.at_ x)) (by omega)))) ?_
  refine q_tv (show _ = (nI (W.dy (W.σ (W.at_ x)))) from (V.dy (V.s40 (i := (W.at_ x)) (by omega)))) ?_
  refine q_vD (kc := 0) (ks := 0) (g_X7_forgetFrom (h := h2) K (k := k) (d := W.dy (W.σ (W.at_ x))) hk2t (by omega) (by omega)) wX7_forgetFrom kX9_110 iX7_forgetFrom eX7_forgetFrom rfl rfl (by decide) (K.le (by decide)) (by decide) rfl rfl (Nat.le_of_ble_eq_true rfl) dX9_clearParts_35 rfl rfl ?_
  refine q_iload_n dX9_clearParts_38 rfl ?_
  refine q_iret dX9_clearParts_39 rfl (Or.inl rfl) ?_
  exact Or.inr ⟨n2, _, rfl, rfl, Y, y1, y2, q_mu.fg (q_mu.mk C1 F1 F2 V (q_ok0.clrP C1.2.1 _)) hT (by omega)⟩
theorem g_X9_moveSession {Φ : q_Fx} {h : q_Hp} (K : q_Lk Φ h.R h.n) {W : q_W} {O : q_O} (C : q_clX h W O) {x d : Int32} : q_Ct Φ false yX9_moveSession cX9_moveSession mX9_moveSession [.ref 1, .int x, .int d] h (q_u2 h W O (W.no x) "java/util/NoSuchElementException" (¬ (nI 0 ≤ d ∧ d ≤ nI W.t)) "java/lang/IllegalArgumentException" (fun v h' => v = some (.int (nI (W.dy (W.σ (W.at_ x))))) ∧ ∃ Y r, q_eqv W Y ∧ q_ok0 Y ∧ q_sd (W.movS (W.σ (W.at_ x)) d.toNatClampNeg) (W.at_ x) r ∧ q_mu h h' ((W.movS (W.σ (W.at_ x)) d.toNatClampNeg).sσ (q_mv W.σ (W.at_ x) r)) (O.kept Y) (min (W.dy (W.σ (W.at_ x))) d.toNatClampNeg))) := by
  refine q_enter K.st rfl rfl (by decide) rfl (Nat.le_of_ble_eq_true rfl) (L := [_, _, _, none, none]) rfl ?_
  have C0 := C
  obtain ⟨k, hT⟩ := C.2
  have hk2 : k ≤ W.t + 1 := hT.2.1
  have V0 := C.1.1
  have V := C.1.1
  have ht9 := V.t9
  refine q_aload_n dX9_moveSession_0 rfl ?_
  refine q_iload_n dX9_moveSession_1 rfl ?_
  refine q_vT (kc := 1) (ks := 6) (g_X9_existingPosition (h := h) K V (x := x)) wX9_existingPosition kX9_187 iX9_existingPosition eX9_existingPosition rfl rfl (by decide) (K.le (by decide)) (by decide) rfl rfl (Nat.le_of_ble_eq_true rfl) dX9_moveSession_2 rfl rfl rfl (fun c1 => by exact Or.inl ⟨c1, rfl, q_rd.rf C⟩) (fun c2 => ?_)
  have n2 := c2
  have hat := V.at_ c2
  have hc40 := V.c40
  have hs40 := V.s40 (i := W.at_ x) (by omega)
  refine q_istore_n (L' := [_, _, _, _, _]) dX9_moveSession_5 rfl (by decide) rfl ?_
  refine q_aload_n dX9_moveSession_6 rfl ?_
  refine q_iload_n dX9_moveSession_7 rfl ?_
  refine q_vT (kc := 0) (ks := 0) (g_X9_requireDayUpToToday (h := h) K V (d := d)) wX9_requireDayUpToToday kX9_83 iX9_requireDayUpToToday eX9_requireDayUpToToday rfl rfl (by decide) (K.le (by decide)) (by decide) rfl rfl (Nat.le_of_ble_eq_true rfl) dX9_moveSession_8 rfl rfl rfl (fun c3 => by exact Or.inr (Or.inl ⟨n2, c3, rfl, q_rd.rf C⟩)) (fun c4 => ?_)
  have n8 := c4
  obtain ⟨j, hj1, hj2, rfl⟩ := q_rng n8 (by omega) (by omega)
  try rw [nI_clamp (show j < 2 ^ 31 by omega)]
  refine q_aload_n dX9_moveSession_11 rfl ?_
  refine fRX9_19 (o := some 133) dX9_moveSession_12 rfl (by decide) (K.le (by decide)) (K.lk rfl) ?_
  refine q_rfS ?_
  refine q_aload_n dX9_moveSession_15 rfl ?_
  refine fRX9_12 (o := some 2) dX9_moveSession_16 rfl (by decide) (K.le (by decide)) (K.lk rfl) ?_
  refine q_rfS ?_
  refine q_vR (kc := 0) (ks := 0) (g_X1_keep (h := h) K C.1) wX1_keep kX9_79 iX1_keep eX1_keep rfl rfl (by decide) (K.le (by decide)) (by decide) rfl rfl (Nat.le_of_ble_eq_true rfl) dX9_moveSession_19 rfl rfl ?_
  rintro v h1 ⟨rfl, Y, y1, y2, C1, F1⟩
  have K := K.fr F1.fr
  have V := C1.1
  have hk1 : h1.I 1053 2 = nI k := (congrFun (F1.2.2.2.2 _ (by omega)) _).trans hT.1
  refine q_aload_n dX9_moveSession_22 rfl ?_
  refine fRX9_12 (o := some 2) dX9_moveSession_23 rfl (by decide) (K.le (by decide)) (K.lk rfl) ?_
  refine q_rfS ?_
  refine fRX9_156 (o := some 9) dX9_moveSession_26 rfl (by decide) (K.le (by decide)) (K.lk rfl) ?_
  refine q_rfS ?_
  refine q_iload_n dX9_moveSession_29 rfl ?_
  refine q_iload_n dX9_moveSession_30 rfl ?_
  refine q_vR (kc := 0) (ks := 0) (g_X4_moveAt (h := h1) K V (pos := W.at_ x) (d := j) (by omega) (by omega)) wX4_moveAt kX9_190 iX4_moveAt eX4_moveAt rfl rfl (by decide) (K.le (by decide)) (by decide) rfl rfl (Nat.le_of_ble_eq_true rfl) dX9_moveSession_31 rfl rfl ?_
  rintro v h2 ⟨rfl, r, sd, V2, F2⟩
  have K := q_Lk.fr (h := h1) K F2.fr
  have V := V2
  have hk2t : h2.I 1053 2 = nI k := (congrFun (F2.1 _ (by omega)) _).trans hk1
  have hdy := V0.dy9 hs40
  refine q_istore (L' := [_, _, _, _, _]) dX9_moveSession_34 rfl (by decide) rfl ?_
  refine q_aload_n dX9_moveSession_36 rfl ?_
  refine fRX9_41 (o := some 1053) dX9_moveSession_37 rfl (by decide) (K.le (by decide)) (K.lk rfl) ?_
  refine q_rfS ?_
  refine q_iload dX9_moveSession_40 rfl ?_
  refine q_iload_n dX9_moveSession_42 rfl ?_
  refine q_min kX9_193 dX9_moveSession_43 (by decide) (by decide) ?_
  refine q_tv (q_minN (by omega) (by omega)) ?_
  refine q_vD (kc := 0) (ks := 0) (g_X7_forgetFrom (h := h2) K (k := k) (d := min (W.dy (W.σ (W.at_ x))) (j)) hk2t (by omega) (by omega)) wX7_forgetFrom kX9_110 iX7_forgetFrom eX7_forgetFrom rfl rfl (by decide) (K.le (by decide)) (by decide) rfl rfl (Nat.le_of_ble_eq_true rfl) dX9_moveSession_46 rfl rfl ?_
  refine q_iload dX9_moveSession_49 rfl ?_
  refine q_iret dX9_moveSession_51 rfl (Or.inl rfl) ?_
  have hr : r < W.c := sd.1
  exact Or.inr (Or.inr ⟨n2, n8, _, rfl, rfl, Y, r, y1, y2, sd, q_mu.fg (q_mu.mk C1 F1 F2 V2 (q_ok0.mvS C1.2.1 (p := W.at_ x) (r := r) (by omega) (by omega) rfl rfl rfl)) hT (by omega)⟩)
theorem g_X9_removeSession {Φ : q_Fx} {h : q_Hp} (K : q_Lk Φ h.R h.n) {W : q_W} {O : q_O} (C : q_clX h W O) {x : Int32} : q_Ct Φ false yX9_removeSession cX9_removeSession mX9_removeSession [.ref 1, .int x] h (q_u1 h W O (W.no x) "java/util/NoSuchElementException" (fun v h' => v = some (.int (nI (W.c - 1))) ∧ ∃ Y, q_eqv W Y ∧ q_ok0 Y ∧ q_mu h h' ((W.sσ (q_mv W.σ (W.at_ x) (W.c - 1))).sc (W.c - 1)) (O.kept Y) (W.dy (W.σ (W.at_ x))))) := by
  refine q_enter K.st rfl rfl (by decide) rfl (Nat.le_of_ble_eq_true rfl) (L := [_, _, none, none]) rfl ?_
  have C0 := C
  obtain ⟨k, hT⟩ := C.2
  have hk2 : k ≤ W.t + 1 := hT.2.1
  have V0 := C.1.1
  have V := C.1.1
  have ht9 := V.t9
  refine q_aload_n dX9_removeSession_0 rfl ?_
  refine q_iload_n dX9_removeSession_1 rfl ?_
  refine q_vT (kc := 0) (ks := 0) (g_X9_existingPosition (h := h) K V (x := x)) wX9_existingPosition kX9_187 iX9_existingPosition eX9_existingPosition rfl rfl (by decide) (K.le (by decide)) (by decide) rfl rfl (Nat.le_of_ble_eq_true rfl) dX9_removeSession_2 rfl rfl rfl (fun c1 => by exact Or.inl ⟨c1, rfl, q_rd.rf C⟩) (fun c2 => ?_)
  have n2 := c2
  have hat := V.at_ c2
  have hc40 := V.c40
  have hs40 := V.s40 (i := W.at_ x) (by omega)
  refine q_istore_n (L' := [_, _, _, _]) dX9_removeSession_5 rfl (by decide) rfl ?_
  refine q_aload_n dX9_removeSession_6 rfl ?_
  refine fRX9_19 (o := some 133) dX9_removeSession_7 rfl (by decide) (K.le (by decide)) (K.lk rfl) ?_
  refine q_rfS ?_
  refine q_aload_n dX9_removeSession_10 rfl ?_
  refine fRX9_12 (o := some 2) dX9_removeSession_11 rfl (by decide) (K.le (by decide)) (K.lk rfl) ?_
  refine q_rfS ?_
  refine q_vR (kc := 0) (ks := 0) (g_X1_keep (h := h) K C.1) wX1_keep kX9_79 iX1_keep eX1_keep rfl rfl (by decide) (K.le (by decide)) (by decide) rfl rfl (Nat.le_of_ble_eq_true rfl) dX9_removeSession_14 rfl rfl ?_
  rintro v h1 ⟨rfl, Y, y1, y2, C1, F1⟩
  have K := K.fr F1.fr
  have V := C1.1
  have hk1 : h1.I 1053 2 = nI k := (congrFun (F1.2.2.2.2 _ (by omega)) _).trans hT.1
  refine q_aload_n dX9_removeSession_17 rfl ?_
  refine fRX9_12 (o := some 2) dX9_removeSession_18 rfl (by decide) (K.le (by decide)) (K.lk rfl) ?_
  refine q_rfS ?_
  refine fRX9_156 (o := some 9) dX9_removeSession_21 rfl (by decide) (K.le (by decide)) (K.lk rfl) ?_
  refine q_rfS ?_
  refine q_iload_n dX9_removeSession_24 rfl ?_
  refine q_vR (kc := 0) (ks := 0) (g_X4_removeAt (h := h1) K V (pos := W.at_ x) (by omega)) wX4_removeAt kX9_198 iX4_removeAt eX4_removeAt rfl rfl (by decide) (K.le (by decide)) (by decide) rfl rfl (Nat.le_of_ble_eq_true rfl) dX9_removeSession_25 rfl rfl ?_
  rintro v h2 ⟨rfl, V2, F2⟩
  have K := q_Lk.fr (h := h1) K F2.fr
  have V := V2
  have hk2t : h2.I 1053 2 = nI k := (congrFun (F2.1 _ (by omega)) _).trans hk1
  have hdy := V0.dy9 hs40
  refine q_istore_n (L' := [_, _, _, _]) dX9_removeSession_28 rfl (by decide) rfl ?_
  refine q_aload_n dX9_removeSession_29 rfl ?_
  refine fRX9_41 (o := some 1053) dX9_removeSession_30 rfl (by decide) (K.le (by decide)) (K.lk rfl) ?_
  refine q_rfS ?_
  refine q_iload_n dX9_removeSession_33 rfl ?_
  refine q_vD (kc := 0) (ks := 0) (g_X7_forgetFrom (h := h2) K (k := k) (d := W.dy (W.σ (W.at_ x))) hk2t (by omega) (by omega)) wX7_forgetFrom kX9_110 iX7_forgetFrom eX7_forgetFrom rfl rfl (by decide) (K.le (by decide)) (by decide) rfl rfl (Nat.le_of_ble_eq_true rfl) dX9_removeSession_34 rfl rfl ?_
  refine q_aload_n dX9_removeSession_37 rfl ?_
  refine fRX9_12 (o := some 2) dX9_removeSession_38 rfl (by decide) (K.le (by decide)) (K.lk rfl) ?_
  refine q_rfS ?_
  refine fRX9_156 (o := some 9) dX9_removeSession_41 rfl (by decide) (K.le (by decide)) (K.lk rfl) ?_
  refine q_rfS ?_
  refine fIX9_160 dX9_removeSession_44 rfl (by decide) (K.le (by decide)) ?_
  refine q_tv (show _ = (nI (W.c - 1)) from ((congrFun (q_sIn _ _ _ (by omega)) _).trans V2.c)) ?_
  refine q_iret dX9_removeSession_47 rfl (Or.inl rfl) ?_
  exact Or.inr ⟨n2, _, rfl, rfl, Y, y1, y2, q_mu.fg (q_mu.mk C1 F1 F2 V2 (q_ok0.mvS C1.2.1 (p := W.at_ x) (r := W.c - 1) (by omega) (by omega) rfl rfl rfl)) hT (by omega)⟩
theorem g_X9_startPlan {Φ : q_Fx} {h : q_Hp} (K : q_Lk Φ h.R h.n) {W : q_W} {O : q_O} (C : q_clX h W O) : q_Ct Φ false yX9_startPlan cX9_startPlan mX9_startPlan [.ref 1] h (q_ex (fun v h' => v = some (.int (nI W.pc)) ∧ ∃ Y, q_eqv W Y ∧ q_ok0 Y ∧ q_mu h h' (W.sP 1 W.t 0 W.tg) (O.kept Y) 200)) := by
  refine q_enter K.st rfl rfl (by decide) rfl (Nat.le_of_ble_eq_true rfl) (L := [_, none]) rfl ?_
  have C0 := C
  obtain ⟨k, hT⟩ := C.2
  have hk2 : k ≤ W.t + 1 := hT.2.1
  have V0 := C.1.1
  have V := C.1.1
  have ht9 := V.t9
  refine q_aload_n dX9_startPlan_0 rfl ?_
  refine fRX9_19 (o := some 133) dX9_startPlan_1 rfl (by decide) (K.le (by decide)) (K.lk rfl) ?_
  refine q_rfS ?_
  refine q_aload_n dX9_startPlan_4 rfl ?_
  refine fRX9_12 (o := some 2) dX9_startPlan_5 rfl (by decide) (K.le (by decide)) (K.lk rfl) ?_
  refine q_rfS ?_
  refine q_vR (kc := 0) (ks := 0) (g_X1_keep (h := h) K C.1) wX1_keep kX9_79 iX1_keep eX1_keep rfl rfl (by decide) (K.le (by decide)) (by decide) rfl rfl (Nat.le_of_ble_eq_true rfl) dX9_startPlan_8 rfl rfl ?_
  rintro v h1 ⟨rfl, Y, y1, y2, C1, F1⟩
  have K := K.fr F1.fr
  have V := C1.1
  have hk1 : h1.I 1053 2 = nI k := (congrFun (F1.2.2.2.2 _ (by omega)) _).trans hT.1
  refine q_aload_n dX9_startPlan_11 rfl ?_
  refine fRX9_12 (o := some 2) dX9_startPlan_12 rfl (by decide) (K.le (by decide)) (K.lk rfl) ?_
  refine q_rfS ?_
  refine fRX9_281 (o := some 131) dX9_startPlan_15 rfl (by decide) (K.le (by decide)) (K.lk rfl) ?_
  refine q_rfS ?_
  refine fIX9_285 dX9_startPlan_18 rfl (by decide) (K.le (by decide)) ?_
  refine q_tv (show _ = (nI (W.pc)) from V.pc) ?_
  refine q_istore_n (L' := [_, _]) dX9_startPlan_21 rfl (by decide) rfl ?_
  refine q_aload_n dX9_startPlan_22 rfl ?_
  refine fRX9_12 (o := some 2) dX9_startPlan_23 rfl (by decide) (K.le (by decide)) (K.lk rfl) ?_
  refine q_rfS ?_
  refine fRX9_281 (o := some 131) dX9_startPlan_26 rfl (by decide) (K.le (by decide)) (K.lk rfl) ?_
  refine q_rfS ?_
  refine q_aload_n dX9_startPlan_29 rfl ?_
  refine fRX9_12 (o := some 2) dX9_startPlan_30 rfl (by decide) (K.le (by decide)) (K.lk rfl) ?_
  refine q_rfS ?_
  refine fIX9_69 dX9_startPlan_33 rfl (by decide) (K.le (by decide)) ?_
  refine q_tv (show _ = (nI (W.t)) from V.t) ?_
  refine q_vD (kc := 0) (ks := 0) (g_X2_start (h := h1) K (t := W.t)) wX2_start kX9_290 iX2_start eX2_start rfl rfl (by decide) (K.le (by decide)) (by decide) rfl rfl (Nat.le_of_ble_eq_true rfl) dX9_startPlan_36 rfl rfl ?_
  have V := V.plan
  have F2 : q_st h1 (((h1.setI 131 0 (nI 1)).setI 131 1 (nI W.t)).setI 131 2 (nI 0)) := ((q_st.rf.set (by omega) (by omega)).set (by omega) (by omega)).set (by omega) (by omega)
  have K := q_Lk.fr (h := h1) K F2.fr
  obtain ⟨h2, e2⟩ : ∃ z, z = (((h1.setI 131 0 (nI 1)).setI 131 1 (nI W.t)).setI 131 2 (nI 0)) := ⟨_, rfl⟩
  rw [← e2] at V F2 K ⊢
  have hk2t : h2.I 1053 2 = nI k := (congrFun (F2.1 _ (by omega)) _).trans hk1
  refine q_iload_n dX9_startPlan_39 rfl ?_
  refine q_iret dX9_startPlan_40 rfl (Or.inl rfl) ?_
  exact ⟨_, rfl, rfl, Y, y1, y2, q_mu.mk C1 F1 F2 V (q_ok0_pn rfl rfl rfl C1.2.1)⟩
theorem g_X9_addTarget {Φ : q_Fx} {h : q_Hp} (K : q_Lk Φ h.R h.n) {W : q_W} {O : q_O} (C : q_clX h W O) {x : Int32} : q_Ct Φ false yX9_addTarget cX9_addTarget mX9_addTarget [.ref 1, .int x] h (q_u2 h W O (¬ (nI 0 ≤ x ∧ x ≤ nI 20000)) "java/lang/IllegalArgumentException" (W.pe = 0 ∨ ¬ W.pf = W.t ∨ W.pc = 28) "java/lang/IllegalStateException" (fun v h' => v = some (.int (nI (W.pc + 1))) ∧ ∃ Y, q_eqv W Y ∧ q_ok0 Y ∧ q_mu h h' (W.sP W.pe W.pf (W.pc + 1) (va_up W.tg W.pc x)) (O.kept Y) 200)) := by
  refine q_enter K.st rfl rfl (by decide) rfl (Nat.le_of_ble_eq_true rfl) (L := [_, _, none]) rfl ?_
  have C0 := C
  obtain ⟨k, hT⟩ := C.2
  have hk2 : k ≤ W.t + 1 := hT.2.1
  have V0 := C.1.1
  have V := C.1.1
  have ht9 := V.t9
  have hp28 := V.pc28
  have hpf := V.pf9
  have hpe := V.pe1
  refine q_iload_n dX9_addTarget_0 rfl ?_
  refine q_iconst (v := nI 0) dX9_addTarget_1 (by decide) ?_
  refine q_sipush (v := nI 20000) dX9_addTarget_2 (by decide) ?_
  refine q_sT (kc := 1) (ks := 6) (g_X9_requireRange (h := h) K (v := x) (lo := (nI (0))) (hi := (nI (20000)))) wX9_requireRange kX9_65 sX9_requireRange (by decide) rfl rfl (Nat.le_of_ble_eq_true rfl) dX9_addTarget_5 rfl rfl rfl (fun c1 => by exact Or.inl ⟨c1, rfl, q_rd.rf C⟩) (fun c2 => ?_)
  have n5 := c2
  refine q_aload_n dX9_addTarget_8 rfl ?_
  refine fRX9_12 (o := some 2) dX9_addTarget_9 rfl (by decide) (K.le (by decide)) (K.lk rfl) ?_
  refine q_rfS ?_
  refine fRX9_281 (o := some 131) dX9_addTarget_12 rfl (by decide) (K.le (by decide)) (K.lk rfl) ?_
  refine q_rfS ?_
  refine q_astore_n (L' := [_, _, _]) dX9_addTarget_15 rfl (by decide) rfl ?_
  refine q_aload_n dX9_addTarget_16 rfl ?_
  refine fIX9_293 dX9_addTarget_17 rfl (by decide) (K.le (by decide)) ?_
  refine q_tv (show _ = (nI (W.pe)) from V.pe) ?_
  refine q_if_eqN (by omega) (tgt := 46) dX9_addTarget_20 rfl (fun c3 => ?_) (fun c4 => ?_)
  · refine q_throwW (text := "no further entry is possible today") tw_72_76 (by decide) rfl ?_ dX9_addTarget_46 dX9_addTarget_49 dX9_addTarget_50 dX9_addTarget_53 dX9_addTarget_56 (by decide) (by decide) (by decide) (by decide)
    exact Or.inr (Or.inl ⟨n5, by omega, rfl, q_rd.rf C⟩)
  · refine q_aload_n dX9_addTarget_23 rfl ?_
    refine fIX9_296 dX9_addTarget_24 rfl (by decide) (K.le (by decide)) ?_
    refine q_tv (show _ = (nI (W.pf)) from V.pf) ?_
    refine q_aload_n dX9_addTarget_27 rfl ?_
    refine fRX9_12 (o := some 2) dX9_addTarget_28 rfl (by decide) (K.le (by decide)) (K.lk rfl) ?_
    refine q_rfS ?_
    refine fIX9_69 dX9_addTarget_31 rfl (by decide) (K.le (by decide)) ?_
    refine q_tv (show _ = (nI (W.t)) from V.t) ?_
    refine q_icmp_neN (by omega) (by omega) (tgt := 46) dX9_addTarget_34 rfl (fun c5 => ?_) (fun c6 => ?_)
    · refine q_throwW (text := "no further entry is possible today") tw_72_76 (by decide) rfl ?_ dX9_addTarget_46 dX9_addTarget_49 dX9_addTarget_50 dX9_addTarget_53 dX9_addTarget_56 (by decide) (by decide) (by decide) (by decide)
      exact Or.inr (Or.inl ⟨n5, by omega, rfl, q_rd.rf C⟩)
    · refine q_aload_n dX9_addTarget_37 rfl ?_
      refine fIX9_285 dX9_addTarget_38 rfl (by decide) (K.le (by decide)) ?_
      refine q_tv (show _ = (nI (W.pc)) from V.pc) ?_
      refine q_bipush (v := nI 28) dX9_addTarget_41 (by decide) ?_
      refine q_icmp_ltN (by omega) (by omega) (tgt := 57) dX9_addTarget_43 rfl (fun c7 => ?_) (fun c8 => ?_)
      · refine q_aload_n dX9_addTarget_57 rfl ?_
        refine fRX9_19 (o := some 133) dX9_addTarget_58 rfl (by decide) (K.le (by decide)) (K.lk rfl) ?_
        refine q_rfS ?_
        refine q_aload_n dX9_addTarget_61 rfl ?_
        refine fRX9_12 (o := some 2) dX9_addTarget_62 rfl (by decide) (K.le (by decide)) (K.lk rfl) ?_
        refine q_rfS ?_
        refine q_vR (kc := 1) (ks := 6) (g_X1_keep (h := h) K C.1) wX1_keep kX9_79 iX1_keep eX1_keep rfl rfl (by decide) (K.le (by decide)) (by decide) rfl rfl (Nat.le_of_ble_eq_true rfl) dX9_addTarget_65 rfl rfl ?_
        rintro v h1 ⟨rfl, Y, y1, y2, C1, F1⟩
        have K := K.fr F1.fr
        have V := C1.1
        have hk1 : h1.I 1053 2 = nI k := (congrFun (F1.2.2.2.2 _ (by omega)) _).trans hT.1
        refine q_aload_n dX9_addTarget_68 rfl ?_
        refine q_iload_n dX9_addTarget_69 rfl ?_
        refine q_vD (kc := 1) (ks := 6) (g_X2_append (h := h1) K V (by omega) (x := x)) wX2_append kX9_301 iX2_append eX2_append rfl rfl (by decide) (K.le (by decide)) (by decide) rfl rfl (Nat.le_of_ble_eq_true rfl) dX9_addTarget_70 rfl rfl ?_
        have V := V.targ (x := x) (by omega)
        have F2 : q_st h1 ((h1.setI 132 W.pc x).setI 131 2 (nI (W.pc + 1))) := (q_st.rf.set (by omega) (by omega)).set (by omega) (by omega)
        have K := q_Lk.fr (h := h1) K F2.fr
        obtain ⟨h2, e2⟩ : ∃ z, z = ((h1.setI 132 W.pc x).setI 131 2 (nI (W.pc + 1))) := ⟨_, rfl⟩
        rw [← e2] at V F2 K ⊢
        have hk2t : h2.I 1053 2 = nI k := (congrFun (F2.1 _ (by omega)) _).trans hk1
        refine q_aload_n dX9_addTarget_73 rfl ?_
        refine fIX9_285 dX9_addTarget_74 rfl (by decide) (K.le (by decide)) ?_
        refine q_tv (show _ = (nI (W.pc + 1)) from V.pc) ?_
        refine q_iret dX9_addTarget_77 rfl (Or.inl rfl) ?_
        exact Or.inr (Or.inr ⟨n5, (by omega), _, rfl, rfl, Y, y1, y2, q_mu.mk C1 F1 F2 V (q_ok0_pn rfl rfl rfl C1.2.1)⟩)
      · refine q_throwW (text := "no further entry is possible today") tw_72_76 (by decide) rfl ?_ dX9_addTarget_46 dX9_addTarget_49 dX9_addTarget_50 dX9_addTarget_53 dX9_addTarget_56 (by decide) (by decide) (by decide) (by decide)
        exact Or.inr (Or.inl ⟨n5, by omega, rfl, q_rd.rf C⟩)
theorem g_X1_takeBack {Φ : q_Fx} {h : q_Hp} (K : q_Lk Φ h.R h.n) {W : q_W} {O : q_O} (C : q_cl' h W O) (hcn1 : 1 ≤ O.cn) : q_Ct Φ false yX1_takeBack cX1_takeBack mX1_takeBack [.ref 133, .ref 2] h (q_ex (fun v h' => v = none ∧ ∃ Y, q_eqv (O.OB ((O.nx + 6 - 1) % 6)) Y ∧ q_cl' h' Y O.back ∧ q_fr h h' ∧ q_tf h h' 200)) := by
  refine q_enter K.st rfl rfl (by decide) rfl (Nat.le_of_ble_eq_true rfl) (L := [_, _]) rfl ?_
  have hnx0 := C.2.2.1.2.1
  have hcn := C.2.2.1.2.2.2
  have hnx : (O.nx + 6 - 1) % 6 < 6 := Nat.mod_lt _ (by decide)
  refine q_aload_n dX1_takeBack_0 rfl ?_
  refine q_aload_n dX1_takeBack_1 rfl ?_
  refine fIX1_17 dX1_takeBack_2 rfl (by decide) (K.le (by decide)) ?_
  refine q_tv (show _ = (nI (O.nx)) from C.2.2.1.1) ?_
  refine q_bipush (v := nI 6) dX1_takeBack_5 (by decide) ?_
  refine q_iaddN dX1_takeBack_7 ?_
  refine q_iconst (v := nI 1) dX1_takeBack_8 (by decide) ?_
  refine q_isubN (by omega) dX1_takeBack_9 ?_
  refine q_bipush (v := nI 6) dX1_takeBack_10 (by decide) ?_
  refine q_iremN (by omega) (by omega) (by omega) dX1_takeBack_12 ?_
  refine pIX1_17 dX1_takeBack_13 rfl (by decide) (K.le (by decide)) ?_
  refine q_aload_n dX1_takeBack_16 rfl ?_
  refine q_dup dX1_takeBack_17 rfl ?_
  refine fIX1_21 dX1_takeBack_18 rfl (by decide) (K.le (by decide)) ?_
  refine q_tv (show _ = (nI (O.cn)) from (((congrFun (q_sI _ _ _ _) _).trans (va_un _ _ (by omega))).trans C.2.2.1.2.2.1)) ?_
  refine q_iconst (v := nI 1) dX1_takeBack_21 (by decide) ?_
  refine q_isubN (by omega) dX1_takeBack_22 ?_
  refine pIX1_21 dX1_takeBack_23 rfl (by decide) (K.le (by decide)) ?_
  refine q_aload_n dX1_takeBack_26 rfl ?_
  refine q_aload_n dX1_takeBack_27 rfl ?_
  refine fRX1_11 (o := some 134) dX1_takeBack_28 rfl (by decide) (K.le (by decide)) (K.lk rfl) ?_
  refine q_rfS ?_
  refine q_aload_n dX1_takeBack_31 rfl ?_
  refine fIX1_17 dX1_takeBack_32 rfl (by decide) (K.le (by decide)) ?_
  refine q_tv (show _ = (nI ((((O.nx) + (6)) - (1)) % (6))) from (((congrFun (q_sI _ _ _ _) _).trans (va_un _ _ (by omega))).trans ((congrFun (q_sI _ _ _ _) _).trans (va_us _ _ _)))) ?_
  refine q_aaldN (len := 6) (o := some (135 + 131 * ((O.nx + 6 - 1) % 6))) (by decide) (by decide) dX1_takeBack_35 (by decide) (K.le (by decide)) rfl (by omega) (by decide) (K.lk (q_lk134 hnx)) ?_
  refine q_rfS ?_
  obtain ⟨h1, e1⟩ : ∃ z, z = ((h.setI 133 1 (nI ((((O.nx) + (6)) - (1)) % (6)))).setI 133 2 (nI ((O.cn) - (1)))) := ⟨_, rfl⟩
  rw [← e1]
  have K : q_Lk Φ h1.R h1.n := by rw [e1]; exact K
  have g1 : ∀ p, p ≠ 133 → h1.I p = h.I p := fun p hp => by rw [e1, q_sIn _ _ _ hp, q_sIn _ _ _ hp]
  refine q_vR (kc := 0) (ks := 0) (g_X5_copyFrom (h := h1) K (A := 135 + 131 * ((O.nx + 6 - 1) % 6)) (B := 2) (Or.inr (Or.inr ⟨_, hnx, rfl⟩)) (Or.inl rfl) (by unfold q_ap; omega) ((C.2.2.2.1 _ hnx).1.cong (fun p _ _ => g1 p (by omega)) (by rw [e1]; rfl)) (q_vB.cong C.1 (fun p _ _ => g1 p (by omega)) (by rw [e1]; rfl)) (C.2.2.2.1 _ hnx).2 C.2.1) wX5_copyFrom kX1_25 iX5_copyFrom eX5_copyFrom rfl rfl (by decide) (K.le (by decide)) (by decide) rfl rfl (Nat.le_of_ble_eq_true rfl) dX1_takeBack_36 rfl rfl ?_
  rintro v h2 ⟨rfl, cpd⟩
  refine q_vret dX1_takeBack_39 rfl (Or.inl rfl) ?_
  obtain ⟨Y, y1, y2, y3, y4⟩ := q_tookB C hcn1 e1 cpd
  exact ⟨_, rfl, rfl, Y, y1, y2, y3, y4⟩
theorem q_mu.fg0 {h h2 : q_Hp} {W W2 : q_W} {O1 : q_O} (c : q_cl' h2 W2 O1) (f : q_fr h h2) (t : q_tf h h2 200) {k : Nat} (hT : q_Tr h W k) (hk : k ≤ 200) : q_mu h (h2.setI 1053 2 (nI (min k 0))) W2 O1 0 := q_mu.fg ⟨c, f, t⟩ hT hk
theorem g_X9_undo {Φ : q_Fx} {h : q_Hp} (K : q_Lk Φ h.R h.n) {W : q_W} {O : q_O} (C : q_clX h W O) : q_Ct Φ false yX9_undo cX9_undo mX9_undo [.ref 1] h (q_u1 h W O (O.cn = 0) "java/lang/IllegalStateException" (fun v h' => v = some (.int (nI (O.cn - 1))) ∧ ∃ Y, q_eqv (O.OB ((O.nx + 6 - 1) % 6)) Y ∧ q_mu h h' Y O.back 0)) := by
  refine q_enter K.st rfl rfl (by decide) rfl (Nat.le_of_ble_eq_true rfl) (L := [_]) rfl ?_
  have C0 := C
  obtain ⟨k, hT⟩ := C.2
  have hk2 : k ≤ W.t + 1 := hT.2.1
  have V0 := C.1.1
  have V := C.1.1
  have ht9 := V.t9
  have hcn6 := C.1.2.2.1.2.2.2
  refine q_aload_n dX9_undo_0 rfl ?_
  refine fRX9_19 (o := some 133) dX9_undo_1 rfl (by decide) (K.le (by decide)) (K.lk rfl) ?_
  refine q_rfS ?_
  refine fIX9_329 dX9_undo_4 rfl (by decide) (K.le (by decide)) ?_
  refine q_tv (show _ = (nI (O.cn)) from C.1.2.2.1.2.2.1) ?_
  refine q_if_neN (by omega) (tgt := 21) dX9_undo_7 rfl (fun c1 => ?_) (fun c2 => ?_)
  · refine q_aload_n dX9_undo_21 rfl ?_
    refine fRX9_19 (o := some 133) dX9_undo_22 rfl (by decide) (K.le (by decide)) (K.lk rfl) ?_
    refine q_rfS ?_
    refine q_aload_n dX9_undo_25 rfl ?_
    refine fRX9_12 (o := some 2) dX9_undo_26 rfl (by decide) (K.le (by decide)) (K.lk rfl) ?_
    refine q_rfS ?_
    refine q_vR (kc := 1) (ks := 6) (g_X1_takeBack (h := h) K C.1 (by omega)) wX1_takeBack kX9_332 iX1_takeBack eX1_takeBack rfl rfl (by decide) (K.le (by decide)) (by decide) rfl rfl (Nat.le_of_ble_eq_true rfl) dX9_undo_29 rfl rfl ?_
    rintro v h2 ⟨rfl, Y, y1, C2, F2, T2⟩
    have K := q_Lk.fr (h := h) K F2
    have V := C2.1
    have hk2t : h2.I 1053 2 = nI k := by rw [T2.2.2 k hT.1 (by omega), Nat.min_eq_left (by omega)]
    refine q_aload_n dX9_undo_32 rfl ?_
    refine fRX9_41 (o := some 1053) dX9_undo_33 rfl (by decide) (K.le (by decide)) (K.lk rfl) ?_
    refine q_rfS ?_
    refine q_iconst (v := nI 0) dX9_undo_36 (by decide) ?_
    refine q_vD (kc := 1) (ks := 6) (g_X7_forgetFrom (h := h2) K (k := k) (d := 0) hk2t (by omega) (by omega)) wX7_forgetFrom kX9_110 iX7_forgetFrom eX7_forgetFrom rfl rfl (by decide) (K.le (by decide)) (by decide) rfl rfl (Nat.le_of_ble_eq_true rfl) dX9_undo_37 rfl rfl ?_
    refine q_aload_n dX9_undo_40 rfl ?_
    refine fRX9_19 (o := some 133) dX9_undo_41 rfl (by decide) (K.le (by decide)) (K.lk rfl) ?_
    refine q_rfS ?_
    refine fIX9_329 dX9_undo_44 rfl (by decide) (K.le (by decide)) ?_
    refine q_tv (show _ = (nI (O.cn - 1)) from ((congrFun (q_sIn _ _ _ (by omega)) _).trans C2.2.2.1.2.2.1)) ?_
    refine q_iret dX9_undo_47 rfl (Or.inl rfl) ?_
    exact Or.inr ⟨(by omega), _, rfl, rfl, Y, y1, q_mu.fg0 C2 F2 T2 hT (by omega)⟩
  · refine q_throwW (text := "nothing can be undone") tw_72_76 (by decide) rfl ?_ dX9_undo_10 dX9_undo_13 dX9_undo_14 dX9_undo_17 dX9_undo_20 (by decide) (by decide) (by decide) (by decide)
    exact Or.inl ⟨by omega, rfl, q_rd.rf C⟩
theorem g_X9_save {Φ : q_Fx} {h : q_Hp} (K : q_Lk Φ h.R h.n) {W : q_W} {O : q_O} (C : q_clX h W O) : q_Ct Φ false yX9_save cX9_save mX9_save [.ref 1] h (q_ex (fun v h' => v = some (.int (nI W.c)) ∧ ∃ Y, q_eqv W Y ∧ q_ok0 Y ∧ q_mu h h' W (O.savd Y) 200)) := by
  refine q_enter K.st rfl rfl (by decide) rfl (Nat.le_of_ble_eq_true rfl) (L := [_]) rfl ?_
  have C0 := C
  obtain ⟨k, hT⟩ := C.2
  have hk2 : k ≤ W.t + 1 := hT.2.1
  have V0 := C.1.1
  have V := C.1.1
  have ht9 := V.t9
  refine q_aload_n dX9_save_0 rfl ?_
  refine fRX9_23 (o := some 921) dX9_save_1 rfl (by decide) (K.le (by decide)) (K.lk rfl) ?_
  refine q_rfS ?_
  refine q_aload_n dX9_save_4 rfl ?_
  refine fRX9_12 (o := some 2) dX9_save_5 rfl (by decide) (K.le (by decide)) (K.lk rfl) ?_
  refine q_rfS ?_
  refine q_vR (kc := 0) (ks := 0) (g_X5_copyFrom (h := h) K (A := 2) (B := 921) (Or.inl rfl) (Or.inr (Or.inl rfl)) (by unfold q_ap; omega) V C.1.2.2.2.2.1.2.2.1 C.1.2.1 C.1.2.2.2.2.1.2.2.2) wX5_copyFrom kX9_335 iX5_copyFrom eX5_copyFrom rfl rfl (by decide) (K.le (by decide)) (by decide) rfl rfl (Nat.le_of_ble_eq_true rfl) dX9_save_8 rfl rfl ?_
  rintro v h1 ⟨rfl, cpd⟩
  have K : q_Lk Φ h1.R h1.n := by rw [cpd.1, cpd.2.2.2.1]; exact K
  refine q_aload_n dX9_save_11 rfl ?_
  refine q_iconst (v := nI 1) dX9_save_12 (by decide) ?_
  refine pIX9_26 dX9_save_13 (by decide) rfl (by decide) (K.le (by decide)) ?_
  obtain ⟨Y, y1, y2, y3, y4, y5⟩ := q_saved C.1 cpd
  refine q_aload_n dX9_save_16 rfl ?_
  refine fRX9_12 (o := some 2) dX9_save_17 rfl (by decide) (K.le (by decide)) (K.lk rfl) ?_
  refine q_rfS ?_
  refine fRX9_156 (o := some 9) dX9_save_20 rfl (by decide) (K.le (by decide)) (K.lk rfl) ?_
  refine q_rfS ?_
  refine fIX9_160 dX9_save_23 rfl (by decide) (K.le (by decide)) ?_
  refine q_tv (show _ = (nI (W.c)) from y3.1.c) ?_
  refine q_iret dX9_save_26 rfl (Or.inl rfl) ?_
  exact ⟨_, rfl, rfl, Y, y1, y2, y3, y4, y5⟩
theorem g_X9_restore {Φ : q_Fx} {h : q_Hp} (K : q_Lk Φ h.R h.n) {W : q_W} {O : q_O} (C : q_clX h W O) : q_Ct Φ false yX9_restore cX9_restore mX9_restore [.ref 1] h (q_u1 h W O (O.hs = 0) "java/lang/IllegalStateException" (fun v h' => v = some (.int (nI O.SW.c)) ∧ ∃ Y, q_eqv O.SW Y ∧ q_mu h h' Y O.rest 0)) := by
  refine q_enter K.st rfl rfl (by decide) rfl (Nat.le_of_ble_eq_true rfl) (L := [_]) rfl ?_
  have K0 := K
  have C0 := C
  obtain ⟨k, hT⟩ := C.2
  have hk2 : k ≤ W.t + 1 := hT.2.1
  have V0 := C.1.1
  have V := C.1.1
  have ht9 := V.t9
  have hh1 := C.1.2.2.2.2.1.2.1
  refine q_aload_n dX9_restore_0 rfl ?_
  refine fIX9_26 dX9_restore_1 rfl (by decide) (K.le (by decide)) ?_
  refine q_tv (show _ = (nI (O.hs)) from C.1.2.2.2.2.1.1) ?_
  refine q_if_neN (by omega) (tgt := 18) dX9_restore_4 rfl (fun c1 => ?_) (fun c2 => ?_)
  · refine q_aload_n dX9_restore_18 rfl ?_
    refine fRX9_12 (o := some 2) dX9_restore_19 rfl (by decide) (K.le (by decide)) (K.lk rfl) ?_
    refine q_rfS ?_
    refine q_aload_n dX9_restore_22 rfl ?_
    refine fRX9_23 (o := some 921) dX9_restore_23 rfl (by decide) (K.le (by decide)) (K.lk rfl) ?_
    refine q_rfS ?_
    refine q_vR (kc := 1) (ks := 6) (g_X5_copyFrom (h := h) K (A := 921) (B := 2) (Or.inr (Or.inl rfl)) (Or.inl rfl) (by unfold q_ap; omega) C.1.2.2.2.2.1.2.2.1 V C.1.2.2.2.2.1.2.2.2 C.1.2.1) wX5_copyFrom kX9_335 iX5_copyFrom eX5_copyFrom rfl rfl (by decide) (K.le (by decide)) (by decide) rfl rfl (Nat.le_of_ble_eq_true rfl) dX9_restore_26 rfl rfl ?_
    rintro v h1 ⟨rfl, cpd⟩
    have K : q_Lk Φ h1.R h1.n := by rw [cpd.1, cpd.2.2.2.1]; exact K
    refine q_aload_n dX9_restore_29 rfl ?_
    refine fRX9_19 (o := some 133) dX9_restore_30 rfl (by decide) (K.le (by decide)) (K.lk rfl) ?_
    refine q_rfS ?_
    refine q_vD (kc := 1) (ks := 6) (g_X1_forget (h := h1) K) wX1_forget kX9_340 iX1_forget eX1_forget rfl rfl (by decide) (K.le (by decide)) (by decide) rfl rfl (Nat.le_of_ble_eq_true rfl) dX9_restore_33 rfl rfl ?_
    obtain ⟨Y, y1, C2, F2, T2⟩ := q_restd C.1 cpd
    have K := q_Lk.fr (h := h) K0 F2
    obtain ⟨h2, e2⟩ : ∃ z, z = h1.setI 133 2 (nI 0) := ⟨_, rfl⟩
    rw [← e2] at C2 F2 T2 K ⊢
    have V := C2.1
    have hk2t : h2.I 1053 2 = nI k := by rw [T2.2.2 k hT.1 (by omega), Nat.min_eq_left (by omega)]
    refine q_aload_n dX9_restore_36 rfl ?_
    refine fRX9_41 (o := some 1053) dX9_restore_37 rfl (by decide) (K.le (by decide)) (K.lk rfl) ?_
    refine q_rfS ?_
    refine q_iconst (v := nI 0) dX9_restore_40 (by decide) ?_
    refine q_vD (kc := 1) (ks := 6) (g_X7_forgetFrom (h := h2) K (k := k) (d := 0) hk2t (by omega) (by omega)) wX7_forgetFrom kX9_110 iX7_forgetFrom eX7_forgetFrom rfl rfl (by decide) (K.le (by decide)) (by decide) rfl rfl (Nat.le_of_ble_eq_true rfl) dX9_restore_41 rfl rfl ?_
    refine q_aload_n dX9_restore_44 rfl ?_
    refine fRX9_12 (o := some 2) dX9_restore_45 rfl (by decide) (K.le (by decide)) (K.lk rfl) ?_
    refine q_rfS ?_
    refine fRX9_156 (o := some 9) dX9_restore_48 rfl (by decide) (K.le (by decide)) (K.lk rfl) ?_
    refine q_rfS ?_
    refine fIX9_160 dX9_restore_51 rfl (by decide) (K.le (by decide)) ?_
    refine q_tv (show _ = (nI (O.SW.c)) from ((congrFun (q_sIn _ _ _ (by omega)) _).trans (V.c.trans (congrArg nI y1.2.2.2.2.1)))) ?_
    refine q_iret dX9_restore_54 rfl (Or.inl rfl) ?_
    exact Or.inr ⟨(by omega), _, rfl, rfl, Y, y1, q_mu.fg0 C2 F2 T2 hT (by omega)⟩
  · refine q_throwW (text := "there is no snapshot") tw_72_76 (by decide) rfl ?_ dX9_restore_7 dX9_restore_10 dX9_restore_11 dX9_restore_14 dX9_restore_17 (by decide) (by decide) (by decide) (by decide)
    exact Or.inl ⟨by omega, rfl, q_rd.rf C⟩
