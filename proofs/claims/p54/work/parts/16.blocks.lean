/-! BLOCKS: COPYING A STATE -/
def q_bk (B : Nat) : Prop := B = 2 ∨ B = 921 ∨ ∃ j, j < 6 ∧ B = 135 + 131 * j
theorem q_bkE {B : Nat} (hB : q_bk B) {p : Nat → Prop} (h2 : p 2) (h9 : p 921) (hj : ∀ j, j < 6 → p (135 + 131 * j)) : p B := by
  rcases hB with rfl | rfl | ⟨j, h, rfl⟩
  · exact h2
  · exact h9
  · exact hj j h
theorem q_tb {B : Nat} (hB : q_bk B) (r t : Nat) (hr : r < 131) (e : q_tagS r = t) : q_tag (B + r) = t := by
  subst e
  exact q_bkE hB (p := fun B => q_tag (B + r) = q_tagS r) ((by decide +kernel : ∀ r, r < 131 → q_tag (2 + r) = q_tagS r) r hr) ((by decide +kernel : ∀ r, r < 131 → q_tag (921 + r) = q_tagS r) r hr) (fun j hj => (by decide +kernel : ∀ j, j < 6 → ∀ r, r < 131 → q_tag (135 + 131 * j + r) = q_tagS r) j hj r hr)
theorem q_lb {B : Nat} (hB : q_bk B) (r t : Nat) (hr : r < 131) (e : q_lenS r = t) : q_len (B + r) = t := by
  subst e
  exact q_bkE hB (p := fun B => q_len (B + r) = q_lenS r) ((by decide +kernel : ∀ r, r < 131 → q_len (2 + r) = q_lenS r) r hr) ((by decide +kernel : ∀ r, r < 131 → q_len (921 + r) = q_lenS r) r hr) (fun j hj => (by decide +kernel : ∀ j, j < 6 → ∀ r, r < 131 → q_len (135 + 131 * j + r) = q_lenS r) j hj r hr)
theorem q_lkT_S : (∀ r, r < 131 → ∀ f, f < 5 → q_lkT (2 + r) f = q_lkS 2 r f) ∧ (∀ r, r < 131 → ∀ f, f < 5 → q_lkT (921 + r) f = q_lkS 921 r f) ∧ (∀ j, j < 6 → ∀ r, r < 131 → ∀ f, f < 5 → q_lkT (135 + 131 * j + r) f = q_lkS (135 + 131 * j) r f) := by decide +kernel
theorem q_lkS_B : ∀ r, r < 131 → ∀ f, f < 5 → (q_lkS 0 r f = none) ∨ ∃ x, x < 131 ∧ q_lkS 0 r f = some x := by decide +kernel
theorem q_lkS_sh (B r f x : Nat) (e : q_lkS 0 r f = some x) : q_lkS B r f = some (B + x) := by
  unfold q_lkS at e ⊢
  repeat' split at e
  all_goals first | (cases e; done) | skip
  all_goals (injection e with e; subst e)
  all_goals simp_all
  all_goals omega
theorem q_lkb {B : Nat} (hB : q_bk B) (r f x : Nat) (hr : r < 131 ∧ f < 5) (e : q_lkS 0 r f = some x) : q_lkT (B + r) f = some (B + x) := by
  refine q_bkE hB (p := fun B => q_lkT (B + r) f = some (B + x)) ?_ ?_ (fun j hj => ?_)
  · rw [q_lkT_S.1 r hr.1 f hr.2]; exact q_lkS_sh _ _ _ _ e
  · rw [q_lkT_S.2.1 r hr.1 f hr.2]; exact q_lkS_sh _ _ _ _ e
  · rw [q_lkT_S.2.2 j hj r hr.1 f hr.2]; exact q_lkS_sh _ _ _ _ e
theorem q_b1 {B : Nat} (hB : q_bk B) (r : Nat) : 1 ≤ B + r := by rcases hB with rfl | rfl | ⟨j, h, rfl⟩ <;> omega
theorem q_bn {B : Nat} (hB : q_bk B) (r : Nat) (hr : r < 131) : B + r ≤ 1060 := by rcases hB with rfl | rfl | ⟨j, h, rfl⟩ <;> omega
theorem q_n13 {B : Nat} (hB : q_bk B) : ¬ q_tag (B + 8) < 13 := by rw [q_tb hB 8 13 (by decide) rfl]; decide
theorem q_n16 {B : Nat} (hB : q_bk B) : q_tag (B + 8) < 16 := by rw [q_tb hB 8 13 (by decide) rfl]; decide
theorem q_tagS3 : ∀ s, s < 40 → q_tagS (9 + 3 * s) = 3 ∧ q_tagS (10 + 3 * s) = 12 ∧ q_tagS (11 + 3 * s) = 12 ∧ q_lenS (10 + 3 * s) = 8 ∧ q_lenS (11 + 3 * s) = 8 ∧ q_lkS 0 (9 + 3 * s) 3 = some (10 + 3 * s) ∧ q_lkS 0 (9 + 3 * s) 4 = some (11 + 3 * s) := by decide +kernel
theorem q_tbs {B s : Nat} (hB : q_bk B) (hs : s < 40) : q_tag (B + 9 + 3 * s) = 3 := by rw [Nat.add_assoc]; exact q_tb hB _ _ (by omega) (q_tagS3 s hs).1
theorem q_tbs1 {B s : Nat} (hB : q_bk B) (hs : s < 40) : q_tag (B + 10 + 3 * s) = 12 := by rw [Nat.add_assoc]; exact q_tb hB _ _ (by omega) (q_tagS3 s hs).2.1
theorem q_tbs2 {B s : Nat} (hB : q_bk B) (hs : s < 40) : q_tag (B + 11 + 3 * s) = 12 := by rw [Nat.add_assoc]; exact q_tb hB _ _ (by omega) (q_tagS3 s hs).2.2.1
theorem q_lbs1 {B s : Nat} (hB : q_bk B) (hs : s < 40) : q_len (B + 10 + 3 * s) = 8 := by rw [Nat.add_assoc]; exact q_lb hB _ _ (by omega) (q_tagS3 s hs).2.2.2.1
theorem q_lbs2 {B s : Nat} (hB : q_bk B) (hs : s < 40) : q_len (B + 11 + 3 * s) = 8 := by rw [Nat.add_assoc]; exact q_lb hB _ _ (by omega) (q_tagS3 s hs).2.2.2.2.1
theorem q_lkbs3 {B s : Nat} (hB : q_bk B) (hs : s < 40) : q_lkT (B + 9 + 3 * s) 3 = some (B + 10 + 3 * s) := by rw [Nat.add_assoc, Nat.add_assoc]; exact q_lkb hB _ _ _ ⟨by omega, by decide⟩ (q_tagS3 s hs).2.2.2.2.2.1
theorem q_lkbs4 {B s : Nat} (hB : q_bk B) (hs : s < 40) : q_lkT (B + 9 + 3 * s) 4 = some (B + 11 + 3 * s) := by rw [Nat.add_assoc, Nat.add_assoc]; exact q_lkb hB _ _ _ ⟨by omega, by decide⟩ (q_tagS3 s hs).2.2.2.2.2.2
theorem q_bns {B s : Nat} (hB : q_bk B) (hs : s < 40) : B + 9 + 3 * s ≤ 1060 := by have := q_bn hB (9 + 3 * s) (by omega); omega
theorem q_bns1 {B s : Nat} (hB : q_bk B) (hs : s < 40) : B + 10 + 3 * s ≤ 1060 := by have := q_bn hB (10 + 3 * s) (by omega); omega
theorem q_bns2 {B s : Nat} (hB : q_bk B) (hs : s < 40) : B + 11 + 3 * s ≤ 1060 := by have := q_bn hB (11 + 3 * s) (by omega); omega
/-- two blocks lie apart -/
def q_ap (A B : Nat) : Prop := A + 131 ≤ B ∨ B + 131 ≤ A
theorem q_01 {k : Nat} (h : k ≤ 1) : nI k = 0 ∨ nI k = 1 := by
  rcases (show k = 0 ∨ k = 1 by omega) with rfl | rfl
  · exact Or.inl rfl
  · exact Or.inr rfl
theorem g_X6_copyFrom {Φ : q_Fx} {h : q_Hp} (K : q_Lk Φ h.R h.n) {A B : Nat} (hAk : q_bk A) (hBk : q_bk B) (hap : q_ap A B) : q_Ct Φ false yX6_copyFrom cX6_copyFrom mX6_copyFrom [.ref (B + 1), .ref (A + 1)] h (q_is none (((h.rowI (B + 2) (q_cpy (h.I (A + 2)) (h.I (B + 2)) 10)).rowI (B + 3) (q_cpy (h.I (A + 3)) (h.I (B + 3)) 10)).setI (B + 1) 2 (h.I (A + 1) 2))) := by
  refine q_enter K.st rfl rfl (by decide) rfl (Nat.le_of_ble_eq_true rfl) (L := [_, _]) rfl ?_
  have hA := hAk
  have hB := hBk
  unfold q_ap at hap
  refine q_aload_n dX6_copyFrom_0 rfl ?_
  refine fRX6_9 (o := some (A + 2)) dX6_copyFrom_1 (q_tb hA 1 6 (by decide) rfl) (q_b1 hA _) (K.le (q_bn hA 1 (by decide))) (K.lk (q_lkb hA 1 0 2 (by decide) rfl)) ?_
  refine q_rfS ?_
  refine q_iconst (v := nI 0) dX6_copyFrom_4 (by decide) ?_
  refine q_aload_n dX6_copyFrom_5 rfl ?_
  refine fRX6_9 (o := some (B + 2)) dX6_copyFrom_6 (q_tb hB 1 6 (by decide) rfl) (q_b1 hB _) (K.le (q_bn hB 1 (by decide))) (K.lk (q_lkb hB 1 0 2 (by decide) rfl)) ?_
  refine q_rfS ?_
  refine q_iconst (v := nI 0) dX6_copyFrom_9 (by decide) ?_
  refine q_bipush (v := nI 10) dX6_copyFrom_10 (by decide) ?_
  refine q_copy (n := (nI (10))) kX6_22 (q_tb hA 2 12 (by decide) rfl) (q_tb hB 2 12 (by decide) rfl) dX6_copyFrom_12 (q_b1 hA _) (K.le (q_bn hA 2 (by decide))) (q_b1 hB _) (K.le (q_bn hB 2 (by decide))) (nI_pos (by omega)) (by rw [nI_clamp (by omega), (q_lb hA 2 10 (by decide) rfl)]; omega) (by rw [nI_clamp (by omega), (q_lb hB 2 10 (by decide) rfl)]; omega) (by decide) (by decide) ?_
  rw [nI_clamp (by omega)]
  refine q_aload_n dX6_copyFrom_15 rfl ?_
  refine fRX6_15 (o := some (A + 3)) dX6_copyFrom_16 (q_tb hA 1 6 (by decide) rfl) (q_b1 hA _) (K.le (q_bn hA 1 (by decide))) (K.lk (q_lkb hA 1 1 3 (by decide) rfl)) ?_
  refine q_rfS ?_
  refine q_iconst (v := nI 0) dX6_copyFrom_19 (by decide) ?_
  refine q_aload_n dX6_copyFrom_20 rfl ?_
  refine fRX6_15 (o := some (B + 3)) dX6_copyFrom_21 (q_tb hB 1 6 (by decide) rfl) (q_b1 hB _) (K.le (q_bn hB 1 (by decide))) (K.lk (q_lkb hB 1 1 3 (by decide) rfl)) ?_
  refine q_rfS ?_
  refine q_iconst (v := nI 0) dX6_copyFrom_24 (by decide) ?_
  refine q_bipush (v := nI 10) dX6_copyFrom_25 (by decide) ?_
  refine q_copy (n := (nI (10))) kX6_22 (q_tb hA 3 12 (by decide) rfl) (q_tb hB 3 12 (by decide) rfl) dX6_copyFrom_27 (q_b1 hA _) (K.le (q_bn hA 3 (by decide))) (q_b1 hB _) (K.le (q_bn hB 3 (by decide))) (nI_pos (by omega)) (by rw [nI_clamp (by omega), (q_lb hA 3 10 (by decide) rfl)]; omega) (by rw [nI_clamp (by omega), (q_lb hB 3 10 (by decide) rfl)]; omega) (by decide) (by decide) ?_
  rw [nI_clamp (by omega)]
  refine q_aload_n dX6_copyFrom_30 rfl ?_
  refine q_aload_n dX6_copyFrom_31 rfl ?_
  refine fIX6_18 dX6_copyFrom_32 (q_tb hA 1 6 (by decide) rfl) (q_b1 hA _) (K.le (q_bn hA 1 (by decide))) ?_
  refine q_tv (show _ = (h.I (A + 1) 2) from ((congrFun (q_rIn _ _ (by omega)) _).trans (congrFun (q_rIn _ _ (by omega)) _))) ?_
  refine pIX6_18 dX6_copyFrom_35 (q_tb hB 1 6 (by decide) rfl) (q_b1 hB _) (K.le (q_bn hB 1 (by decide))) ?_
  refine q_vret dX6_copyFrom_38 rfl (Or.inl rfl) ?_
  exact ⟨rfl, by rw [q_rIn _ _ (by omega), q_rIn _ _ (by omega)]⟩
theorem g_X8_copyFrom {Φ : q_Fx} {h : q_Hp} (K : q_Lk Φ h.R h.n) {A B : Nat} (hAk : q_bk A) (hBk : q_bk B) (hap : q_ap A B) : q_Ct Φ false yX8_copyFrom cX8_copyFrom mX8_copyFrom [.ref (B + 4), .ref (A + 4)] h (q_is none ((h.rowI (B + 5) (q_cpy (h.I (A + 5)) (h.I (B + 5)) 6)).rowI (B + 6) (q_cpy (h.I (A + 6)) (h.I (B + 6)) 6))) := by
  refine q_enter K.st rfl rfl (by decide) rfl (Nat.le_of_ble_eq_true rfl) (L := [_, _]) rfl ?_
  have hA := hAk
  have hB := hBk
  unfold q_ap at hap
  refine q_aload_n dX8_copyFrom_0 rfl ?_
  refine fRX8_18 (o := some (A + 5)) dX8_copyFrom_1 (q_tb hA 4 8 (by decide) rfl) (q_b1 hA _) (K.le (q_bn hA 4 (by decide))) (K.lk (q_lkb hA 4 0 5 (by decide) rfl)) ?_
  refine q_rfS ?_
  refine q_iconst (v := nI 0) dX8_copyFrom_4 (by decide) ?_
  refine q_aload_n dX8_copyFrom_5 rfl ?_
  refine fRX8_18 (o := some (B + 5)) dX8_copyFrom_6 (q_tb hB 4 8 (by decide) rfl) (q_b1 hB _) (K.le (q_bn hB 4 (by decide))) (K.lk (q_lkb hB 4 0 5 (by decide) rfl)) ?_
  refine q_rfS ?_
  refine q_iconst (v := nI 0) dX8_copyFrom_9 (by decide) ?_
  refine q_bipush (v := nI 6) dX8_copyFrom_10 (by decide) ?_
  refine q_copy (n := (nI (6))) kX8_29 (q_tb hA 5 12 (by decide) rfl) (q_tb hB 5 12 (by decide) rfl) dX8_copyFrom_12 (q_b1 hA _) (K.le (q_bn hA 5 (by decide))) (q_b1 hB _) (K.le (q_bn hB 5 (by decide))) (nI_pos (by omega)) (by rw [nI_clamp (by omega), (q_lb hA 5 6 (by decide) rfl)]; omega) (by rw [nI_clamp (by omega), (q_lb hB 5 6 (by decide) rfl)]; omega) (by decide) (by decide) ?_
  rw [nI_clamp (by omega)]
  refine q_aload_n dX8_copyFrom_15 rfl ?_
  refine fRX8_26 (o := some (A + 6)) dX8_copyFrom_16 (q_tb hA 4 8 (by decide) rfl) (q_b1 hA _) (K.le (q_bn hA 4 (by decide))) (K.lk (q_lkb hA 4 1 6 (by decide) rfl)) ?_
  refine q_rfS ?_
  refine q_iconst (v := nI 0) dX8_copyFrom_19 (by decide) ?_
  refine q_aload_n dX8_copyFrom_20 rfl ?_
  refine fRX8_26 (o := some (B + 6)) dX8_copyFrom_21 (q_tb hB 4 8 (by decide) rfl) (q_b1 hB _) (K.le (q_bn hB 4 (by decide))) (K.lk (q_lkb hB 4 1 6 (by decide) rfl)) ?_
  refine q_rfS ?_
  refine q_iconst (v := nI 0) dX8_copyFrom_24 (by decide) ?_
  refine q_bipush (v := nI 6) dX8_copyFrom_25 (by decide) ?_
  refine q_copy (n := (nI (6))) kX8_29 (q_tb hA 6 12 (by decide) rfl) (q_tb hB 6 12 (by decide) rfl) dX8_copyFrom_27 (q_b1 hA _) (K.le (q_bn hA 6 (by decide))) (q_b1 hB _) (K.le (q_bn hB 6 (by decide))) (nI_pos (by omega)) (by rw [nI_clamp (by omega), (q_lb hA 6 6 (by decide) rfl)]; omega) (by rw [nI_clamp (by omega), (q_lb hB 6 6 (by decide) rfl)]; omega) (by decide) (by decide) ?_
  rw [nI_clamp (by omega)]
  refine q_vret dX8_copyFrom_30 rfl (Or.inl rfl) ?_
  exact ⟨rfl, by rw [q_rIn _ _ (by omega), q_rIn _ _ (by omega)]⟩
theorem g_X2_copyFrom {Φ : q_Fx} {h : q_Hp} (K : q_Lk Φ h.R h.n) {A B : Nat} (hAk : q_bk A) (hBk : q_bk B) (hap : q_ap A B) {pe pc : Nat} (hpe : h.I (A + 129) 0 = nI pe) (hpe1 : pe ≤ 1) (hpc : h.I (A + 129) 2 = nI pc) (hpc2 : pc ≤ 28) : q_Ct Φ false yX2_copyFrom cX2_copyFrom mX2_copyFrom [.ref (B + 129), .ref (A + 129)] h (q_is none ((((h.setI (B + 129) 0 (nI pe)).setI (B + 129) 1 (h.I (A + 129) 1)).setI (B + 129) 2 (nI pc)).rowI (B + 130) (q_cpy (h.I (A + 130)) (h.I (B + 130)) pc))) := by
  refine q_enter K.st rfl rfl (by decide) rfl (Nat.le_of_ble_eq_true rfl) (L := [_, _]) rfl ?_
  have hA := hAk
  have hB := hBk
  unfold q_ap at hap
  refine q_aload_n dX2_copyFrom_0 rfl ?_
  refine q_aload_n dX2_copyFrom_1 rfl ?_
  refine fIX2_9 dX2_copyFrom_2 (q_tb hA 129 2 (by decide) rfl) (q_b1 hA _) (K.le (q_bn hA 129 (by decide))) ?_
  refine q_tv (show _ = (nI (pe)) from hpe) ?_
  refine pIX2_9 dX2_copyFrom_5 (q_01 hpe1) (q_tb hB 129 2 (by decide) rfl) (q_b1 hB _) (K.le (q_bn hB 129 (by decide))) ?_
  refine q_aload_n dX2_copyFrom_8 rfl ?_
  refine q_aload_n dX2_copyFrom_9 rfl ?_
  refine fIX2_15 dX2_copyFrom_10 (q_tb hA 129 2 (by decide) rfl) (q_b1 hA _) (K.le (q_bn hA 129 (by decide))) ?_
  refine q_tv (show _ = (h.I (A + 129) 1) from (congrFun (q_sIn _ _ _ (by omega)) _)) ?_
  refine pIX2_15 dX2_copyFrom_13 (q_tb hB 129 2 (by decide) rfl) (q_b1 hB _) (K.le (q_bn hB 129 (by decide))) ?_
  refine q_aload_n dX2_copyFrom_16 rfl ?_
  refine q_aload_n dX2_copyFrom_17 rfl ?_
  refine fIX2_19 dX2_copyFrom_18 (q_tb hA 129 2 (by decide) rfl) (q_b1 hA _) (K.le (q_bn hA 129 (by decide))) ?_
  refine q_tv (show _ = (nI (pc)) from ((congrFun (q_sIn _ _ _ (by omega)) _).trans ((congrFun (q_sIn _ _ _ (by omega)) _).trans hpc))) ?_
  refine pIX2_19 dX2_copyFrom_21 (q_tb hB 129 2 (by decide) rfl) (q_b1 hB _) (K.le (q_bn hB 129 (by decide))) ?_
  refine q_aload_n dX2_copyFrom_24 rfl ?_
  refine fRX2_22 (o := some (A + 130)) dX2_copyFrom_25 (q_tb hA 129 2 (by decide) rfl) (q_b1 hA _) (K.le (q_bn hA 129 (by decide))) (K.lk (q_lkb hA 129 3 130 (by decide) rfl)) ?_
  refine q_rfS ?_
  refine q_iconst (v := nI 0) dX2_copyFrom_28 (by decide) ?_
  refine q_aload_n dX2_copyFrom_29 rfl ?_
  refine fRX2_22 (o := some (B + 130)) dX2_copyFrom_30 (q_tb hB 129 2 (by decide) rfl) (q_b1 hB _) (K.le (q_bn hB 129 (by decide))) (K.lk (q_lkb hB 129 3 130 (by decide) rfl)) ?_
  refine q_rfS ?_
  refine q_iconst (v := nI 0) dX2_copyFrom_33 (by decide) ?_
  refine q_aload_n dX2_copyFrom_34 rfl ?_
  refine fIX2_19 dX2_copyFrom_35 (q_tb hA 129 2 (by decide) rfl) (q_b1 hA _) (K.le (q_bn hA 129 (by decide))) ?_
  refine q_tv (show _ = (nI (pc)) from ((congrFun (q_sIn _ _ _ (by omega)) _).trans ((congrFun (q_sIn _ _ _ (by omega)) _).trans ((congrFun (q_sIn _ _ _ (by omega)) _).trans hpc)))) ?_
  refine q_copy (n := (nI (pc))) kX2_26 (q_tb hA 130 12 (by decide) rfl) (q_tb hB 130 12 (by decide) rfl) dX2_copyFrom_38 (q_b1 hA _) (K.le (q_bn hA 130 (by decide))) (q_b1 hB _) (K.le (q_bn hB 130 (by decide))) (nI_pos (by omega)) (by rw [nI_clamp (by omega), (q_lb hA 130 28 (by decide) rfl)]; omega) (by rw [nI_clamp (by omega), (q_lb hB 130 28 (by decide) rfl)]; omega) (by decide) (by decide) ?_
  rw [nI_clamp (by omega)]
  refine q_vret dX2_copyFrom_41 rfl (Or.inl rfl) ?_
  exact ⟨rfl, by rw [q_sIn _ _ _ (by omega), q_sIn _ _ _ (by omega), q_sIn _ _ _ (by omega), q_sIn _ _ _ (by omega), q_sIn _ _ _ (by omega), q_sIn _ _ _ (by omega)]⟩
theorem g_X3_copyFrom {Φ : q_Fx} {h : q_Hp} (K : q_Lk Φ h.R h.n) {A B : Nat} (hAk : q_bk A) (hBk : q_bk B) (hap : q_ap A B) {s r pn : Nat} (hs : s < 40) (hr : r < 40) (hpn : h.I (A + 9 + 3 * s) 2 = nI pn) (hpn8 : pn ≤ 8) : q_Ct Φ false yX3_copyFrom cX3_copyFrom mX3_copyFrom [.ref (B + 9 + 3 * r), .ref (A + 9 + 3 * s)] h (q_is none (((((h.setI (B + 9 + 3 * r) 0 (h.I (A + 9 + 3 * s) 0)).setI (B + 9 + 3 * r) 1 (h.I (A + 9 + 3 * s) 1)).setI (B + 9 + 3 * r) 2 (nI pn)).rowI (B + 10 + 3 * r) (q_cpy (h.I (A + 10 + 3 * s)) (h.I (B + 10 + 3 * r)) pn)).rowI (B + 11 + 3 * r) (q_cpy (h.I (A + 11 + 3 * s)) (h.I (B + 11 + 3 * r)) pn))) := by
  refine q_enter K.st rfl rfl (by decide) rfl (Nat.le_of_ble_eq_true rfl) (L := [_, _]) rfl ?_
  have hA := hAk
  have hB := hBk
  unfold q_ap at hap
  refine q_aload_n dX3_copyFrom_0 rfl ?_
  refine q_aload_n dX3_copyFrom_1 rfl ?_
  refine fIX3_9 dX3_copyFrom_2 (q_tbs hA hs) (by omega) (K.le (q_bns hA hs)) ?_
  refine pIX3_9 dX3_copyFrom_5 (q_tbs hB hr) (by omega) (K.le (q_bns hB hr)) ?_
  refine q_aload_n dX3_copyFrom_8 rfl ?_
  refine q_aload_n dX3_copyFrom_9 rfl ?_
  refine fIX3_15 dX3_copyFrom_10 (q_tbs hA hs) (by omega) (K.le (q_bns hA hs)) ?_
  refine q_tv (show _ = (h.I (A + 9 + 3 * s) 1) from (congrFun (q_sIn _ _ _ (by omega)) _)) ?_
  refine pIX3_15 dX3_copyFrom_13 (q_tbs hB hr) (by omega) (K.le (q_bns hB hr)) ?_
  refine q_aload_n dX3_copyFrom_16 rfl ?_
  refine q_aload_n dX3_copyFrom_17 rfl ?_
  refine fIX3_18 dX3_copyFrom_18 (q_tbs hA hs) (by omega) (K.le (q_bns hA hs)) ?_
  refine q_tv (show _ = (nI (pn)) from ((congrFun (q_sIn _ _ _ (by omega)) _).trans ((congrFun (q_sIn _ _ _ (by omega)) _).trans hpn))) ?_
  refine pIX3_18 dX3_copyFrom_21 (q_tbs hB hr) (by omega) (K.le (q_bns hB hr)) ?_
  refine q_aload_n dX3_copyFrom_24 rfl ?_
  refine fRX3_21 (o := some (A + 10 + 3 * s)) dX3_copyFrom_25 (q_tbs hA hs) (by omega) (K.le (q_bns hA hs)) (K.lk (q_lkbs3 hA hs)) ?_
  refine q_rfS ?_
  refine q_iconst (v := nI 0) dX3_copyFrom_28 (by decide) ?_
  refine q_aload_n dX3_copyFrom_29 rfl ?_
  refine fRX3_21 (o := some (B + 10 + 3 * r)) dX3_copyFrom_30 (q_tbs hB hr) (by omega) (K.le (q_bns hB hr)) (K.lk (q_lkbs3 hB hr)) ?_
  refine q_rfS ?_
  refine q_iconst (v := nI 0) dX3_copyFrom_33 (by decide) ?_
  refine q_aload_n dX3_copyFrom_34 rfl ?_
  refine fIX3_18 dX3_copyFrom_35 (q_tbs hA hs) (by omega) (K.le (q_bns hA hs)) ?_
  refine q_tv (show _ = (nI (pn)) from ((congrFun (q_sIn _ _ _ (by omega)) _).trans ((congrFun (q_sIn _ _ _ (by omega)) _).trans ((congrFun (q_sIn _ _ _ (by omega)) _).trans hpn)))) ?_
  refine q_copy (n := (nI (pn))) kX3_28 (q_tbs1 hA hs) (q_tbs1 hB hr) dX3_copyFrom_38 (by omega) (K.le (q_bns1 hA hs)) (by omega) (K.le (q_bns1 hB hr)) (nI_pos (by omega)) (by rw [nI_clamp (by omega), (q_lbs1 hA hs)]; omega) (by rw [nI_clamp (by omega), (q_lbs1 hB hr)]; omega) (by decide) (by decide) ?_
  rw [nI_clamp (by omega)]
  refine q_aload_n dX3_copyFrom_41 rfl ?_
  refine fRX3_25 (o := some (A + 11 + 3 * s)) dX3_copyFrom_42 (q_tbs hA hs) (by omega) (K.le (q_bns hA hs)) (K.lk (q_lkbs4 hA hs)) ?_
  refine q_rfS ?_
  refine q_iconst (v := nI 0) dX3_copyFrom_45 (by decide) ?_
  refine q_aload_n dX3_copyFrom_46 rfl ?_
  refine fRX3_25 (o := some (B + 11 + 3 * r)) dX3_copyFrom_47 (q_tbs hB hr) (by omega) (K.le (q_bns hB hr)) (K.lk (q_lkbs4 hB hr)) ?_
  refine q_rfS ?_
  refine q_iconst (v := nI 0) dX3_copyFrom_50 (by decide) ?_
  refine q_aload_n dX3_copyFrom_51 rfl ?_
  refine fIX3_18 dX3_copyFrom_52 (q_tbs hA hs) (by omega) (K.le (q_bns hA hs)) ?_
  refine q_tv (show _ = (nI (pn)) from ((congrFun (q_rIn _ _ (by omega)) _).trans ((congrFun (q_sIn _ _ _ (by omega)) _).trans ((congrFun (q_sIn _ _ _ (by omega)) _).trans ((congrFun (q_sIn _ _ _ (by omega)) _).trans hpn))))) ?_
  refine q_copy (n := (nI (pn))) kX3_28 (q_tbs2 hA hs) (q_tbs2 hB hr) dX3_copyFrom_55 (by omega) (K.le (q_bns2 hA hs)) (by omega) (K.le (q_bns2 hB hr)) (nI_pos (by omega)) (by rw [nI_clamp (by omega), (q_lbs2 hA hs)]; omega) (by rw [nI_clamp (by omega), (q_lbs2 hB hr)]; omega) (by decide) (by decide) ?_
  rw [nI_clamp (by omega)]
  refine q_vret dX3_copyFrom_58 rfl (Or.inl rfl) ?_
  exact ⟨rfl, by simp only [q_sIn _ _ _ (show A + 10 + 3 * s ≠ B + 9 + 3 * r by omega), q_sIn _ _ _ (show B + 10 + 3 * r ≠ B + 9 + 3 * r by omega), q_rIn _ _ (show A + 11 + 3 * s ≠ B + 10 + 3 * r by omega), q_rIn _ _ (show B + 11 + 3 * r ≠ B + 10 + 3 * r by omega), q_sIn _ _ _ (show A + 11 + 3 * s ≠ B + 9 + 3 * r by omega), q_sIn _ _ _ (show B + 11 + 3 * r ≠ B + 9 + 3 * r by omega)]⟩
