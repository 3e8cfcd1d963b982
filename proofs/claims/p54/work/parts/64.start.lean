/-! THE START: what the made heap holds -/
def q_Wi : q_W := (0, (0, fun _ => 0, fun _ => 0), (fun f => q_fb.getD f 0, fun f => q_fw.getD f 0), (0, 0, fun i => i, fun _ => 0, fun _ => 0, fun _ => 0, fun _ _ => 0, fun _ _ => 0), (0, 0, 0, fun _ => 0))
def q_Oi : q_O := ((0, 0), (fun _ => q_Wi), (0, q_Wi), (0, fun _ => 0))
def q_all (h : q_Hp) : Prop := ∀ p, 1 ≤ p → p ≤ 1060 → q_dn h p
theorem q_ok0i : q_ok0 q_Wi := ⟨fun s _ => ⟨fun p hp => absurd hp (Nat.not_lt_zero p), Nat.zero_le 240⟩, fun _ _ _ _ e => e⟩
theorem q_vali : q_val q_Wi := by
  refine ⟨fun i hi => absurd hi (Nat.not_lt_zero i), fun z h1 h2 => ?_, fun z h1 h2 => ?_, fun k hk => ⟨q_ok0i.1 k hk, fun p hp => absurd hp (Nat.not_lt_zero p)⟩, fun i hi => absurd hi (Nat.not_lt_zero i), fun i hi => absurd hi (Nat.not_lt_zero i), fun _ => rfl⟩
  · rcases (show z = 2 ∨ z = 3 ∨ z = 4 ∨ z = 5 by omega) with rfl | rfl | rfl | rfl
    · exact ⟨80, by decide, by decide, rfl⟩
    · exact ⟨90, by decide, by decide, rfl⟩
    · exact ⟨100, by decide, by decide, rfl⟩
    · exact ⟨110, by decide, by decide, rfl⟩
  · rcases (show z = 1 ∨ z = 2 ∨ z = 3 ∨ z = 4 ∨ z = 5 by omega) with rfl | rfl | rfl | rfl | rfl
    · exact ⟨1, by decide, rfl⟩
    · exact ⟨2, by decide, rfl⟩
    · exact ⟨3, by decide, rfl⟩
    · exact ⟨5, by decide, rfl⟩
    · exact ⟨8, by decide, rfl⟩
theorem q_smci : q_smc 0 q_Wi q_Wi :=
  ⟨⟨0, Nat.le_refl _, ⟨rfl, rfl, rfl, rfl, fun _ _ => ⟨rfl, rfl⟩, fun _ _ _ => rfl, fun _ _ _ => rfl, rfl, rfl, rfl, fun _ _ => rfl⟩, ⟨fun i => i, ⟨fun i hi => absurd hi (Nat.not_lt_zero i), fun i hi => absurd hi (Nat.not_lt_zero i)⟩, fun i hi => absurd hi (Nat.not_lt_zero i), fun _ j _ hj => absurd hj (Nat.not_lt_zero j)⟩, fun _ => rfl, Nat.zero_le _, rfl, fun i hi => absurd hi (Nat.not_lt_zero i), fun i hi => absurd hi (Nat.not_lt_zero i), fun i hi => absurd hi (Nat.not_lt_zero i), Nat.zero_le _, q_vali⟩, fun i hi => absurd hi (Nat.not_lt_zero i)⟩
section Q74
variable {h : q_Hp}
theorem q_all.z (A : q_all h) {p : Nat} (h1 : 1 ≤ p) (h2 : p ≤ 1060) (hi : q_ik p = 0) : h.I p = fun _ => 0 := funext fun f => by rw [(A p h1 h2).2 f, q_i00 hi]
theorem q_all.vB (A : q_all h) {B : Nat} (hB : q_bk B) : q_vB B h.I h.R q_Wi := by
  have b1 := q_bk1 hB
  have b2 : B + 131 ≤ 1052 := by rcases hB with rfl | rfl | ⟨j, hj, rfl⟩ <;> omega
  have z : ∀ r, r < 131 → q_ikS r = 0 → h.I (B + r) = fun _ => 0 := fun r hr hi => A.z (by omega) (by omega) ((q_ikb hB hr).trans hi)
  have z0 : h.I B = fun _ => 0 := z 0 (by decide) rfl
  have z1 := z 1 (by decide) rfl
  have z7 := z 7 (by decide) rfl
  have z129 := z 129 (by decide) rfl
  have ks : ∀ s, s < 40 → q_ikS (9 + 3 * s) = 0 ∧ q_ikS (10 + 3 * s) = 0 ∧ q_ikS (11 + 3 * s) = 0 := by decide +kernel
  refine ⟨by rw [z0]; rfl, Nat.zero_le _, by rw [z1]; rfl, Nat.zero_le _, z 2 (by decide) rfl, z 3 (by decide) rfl, ?_, ?_, by rw [z7]; rfl, Nat.zero_le _, by rw [z7]; rfl, fun i hi => ⟨(A (B + 8) (by omega) (by omega)).1 i (B + 9 + 3 * i) (by rw [q_lkX8 hB, if_pos hi]), hi⟩, fun s hs => ?_, by rw [z129]; rfl, Nat.zero_le _, by rw [z129]; rfl, Nat.zero_le _, by rw [z129]; rfl, Nat.zero_le _, z 130 (by decide) rfl⟩
  · funext f
    rw [(A (B + 5) (by omega) (by omega)).2 f]
    unfold q_i0
    rw [(q_ikb hB (r := 5) (by decide)).trans (show q_ikS 5 = 1 from rfl), if_pos rfl]
    rfl
  · funext f
    rw [(A (B + 6) (by omega) (by omega)).2 f]
    unfold q_i0
    rw [(q_ikb hB (r := 6) (by decide)).trans (show q_ikS 6 = 2 from rfl), if_neg (by decide), if_pos rfl]
    rfl
  · obtain ⟨k1, k2, k3⟩ := ks s hs
    have e1 : h.I (B + 9 + 3 * s) = fun _ => 0 := by rw [show B + 9 + 3 * s = B + (9 + 3 * s) by omega]; exact z _ (by omega) k1
    have e2 : h.I (B + 10 + 3 * s) = fun _ => 0 := by rw [show B + 10 + 3 * s = B + (10 + 3 * s) by omega]; exact z _ (by omega) k2
    have e3 : h.I (B + 11 + 3 * s) = fun _ => 0 := by rw [show B + 11 + 3 * s = B + (11 + 3 * s) by omega]; exact z _ (by omega) k3
    exact ⟨by rw [e1]; rfl, by rw [e1]; rfl, Nat.zero_le _, by rw [e1]; rfl, Nat.zero_le _, e2, e3⟩
theorem q_all.cl (A : q_all h) : q_clX h q_Wi q_Oi := by
  have z133 := A.z (p := 133) (by decide) (by decide) rfl
  have z1 := A.z (p := 1) (by decide) (by decide) rfl
  have z53 := A.z (p := 1053) (by decide) (by decide) rfl
  exact ⟨⟨A.vB (Or.inl rfl), q_ok0i, ⟨by rw [z133]; rfl, by decide, by rw [z133]; rfl, Nat.zero_le _⟩, fun j hj => ⟨A.vB (q_bkj hj), q_ok0i⟩, ⟨by rw [z1]; rfl, Nat.zero_le _, A.vB (Or.inr (Or.inl rfl)), q_ok0i⟩, by rw [z1]; rfl, Nat.zero_le _, A.z (p := 1052) (by decide) (by decide) rfl⟩, 0, by rw [z53]; rfl, Nat.zero_le _, fun d hd => absurd hd (Nat.not_lt_zero d), fun d hd => absurd hd (Nat.not_lt_zero d)⟩
theorem q_t13 : ∀ p, p < 1061 → q_tag p = 13 → p = 10 ∨ p = 929 ∨ p = 143 ∨ p = 274 ∨ p = 405 ∨ p = 536 ∨ p = 667 ∨ p = 798 := by decide +kernel
theorem q_all.Lk {Φ : q_Fx} (hst : Φ.l.stackTraces = false) (A : q_all h) (hn : h.n = 1060) : q_Lk Φ h.R h.n := by
  refine ⟨hst, hn, fun p f t e => ?_⟩
  have h1 : 1 ≤ p := by
    refine Nat.one_le_iff_ne_zero.mpr fun c => ?_
    subst c
    have e : (none : Option Nat) = some t := e
    cases e
  have h2 : p ≤ 1060 := Nat.not_lt.mp fun c => by rw [q_lkT_dyn (by omega)] at e; cases e
  refine (A p h1 h2).1 f t ?_
  unfold q_lkX
  rw [if_neg fun c => ?_]
  · exact e
  · rcases q_t13 p (by omega) c with rfl | rfl | rfl | rfl | rfl | rfl | rfl | rfl
    all_goals (have e : (none : Option Nat) = some t := e; cases e)
end Q74
/-- the net at the start -/
def q_bgn (h : q_Hp) (v : Option Value) (h' : q_Hp) : Prop := ∃ a, v = some (.ref a) ∧ 2000 ≤ a ∧ a % 4 = 0 ∧ a ∉ h.J ∧ h'.J = h.J ++ [a] ∧ h'.n = h.n ∧ (∀ p, p ≠ a → h'.I p = h.I p ∧ h'.R p = h.R p) ∧ (h'.R a = fun _ => none) ∧ h'.I a 899 = nI 0 ∧ q_nr (h'.I a) q_Wi (fun i => i)
theorem q_bdi : q_bd q_Wi := by
  refine ⟨Nat.zero_le _, Nat.zero_le _, Nat.zero_le _, Nat.zero_le _, Nat.zero_le _, Nat.zero_le _, fun k hk => absurd hk (Nat.not_lt_zero k)⟩
theorem q_inci : q_inc q_Wi := ⟨by decide, by decide, by decide⟩
def q_n0 : Nat → Int32 := va_up (va_up (va_up (va_up (va_up (va_up (va_up (va_up (va_up (fun _ => 0) 22 (nI 80)) 23 (nI 90)) 24 (nI 100)) 25 (nI 110)) 31 (nI 1)) 32 (nI 2)) 33 (nI 3)) 34 (nI 5)) 35 (nI 8)
theorem q_nri : q_nr q_n0 q_Wi (fun i => i) := by
  refine ⟨by decide, by decide, by decide, by decide, by decide, by decide, by decide, fun z h1 h2 => ?_, fun z h1 h2 => ?_, ⟨fun i hi => absurd hi (Nat.not_lt_zero i), fun i hi => absurd hi (Nat.not_lt_zero i)⟩, fun t ht => absurd ht (Nat.not_lt_zero t), fun t ht => absurd ht (Nat.not_lt_zero t), fun t ht => absurd ht (Nat.not_lt_zero t)⟩
  · rcases (show z = 2 ∨ z = 3 ∨ z = 4 ∨ z = 5 by omega) with rfl | rfl | rfl | rfl <;> decide
  · rcases (show z = 1 ∨ z = 2 ∨ z = 3 ∨ z = 4 ∨ z = 5 by omega) with rfl | rfl | rfl | rfl | rfl <;> decide
theorem g_L_begun {Φ : q_Fx} (hst : Φ.l.stackTraces = false) {h : q_Hp} : q_Ct Φ false yL_begun cL_begun mL_begun [] h (q_ex (q_bgn h)) := by
  refine q_enter hst rfl rfl (by decide) rfl (Nat.le_of_ble_eq_true rfl) (L := [none, none]) rfl ?_
  refine q_sipush (v := nI 900) dL_begun_0 (by decide) ?_
  refine q_newD (kc := 0) (ks := 0) dL_begun_3 rfl rfl (fun b9 b91 b92 b93 => ?_)
  refine q_astore_n (L' := [_, _]) dL_begun_5 rfl (by decide) rfl ?_
  refine q_iconst (v := nI 2) dL_begun_6 (by decide) ?_
  refine q_istore_n (L' := [_, _]) dL_begun_7 rfl (by decide) rfl ?_
  refine q_iload_n dL_begun_8 rfl ?_
  refine q_iconst (v := nI 5) dL_begun_9 (by decide) ?_
  refine q_icmp_gt (tgt := 32) dL_begun_10 rfl (fun c => absurd c (by decide)) (fun _ => ?_)
  refine q_aload_n dL_begun_13 rfl ?_
  refine q_bipush (v := nI 20) dL_begun_14 (by decide) ?_
  refine q_iload_n dL_begun_16 rfl ?_
  refine q_iaddN dL_begun_17 ?_
  refine q_bipush (v := nI 60) dL_begun_18 (by decide) ?_
  refine q_bipush (v := nI 10) dL_begun_20 (by decide) ?_
  refine q_iload_n dL_begun_22 rfl ?_
  refine q_imulN dL_begun_23 ?_
  refine q_iaddN dL_begun_24 ?_
  refine q_iastD (k := (20) + (2)) (List.mem_append_right _ (List.mem_singleton_self _)) (q_t9 b91 b92) (q_l9 b91 b92) (by omega) (by decide) dL_begun_25 ?_
  refine q_iinc (v := nI 3) (L' := [_, _]) dL_begun_26 rfl (by decide) rfl (by decide) rfl ?_
  refine q_goto (tgt := 8) dL_begun_29 rfl ?_
  refine q_iload_n dL_begun_8 rfl ?_
  refine q_iconst (v := nI 5) dL_begun_9 (by decide) ?_
  refine q_icmp_gt (tgt := 32) dL_begun_10 rfl (fun c => absurd c (by decide)) (fun _ => ?_)
  refine q_aload_n dL_begun_13 rfl ?_
  refine q_bipush (v := nI 20) dL_begun_14 (by decide) ?_
  refine q_iload_n dL_begun_16 rfl ?_
  refine q_iaddN dL_begun_17 ?_
  refine q_bipush (v := nI 60) dL_begun_18 (by decide) ?_
  refine q_bipush (v := nI 10) dL_begun_20 (by decide) ?_
  refine q_iload_n dL_begun_22 rfl ?_
  refine q_imulN dL_begun_23 ?_
  refine q_iaddN dL_begun_24 ?_
  refine q_iastD (k := (20) + (3)) (List.mem_append_right _ (List.mem_singleton_self _)) (q_t9 b91 b92) (q_l9 b91 b92) (by omega) (by decide) dL_begun_25 ?_
  refine q_iinc (v := nI 4) (L' := [_, _]) dL_begun_26 rfl (by decide) rfl (by decide) rfl ?_
  refine q_goto (tgt := 8) dL_begun_29 rfl ?_
  refine q_iload_n dL_begun_8 rfl ?_
  refine q_iconst (v := nI 5) dL_begun_9 (by decide) ?_
  refine q_icmp_gt (tgt := 32) dL_begun_10 rfl (fun c => absurd c (by decide)) (fun _ => ?_)
  refine q_aload_n dL_begun_13 rfl ?_
  refine q_bipush (v := nI 20) dL_begun_14 (by decide) ?_
  refine q_iload_n dL_begun_16 rfl ?_
  refine q_iaddN dL_begun_17 ?_
  refine q_bipush (v := nI 60) dL_begun_18 (by decide) ?_
  refine q_bipush (v := nI 10) dL_begun_20 (by decide) ?_
  refine q_iload_n dL_begun_22 rfl ?_
  refine q_imulN dL_begun_23 ?_
  refine q_iaddN dL_begun_24 ?_
  refine q_iastD (k := (20) + (4)) (List.mem_append_right _ (List.mem_singleton_self _)) (q_t9 b91 b92) (q_l9 b91 b92) (by omega) (by decide) dL_begun_25 ?_
  refine q_iinc (v := nI 5) (L' := [_, _]) dL_begun_26 rfl (by decide) rfl (by decide) rfl ?_
  refine q_goto (tgt := 8) dL_begun_29 rfl ?_
  refine q_iload_n dL_begun_8 rfl ?_
  refine q_iconst (v := nI 5) dL_begun_9 (by decide) ?_
  refine q_icmp_gt (tgt := 32) dL_begun_10 rfl (fun c => absurd c (by decide)) (fun _ => ?_)
  refine q_aload_n dL_begun_13 rfl ?_
  refine q_bipush (v := nI 20) dL_begun_14 (by decide) ?_
  refine q_iload_n dL_begun_16 rfl ?_
  refine q_iaddN dL_begun_17 ?_
  refine q_bipush (v := nI 60) dL_begun_18 (by decide) ?_
  refine q_bipush (v := nI 10) dL_begun_20 (by decide) ?_
  refine q_iload_n dL_begun_22 rfl ?_
  refine q_imulN dL_begun_23 ?_
  refine q_iaddN dL_begun_24 ?_
  refine q_iastD (k := (20) + (5)) (List.mem_append_right _ (List.mem_singleton_self _)) (q_t9 b91 b92) (q_l9 b91 b92) (by omega) (by decide) dL_begun_25 ?_
  refine q_iinc (v := nI 6) (L' := [_, _]) dL_begun_26 rfl (by decide) rfl (by decide) rfl ?_
  refine q_goto (tgt := 8) dL_begun_29 rfl ?_
  refine q_iload_n dL_begun_8 rfl ?_
  refine q_iconst (v := nI 5) dL_begun_9 (by decide) ?_
  refine q_icmp_gt (tgt := 32) dL_begun_10 rfl (fun _ => ?_) (fun c => absurd (by decide) c)
  refine q_iconst (v := nI 1) dL_begun_32 (by decide) ?_
  refine q_istore_n (L' := [_, _]) dL_begun_33 rfl (by decide) rfl ?_
  refine q_iload_n dL_begun_34 rfl ?_
  refine q_iconst (v := nI 5) dL_begun_35 (by decide) ?_
  refine q_icmp_gt (tgt := 71) dL_begun_36 rfl (fun c => absurd c (by decide)) (fun _ => ?_)
  refine q_aload_n dL_begun_39 rfl ?_
  refine q_bipush (v := nI 30) dL_begun_40 (by decide) ?_
  refine q_iload_n dL_begun_42 rfl ?_
  refine q_iaddN dL_begun_43 ?_
  refine q_iload_n dL_begun_44 rfl ?_
  refine q_iconst (v := nI 4) dL_begun_45 (by decide) ?_
  refine q_icmp_ne (tgt := 53) dL_begun_46 rfl (fun _ => ?_) (fun c => absurd c (by decide))
  refine q_iload_n dL_begun_53 rfl ?_
  refine q_iconst (v := nI 5) dL_begun_54 (by decide) ?_
  refine q_icmp_ne (tgt := 63) dL_begun_55 rfl (fun _ => ?_) (fun c => absurd c (by decide))
  refine q_iload_n dL_begun_63 rfl ?_
  refine q_iastD (k := (30) + (1)) (List.mem_append_right _ (List.mem_singleton_self _)) (q_t9 b91 b92) (q_l9 b91 b92) (by omega) (by decide) dL_begun_64 ?_
  refine q_iinc (v := nI 2) (L' := [_, _]) dL_begun_65 rfl (by decide) rfl (by decide) rfl ?_
  refine q_goto (tgt := 34) dL_begun_68 rfl ?_
  refine q_iload_n dL_begun_34 rfl ?_
  refine q_iconst (v := nI 5) dL_begun_35 (by decide) ?_
  refine q_icmp_gt (tgt := 71) dL_begun_36 rfl (fun c => absurd c (by decide)) (fun _ => ?_)
  refine q_aload_n dL_begun_39 rfl ?_
  refine q_bipush (v := nI 30) dL_begun_40 (by decide) ?_
  refine q_iload_n dL_begun_42 rfl ?_
  refine q_iaddN dL_begun_43 ?_
  refine q_iload_n dL_begun_44 rfl ?_
  refine q_iconst (v := nI 4) dL_begun_45 (by decide) ?_
  refine q_icmp_ne (tgt := 53) dL_begun_46 rfl (fun _ => ?_) (fun c => absurd c (by decide))
  refine q_iload_n dL_begun_53 rfl ?_
  refine q_iconst (v := nI 5) dL_begun_54 (by decide) ?_
  refine q_icmp_ne (tgt := 63) dL_begun_55 rfl (fun _ => ?_) (fun c => absurd c (by decide))
  refine q_iload_n dL_begun_63 rfl ?_
  refine q_iastD (k := (30) + (2)) (List.mem_append_right _ (List.mem_singleton_self _)) (q_t9 b91 b92) (q_l9 b91 b92) (by omega) (by decide) dL_begun_64 ?_
  refine q_iinc (v := nI 3) (L' := [_, _]) dL_begun_65 rfl (by decide) rfl (by decide) rfl ?_
  refine q_goto (tgt := 34) dL_begun_68 rfl ?_
  refine q_iload_n dL_begun_34 rfl ?_
  refine q_iconst (v := nI 5) dL_begun_35 (by decide) ?_
  refine q_icmp_gt (tgt := 71) dL_begun_36 rfl (fun c => absurd c (by decide)) (fun _ => ?_)
  refine q_aload_n dL_begun_39 rfl ?_
  refine q_bipush (v := nI 30) dL_begun_40 (by decide) ?_
  refine q_iload_n dL_begun_42 rfl ?_
  refine q_iaddN dL_begun_43 ?_
  refine q_iload_n dL_begun_44 rfl ?_
  refine q_iconst (v := nI 4) dL_begun_45 (by decide) ?_
  refine q_icmp_ne (tgt := 53) dL_begun_46 rfl (fun _ => ?_) (fun c => absurd c (by decide))
  refine q_iload_n dL_begun_53 rfl ?_
  refine q_iconst (v := nI 5) dL_begun_54 (by decide) ?_
  refine q_icmp_ne (tgt := 63) dL_begun_55 rfl (fun _ => ?_) (fun c => absurd c (by decide))
  refine q_iload_n dL_begun_63 rfl ?_
  refine q_iastD (k := (30) + (3)) (List.mem_append_right _ (List.mem_singleton_self _)) (q_t9 b91 b92) (q_l9 b91 b92) (by omega) (by decide) dL_begun_64 ?_
  refine q_iinc (v := nI 4) (L' := [_, _]) dL_begun_65 rfl (by decide) rfl (by decide) rfl ?_
  refine q_goto (tgt := 34) dL_begun_68 rfl ?_
  refine q_iload_n dL_begun_34 rfl ?_
  refine q_iconst (v := nI 5) dL_begun_35 (by decide) ?_
  refine q_icmp_gt (tgt := 71) dL_begun_36 rfl (fun c => absurd c (by decide)) (fun _ => ?_)
  refine q_aload_n dL_begun_39 rfl ?_
  refine q_bipush (v := nI 30) dL_begun_40 (by decide) ?_
  refine q_iload_n dL_begun_42 rfl ?_
  refine q_iaddN dL_begun_43 ?_
  refine q_iload_n dL_begun_44 rfl ?_
  refine q_iconst (v := nI 4) dL_begun_45 (by decide) ?_
  refine q_icmp_ne (tgt := 53) dL_begun_46 rfl (fun c => absurd (by decide) c) (fun _ => ?_)
  refine q_iconst (v := nI 5) dL_begun_49 (by decide) ?_
  refine q_goto (tgt := 64) dL_begun_50 rfl ?_
  refine q_iastD (k := (30) + (4)) (List.mem_append_right _ (List.mem_singleton_self _)) (q_t9 b91 b92) (q_l9 b91 b92) (by omega) (by decide) dL_begun_64 ?_
  refine q_iinc (v := nI 5) (L' := [_, _]) dL_begun_65 rfl (by decide) rfl (by decide) rfl ?_
  refine q_goto (tgt := 34) dL_begun_68 rfl ?_
  refine q_iload_n dL_begun_34 rfl ?_
  refine q_iconst (v := nI 5) dL_begun_35 (by decide) ?_
  refine q_icmp_gt (tgt := 71) dL_begun_36 rfl (fun c => absurd c (by decide)) (fun _ => ?_)
  refine q_aload_n dL_begun_39 rfl ?_
  refine q_bipush (v := nI 30) dL_begun_40 (by decide) ?_
  refine q_iload_n dL_begun_42 rfl ?_
  refine q_iaddN dL_begun_43 ?_
  refine q_iload_n dL_begun_44 rfl ?_
  refine q_iconst (v := nI 4) dL_begun_45 (by decide) ?_
  refine q_icmp_ne (tgt := 53) dL_begun_46 rfl (fun _ => ?_) (fun c => absurd c (by decide))
  refine q_iload_n dL_begun_53 rfl ?_
  refine q_iconst (v := nI 5) dL_begun_54 (by decide) ?_
  refine q_icmp_ne (tgt := 63) dL_begun_55 rfl (fun c => absurd (by decide) c) (fun _ => ?_)
  refine q_bipush (v := nI 8) dL_begun_58 (by decide) ?_
  refine q_goto (tgt := 64) dL_begun_60 rfl ?_
  refine q_iastD (k := (30) + (5)) (List.mem_append_right _ (List.mem_singleton_self _)) (q_t9 b91 b92) (q_l9 b91 b92) (by omega) (by decide) dL_begun_64 ?_
  refine q_iinc (v := nI 6) (L' := [_, _]) dL_begun_65 rfl (by decide) rfl (by decide) rfl ?_
  refine q_goto (tgt := 34) dL_begun_68 rfl ?_
  refine q_iload_n dL_begun_34 rfl ?_
  refine q_iconst (v := nI 5) dL_begun_35 (by decide) ?_
  refine q_icmp_gt (tgt := 71) dL_begun_36 rfl (fun _ => ?_) (fun c => absurd (by decide) c)
  refine q_aload_n dL_begun_71 rfl ?_
  refine q_aret dL_begun_72 rfl (Or.inr ⟨_, rfl⟩) (Or.inl rfl) ?_
  have eI : (((((((((((h.add b9).setI b9 ((20) + (2)) (nI ((60) + ((10) * (2))))).setI b9 ((20) + (3)) (nI ((60) + ((10) * (3))))).setI b9 ((20) + (4)) (nI ((60) + ((10) * (4))))).setI b9 ((20) + (5)) (nI ((60) + ((10) * (5))))).setI b9 ((30) + (1)) (nI (1))).setI b9 ((30) + (2)) (nI (2))).setI b9 ((30) + (3)) (nI (3))).setI b9 ((30) + (4)) (nI (5))).setI b9 ((30) + (5)) (nI (8)))).I b9 = q_n0 := by
    rw [q_sI, q_sI, q_sI, q_sI, q_sI, q_sI, q_sI, q_sI, q_sI, h.add_Is]; rfl
  exact ⟨_, rfl, b9, rfl, b91, b92, b93, rfl, rfl, fun p hp => ⟨by rw [q_sIn _ _ _ hp, q_sIn _ _ _ hp, q_sIn _ _ _ hp, q_sIn _ _ _ hp, q_sIn _ _ _ hp, q_sIn _ _ _ hp, q_sIn _ _ _ hp, q_sIn _ _ _ hp, q_sIn _ _ _ hp]; exact h.add_I hp, h.add_R hp⟩, q_row_same _ _ _, by rw [eI]; rfl, by rw [eI]; exact q_nri⟩
