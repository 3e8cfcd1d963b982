/-! A STEP OF THE LAW -/
theorem q_hxS (h : q_Hp) (p f : Nat) (t : Option Nat) : ∀ q, (h.setR p f t).I q = h.I q := fun _ => rfl
def q_sh6 (h : q_Hp) (st cz : Nat) (pl : Nat → Nat) : q_Hp := ((((((h.setR st (5) (some (pl 4))).setR st (4) (some (pl 3))).setR st (3) (some (pl 2))).setR st (2) (some (pl 1))).setR st (1) (some (pl 0))).setR st (0) (some cz))
theorem q_done_fin {h h10 : q_Hp} {a st c : Nat} {O O2 : q_O} {pl : Nat → Nat} (hs3 : st ∈ h10.J ∧ 2000 ≤ st ∧ st % 4 = 2) (n6 : O.nx < 6) (c6 : O.cn ≤ 6) (X3 : q_hp h10 a st c O pl) {cz : Nat} (Nc : q_n9 h10 cz) (hac : cz ≠ a) {Y : q_W} (rc : q_row9 (c + 1) (h10.I cz) Y) (eO : O2 = O.kept Y) {W2 m2 : q_W} {ρ2 : Nat → Nat}
    (C3 : q_clX h10 W2 O2) (S2 : q_smc (c + 1) W2 m2) (R3 : q_nr (h10.I a) m2 ρ2) (B2 : q_bd m2) (u3 : h10.I a 899 = nI 0) (hi2 : q_inc m2) (Fc : q_lf h h10 a) : ∃ v, (.ok (some (.int (nI 1))) : Except String (Option Value)) = .ok v ∧ q_dX h a st c O v ((q_sh6 h10 st cz pl).setI (pl 6) (0) (nI (min (6) ((O.cn) + (1))))) := by
  obtain ⟨p1, p2, p3, p4⟩ := id X3
  obtain ⟨b1, b2, b3, b4, b5⟩ := p1 6 (by decide)
  have hst := hs3.2.2
  have eI : ∀ p, p ≠ pl 6 → ((q_sh6 h10 st cz pl).setI (pl 6) (0) (nI (min (6) ((O.cn) + (1))))).I p = h10.I p := fun p hp => q_sIn _ _ _ hp
  have eR : ∀ p, p ≠ st → ((q_sh6 h10 st cz pl).setI (pl 6) (0) (nI (min (6) ((O.cn) + (1))))).R p = h10.R p := fun p hp => (q_setR_n _ hp).trans ((q_setR_n _ hp).trans ((q_setR_n _ hp).trans ((q_setR_n _ hp).trans ((q_setR_n _ hp).trans (q_setR_n _ hp)))))
  refine ⟨_, rfl, rfl, W2, O2, m2, ρ2, q_df.cl ⟨fun p hp => eI p (by omega), fun p hp => eR p (by omega)⟩ C3, S2, ?_, B2, ?_, hi2, ?_, ?_, by rw [eO]; rfl, by rw [eO]; rfl⟩
  · rw [eI a (Ne.symm b5)]; exact R3
  · rw [eI a (Ne.symm b5)]; exact u3
  · exact (q_lf.lg Fc).tr ⟨fun p h9 h8 h7 h6 => eI p (fun e => by rw [e] at h7; omega), ⟨[], (List.append_nil _).symm⟩, fun p h9 h8 => eR p (by omega), rfl⟩
  · rw [eO]
    refine q_hx_push hs3 n6 c6 (X3.le (Nat.le_succ c)) Nc hac rc eI ?_ (fun j hj => ?_) rfl
    · exact (congrFun (q_sI _ _ _ _) _).trans (va_us _ _ _)
    · show (q_sh6 h10 st cz pl).R st j = _
      have hp := (p1 6 (by decide)).1
      unfold q_sh6
      rcases (by omega : j = 0 ∨ j = 1 ∨ j = 2 ∨ j = 3 ∨ j = 4 ∨ j = 5 ∨ j = 6) with rfl | rfl | rfl | rfl | rfl | rfl | rfl
      · exact q_sRs
      · exact (q_sRn (by decide)).trans q_sRs
      · exact (q_sRn (by decide)).trans ((q_sRn (by decide)).trans q_sRs)
      · exact (q_sRn (by decide)).trans ((q_sRn (by decide)).trans ((q_sRn (by decide)).trans q_sRs))
      · exact (q_sRn (by decide)).trans ((q_sRn (by decide)).trans ((q_sRn (by decide)).trans ((q_sRn (by decide)).trans q_sRs)))
      · exact (q_sRn (by decide)).trans ((q_sRn (by decide)).trans ((q_sRn (by decide)).trans ((q_sRn (by decide)).trans ((q_sRn (by decide)).trans q_sRs))))
      · exact (q_sRn (by decide)).trans ((q_sRn (by decide)).trans ((q_sRn (by decide)).trans ((q_sRn (by decide)).trans ((q_sRn (by decide)).trans ((q_sRn (by decide)).trans hp)))))
theorem g_L_isDone {Φ : q_Fx} {h : q_Hp} (K : q_Lk Φ h.R h.n) {a : Nat} (hN : q_n9 h a) {m : q_W} {ρ : Nat → Nat} (R : q_nr (h.I a) m ρ) (B : q_bd m) (u9 : h.I a 899 = nI 0) {W : q_W} {O : q_O} (C : q_clX h W O) {c : Nat} (s : q_smc c W m) (hcc : c ≤ 500) (hL : Φ.L ≤ 2048) (hi : q_inc m) {i : Nat} (hi9 : i ≤ 990) {st : Nat} (X : q_hx h a st c O) : q_Ct Φ false yL_isDone cL_isDone mL_isDone [.ref 1, .ref a, .ref st, .ref 0, .int (nI (i))] h (q_ex (q_dX h a st c O)) := by
  refine q_enter K.st rfl rfl (by decide) rfl (Nat.le_of_ble_eq_true rfl) (L := [_, _, _, _, _, none, none, none]) rfl ?_
  obtain ⟨bt, bn, bc, bpe, bpf, bpc, bpn⟩ := id B
  obtain ⟨⟨N0, hN0, a0, ⟨τ0, b0⟩, k0⟩, dd⟩ := id s
  have v := k0.2.2.2.2.2.2.2
  have ha2 := hN.2.1
  have ha4 := hN.2.2
  refine q_aload_n dL_isDone_0 rfl ?_
  refine q_sR (kc := 4) (ks := 930) (g_L_copy (h := h) K hN) wL_copy kL_136 sL_copy (by decide) rfl rfl (Nat.le_of_ble_eq_true rfl) dL_isDone_1 rfl rfl ?_
  rintro v9 h9 ⟨cz, g9, cz1, cz2, cz3, rfl, rfl, hg9⟩
  have hac : cz ≠ a := fun e9 => cz3 (e9 ▸ hN.1)
  have F1 : q_lf h ((h.add cz).rowI cz g9) a := q_lf.add cz1 cz3
  have C1 : q_clX ((h.add cz).rowI cz g9) W O := C.addD cz1
  have K1 : q_Lk Φ ((h.add cz).rowI cz g9).R ((h.add cz).rowI cz g9).n := F1.Lk K
  have N1 : q_n9 ((h.add cz).rowI cz g9) a := F1.n9 hN
  have Nc : q_n9 ((h.add cz).rowI cz g9) cz := ⟨List.mem_append_right _ (List.mem_singleton_self _), cz1, cz2⟩
  have ea : ((h.add cz).rowI cz g9).I a = h.I a := (q_rIn _ _ (Ne.symm hac)).trans (h.add_I (Ne.symm hac))
  have R1 : q_nr (((h.add cz).rowI cz g9).I a) m ρ := by rw [ea]; exact R
  have Rc : q_nr (((h.add cz).rowI cz g9).I cz) m ρ := by rw [q_rI]; exact R.cong B fun k hk => hg9 k (by omega)
  have uc : ((h.add cz).rowI cz g9).I cz 899 = nI 0 := by rw [q_rI]; exact (hg9 899 (by decide)).trans u9
  have u1 : ((h.add cz).rowI cz g9).I a 899 = nI 0 := by rw [ea]; exact u9
  generalize (h.add cz).rowI cz g9 = h1 at F1 C1 K1 N1 Nc ea R1 Rc uc u1 ⊢
  have X1 : q_hx h1 a st c O := X.lf F1 ha4
  obtain ⟨hs, -⟩ := X1
  refine q_astore (L' := [_, _, _, _, _, _, _, _]) dL_isDone_4 rfl (by decide) rfl ?_
  refine q_aload_n dL_isDone_6 rfl ?_
  refine q_aload_n dL_isDone_7 rfl ?_
  refine q_aload_n dL_isDone_8 rfl ?_
  refine q_iload dL_isDone_9 rfl ?_
  refine q_sR (kc := 0) (ks := 6) (g_L_isTold (h := h1) K1 N1 R1 B u1 C1 s hcc hL hi hi9) wL_isTold kL_140 sL_isTold (by decide) rfl rfl (Nat.le_of_ble_eq_true rfl) dL_isDone_11 rfl rfl ?_
  intro v9 h9 hq
  obtain ⟨ev9, W2, O2, m2, ρ2, u, C2, S2, R2, B2, u2, F2, hi2, D⟩ := hq
  subst ev9
  have N9 : q_n9 h9 a := F2.n9 N1
  have Fa : q_lf h h9 a := F1.tr F2
  refine q_istore (L' := [_, _, _, _, _, _, _, _]) dL_isDone_14 rfl (by decide) rfl ?_
  refine q_aload_n dL_isDone_16 rfl ?_
  refine q_sipush (v := nI 899) dL_isDone_17 (by decide) ?_
  refine q_ialdD (k := 899) N9.1 N9.t N9.l (by omega) (by decide) dL_isDone_20 ?_
  refine q_tv (show _ = (nI (u)) from u2) ?_
  refine q_iconst (v := nI 1) dL_isDone_21 (by decide) ?_
  refine q_icmp_neN (by omega) (by omega) (tgt := 79) dL_isDone_22 rfl (fun c1 => ?_) (fun c2 => ?_)
  · refine q_iload dL_isDone_79 rfl ?_
    refine q_zret (ty := .boolean) dL_isDone_81 rfl rfl (Or.inl rfl) ?_
    have hu0 : u = 0 ∧ m2 = m ∧ O2 = O := by
      rcases D with e | ⟨e, -⟩
      · exact e
      · omega
    obtain ⟨rfl, rfl, rfl⟩ := hu0
    exact ⟨_, rfl, rfl, W2, O2, m2, ρ2, C2, S2, R2, B2, u2, hi2 hi, Fa.lg, (X.lf Fa ha4).le (Nat.le_succ c), rfl, rfl⟩
  · refine q_aload_n dL_isDone_25 rfl ?_
    refine q_sipush (v := nI 899) dL_isDone_26 (by decide) ?_
    refine q_iconst (v := nI 0) dL_isDone_29 (by decide) ?_
    refine q_iastD (k := 899) N9.1 N9.t N9.l (by omega) (by decide) dL_isDone_30 ?_
    have hu1 : u = 1 := by omega
    obtain ⟨Y, yY, eO⟩ : ∃ Y, q_smc (c + 1) Y m ∧ O2 = O.kept Y := by
      rcases D with ⟨e, -⟩ | ⟨-, e⟩
      · omega
      · exact e
    have F3 : q_lf h9 (h9.setI a 899 (nI 0)) a := q_lf.rf.set
    have R3 : q_nr ((h9.setI a 899 (nI 0)).I a) m2 ρ2 := by rw [q_sI]; exact R2.cong B2 fun k hk => va_un _ _ (by omega)
    have u3 : (h9.setI a 899 (nI 0)).I a 899 = nI 0 := by rw [q_sI]; exact va_us _ _ _
    have C3 : q_clX (h9.setI a 899 (nI 0)) W2 O2 := C2.setD ha2
    generalize h9.setI a 899 (nI 0) = h10 at F3 R3 u3 C3 ⊢
    have Fb : q_lf h1 h10 a := F2.tr F3
    have Fc : q_lf h h10 a := F1.tr Fb
    have Nc3 : q_n9 h10 cz := Fb.n9 Nc
    have ec : h10.I cz = h1.I cz := (Fb.1 cz Nc.1 Nc.2.1 hac).1
    obtain ⟨hs3, n6, c6, pl, X3⟩ := X.lf Fc ha4
    obtain ⟨p1, p2, p3, p4⟩ := id X3
    refine q_iconst (v := nI 5) dL_isDone_31 (by decide) ?_
    refine q_istore (L' := [_, _, _, _, _, _, _, _]) dL_isDone_32 rfl (by decide) rfl ?_
    refine q_iload dL_isDone_34 rfl ?_
    refine q_if_le (tgt := 55) dL_isDone_36 rfl (fun c => absurd c (by decide)) (fun _ => ?_)
    refine q_aload_n dL_isDone_39 rfl ?_
    refine q_iload dL_isDone_40 rfl ?_
    refine q_aload_n dL_isDone_42 rfl ?_
    refine q_iload dL_isDone_43 rfl ?_
    refine q_iconst (v := nI 1) dL_isDone_45 (by decide) ?_
    refine q_isubN (by omega) dL_isDone_46 ?_
    refine q_aaldD (k := (5) - (1)) (o := (pl 4)) hs3.1 (q_tg17 hs3.2.1 hs3.2.2) (q_ln7 hs3.2.1 hs3.2.2) (by omega) (by decide) (p1 4 (by decide)).1 dL_isDone_47 ?_
    refine q_aastD (k := 5) hs3.1 (q_tg17 hs3.2.1 hs3.2.2) (q_ln7 hs3.2.1 hs3.2.2) (by omega) (by decide) (p1 4 (by decide)).2.1 (q_tg16 (p1 4 (by decide)).2.2.1 (p1 4 (by decide)).2.2.2.1) dL_isDone_48 ?_
    refine q_iinc (v := nI 4) (L' := [_, _, _, _, _, _, _, _]) dL_isDone_49 rfl (by decide) rfl (by decide) rfl ?_
    refine q_goto (tgt := 34) dL_isDone_52 rfl ?_
    refine q_iload dL_isDone_34 rfl ?_
    refine q_if_le (tgt := 55) dL_isDone_36 rfl (fun c => absurd c (by decide)) (fun _ => ?_)
    refine q_aload_n dL_isDone_39 rfl ?_
    refine q_iload dL_isDone_40 rfl ?_
    refine q_aload_n dL_isDone_42 rfl ?_
    refine q_iload dL_isDone_43 rfl ?_
    refine q_iconst (v := nI 1) dL_isDone_45 (by decide) ?_
    refine q_isubN (by omega) dL_isDone_46 ?_
    refine q_aaldD (k := (4) - (1)) (o := (pl 3)) hs3.1 (q_tg17 hs3.2.1 hs3.2.2) (q_ln7 hs3.2.1 hs3.2.2) (by omega) (by decide) ((q_sRn (by decide)).trans (p1 3 (by decide)).1) dL_isDone_47 ?_
    refine q_aastD (k := 4) hs3.1 (q_tg17 hs3.2.1 hs3.2.2) (q_ln7 hs3.2.1 hs3.2.2) (by omega) (by decide) (p1 3 (by decide)).2.1 (q_tg16 (p1 3 (by decide)).2.2.1 (p1 3 (by decide)).2.2.2.1) dL_isDone_48 ?_
    refine q_iinc (v := nI 3) (L' := [_, _, _, _, _, _, _, _]) dL_isDone_49 rfl (by decide) rfl (by decide) rfl ?_
    refine q_goto (tgt := 34) dL_isDone_52 rfl ?_
    refine q_iload dL_isDone_34 rfl ?_
    refine q_if_le (tgt := 55) dL_isDone_36 rfl (fun c => absurd c (by decide)) (fun _ => ?_)
    refine q_aload_n dL_isDone_39 rfl ?_
    refine q_iload dL_isDone_40 rfl ?_
    refine q_aload_n dL_isDone_42 rfl ?_
    refine q_iload dL_isDone_43 rfl ?_
    refine q_iconst (v := nI 1) dL_isDone_45 (by decide) ?_
    refine q_isubN (by omega) dL_isDone_46 ?_
    refine q_aaldD (k := (3) - (1)) (o := (pl 2)) hs3.1 (q_tg17 hs3.2.1 hs3.2.2) (q_ln7 hs3.2.1 hs3.2.2) (by omega) (by decide) ((q_sRn (by decide)).trans ((q_sRn (by decide)).trans (p1 2 (by decide)).1)) dL_isDone_47 ?_
    refine q_aastD (k := 3) hs3.1 (q_tg17 hs3.2.1 hs3.2.2) (q_ln7 hs3.2.1 hs3.2.2) (by omega) (by decide) (p1 2 (by decide)).2.1 (q_tg16 (p1 2 (by decide)).2.2.1 (p1 2 (by decide)).2.2.2.1) dL_isDone_48 ?_
    refine q_iinc (v := nI 2) (L' := [_, _, _, _, _, _, _, _]) dL_isDone_49 rfl (by decide) rfl (by decide) rfl ?_
    refine q_goto (tgt := 34) dL_isDone_52 rfl ?_
    refine q_iload dL_isDone_34 rfl ?_
    refine q_if_le (tgt := 55) dL_isDone_36 rfl (fun c => absurd c (by decide)) (fun _ => ?_)
    refine q_aload_n dL_isDone_39 rfl ?_
    refine q_iload dL_isDone_40 rfl ?_
    refine q_aload_n dL_isDone_42 rfl ?_
    refine q_iload dL_isDone_43 rfl ?_
    refine q_iconst (v := nI 1) dL_isDone_45 (by decide) ?_
    refine q_isubN (by omega) dL_isDone_46 ?_
    refine q_aaldD (k := (2) - (1)) (o := (pl 1)) hs3.1 (q_tg17 hs3.2.1 hs3.2.2) (q_ln7 hs3.2.1 hs3.2.2) (by omega) (by decide) ((q_sRn (by decide)).trans ((q_sRn (by decide)).trans ((q_sRn (by decide)).trans (p1 1 (by decide)).1))) dL_isDone_47 ?_
    refine q_aastD (k := 2) hs3.1 (q_tg17 hs3.2.1 hs3.2.2) (q_ln7 hs3.2.1 hs3.2.2) (by omega) (by decide) (p1 1 (by decide)).2.1 (q_tg16 (p1 1 (by decide)).2.2.1 (p1 1 (by decide)).2.2.2.1) dL_isDone_48 ?_
    refine q_iinc (v := nI 1) (L' := [_, _, _, _, _, _, _, _]) dL_isDone_49 rfl (by decide) rfl (by decide) rfl ?_
    refine q_goto (tgt := 34) dL_isDone_52 rfl ?_
    refine q_iload dL_isDone_34 rfl ?_
    refine q_if_le (tgt := 55) dL_isDone_36 rfl (fun c => absurd c (by decide)) (fun _ => ?_)
    refine q_aload_n dL_isDone_39 rfl ?_
    refine q_iload dL_isDone_40 rfl ?_
    refine q_aload_n dL_isDone_42 rfl ?_
    refine q_iload dL_isDone_43 rfl ?_
    refine q_iconst (v := nI 1) dL_isDone_45 (by decide) ?_
    refine q_isubN (by omega) dL_isDone_46 ?_
    refine q_aaldD (k := (1) - (1)) (o := (pl 0)) hs3.1 (q_tg17 hs3.2.1 hs3.2.2) (q_ln7 hs3.2.1 hs3.2.2) (by omega) (by decide) ((q_sRn (by decide)).trans ((q_sRn (by decide)).trans ((q_sRn (by decide)).trans ((q_sRn (by decide)).trans (p1 0 (by decide)).1)))) dL_isDone_47 ?_
    refine q_aastD (k := 1) hs3.1 (q_tg17 hs3.2.1 hs3.2.2) (q_ln7 hs3.2.1 hs3.2.2) (by omega) (by decide) (p1 0 (by decide)).2.1 (q_tg16 (p1 0 (by decide)).2.2.1 (p1 0 (by decide)).2.2.2.1) dL_isDone_48 ?_
    refine q_iinc (v := nI 0) (L' := [_, _, _, _, _, _, _, _]) dL_isDone_49 rfl (by decide) rfl (by decide) rfl ?_
    refine q_goto (tgt := 34) dL_isDone_52 rfl ?_
    refine q_iload dL_isDone_34 rfl ?_
    refine q_if_le (tgt := 55) dL_isDone_36 rfl (fun _ => ?_) (fun c => absurd (by decide) c)
    refine q_aload_n dL_isDone_55 rfl ?_
    refine q_iconst (v := nI 0) dL_isDone_56 (by decide) ?_
    refine q_aload dL_isDone_57 rfl ?_
    refine q_aastD (k := 0) hs3.1 (q_tg17 hs3.2.1 hs3.2.2) (q_ln7 hs3.2.1 hs3.2.2) (by omega) (by decide) Nc3.1 Nc3.t dL_isDone_59 ?_
    refine q_aload_n dL_isDone_60 rfl ?_
    refine q_bipush (v := nI 6) dL_isDone_61 (by decide) ?_
    refine q_aaldD (k := 6) (o := (pl 6)) hs3.1 (q_tg17 hs3.2.1 hs3.2.2) (q_ln7 hs3.2.1 hs3.2.2) (by omega) (by decide) ((q_sRn (by decide)).trans ((q_sRn (by decide)).trans ((q_sRn (by decide)).trans ((q_sRn (by decide)).trans ((q_sRn (by decide)).trans ((q_sRn (by decide)).trans (p1 6 (by decide)).1)))))) dL_isDone_63 ?_
    refine q_iconst (v := nI 0) dL_isDone_64 (by decide) ?_
    refine q_bipush (v := nI 6) dL_isDone_65 (by decide) ?_
    refine q_aload_n dL_isDone_67 rfl ?_
    refine q_bipush (v := nI 6) dL_isDone_68 (by decide) ?_
    refine q_aaldD (k := 6) (o := (pl 6)) hs3.1 (q_tg17 hs3.2.1 hs3.2.2) (q_ln7 hs3.2.1 hs3.2.2) (by omega) (by decide) ((q_sRn (by decide)).trans ((q_sRn (by decide)).trans ((q_sRn (by decide)).trans ((q_sRn (by decide)).trans ((q_sRn (by decide)).trans ((q_sRn (by decide)).trans (p1 6 (by decide)).1)))))) dL_isDone_70 ?_
    refine q_iconst (v := nI 0) dL_isDone_71 (by decide) ?_
    refine q_ialdD (k := 0) (p1 6 (by decide)).2.1 (q_tg16 (p1 6 (by decide)).2.2.1 (p1 6 (by decide)).2.2.2.1) (q_ln1 (p1 6 (by decide)).2.2.1 p2) (by omega) (by decide) dL_isDone_72 ?_
    refine q_tv (show _ = (nI (O.cn)) from p3) ?_
    refine q_iconst (v := nI 1) dL_isDone_73 (by decide) ?_
    refine q_iaddN dL_isDone_74 ?_
    refine q_min kL_144 dL_isDone_75 (Nat.le_of_ble_eq_true rfl) (Nat.le_of_ble_eq_true rfl) ?_
    refine q_tv (q_minN (by omega) (by omega)) ?_
    refine q_iastD (k := 0) (p1 6 (by decide)).2.1 (q_tg16 (p1 6 (by decide)).2.2.1 (p1 6 (by decide)).2.2.2.1) (q_ln1 (p1 6 (by decide)).2.2.1 p2) (by omega) (by decide) dL_isDone_78 ?_
    refine q_iload dL_isDone_79 rfl ?_
    refine q_zret (ty := .boolean) dL_isDone_81 rfl rfl (Or.inl rfl) ?_
    exact q_done_fin hs3 n6 c6 X3 Nc3 hac (by rw [ec]; exact ⟨m, ρ, Rc, B, hi, uc, yY⟩) eO C3 S2 R3 B2 u3 (hi2 hi) Fc
