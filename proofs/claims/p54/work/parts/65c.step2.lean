/-! A STEP OF THE LAW'S LOOP: restore, save, all together -/
theorem g_lawB {Φ : q_Fx} (hL : Φ.L ≤ 2048) {Z : Program → Env → State → MethodId → Array Value → List Frame → State → Prop} {h : q_Hp} (K : q_Lk Φ h.R h.n) {a : Nat} (hN : q_n9 h a) {m : q_W} {ρ : Nat → Nat} (R : q_nr (h.I a) m ρ) (B : q_bd m) (u9 : h.I a 899 = nI 0) {W : q_W} {O : q_O} (C : q_clX h W O) {c : Nat} (s : q_smc c W m) (hcc : c ≤ 400) (hi : q_inc m) {st : Nat} (X : q_hx h a st c O) {z : Nat} (hz : q_n9 h z) (hza : z ≠ a) (h1 : O.hs = 1) (rz : q_row9 c (h.I z) O.SW) {k : Nat} (hk : k < 40) {X1 Y1 : Nat} (KK : ∀ h2 sv2, q_Lk Φ h2.R h2.n → q_LI h2 a st (c + 1) sv2 → q_G Φ false cL_law RL mL_law Z 365 [some (.ref 0), some (.ref a), some sv2, some (.ref st), some (.ref 1), some (.int (nI 1)), some (.int (nI (k))), some (.int (nI (8 * k))), none, none, none, none] [] h2 X1 Y1) : q_G Φ false cL_law RL mL_law Z 163 [some (.ref 0), some (.ref a), some (.ref z), some (.ref st), some (.ref 1), some (.int (nI (1))), some (.int (nI (k))), some (.int (nI (8 * k))), none, none, none, none] [] h (X1 + 1) (Y1 + 6) := by
  obtain ⟨bt, bn, bc, bpe, bpf, bpc, bpn⟩ := id B
  obtain ⟨⟨N0, hN0, a0, ⟨τ0, b0⟩, k0⟩, dd⟩ := id s
  have v := k0.2.2.2.2.2.2.2
  have ha2 := hN.2.1
  have ha4 := hN.2.2
  have rd0 : q_rd h h W O := ⟨C, q_fr.rf⟩
  obtain ⟨hs, n6, c6, pl, X3⟩ := id X
  obtain ⟨p1, p2, p3, p4⟩ := id X3
  refine q_iconst (v := nI 0) dL_law_163 (by decide) ?_
  refine q_istore (L' := [_, _, _, _, _, _, _, _, _, _, _, _]) dL_law_164 rfl (by decide) rfl ?_
  refine q_loop (ι := Nat) (μ := fun j => 900 - j) (P := fun j => j ≤ 900) (Lf := fun j => [some (.ref 0), some (.ref a), some (.ref z), some (.ref st), some (.ref 1), some (.int (nI (1))), some (.int (nI (k))), some (.int (nI (8 * k))), none, some (.int (nI (j))), none, none]) (hf := fun j => (h.rowI a (q_cpy (h.I z) (h.I a) j))) (fun j hi166 ih166 => ?_) 0 (Nat.zero_le _) (q_sub_s rfl (q_sub_s rfl (q_sub_s rfl (q_sub_s rfl (q_sub_s rfl (q_sub_i rfl (q_sub_i rfl (q_sub_i rfl (q_sub_n (q_sub_i rfl (q_sub_n (q_sub_n q_sub_0)))))))))))) (by rw [q_cpy_0, q_rid])
  skip
  refine q_iload dL_law_166 rfl ?_
  refine q_aload_n dL_law_168 rfl ?_
  refine q_alenD hN.1 hN.t hN.l dL_law_169 ?_
  refine q_icmp_geN (by omega) (by omega) (tgt := 187) dL_law_170 rfl (fun c1 => ?_) (fun c2 => ?_)
  · obtain rfl : j = 900 := by omega
    obtain ⟨mj, ρj, Rj, Bj, ij, uj, sj⟩ := id rz
    have ej : ∀ f, f < 900 → (h.rowI a (q_cpy (h.I z) (h.I a) 900)).I a f = h.I z f := fun f hf => by rw [q_rI]; exact q_cpy_lt _ _ hf
    have R5 : q_nr ((h.rowI a (q_cpy (h.I z) (h.I a) 900)).I a) mj ρj := Rj.cong Bj fun f hf => ej f (by omega)
    have u5 : (h.rowI a (q_cpy (h.I z) (h.I a) 900)).I a 899 = nI 0 := (ej 899 (by decide)).trans uj
    have F5 : q_lf h (h.rowI a (q_cpy (h.I z) (h.I a) 900)) a := q_lf.rf.row
    have C5 : q_clX (h.rowI a (q_cpy (h.I z) (h.I a) 900)) W O := C.rowD ha2
    have X5 : q_hp (h.rowI a (q_cpy (h.I z) (h.I a) 900)) a st c O pl := X3.lf hs c6 F5 ha4
    have hs5 : st ∈ (h.rowI a (q_cpy (h.I z) (h.I a) 900)).J ∧ 2000 ≤ st ∧ st % 4 = 2 := hs
    generalize (h.rowI a (q_cpy (h.I z) (h.I a) 900)) = h5 at R5 u5 F5 C5 X5 hs5 ⊢
    obtain ⟨r1, r2, r3, r4⟩ := id X5
    refine q_aload_n dL_law_187 rfl ?_
    refine q_bipush (v := nI 6) dL_law_188 (by decide) ?_
    refine q_aaldD (k := 6) (o := (pl 6)) hs5.1 (q_tg17 hs5.2.1 hs5.2.2) (q_ln7 hs5.2.1 hs5.2.2) (by omega) (by decide) (r1 6 (by decide)).1 dL_law_190 ?_
    refine q_iconst (v := nI 0) dL_law_191 (by decide) ?_
    refine q_iconst (v := nI 0) dL_law_192 (by decide) ?_
    refine q_iastD (k := 0) (r1 6 (by decide)).2.1 (q_tg16 (r1 6 (by decide)).2.2.1 (r1 6 (by decide)).2.2.2.1) (q_ln1 (r1 6 (by decide)).2.2.1 r2) (by omega) (by decide) dL_law_193 ?_
    obtain ⟨C6, X6, G6, e6⟩ := q_rest6 hs5 n6 X5 C5
    obtain ⟨h6, eh⟩ : ∃ x, x = (h5.setI (pl 6) (0) (nI (0))) := ⟨_, rfl⟩
    change q_clX (h5.setI (pl 6) (0) (nI (0))) W O at C6
    change q_hx (h5.setI (pl 6) (0) (nI (0))) a st c O.rest at X6
    change q_lg h5 (h5.setI (pl 6) (0) (nI (0))) a at G6
    change (h5.setI (pl 6) (0) (nI (0))).I a = h5.I a at e6
    rw [← eh] at C6 X6 G6 e6 ⊢
    have K6 : q_Lk Φ h6.R h6.n := (F5.lg.tr G6).Lk K
    refine q_iload dL_law_194 rfl ?_
    refine q_aload dL_law_196 rfl ?_
    refine q_callH (kc := X1 + 0) (ks := Y1 + 0) (g_L_restore (h := h6) K6 C6) wL_restore kL_278 sL_restore (by decide) rfl rfl (Nat.le_of_ble_eq_true rfl) dL_law_198 rfl rfl (fun E h9 q9 => (by obtain ⟨_, q9, _⟩ := q9; exact nomatch q9)) ?_
    intro v9 h9 hq
    obtain ⟨x9, ex9, hj9⟩ := hq
    cases ex9
    rcases hj9 with ⟨d1, -⟩ | ⟨y1, ev9, Y, yY, mu⟩
    · rw [h1] at d1; cases d1
    cases ev9
    have C9 : q_clX h9 Y O.rest := q_mu.cl C6 mu (Or.inl rfl) (fun y hy _ => absurd hy (Nat.not_lt_zero y))
    obtain ⟨⟨_, _, aj, _, _⟩, _⟩ := id sj
    have bcj := Bj.2.2.1
    have S9 : q_smc c Y mj := sj.eqv yY C6.1.2.2.2.2.1.2.2.1.2.2.2.1
    have G9 : q_lg h h9 a := (F5.lg.tr G6).tr (q_lf.lg (q_lf.fr mu.2.1))
    have e9a : h9.I a = h5.I a := (mu.2.1.1 a (by omega)).trans e6
    have R9 : q_nr (h9.I a) mj ρj := by rw [e9a]; exact R5
    have X9 := X6.lf (q_lf.fr (a := a) mu.2.1) ha4
    refine q_tv (show _ = nI mj.c from congrArg nI aj.2.1) ?_
    refine q_aload_n dL_law_201 rfl ?_
    refine q_iconst (v := nI 2) dL_law_202 (by decide) ?_
    refine q_ialdD (k := 2) (G9.n9 hN).1 (G9.n9 hN).t (G9.n9 hN).l (by omega) (by decide) dL_law_203 ?_
    refine q_tv (show _ = (nI (mj.c)) from R9.c) ?_
    refine q_icmp_neN (by omega) (by omega) (tgt := 211) dL_law_204 rfl (fun c => absurd rfl c) (fun c3 => ?_)
    refine q_iconst (v := nI 1) dL_law_207 (by decide) ?_
    refine q_goto (tgt := 212) dL_law_208 rfl ?_
    refine q_iand dL_law_212 ?_
    refine q_tv (show _ = nI 1 from by decide) ?_
    refine q_istore (L' := [_, _, _, _, _, _, _, _, _, _, _, _]) dL_law_213 rfl (by decide) rfl ?_
    refine q_goto (tgt := 365) dL_law_215 rfl ?_
    exact q_less (kc' := X1) (ks' := Y1) (by omega) (by omega) (q_to (KK _ _ (G9.Lk K) (⟨Y, O.rest, mj, ρj, C9, S9.le (Nat.le_succ c), G9.n9 hN, R9, Bj, (by rw [e9a]; exact u5), ij, X9.le (Nat.le_succ c), (show q_sv h a c O (.ref z) from Or.inr ⟨z, rfl, hz, hza, h1, rz⟩).lg G9 rfl rfl (Nat.le_succ c)⟩)) (q_sub_s rfl (q_sub_s rfl (q_sub_s rfl (q_sub_s rfl (q_sub_s rfl (q_sub_i rfl (q_sub_i rfl (q_sub_i rfl (q_sub_n (q_sub_n (q_sub_n (q_sub_n q_sub_0)))))))))))) rfl)
  · refine q_aload_n dL_law_173 rfl ?_
    refine q_iload dL_law_174 rfl ?_
    refine q_aload_n dL_law_176 rfl ?_
    refine q_iload dL_law_177 rfl ?_
    refine q_ialdD (k := j) hz.1 hz.t hz.l (by omega) (by decide) dL_law_179 ?_
    refine q_tv (show _ = (h.I z (j)) from (congrFun (q_rIn _ _ hza) _)) ?_
    refine q_iastD (k := j) hN.1 hN.t hN.l (by omega) (by decide) dL_law_180 ?_
    refine q_iincN (n := 1) (L' := [_, _, _, _, _, _, _, _, _, _, _, _]) (by decide) dL_law_181 rfl rfl (by decide) rfl ?_
    refine q_goto (tgt := 166) dL_law_184 rfl ?_
    exact q_to (ih166 (j + 1) (by omega) (by omega)) (q_sub_s rfl (q_sub_s rfl (q_sub_s rfl (q_sub_s rfl (q_sub_s rfl (q_sub_i rfl (q_sub_i rfl (q_sub_i rfl (q_sub_n (q_sub_i rfl (q_sub_n (q_sub_n q_sub_0)))))))))))) (by rw [q_rset, q_cpy_s])
theorem g_lawA {Φ : q_Fx} (hL : Φ.L ≤ 2048) {Z : Program → Env → State → MethodId → Array Value → List Frame → State → Prop} {h : q_Hp} (K : q_Lk Φ h.R h.n) {a : Nat} (hN : q_n9 h a) {m : q_W} {ρ : Nat → Nat} (R : q_nr (h.I a) m ρ) (B : q_bd m) (u9 : h.I a 899 = nI 0) {W : q_W} {O : q_O} (C : q_clX h W O) {c : Nat} (s : q_smc c W m) (hcc : c ≤ 400) (hi : q_inc m) {st : Nat} (X : q_hx h a st c O) {k : Nat} (hk : k < 40) {X1 Y1 : Nat} (KK : ∀ h2 sv2, q_Lk Φ h2.R h2.n → q_LI h2 a st (c + 1) sv2 → q_G Φ false cL_law RL mL_law Z 365 [some (.ref 0), some (.ref a), some sv2, some (.ref st), some (.ref 1), some (.int (nI 1)), some (.int (nI (k))), some (.int (nI (8 * k))), none, none, none, none] [] h2 X1 Y1) : q_G Φ false cL_law RL mL_law Z 129 [some (.ref 0), some (.ref a), some (.null), some (.ref st), some (.ref 1), some (.int (nI (1))), some (.int (nI (k))), some (.int (nI (8 * k))), none, none, none, none] [] h (X1 + 1) (Y1 + 900) := by
  obtain ⟨bt, bn, bc, bpe, bpf, bpc, bpn⟩ := id B
  obtain ⟨⟨N0, hN0, a0, ⟨τ0, b0⟩, k0⟩, dd⟩ := id s
  have v := k0.2.2.2.2.2.2.2
  have ha2 := hN.2.1
  have ha4 := hN.2.2
  have rd0 : q_rd h h W O := ⟨C, q_fr.rf⟩
  obtain ⟨hs, n6, c6, pl, X3⟩ := id X
  obtain ⟨p1, p2, p3, p4⟩ := id X3
  refine q_aload_n dL_law_129 rfl ?_
  refine q_sR (kc := X1 + 0) (ks := Y1 + 0) (g_L_copy (h := h) K hN) wL_copy kL_136 sL_copy (by decide) rfl rfl (Nat.le_of_ble_eq_true rfl) dL_law_130 rfl rfl ?_
  rintro v9 h9 ⟨cz, g9, cz1, cz2, cz3, rfl, rfl, hg9⟩
  have hac : cz ≠ a := fun e9 => cz3 (e9 ▸ hN.1)
  have F1 : q_lf h ((h.add cz).rowI cz g9) a := q_lf.add cz1 cz3
  have C1 : q_clX ((h.add cz).rowI cz g9) W O := C.addD cz1
  have K1 : q_Lk Φ ((h.add cz).rowI cz g9).R ((h.add cz).rowI cz g9).n := F1.Lk K
  have Nc : q_n9 ((h.add cz).rowI cz g9) cz := ⟨List.mem_append_right _ (List.mem_singleton_self _), cz1, cz2⟩
  have ea : ((h.add cz).rowI cz g9).I a = h.I a := (q_rIn _ _ (Ne.symm hac)).trans (h.add_I (Ne.symm hac))
  have Rc : q_nr (((h.add cz).rowI cz g9).I cz) m ρ := by rw [q_rI]; exact R.cong B fun k hk => hg9 k (by omega)
  have uc : ((h.add cz).rowI cz g9).I cz 899 = nI 0 := by rw [q_rI]; exact (hg9 899 (by decide)).trans u9
  generalize (h.add cz).rowI cz g9 = h1 at F1 C1 K1 Nc ea Rc uc ⊢
  refine q_astore_n (L' := [_, _, _, _, _, _, _, _, _, _, _, _]) dL_law_133 rfl (by decide) rfl ?_
  refine q_iload dL_law_134 rfl ?_
  refine q_aload dL_law_136 rfl ?_
  refine q_vR (kc := X1 + 0) (ks := Y1 + 0) (g_X9_save (h := h1) K1 C1) wX9_save kL_280 iX9_save eX9_save rfl rfl (by decide) (K1.le (by decide)) (by decide) rfl rfl (Nat.le_of_ble_eq_true rfl) dL_law_138 rfl rfl ?_
  intro v9 h9 hq
  obtain ⟨ev9, Y, yY, yo, mu⟩ := hq
  subst ev9
  have C9 : q_clX h9 W (O.savd Y) := q_mu.cl C1 mu (Or.inr (Nat.le_refl _)) (fun _ _ _ => rfl)
  have F9 : q_lf h h9 a := F1.tr (q_lf.fr mu.2.1)
  have e9a : h9.I a = h.I a := (mu.2.1.1 a (by omega)).trans ea
  have e9c : h9.I cz = h1.I cz := mu.2.1.1 cz (by have := Nc.2.1; omega)
  have R9 : q_nr (h9.I a) m ρ := by rw [e9a]; exact R
  refine q_tv (show _ = nI m.c from congrArg nI a0.2.1) ?_
  refine q_aload_n dL_law_141 rfl ?_
  refine q_iconst (v := nI 2) dL_law_142 (by decide) ?_
  refine q_ialdD (k := 2) (F9.n9 hN).1 (F9.n9 hN).t (F9.n9 hN).l (by omega) (by decide) dL_law_143 ?_
  refine q_tv (show _ = (nI (m.c)) from R9.c) ?_
  refine q_icmp_neN (by omega) (by omega) (tgt := 151) dL_law_144 rfl (fun c => absurd rfl c) (fun c1 => ?_)
  refine q_iconst (v := nI 1) dL_law_147 (by decide) ?_
  refine q_goto (tgt := 152) dL_law_148 rfl ?_
  refine q_iand dL_law_152 ?_
  refine q_tv (show _ = nI 1 from by decide) ?_
  refine q_istore (L' := [_, _, _, _, _, _, _, _, _, _, _, _]) dL_law_153 rfl (by decide) rfl ?_
  refine q_goto (tgt := 365) dL_law_155 rfl ?_
  exact q_less (kc' := X1) (ks' := Y1) (by omega) (by omega) (q_to (KK _ _ (F9.Lk K) (⟨W, O.savd Y, m, ρ, C9, s.le (Nat.le_succ c), F9.n9 hN, R9, B, (by rw [e9a]; exact u9), hi, ((X.lf F9 ha4).eqO rfl rfl rfl).le (Nat.le_succ c), Or.inr ⟨cz, rfl, Nc.fr mu.2.1.2.2.1, hac, rfl, by rw [e9c]; exact ⟨m, ρ, Rc, B, hi, uc, (s.le (Nat.le_succ c)).eqv yY C.1.1.n10⟩⟩⟩)) (q_sub_s rfl (q_sub_s rfl (q_sub_s rfl (q_sub_s rfl (q_sub_s rfl (q_sub_i rfl (q_sub_i rfl (q_sub_i rfl (q_sub_n (q_sub_n (q_sub_n (q_sub_n q_sub_0)))))))))))) rfl)
theorem g_lawS {Φ : q_Fx} (hL : Φ.L ≤ 2048) {Z : Program → Env → State → MethodId → Array Value → List Frame → State → Prop} {h : q_Hp} (K : q_Lk Φ h.R h.n) {a : Nat} (hN : q_n9 h a) {m : q_W} {ρ : Nat → Nat} (R : q_nr (h.I a) m ρ) (B : q_bd m) (u9 : h.I a 899 = nI 0) {W : q_W} {O : q_O} (C : q_clX h W O) {c : Nat} (s : q_smc c W m) (hcc : c ≤ 400) (hi : q_inc m) {st : Nat} (X : q_hx h a st c O) {sv : Value} (SV : q_sv h a c O sv) {k : Nat} (hk : k < 40) {X1 Y1 : Nat} (KK : ∀ h2 sv2, q_Lk Φ h2.R h2.n → q_LI h2 a st (c + 1) sv2 → q_G Φ false cL_law RL mL_law Z 365 [some (.ref 0), some (.ref a), some sv2, some (.ref st), some (.ref 1), some (.int (nI 1)), some (.int (nI (k))), some (.int (nI (8 * k))), none, none, none, none] [] h2 X1 Y1) : q_G Φ false cL_law RL mL_law Z 93 [some (.ref 0), some (.ref a), some (sv), some (.ref st), some (.ref 1), some (.int (nI (1))), some (.int (nI (k))), none, none, none, none, none] [] h (X1 + 5) (Y1 + 1830) := by
  obtain ⟨bt, bn, bc, bpe, bpf, bpc, bpn⟩ := id B
  obtain ⟨⟨N0, hN0, a0, ⟨τ0, b0⟩, k0⟩, dd⟩ := id s
  have v := k0.2.2.2.2.2.2.2
  have ha2 := hN.2.1
  have ha4 := hN.2.2
  have rd0 : q_rd h h W O := ⟨C, q_fr.rf⟩
  obtain ⟨hs, n6, c6, pl, X3⟩ := id X
  obtain ⟨p1, p2, p3, p4⟩ := id X3
  refine q_iload dL_law_93 rfl ?_
  refine q_bipush (v := nI 40) dL_law_95 (by decide) ?_
  refine q_icmp_geN (by omega) (by omega) (tgt := 509) dL_law_97 rfl (fun c => by exfalso; omega) (fun c1 => ?_)
  refine q_bipush (v := nI 8) dL_law_100 (by decide) ?_
  refine q_iload dL_law_102 rfl ?_
  refine q_imulN dL_law_104 ?_
  refine q_istore (L' := [_, _, _, _, _, _, _, _, _, _, _, _]) dL_law_105 rfl (by decide) rfl ?_
  refine q_aload_n dL_law_107 rfl ?_
  refine q_iload dL_law_108 rfl ?_
  refine q_bipush (v := nI 6) dL_law_110 (by decide) ?_
  refine q_iaddN dL_law_112 ?_
  refine q_bipush (v := nI 14) dL_law_113 (by decide) ?_
  refine q_sR (kc := X1 + 5) (ks := Y1 + 1830) (g_L_in (h := h) K hL (i := ((8) * (k)) + (6)) (n := 14) (by omega) (by omega) (by omega)) wL_in kL_149 sL_in (by decide) rfl rfl (Nat.le_of_ble_eq_true rfl) dL_law_115 rfl rfl ?_
  intro v9 h9 hq
  obtain ⟨e9, x115, hx115, rfl⟩ := hq
  have e8 := e9.symm
  clear e9
  subst e8
  refine q_istore (L' := [_, _, _, _, _, _, _, _, _, _, _, _]) dL_law_118 rfl (by decide) rfl ?_
  refine q_iload dL_law_120 rfl ?_
  refine q_if_neN (by omega) (tgt := 158) dL_law_122 rfl (fun c3 => ?_) (fun c4 => ?_)
  · refine q_iload dL_law_158 rfl ?_
    refine q_if_neN (by omega) (tgt := 218) dL_law_160 rfl (fun c5 => ?_) (fun c => by exfalso; first | omega | exact absurd c3 c | exact absurd c c3)
    exact q_less (kc' := X1 + 5) (ks' := Y1 + 1830) (by omega) (by omega) (q_to (g_lawC hL K hN R B u9 C s hcc hi X SV hx115 hk KK) (q_sub_s rfl (q_sub_s rfl (q_sub_s rfl (q_sub_s rfl (q_sub_s rfl (q_sub_i rfl (q_sub_i rfl (q_sub_i rfl (q_sub_i rfl (q_sub_n (q_sub_n (q_sub_n q_sub_0)))))))))))) rfl)
  · rcases SV with ⟨rfl, hs0⟩ | ⟨z, rfl, hz, hza, h1, rz⟩
    · refine q_aload_nN dL_law_125 rfl ?_
      refine q_ifnonnullN dL_law_126 ?_
      exact q_less (kc' := X1 + 1) (ks' := Y1 + 900) (by omega) (by omega) (q_to (g_lawA hL K hN R B u9 C s hcc hi X hk KK) (q_sub_s rfl (q_sub_s rfl (q_sub_s rfl (q_sub_s rfl (q_sub_s rfl (q_sub_i rfl (q_sub_i rfl (q_sub_i rfl (q_sub_n (q_sub_n (q_sub_n (q_sub_n q_sub_0)))))))))))) rfl)
    · refine q_aload_n dL_law_125 rfl ?_
      refine q_ifnonnull (tgt := 158) dL_law_126 rfl ?_
      refine q_iload dL_law_158 rfl ?_
      refine q_if_neN (by omega) (tgt := 218) dL_law_160 rfl (fun c => by exfalso; first | omega | exact absurd c4 c | exact absurd c c4) (fun c7 => ?_)
      exact q_less (kc' := X1 + 1) (ks' := Y1 + 6) (by omega) (by omega) (q_to (g_lawB hL K hN R B u9 C s hcc hi X hz hza h1 rz hk KK) (q_sub_s rfl (q_sub_s rfl (q_sub_s rfl (q_sub_s rfl (q_sub_s rfl (q_sub_i rfl (q_sub_i rfl (q_sub_i rfl (q_sub_n (q_sub_n (q_sub_n (q_sub_n q_sub_0)))))))))))) rfl)
