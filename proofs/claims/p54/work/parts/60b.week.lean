/-! THE WEEK -/
theorem g_isWeekB {Φ : q_Fx} {h : q_Hp} (K : q_Lk Φ h.R h.n) {a : Nat} (hN : q_n9 h a) {m : q_W} {ρ : Nat → Nat} (R : q_nr (h.I a) m ρ) (B : q_bd m) {W : q_W} {O : q_O} (C : q_clX h W O) {c : Nat} (s : q_smc c W m) (hcc : c ≤ 500) {d : Nat} (hd : d ≤ m.t) (hll : O.ll = 13) (hln : ∀ k, k < 13 → O.ln k = if k % 2 = 1 then nI 32 else nI (W.sgn (d + k / 2))) (hlc : ∀ j, j < O.ll → narrow .char (.int (O.ln j)) = .int (O.ln j)) {Q : Except String (Option Value) → q_Hp → Prop} (hQ : ∀ h', q_rd h h' W O → Q (.ok (some (.int (nI 1)))) h') : q_G Φ false cL_isWeek RL mL_isWeek (q_Zx Φ false mL_isWeek Q) 12 [some (.ref 1), some (.ref a), some (.int (nI d)), none, none, none, none, none, none, none, none, none] [] h 15 90 := by
  obtain ⟨bt, bn, bc, bpe, bpf, bpc, bpn⟩ := id B
  obtain ⟨⟨N0, hN0, a0, ⟨τ0, b0⟩, k0⟩, dd⟩ := id s
  have v := k0.2.2.2.2.2.2.2
  have ha2 := hN.2.1
  have rd0 : q_rd h h W O := ⟨C, q_fr.rf⟩
  refine q_iconst (v := nI 0) dL_isWeek_12 (by decide) ?_
  refine q_istore_n (L' := [_, _, _, _, _, _, _, _, _, _, _, _]) dL_isWeek_13 rfl (by decide) rfl ?_
  refine q_loopK (ι := Nat × q_Hp) (μ := fun x => 7 - x.1) (P := fun x => x.1 ≤ 7 ∧ q_rd h x.2 W O) (Lf := fun x => [some (.ref 1), some (.ref a), some (.int (nI (d))), some (.int (nI (x.1))), none, none, none, none, none, none, none, none]) (hf := fun x => x.2) (kf := fun x => (7 - x.1) * 2 + 1) (sf := fun x => (7 - x.1) * 12 + 6) (fun x hi14 ih14 => ?_) (0, h) (⟨(show 0 ≤ 7 by decide), rd0⟩) (q_sub_s rfl (q_sub_s rfl (q_sub_i rfl (q_sub_i rfl (q_sub_n (q_sub_n (q_sub_n (q_sub_n (q_sub_n (q_sub_n (q_sub_n (q_sub_n q_sub_0)))))))))))) rfl rfl rfl
  skip
  obtain ⟨k, h52⟩ := x
  dsimp only at hi14 ih14 ⊢
  have rd52 := hi14.2
  have C52 := rd52.1
  have K52 : q_Lk Φ h52.R h52.n := (q_lf.fr (a := a) rd52.2).Lk K
  have NN52 : q_n9 h52 a := hN.fr rd52.2.2.2.1
  have R52 : q_nr (h52.I a) m ρ := by rw [rd52.2.1 a (by omega)]; exact R
  have hk7 := hi14.1
  refine q_iload_n dL_isWeek_14 rfl ?_
  refine q_bipush (v := nI 7) dL_isWeek_15 (by decide) ?_
  refine q_icmp_geN (by omega) (by omega) (tgt := 272) dL_isWeek_17 rfl (fun c1 => ?_) (fun c2 => ?_)
  · refine q_less (kc' := 1) (ks' := 6) (by omega) (by omega) ?_
    refine q_aload_n dL_isWeek_272 rfl ?_
    refine q_bipush (v := nI 13) dL_isWeek_273 (by decide) ?_
    refine q_callH (kc := 0) (ks := 0) (g_L_lineAt (h := h52) K52 C52 (p := (nI (13))) hlc) wL_lineAt kL_267 sL_lineAt (by decide) rfl rfl (Nat.le_of_ble_eq_true rfl) dL_isWeek_275 rfl rfl (fun E h9 q9 => (by obtain ⟨_, q9, _⟩ := q9; exact nomatch q9)) ?_
    intro v9 h136 hq
    obtain ⟨x9, ex9, hj9⟩ := hq
    cases ex9
    rw [hll] at hj9
    rcases hj9 with ⟨d1, ex8, rdx⟩ | ⟨y1, ev9, rdx⟩
    rotate_left
    · exact absurd (Or.inr (by decide)) y1
    subst ex8
    have rd136 : q_rd h h136 W O := ⟨rdx.1, rd52.2.tr rdx.2⟩
    have C136 := rd136.1
    have K136 : q_Lk Φ h136.R h136.n := (q_lf.fr (a := a) rd136.2).Lk K
    have NN136 : q_n9 h136 a := hN.fr rd136.2.2.2.1
    have R136 : q_nr (h136.I a) m ρ := by rw [rd136.2.1 a (by omega)]; exact R
    refine q_ldc dL_isWeek_278 kcL_17 ?_
    refine q_icmp_ne (tgt := 287) dL_isWeek_280 rfl (fun c => absurd (by decide) c) (fun _ => ?_)
    refine q_iconst (v := nI 1) dL_isWeek_283 (by decide) ?_
    refine q_goto (tgt := 288) dL_isWeek_284 rfl ?_
    refine q_zret (ty := .boolean) dL_isWeek_288 rfl rfl (Or.inl rfl) ?_
    exact hQ _ rd136
  · rw [show (7 - k) * 2 + 1 = (7 - (k + 1)) * 2 + 3 from by omega, show (7 - k) * 12 + 6 = (7 - (k + 1)) * 12 + 18 from by omega]
    generalize hX1 : (7 - (k + 1)) * 2 = X1
    generalize hY1 : (7 - (k + 1)) * 12 = Y1
    have hcl := q_cn_le (fun i => decide (m.dy i = d + k)) m.c
    have hpl := q_pa_le2 (m := m) (d + k) m.c fun j hj => (bpn j hj).1
    refine q_iconst (v := nI 0) dL_isWeek_20 (by decide) ?_
    refine q_istore (L' := [_, _, _, _, _, _, _, _, _, _, _, _]) dL_isWeek_21 rfl (by decide) rfl ?_
    refine q_iconst (v := nI 0) dL_isWeek_23 (by decide) ?_
    refine q_istore (L' := [_, _, _, _, _, _, _, _, _, _, _, _]) dL_isWeek_24 rfl (by decide) rfl ?_
    refine q_iconst (v := nI 1) dL_isWeek_26 (by decide) ?_
    refine q_istore (L' := [_, _, _, _, _, _, _, _, _, _, _, _]) dL_isWeek_27 rfl (by decide) rfl ?_
    refine q_iconst (v := (-1)) dL_isWeek_29 (by decide) ?_
    refine q_istore (L' := [_, _, _, _, _, _, _, _, _, _, _, _]) dL_isWeek_30 rfl (by decide) rfl ?_
    refine q_iconst (v := nI 0) dL_isWeek_32 (by decide) ?_
    refine q_istore (L' := [_, _, _, _, _, _, _, _, _, _, _, _]) dL_isWeek_33 rfl (by decide) rfl ?_
    refine q_loop (ι := Nat) (μ := fun z => 6 - z) (P := fun z => z ≤ 6) (Lf := fun z => [some (.ref 1), some (.ref a), some (.int (nI (d))), some (.int (nI (k))), some (.int (nI (z * q_cn (fun i => decide (m.dy i = d + k)) m.c))), some (.int (nI (z * m.pa (d + k) m.c))), some (.int (nI (q_bz (m.zr (d + k)) (z - 2)))), some (.int (q_mo (m.zr (d + k)) z)), some (.int (nI (z))), none, none, none]) (hf := fun z => h52) (fun z hi35 ih35 => ?_) 0 (by omega) (q_sub_s rfl (q_sub_s rfl (q_sub_i rfl (q_sub_i rfl (q_sub_i (by rw [Nat.zero_mul]) (q_sub_i (by rw [Nat.zero_mul]) (q_sub_i rfl (q_sub_i rfl (q_sub_i rfl (q_sub_n (q_sub_n (q_sub_n q_sub_0)))))))))))) rfl
    skip
    refine q_iload dL_isWeek_35 rfl ?_
    refine q_iconst (v := nI 5) dL_isWeek_37 (by decide) ?_
    refine q_icmp_gtN (by omega) (by omega) (tgt := 190) dL_isWeek_38 rfl (fun c5 => ?_) (fun c6 => ?_)
    · obtain rfl : z = 6 := by omega
      rw [show (6 - 2 : Nat) = 4 from rfl]
      have hbz := q_bz_le (m.zr (d + k)) 4
      refine q_iload_n dL_isWeek_190 rfl ?_
      refine q_iload_n dL_isWeek_191 rfl ?_
      refine q_iaddN dL_isWeek_192 ?_
      refine q_aload_n dL_isWeek_193 rfl ?_
      refine q_iconst (v := nI 0) dL_isWeek_194 (by decide) ?_
      refine q_ialdD (k := 0) NN52.1 NN52.t NN52.l (by omega) (by decide) dL_isWeek_195 ?_
      refine q_tv (show _ = (nI (m.t)) from R52.t) ?_
      refine q_icmp_leN (by omega) (by omega) (tgt := 204) dL_isWeek_196 rfl (fun c7 => ?_) (fun c8 => ?_)
      · refine q_iload dL_isWeek_204 rfl ?_
        refine q_if_neN (by omega) (tgt := 214) dL_isWeek_206 rfl (fun c9 => ?_) (fun c10 => ?_)
        · refine q_iload dL_isWeek_214 rfl ?_
          refine q_if_neN (by omega) (tgt := 224) dL_isWeek_216 rfl (fun c11 => ?_) (fun c12 => ?_)
          · refine q_bipush (v := nI 48) dL_isWeek_224 (by decide) ?_
            refine q_iload dL_isWeek_226 rfl ?_
            refine q_iaddN dL_isWeek_228 ?_
            refine q_i2c (v := (nI (48 + q_bz (m.zr (d + k)) 4))) dL_isWeek_229 (by rw [pk_char, pk_tn (by omega), Nat.mod_eq_of_lt (by omega)]) ?_
            refine q_istore (L' := [_, _, _, _, _, _, _, _, _, _, _, _]) dL_isWeek_230 rfl (by decide) rfl ?_
            refine q_aload_n dL_isWeek_232 rfl ?_
            refine q_iconst (v := nI 2) dL_isWeek_233 (by decide) ?_
            refine q_iload_n dL_isWeek_234 rfl ?_
            refine q_imulN dL_isWeek_235 ?_
            refine q_callH (kc := X1 + 2) (ks := Y1 + 12) (g_L_lineAt (h := h52) K52 C52 (p := (nI ((2) * (k)))) hlc) wL_lineAt kL_267 sL_lineAt (by decide) rfl rfl (Nat.le_of_ble_eq_true rfl) dL_isWeek_236 rfl rfl (fun E h9 q9 => (by obtain ⟨_, q9, _⟩ := q9; exact nomatch q9)) ?_
            intro v9 h137 hq
            obtain ⟨x9, ex9, hj9⟩ := hq
            cases ex9
            rw [hll] at hj9
            rcases hj9 with ⟨d1, ex8, rdx⟩ | ⟨y1, ev9, rdx⟩
            · exact absurd d1 (by rintro (e | e); exact absurd e (nI_pos (by omega)); rw [nI_leI (by omega) (by omega)] at e; omega)
            cases ev9
            refine q_tv (show _ = nI (m.sg2 (m.zr (d + k)) (d + k)) from by rw [nI_clamp (by omega), hln _ (by omega), if_neg (by omega), show d + (2 * k) / 2 = d + k by omega, q_sgn_eq a0 b0 k0]) ?_
            have hsg := q_sg2_le m (m.zr (d + k)) (d + k)
            have rd137 : q_rd h h137 W O := ⟨rdx.1, rd52.2.tr rdx.2⟩
            have C137 := rd137.1
            have K137 : q_Lk Φ h137.R h137.n := (q_lf.fr (a := a) rd137.2).Lk K
            have NN137 : q_n9 h137 a := hN.fr rd137.2.2.2.1
            have R137 : q_nr (h137.I a) m ρ := by rw [rd137.2.1 a (by omega)]; exact R
            refine q_iload dL_isWeek_239 rfl ?_
            refine q_icmp_neN (by omega) (by omega) (tgt := 264) dL_isWeek_241 rfl (fun c => absurd (by unfold q_W.sg2; first | rw [if_pos (by omega)] | rw [if_neg (by omega), if_pos (by omega)] | rw [if_neg (by omega), if_neg (by omega), if_pos (by omega)] | rw [if_neg (by omega), if_neg (by omega), if_neg (by omega)]) c) (fun c13 => ?_)
            refine q_iload_n dL_isWeek_244 rfl ?_
            refine q_bipush (v := nI 6) dL_isWeek_245 (by decide) ?_
            refine q_icmp_geN (by omega) (by omega) (tgt := 266) dL_isWeek_247 rfl (fun c15 => ?_) (fun c16 => ?_)
            · refine q_iincN (n := 1) (L' := [_, _, _, _, _, _, _, _, _, _, _, _]) (by decide) dL_isWeek_266 rfl rfl (by decide) rfl ?_
              refine q_goto (tgt := 14) dL_isWeek_269 rfl ?_
              refine q_less (kc' := (7 - (k + 1)) * 2 + 1) (ks' := (7 - (k + 1)) * 12 + 6) (by omega) (by omega) ?_
              exact q_to (ih14 (k + 1, h137) (⟨by omega, rd137⟩) (by dsimp only; omega)) (q_sub_s rfl (q_sub_s rfl (q_sub_i rfl (q_sub_i rfl (q_sub_n (q_sub_n (q_sub_n (q_sub_n (q_sub_n (q_sub_n (q_sub_n (q_sub_n q_sub_0)))))))))))) rfl
            · refine q_aload_n dL_isWeek_250 rfl ?_
              refine q_iconst (v := nI 2) dL_isWeek_251 (by decide) ?_
              refine q_iload_n dL_isWeek_252 rfl ?_
              refine q_imulN dL_isWeek_253 ?_
              refine q_iconst (v := nI 1) dL_isWeek_254 (by decide) ?_
              refine q_iaddN dL_isWeek_255 ?_
              refine q_callH (kc := X1 + 1) (ks := Y1 + 6) (g_L_lineAt (h := h137) K137 C137 (p := (nI (((2) * (k)) + (1)))) hlc) wL_lineAt kL_267 sL_lineAt (by decide) rfl rfl (Nat.le_of_ble_eq_true rfl) dL_isWeek_256 rfl rfl (fun E h9 q9 => (by obtain ⟨_, q9, _⟩ := q9; exact nomatch q9)) ?_
              intro v9 h138 hq
              obtain ⟨x9, ex9, hj9⟩ := hq
              cases ex9
              rw [hll] at hj9
              rcases hj9 with ⟨d1, ex8, rdx⟩ | ⟨y1, ev9, rdx⟩
              · exact absurd d1 (by rintro (e | e); exact absurd e (nI_pos (by omega)); rw [nI_leI (by omega) (by omega)] at e; omega)
              cases ev9
              refine q_tv (show _ = nI 32 from by rw [nI_clamp (by omega), hln _ (by omega), if_pos (by omega)]) ?_
              have rd138 : q_rd h h138 W O := ⟨rdx.1, rd137.2.tr rdx.2⟩
              have C138 := rd138.1
              have K138 : q_Lk Φ h138.R h138.n := (q_lf.fr (a := a) rd138.2).Lk K
              have NN138 : q_n9 h138 a := hN.fr rd138.2.2.2.1
              have R138 : q_nr (h138.I a) m ρ := by rw [rd138.2.1 a (by omega)]; exact R
              refine q_bipush (v := nI 32) dL_isWeek_259 (by decide) ?_
              refine q_icmp_eq (tgt := 266) dL_isWeek_261 rfl (fun _ => ?_) (fun c => absurd (by decide) c)
              refine q_iincN (n := 1) (L' := [_, _, _, _, _, _, _, _, _, _, _, _]) (by decide) dL_isWeek_266 rfl rfl (by decide) rfl ?_
              refine q_goto (tgt := 14) dL_isWeek_269 rfl ?_
              refine q_less (kc' := (7 - (k + 1)) * 2 + 1) (ks' := (7 - (k + 1)) * 12 + 6) (by omega) (by omega) ?_
              exact q_to (ih14 (k + 1, h138) (⟨by omega, rd138⟩) (by dsimp only; omega)) (q_sub_s rfl (q_sub_s rfl (q_sub_i rfl (q_sub_i rfl (q_sub_n (q_sub_n (q_sub_n (q_sub_n (q_sub_n (q_sub_n (q_sub_n (q_sub_n q_sub_0)))))))))))) rfl
          · refine q_bipush (v := nI 48) dL_isWeek_219 (by decide) ?_
            refine q_goto (tgt := 230) dL_isWeek_221 rfl ?_
            refine q_istore (L' := [_, _, _, _, _, _, _, _, _, _, _, _]) dL_isWeek_230 rfl (by decide) rfl ?_
            refine q_aload_n dL_isWeek_232 rfl ?_
            refine q_iconst (v := nI 2) dL_isWeek_233 (by decide) ?_
            refine q_iload_n dL_isWeek_234 rfl ?_
            refine q_imulN dL_isWeek_235 ?_
            refine q_callH (kc := X1 + 2) (ks := Y1 + 12) (g_L_lineAt (h := h52) K52 C52 (p := (nI ((2) * (k)))) hlc) wL_lineAt kL_267 sL_lineAt (by decide) rfl rfl (Nat.le_of_ble_eq_true rfl) dL_isWeek_236 rfl rfl (fun E h9 q9 => (by obtain ⟨_, q9, _⟩ := q9; exact nomatch q9)) ?_
            intro v9 h139 hq
            obtain ⟨x9, ex9, hj9⟩ := hq
            cases ex9
            rw [hll] at hj9
            rcases hj9 with ⟨d1, ex8, rdx⟩ | ⟨y1, ev9, rdx⟩
            · exact absurd d1 (by rintro (e | e); exact absurd e (nI_pos (by omega)); rw [nI_leI (by omega) (by omega)] at e; omega)
            cases ev9
            refine q_tv (show _ = nI (m.sg2 (m.zr (d + k)) (d + k)) from by rw [nI_clamp (by omega), hln _ (by omega), if_neg (by omega), show d + (2 * k) / 2 = d + k by omega, q_sgn_eq a0 b0 k0]) ?_
            have hsg := q_sg2_le m (m.zr (d + k)) (d + k)
            have rd139 : q_rd h h139 W O := ⟨rdx.1, rd52.2.tr rdx.2⟩
            have C139 := rd139.1
            have K139 : q_Lk Φ h139.R h139.n := (q_lf.fr (a := a) rd139.2).Lk K
            have NN139 : q_n9 h139 a := hN.fr rd139.2.2.2.1
            have R139 : q_nr (h139.I a) m ρ := by rw [rd139.2.1 a (by omega)]; exact R
            refine q_iload dL_isWeek_239 rfl ?_
            refine q_icmp_neN (by omega) (by omega) (tgt := 264) dL_isWeek_241 rfl (fun c => absurd (by unfold q_W.sg2; first | rw [if_pos (by omega)] | rw [if_neg (by omega), if_pos (by omega)] | rw [if_neg (by omega), if_neg (by omega), if_pos (by omega)] | rw [if_neg (by omega), if_neg (by omega), if_neg (by omega)]) c) (fun c19 => ?_)
            refine q_iload_n dL_isWeek_244 rfl ?_
            refine q_bipush (v := nI 6) dL_isWeek_245 (by decide) ?_
            refine q_icmp_geN (by omega) (by omega) (tgt := 266) dL_isWeek_247 rfl (fun c21 => ?_) (fun c22 => ?_)
            · refine q_iincN (n := 1) (L' := [_, _, _, _, _, _, _, _, _, _, _, _]) (by decide) dL_isWeek_266 rfl rfl (by decide) rfl ?_
              refine q_goto (tgt := 14) dL_isWeek_269 rfl ?_
              refine q_less (kc' := (7 - (k + 1)) * 2 + 1) (ks' := (7 - (k + 1)) * 12 + 6) (by omega) (by omega) ?_
              exact q_to (ih14 (k + 1, h139) (⟨by omega, rd139⟩) (by dsimp only; omega)) (q_sub_s rfl (q_sub_s rfl (q_sub_i rfl (q_sub_i rfl (q_sub_n (q_sub_n (q_sub_n (q_sub_n (q_sub_n (q_sub_n (q_sub_n (q_sub_n q_sub_0)))))))))))) rfl
            · refine q_aload_n dL_isWeek_250 rfl ?_
              refine q_iconst (v := nI 2) dL_isWeek_251 (by decide) ?_
              refine q_iload_n dL_isWeek_252 rfl ?_
              refine q_imulN dL_isWeek_253 ?_
              refine q_iconst (v := nI 1) dL_isWeek_254 (by decide) ?_
              refine q_iaddN dL_isWeek_255 ?_
              refine q_callH (kc := X1 + 1) (ks := Y1 + 6) (g_L_lineAt (h := h139) K139 C139 (p := (nI (((2) * (k)) + (1)))) hlc) wL_lineAt kL_267 sL_lineAt (by decide) rfl rfl (Nat.le_of_ble_eq_true rfl) dL_isWeek_256 rfl rfl (fun E h9 q9 => (by obtain ⟨_, q9, _⟩ := q9; exact nomatch q9)) ?_
              intro v9 h140 hq
              obtain ⟨x9, ex9, hj9⟩ := hq
              cases ex9
              rw [hll] at hj9
              rcases hj9 with ⟨d1, ex8, rdx⟩ | ⟨y1, ev9, rdx⟩
              · exact absurd d1 (by rintro (e | e); exact absurd e (nI_pos (by omega)); rw [nI_leI (by omega) (by omega)] at e; omega)
              cases ev9
              refine q_tv (show _ = nI 32 from by rw [nI_clamp (by omega), hln _ (by omega), if_pos (by omega)]) ?_
              have rd140 : q_rd h h140 W O := ⟨rdx.1, rd139.2.tr rdx.2⟩
              have C140 := rd140.1
              have K140 : q_Lk Φ h140.R h140.n := (q_lf.fr (a := a) rd140.2).Lk K
              have NN140 : q_n9 h140 a := hN.fr rd140.2.2.2.1
              have R140 : q_nr (h140.I a) m ρ := by rw [rd140.2.1 a (by omega)]; exact R
              refine q_bipush (v := nI 32) dL_isWeek_259 (by decide) ?_
              refine q_icmp_eq (tgt := 266) dL_isWeek_261 rfl (fun _ => ?_) (fun c => absurd (by decide) c)
              refine q_iincN (n := 1) (L' := [_, _, _, _, _, _, _, _, _, _, _, _]) (by decide) dL_isWeek_266 rfl rfl (by decide) rfl ?_
              refine q_goto (tgt := 14) dL_isWeek_269 rfl ?_
              refine q_less (kc' := (7 - (k + 1)) * 2 + 1) (ks' := (7 - (k + 1)) * 12 + 6) (by omega) (by omega) ?_
              exact q_to (ih14 (k + 1, h140) (⟨by omega, rd140⟩) (by dsimp only; omega)) (q_sub_s rfl (q_sub_s rfl (q_sub_i rfl (q_sub_i rfl (q_sub_n (q_sub_n (q_sub_n (q_sub_n (q_sub_n (q_sub_n (q_sub_n (q_sub_n q_sub_0)))))))))))) rfl
        · refine q_bipush (v := nI 46) dL_isWeek_209 (by decide) ?_
          refine q_goto (tgt := 230) dL_isWeek_211 rfl ?_
          refine q_istore (L' := [_, _, _, _, _, _, _, _, _, _, _, _]) dL_isWeek_230 rfl (by decide) rfl ?_
          refine q_aload_n dL_isWeek_232 rfl ?_
          refine q_iconst (v := nI 2) dL_isWeek_233 (by decide) ?_
          refine q_iload_n dL_isWeek_234 rfl ?_
          refine q_imulN dL_isWeek_235 ?_
          refine q_callH (kc := X1 + 2) (ks := Y1 + 12) (g_L_lineAt (h := h52) K52 C52 (p := (nI ((2) * (k)))) hlc) wL_lineAt kL_267 sL_lineAt (by decide) rfl rfl (Nat.le_of_ble_eq_true rfl) dL_isWeek_236 rfl rfl (fun E h9 q9 => (by obtain ⟨_, q9, _⟩ := q9; exact nomatch q9)) ?_
          intro v9 h141 hq
          obtain ⟨x9, ex9, hj9⟩ := hq
          cases ex9
          rw [hll] at hj9
          rcases hj9 with ⟨d1, ex8, rdx⟩ | ⟨y1, ev9, rdx⟩
          · exact absurd d1 (by rintro (e | e); exact absurd e (nI_pos (by omega)); rw [nI_leI (by omega) (by omega)] at e; omega)
          cases ev9
          refine q_tv (show _ = nI (m.sg2 (m.zr (d + k)) (d + k)) from by rw [nI_clamp (by omega), hln _ (by omega), if_neg (by omega), show d + (2 * k) / 2 = d + k by omega, q_sgn_eq a0 b0 k0]) ?_
          have hsg := q_sg2_le m (m.zr (d + k)) (d + k)
          have rd141 : q_rd h h141 W O := ⟨rdx.1, rd52.2.tr rdx.2⟩
          have C141 := rd141.1
          have K141 : q_Lk Φ h141.R h141.n := (q_lf.fr (a := a) rd141.2).Lk K
          have NN141 : q_n9 h141 a := hN.fr rd141.2.2.2.1
          have R141 : q_nr (h141.I a) m ρ := by rw [rd141.2.1 a (by omega)]; exact R
          refine q_iload dL_isWeek_239 rfl ?_
          refine q_icmp_neN (by omega) (by omega) (tgt := 264) dL_isWeek_241 rfl (fun c => absurd (by unfold q_W.sg2; first | rw [if_pos (by omega)] | rw [if_neg (by omega), if_pos (by omega)] | rw [if_neg (by omega), if_neg (by omega), if_pos (by omega)] | rw [if_neg (by omega), if_neg (by omega), if_neg (by omega)]) c) (fun c25 => ?_)
          refine q_iload_n dL_isWeek_244 rfl ?_
          refine q_bipush (v := nI 6) dL_isWeek_245 (by decide) ?_
          refine q_icmp_geN (by omega) (by omega) (tgt := 266) dL_isWeek_247 rfl (fun c27 => ?_) (fun c28 => ?_)
          · refine q_iincN (n := 1) (L' := [_, _, _, _, _, _, _, _, _, _, _, _]) (by decide) dL_isWeek_266 rfl rfl (by decide) rfl ?_
            refine q_goto (tgt := 14) dL_isWeek_269 rfl ?_
            refine q_less (kc' := (7 - (k + 1)) * 2 + 1) (ks' := (7 - (k + 1)) * 12 + 6) (by omega) (by omega) ?_
            exact q_to (ih14 (k + 1, h141) (⟨by omega, rd141⟩) (by dsimp only; omega)) (q_sub_s rfl (q_sub_s rfl (q_sub_i rfl (q_sub_i rfl (q_sub_n (q_sub_n (q_sub_n (q_sub_n (q_sub_n (q_sub_n (q_sub_n (q_sub_n q_sub_0)))))))))))) rfl
          · refine q_aload_n dL_isWeek_250 rfl ?_
            refine q_iconst (v := nI 2) dL_isWeek_251 (by decide) ?_
            refine q_iload_n dL_isWeek_252 rfl ?_
            refine q_imulN dL_isWeek_253 ?_
            refine q_iconst (v := nI 1) dL_isWeek_254 (by decide) ?_
            refine q_iaddN dL_isWeek_255 ?_
            refine q_callH (kc := X1 + 1) (ks := Y1 + 6) (g_L_lineAt (h := h141) K141 C141 (p := (nI (((2) * (k)) + (1)))) hlc) wL_lineAt kL_267 sL_lineAt (by decide) rfl rfl (Nat.le_of_ble_eq_true rfl) dL_isWeek_256 rfl rfl (fun E h9 q9 => (by obtain ⟨_, q9, _⟩ := q9; exact nomatch q9)) ?_
            intro v9 h142 hq
            obtain ⟨x9, ex9, hj9⟩ := hq
            cases ex9
            rw [hll] at hj9
            rcases hj9 with ⟨d1, ex8, rdx⟩ | ⟨y1, ev9, rdx⟩
            · exact absurd d1 (by rintro (e | e); exact absurd e (nI_pos (by omega)); rw [nI_leI (by omega) (by omega)] at e; omega)
            cases ev9
            refine q_tv (show _ = nI 32 from by rw [nI_clamp (by omega), hln _ (by omega), if_pos (by omega)]) ?_
            have rd142 : q_rd h h142 W O := ⟨rdx.1, rd141.2.tr rdx.2⟩
            have C142 := rd142.1
            have K142 : q_Lk Φ h142.R h142.n := (q_lf.fr (a := a) rd142.2).Lk K
            have NN142 : q_n9 h142 a := hN.fr rd142.2.2.2.1
            have R142 : q_nr (h142.I a) m ρ := by rw [rd142.2.1 a (by omega)]; exact R
            refine q_bipush (v := nI 32) dL_isWeek_259 (by decide) ?_
            refine q_icmp_eq (tgt := 266) dL_isWeek_261 rfl (fun _ => ?_) (fun c => absurd (by decide) c)
            refine q_iincN (n := 1) (L' := [_, _, _, _, _, _, _, _, _, _, _, _]) (by decide) dL_isWeek_266 rfl rfl (by decide) rfl ?_
            refine q_goto (tgt := 14) dL_isWeek_269 rfl ?_
            refine q_less (kc' := (7 - (k + 1)) * 2 + 1) (ks' := (7 - (k + 1)) * 12 + 6) (by omega) (by omega) ?_
            exact q_to (ih14 (k + 1, h142) (⟨by omega, rd142⟩) (by dsimp only; omega)) (q_sub_s rfl (q_sub_s rfl (q_sub_i rfl (q_sub_i rfl (q_sub_n (q_sub_n (q_sub_n (q_sub_n (q_sub_n (q_sub_n (q_sub_n (q_sub_n q_sub_0)))))))))))) rfl
      · refine q_bipush (v := nI 45) dL_isWeek_199 (by decide) ?_
        refine q_goto (tgt := 230) dL_isWeek_201 rfl ?_
        refine q_istore (L' := [_, _, _, _, _, _, _, _, _, _, _, _]) dL_isWeek_230 rfl (by decide) rfl ?_
        refine q_aload_n dL_isWeek_232 rfl ?_
        refine q_iconst (v := nI 2) dL_isWeek_233 (by decide) ?_
        refine q_iload_n dL_isWeek_234 rfl ?_
        refine q_imulN dL_isWeek_235 ?_
        refine q_callH (kc := X1 + 2) (ks := Y1 + 12) (g_L_lineAt (h := h52) K52 C52 (p := (nI ((2) * (k)))) hlc) wL_lineAt kL_267 sL_lineAt (by decide) rfl rfl (Nat.le_of_ble_eq_true rfl) dL_isWeek_236 rfl rfl (fun E h9 q9 => (by obtain ⟨_, q9, _⟩ := q9; exact nomatch q9)) ?_
        intro v9 h143 hq
        obtain ⟨x9, ex9, hj9⟩ := hq
        cases ex9
        rw [hll] at hj9
        rcases hj9 with ⟨d1, ex8, rdx⟩ | ⟨y1, ev9, rdx⟩
        · exact absurd d1 (by rintro (e | e); exact absurd e (nI_pos (by omega)); rw [nI_leI (by omega) (by omega)] at e; omega)
        cases ev9
        refine q_tv (show _ = nI (m.sg2 (m.zr (d + k)) (d + k)) from by rw [nI_clamp (by omega), hln _ (by omega), if_neg (by omega), show d + (2 * k) / 2 = d + k by omega, q_sgn_eq a0 b0 k0]) ?_
        have hsg := q_sg2_le m (m.zr (d + k)) (d + k)
        have rd143 : q_rd h h143 W O := ⟨rdx.1, rd52.2.tr rdx.2⟩
        have C143 := rd143.1
        have K143 : q_Lk Φ h143.R h143.n := (q_lf.fr (a := a) rd143.2).Lk K
        have NN143 : q_n9 h143 a := hN.fr rd143.2.2.2.1
        have R143 : q_nr (h143.I a) m ρ := by rw [rd143.2.1 a (by omega)]; exact R
        refine q_iload dL_isWeek_239 rfl ?_
        refine q_icmp_neN (by omega) (by omega) (tgt := 264) dL_isWeek_241 rfl (fun c => absurd (by unfold q_W.sg2; first | rw [if_pos (by omega)] | rw [if_neg (by omega), if_pos (by omega)] | rw [if_neg (by omega), if_neg (by omega), if_pos (by omega)] | rw [if_neg (by omega), if_neg (by omega), if_neg (by omega)]) c) (fun c31 => ?_)
        refine q_iload_n dL_isWeek_244 rfl ?_
        refine q_bipush (v := nI 6) dL_isWeek_245 (by decide) ?_
        refine q_icmp_geN (by omega) (by omega) (tgt := 266) dL_isWeek_247 rfl (fun c33 => ?_) (fun c34 => ?_)
        · refine q_iincN (n := 1) (L' := [_, _, _, _, _, _, _, _, _, _, _, _]) (by decide) dL_isWeek_266 rfl rfl (by decide) rfl ?_
          refine q_goto (tgt := 14) dL_isWeek_269 rfl ?_
          refine q_less (kc' := (7 - (k + 1)) * 2 + 1) (ks' := (7 - (k + 1)) * 12 + 6) (by omega) (by omega) ?_
          exact q_to (ih14 (k + 1, h143) (⟨by omega, rd143⟩) (by dsimp only; omega)) (q_sub_s rfl (q_sub_s rfl (q_sub_i rfl (q_sub_i rfl (q_sub_n (q_sub_n (q_sub_n (q_sub_n (q_sub_n (q_sub_n (q_sub_n (q_sub_n q_sub_0)))))))))))) rfl
        · refine q_aload_n dL_isWeek_250 rfl ?_
          refine q_iconst (v := nI 2) dL_isWeek_251 (by decide) ?_
          refine q_iload_n dL_isWeek_252 rfl ?_
          refine q_imulN dL_isWeek_253 ?_
          refine q_iconst (v := nI 1) dL_isWeek_254 (by decide) ?_
          refine q_iaddN dL_isWeek_255 ?_
          refine q_callH (kc := X1 + 1) (ks := Y1 + 6) (g_L_lineAt (h := h143) K143 C143 (p := (nI (((2) * (k)) + (1)))) hlc) wL_lineAt kL_267 sL_lineAt (by decide) rfl rfl (Nat.le_of_ble_eq_true rfl) dL_isWeek_256 rfl rfl (fun E h9 q9 => (by obtain ⟨_, q9, _⟩ := q9; exact nomatch q9)) ?_
          intro v9 h144 hq
          obtain ⟨x9, ex9, hj9⟩ := hq
          cases ex9
          rw [hll] at hj9
          rcases hj9 with ⟨d1, ex8, rdx⟩ | ⟨y1, ev9, rdx⟩
          · exact absurd d1 (by rintro (e | e); exact absurd e (nI_pos (by omega)); rw [nI_leI (by omega) (by omega)] at e; omega)
          cases ev9
          refine q_tv (show _ = nI 32 from by rw [nI_clamp (by omega), hln _ (by omega), if_pos (by omega)]) ?_
          have rd144 : q_rd h h144 W O := ⟨rdx.1, rd143.2.tr rdx.2⟩
          have C144 := rd144.1
          have K144 : q_Lk Φ h144.R h144.n := (q_lf.fr (a := a) rd144.2).Lk K
          have NN144 : q_n9 h144 a := hN.fr rd144.2.2.2.1
          have R144 : q_nr (h144.I a) m ρ := by rw [rd144.2.1 a (by omega)]; exact R
          refine q_bipush (v := nI 32) dL_isWeek_259 (by decide) ?_
          refine q_icmp_eq (tgt := 266) dL_isWeek_261 rfl (fun _ => ?_) (fun c => absurd (by decide) c)
          refine q_iincN (n := 1) (L' := [_, _, _, _, _, _, _, _, _, _, _, _]) (by decide) dL_isWeek_266 rfl rfl (by decide) rfl ?_
          refine q_goto (tgt := 14) dL_isWeek_269 rfl ?_
          refine q_less (kc' := (7 - (k + 1)) * 2 + 1) (ks' := (7 - (k + 1)) * 12 + 6) (by omega) (by omega) ?_
          exact q_to (ih14 (k + 1, h144) (⟨by omega, rd144⟩) (by dsimp only; omega)) (q_sub_s rfl (q_sub_s rfl (q_sub_i rfl (q_sub_i rfl (q_sub_n (q_sub_n (q_sub_n (q_sub_n (q_sub_n (q_sub_n (q_sub_n (q_sub_n q_sub_0)))))))))))) rfl
    · refine q_iconst (v := nI 0) dL_isWeek_41 (by decide) ?_
      refine q_istore (L' := [_, _, _, _, _, _, _, _, _, _, _, _]) dL_isWeek_42 rfl (by decide) rfl ?_
      refine q_iconst (v := nI 0) dL_isWeek_44 (by decide) ?_
      refine q_istore (L' := [_, _, _, _, _, _, _, _, _, _, _, _]) dL_isWeek_45 rfl (by decide) rfl ?_
      refine q_loop (ι := Nat) (μ := fun j => m.c - j) (P := fun j => j ≤ m.c) (Lf := fun j => [some (.ref 1), some (.ref a), some (.int (nI (d))), some (.int (nI (k))), some (.int (nI (z * q_cn (fun i => decide (m.dy i = d + k)) m.c + q_cn (fun i => decide (m.dy i = d + k)) j))), some (.int (nI (z * m.pa (d + k) m.c + m.pa (d + k) j))), some (.int (nI (q_bz (m.zr (d + k)) (z - 2)))), some (.int (q_mo (m.zr (d + k)) z)), some (.int (nI (z))), some (.int (q_dz1 m (d + k) z j)), some (.int (nI (j))), none]) (hf := fun j => h52) (fun j hi47 ih47 => ?_) 0 (by omega) (q_sub_s rfl (q_sub_s rfl (q_sub_i rfl (q_sub_i rfl (q_sub_i rfl (q_sub_i rfl (q_sub_i rfl (q_sub_i rfl (q_sub_i rfl (q_sub_i rfl (q_sub_i rfl (q_sub_n q_sub_0)))))))))))) rfl
      skip
      have hbj := bpn j
      refine q_iload dL_isWeek_47 rfl ?_
      refine q_aload_n dL_isWeek_49 rfl ?_
      refine q_iconst (v := nI 2) dL_isWeek_50 (by decide) ?_
      refine q_ialdD (k := 2) NN52.1 NN52.t NN52.l (by omega) (by decide) dL_isWeek_51 ?_
      refine q_tv (show _ = (nI (m.c)) from R52.c) ?_
      refine q_icmp_geN (by omega) (by omega) (tgt := 145) dL_isWeek_52 rfl (fun c37 => ?_) (fun c38 => ?_)
      · obtain rfl : j = m.c := by omega
        refine q_iload dL_isWeek_145 rfl ?_
        refine q_if_leN (by omega) (tgt := 162) dL_isWeek_147 rfl (fun c39 => ?_) (fun c40 => ?_)
        · refine q_iload dL_isWeek_162 rfl ?_
          refine q_istore (L' := [_, _, _, _, _, _, _, _, _, _, _, _]) dL_isWeek_164 rfl (by decide) rfl ?_
          refine q_iload dL_isWeek_166 rfl ?_
          refine q_if_leN (by omega) (tgt := 181) dL_isWeek_168 rfl (fun c41 => ?_) (fun c => by exfalso; first | omega | exact absurd c39 c | exact absurd c c39)
          refine q_iconst (v := (-1)) dL_isWeek_181 (by decide) ?_
          refine q_istore (L' := [_, _, _, _, _, _, _, _, _, _, _, _]) dL_isWeek_182 rfl (by decide) rfl ?_
          refine q_iincN (n := 1) (L' := [_, _, _, _, _, _, _, _, _, _, _, _]) (by decide) dL_isWeek_184 rfl rfl (by decide) rfl ?_
          refine q_goto (tgt := 35) dL_isWeek_187 rfl ?_
          have ez : q_bz (m.zr (d + k)) (z + 1 - 2) = q_bz (m.zr (d + k)) (z - 2) ∧ q_mo (m.zr (d + k)) (z + 1) = -1 := by rw [show z = 0 by omega]; exact ⟨rfl, rfl⟩
          exact q_to (ih35 (z + 1) (by omega) (by omega)) (q_sub_s rfl (q_sub_s rfl (q_sub_i rfl (q_sub_i rfl (q_sub_i (by rw [Nat.succ_mul]) (q_sub_i (by rw [Nat.succ_mul]) (q_sub_i (by rw [ez.1]) (q_sub_i (by rw [ez.2]) (q_sub_i rfl (q_sub_n (q_sub_n (q_sub_n q_sub_0)))))))))))) rfl
        · refine q_iload dL_isWeek_150 rfl ?_
          refine q_iload dL_isWeek_152 rfl ?_
          refine q_icmp_le (tgt := 162) dL_isWeek_154 rfl (fun c43 => ?_) (fun c44 => ?_)
          · refine q_iload dL_isWeek_162 rfl ?_
            refine q_istore (L' := [_, _, _, _, _, _, _, _, _, _, _, _]) dL_isWeek_164 rfl (by decide) rfl ?_
            refine q_iload dL_isWeek_166 rfl ?_
            refine q_if_leN (by omega) (tgt := 181) dL_isWeek_168 rfl (fun c => by exfalso; first | omega | exact absurd c40 c | exact absurd c c40) (fun c45 => ?_)
            refine q_iload dL_isWeek_171 rfl ?_
            refine q_iload dL_isWeek_173 rfl ?_
            refine q_max kL_264 dL_isWeek_175 (by decide) (by decide) ?_
            refine q_goto (tgt := 182) dL_isWeek_178 rfl ?_
            refine q_istore (L' := [_, _, _, _, _, _, _, _, _, _, _, _]) dL_isWeek_182 rfl (by decide) rfl ?_
            refine q_iincN (n := 1) (L' := [_, _, _, _, _, _, _, _, _, _, _, _]) (by decide) dL_isWeek_184 rfl rfl (by decide) rfl ?_
            refine q_goto (tgt := 35) dL_isWeek_187 rfl ?_
            have ez := q_mo_b (q_zr_nn k0 (d + k)) (z := z) (by omega) (by rw [← q_dz1_e k0 (d + k) (by omega)]; exact Int32.not_lt.mpr (by assumption))
            exact q_to (ih35 (z + 1) (by omega) (by omega)) (q_sub_s rfl (q_sub_s rfl (q_sub_i rfl (q_sub_i rfl (q_sub_i (by rw [Nat.succ_mul]) (q_sub_i (by rw [Nat.succ_mul]) (q_sub_i (by rw [ez.1]) (q_sub_i (by rw [ez.2, if_neg (Int32.not_lt.mpr (by assumption))]) (q_sub_i rfl (q_sub_n (q_sub_n (q_sub_n q_sub_0)))))))))))) rfl
          · refine q_iload dL_isWeek_157 rfl ?_
            refine q_goto (tgt := 164) dL_isWeek_159 rfl ?_
            refine q_istore (L' := [_, _, _, _, _, _, _, _, _, _, _, _]) dL_isWeek_164 rfl (by decide) rfl ?_
            refine q_iload dL_isWeek_166 rfl ?_
            refine q_if_leN (by omega) (tgt := 181) dL_isWeek_168 rfl (fun c => by exfalso; first | omega | exact absurd c40 c | exact absurd c c40) (fun c47 => ?_)
            refine q_iload dL_isWeek_171 rfl ?_
            refine q_iload dL_isWeek_173 rfl ?_
            refine q_max kL_264 dL_isWeek_175 (by decide) (by decide) ?_
            refine q_goto (tgt := 182) dL_isWeek_178 rfl ?_
            refine q_istore (L' := [_, _, _, _, _, _, _, _, _, _, _, _]) dL_isWeek_182 rfl (by decide) rfl ?_
            refine q_iincN (n := 1) (L' := [_, _, _, _, _, _, _, _, _, _, _, _]) (by decide) dL_isWeek_184 rfl rfl (by decide) rfl ?_
            refine q_goto (tgt := 35) dL_isWeek_187 rfl ?_
            have ez := q_mo_a (q_zr_nn k0 (d + k)) (z := z) (by omega) (by rw [← q_dz1_e k0 (d + k) (by omega)]; exact Int32.not_le.mp (by assumption))
            exact q_to (ih35 (z + 1) (by omega) (by omega)) (q_sub_s rfl (q_sub_s rfl (q_sub_i rfl (q_sub_i rfl (q_sub_i (by rw [Nat.succ_mul]) (q_sub_i (by rw [Nat.succ_mul]) (q_sub_i (by rw [ez.1]) (q_sub_i (by rw [ez.2, if_pos (Int32.not_le.mp (by assumption)), q_dz1_e k0 (d + k) (by omega)]) (q_sub_i rfl (q_sub_n (q_sub_n (q_sub_n q_sub_0)))))))))))) rfl
      · refine q_aload_n dL_isWeek_55 rfl ?_
        refine q_bipush (v := nI 101) dL_isWeek_56 (by decide) ?_
        refine q_bipush (v := nI 20) dL_isWeek_58 (by decide) ?_
        refine q_iload dL_isWeek_60 rfl ?_
        refine q_imulN dL_isWeek_62 ?_
        refine q_iaddN dL_isWeek_63 ?_
        refine q_ialdD (k := (101) + ((20) * (j))) NN52.1 NN52.t NN52.l (by omega) (by decide) dL_isWeek_64 ?_
        refine q_tv (show _ = (nI (m.dy j)) from ((congrArg (h52.I a) (show ((101) + ((20) * (j))) = 101 + 20 * j by omega)).trans (R52.dy (k := j) (by omega)))) ?_
        refine q_iload_n dL_isWeek_65 rfl ?_
        refine q_iload_n dL_isWeek_66 rfl ?_
        refine q_iaddN dL_isWeek_67 ?_
        refine q_icmp_neN (by omega) (by omega) (tgt := 75) dL_isWeek_68 rfl (fun c49 => ?_) (fun c50 => ?_)
        · refine q_iconst (v := nI 0) dL_isWeek_75 (by decide) ?_
          refine q_istore (L' := [_, _, _, _, _, _, _, _, _, _, _, _]) dL_isWeek_76 rfl (by decide) rfl ?_
          refine q_iload dL_isWeek_78 rfl ?_
          refine q_iload dL_isWeek_80 rfl ?_
          refine q_if_eq (tgt := 96) dL_isWeek_82 rfl (fun _ => ?_) (fun c => absurd (by decide) c)
          refine q_iconst (v := nI 0) dL_isWeek_96 (by decide) ?_
          refine q_iadd dL_isWeek_97 ?_
          refine q_istore (L' := [_, _, _, _, _, _, _, _, _, _, _, _]) dL_isWeek_98 rfl (by decide) rfl ?_
          refine q_iload dL_isWeek_100 rfl ?_
          refine q_iload dL_isWeek_102 rfl ?_
          refine q_if_eq (tgt := 111) dL_isWeek_104 rfl (fun _ => ?_) (fun c => absurd (by decide) c)
          refine q_iconst (v := nI 0) dL_isWeek_111 (by decide) ?_
          refine q_iaddN dL_isWeek_112 ?_
          refine q_istore (L' := [_, _, _, _, _, _, _, _, _, _, _, _]) dL_isWeek_113 rfl (by decide) rfl ?_
          refine q_iload dL_isWeek_115 rfl ?_
          refine q_iload dL_isWeek_117 rfl ?_
          refine q_if_eq (tgt := 135) dL_isWeek_119 rfl (fun _ => ?_) (fun c => absurd (by decide) c)
          refine q_iconst (v := nI 0) dL_isWeek_135 (by decide) ?_
          refine q_iaddN dL_isWeek_136 ?_
          refine q_istore (L' := [_, _, _, _, _, _, _, _, _, _, _, _]) dL_isWeek_137 rfl (by decide) rfl ?_
          refine q_iincN (n := 1) (L' := [_, _, _, _, _, _, _, _, _, _, _, _]) (by decide) dL_isWeek_139 rfl rfl (by decide) rfl ?_
          refine q_goto (tgt := 47) dL_isWeek_142 rfl ?_
          exact q_to (ih47 (j + 1) (by omega) (by omega)) (q_sub_s rfl (q_sub_s rfl (q_sub_i rfl (q_sub_i rfl (q_sub_i (by first | rw [q_cn_p (p := fun i => decide (m.dy i = d + k)) (decide_eq_true (by assumption)), Nat.add_assoc] | (rw [q_cn_f (p := fun i => decide (m.dy i = d + k)) (decide_eq_false (by assumption))]; done) | (rw [q_cn_f (p := fun i => decide (m.dy i = d + k)) (decide_eq_false (by assumption))]; rfl)) (q_sub_i (by first | rw [q_pa_p (by assumption), Nat.add_assoc] | (rw [q_pa_f (by assumption)]; done) | (rw [q_pa_f (by assumption)]; rfl)) (q_sub_i rfl (q_sub_i rfl (q_sub_i rfl (q_sub_i (by first | exact q_dz1_p (by assumption) | exact q_dz1_f (by assumption)) (q_sub_i rfl (q_sub_n q_sub_0)))))))))))) rfl
        · refine q_iconst (v := nI 1) dL_isWeek_71 (by decide) ?_
          refine q_goto (tgt := 76) dL_isWeek_72 rfl ?_
          refine q_istore (L' := [_, _, _, _, _, _, _, _, _, _, _, _]) dL_isWeek_76 rfl (by decide) rfl ?_
          refine q_iload dL_isWeek_78 rfl ?_
          refine q_iload dL_isWeek_80 rfl ?_
          refine q_if_eq (tgt := 96) dL_isWeek_82 rfl (fun c => absurd c (by decide)) (fun _ => ?_)
          refine q_aload_n dL_isWeek_85 rfl ?_
          refine q_iload dL_isWeek_86 rfl ?_
          refine q_iload dL_isWeek_88 rfl ?_
          refine q_sD (kc := X1 + 3) (ks := Y1 + 18) (g_L_minutes (h := h52) K52 NN52 R52 B v dd (k := j) (z := z) (by omega) (by omega)) wL_minutes kL_212 sL_minutes (by decide) rfl rfl (Nat.le_of_ble_eq_true rfl) dL_isWeek_90 rfl rfl ?_
          refine q_goto (tgt := 97) dL_isWeek_93 rfl ?_
          refine q_iadd dL_isWeek_97 ?_
          refine q_istore (L' := [_, _, _, _, _, _, _, _, _, _, _, _]) dL_isWeek_98 rfl (by decide) rfl ?_
          refine q_iload dL_isWeek_100 rfl ?_
          refine q_iload dL_isWeek_102 rfl ?_
          refine q_if_eq (tgt := 111) dL_isWeek_104 rfl (fun c => absurd c (by decide)) (fun _ => ?_)
          refine q_iconst (v := nI 1) dL_isWeek_107 (by decide) ?_
          refine q_goto (tgt := 112) dL_isWeek_108 rfl ?_
          refine q_iaddN dL_isWeek_112 ?_
          refine q_istore (L' := [_, _, _, _, _, _, _, _, _, _, _, _]) dL_isWeek_113 rfl (by decide) rfl ?_
          refine q_iload dL_isWeek_115 rfl ?_
          refine q_iload dL_isWeek_117 rfl ?_
          refine q_if_eq (tgt := 135) dL_isWeek_119 rfl (fun c => absurd c (by decide)) (fun _ => ?_)
          refine q_aload_n dL_isWeek_122 rfl ?_
          refine q_bipush (v := nI 102) dL_isWeek_123 (by decide) ?_
          refine q_bipush (v := nI 20) dL_isWeek_125 (by decide) ?_
          refine q_iload dL_isWeek_127 rfl ?_
          refine q_imulN dL_isWeek_129 ?_
          refine q_iaddN dL_isWeek_130 ?_
          refine q_ialdD (k := (102) + ((20) * (j))) NN52.1 NN52.t NN52.l (by omega) (by decide) dL_isWeek_131 ?_
          refine q_tv (show _ = (nI (m.pn j)) from ((congrArg (h52.I a) (show ((102) + ((20) * (j))) = 102 + 20 * j by omega)).trans (R52.pn (k := j) (by omega)))) ?_
          refine q_goto (tgt := 136) dL_isWeek_132 rfl ?_
          refine q_iaddN dL_isWeek_136 ?_
          refine q_istore (L' := [_, _, _, _, _, _, _, _, _, _, _, _]) dL_isWeek_137 rfl (by decide) rfl ?_
          refine q_iincN (n := 1) (L' := [_, _, _, _, _, _, _, _, _, _, _, _]) (by decide) dL_isWeek_139 rfl rfl (by decide) rfl ?_
          refine q_goto (tgt := 47) dL_isWeek_142 rfl ?_
          exact q_to (ih47 (j + 1) (by omega) (by omega)) (q_sub_s rfl (q_sub_s rfl (q_sub_i rfl (q_sub_i rfl (q_sub_i (by first | rw [q_cn_p (p := fun i => decide (m.dy i = d + k)) (decide_eq_true (by assumption)), Nat.add_assoc] | (rw [q_cn_f (p := fun i => decide (m.dy i = d + k)) (decide_eq_false (by assumption))]; done) | (rw [q_cn_f (p := fun i => decide (m.dy i = d + k)) (decide_eq_false (by assumption))]; rfl)) (q_sub_i (by first | rw [q_pa_p (by assumption), Nat.add_assoc] | (rw [q_pa_f (by assumption)]; done) | (rw [q_pa_f (by assumption)]; rfl)) (q_sub_i rfl (q_sub_i rfl (q_sub_i rfl (q_sub_i (by first | exact q_dz1_p (by assumption) | exact q_dz1_f (by assumption)) (q_sub_i rfl (q_sub_n q_sub_0)))))))))))) rfl
theorem g_L_isWeek {Φ : q_Fx} {h : q_Hp} (K : q_Lk Φ h.R h.n) {a : Nat} (hN : q_n9 h a) {m : q_W} {ρ : Nat → Nat} (R : q_nr (h.I a) m ρ) (B : q_bd m) {W : q_W} {O : q_O} (C : q_clX h W O) {c : Nat} (s : q_smc c W m) (hcc : c ≤ 500) {d : Nat} (hd : d ≤ m.t) : q_Ct Φ false yL_isWeek cL_isWeek mL_isWeek [.ref 1, .ref a, .int (nI (d))] h (q_ex (fun v h' => v = some (.int (nI 1)) ∧ ∃ ln, q_clX h' W (O.wrt ln) ∧ q_fr h h')) := by
  refine q_enter K.st rfl rfl (by decide) rfl (Nat.le_of_ble_eq_true rfl) (L := [_, _, _, none, none, none, none, none, none, none, none, none]) rfl ?_
  obtain ⟨bt, bn, bc, bpe, bpf, bpc, bpn⟩ := id B
  obtain ⟨⟨N0, hN0, a0, ⟨τ0, b0⟩, k0⟩, dd⟩ := id s
  have v := k0.2.2.2.2.2.2.2
  have ha2 := hN.2.1
  have rd0 : q_rd h h W O := ⟨C, q_fr.rf⟩
  refine q_aload_n dL_isWeek_0 rfl ?_
  refine q_iload_n dL_isWeek_1 rfl ?_
  refine q_callH (kc := 15) (ks := 90) (g_L_writeWeek (h := h) K C (d := nI d)) wL_writeWeek kL_262 sL_writeWeek (by decide) rfl rfl (Nat.le_of_ble_eq_true rfl) dL_isWeek_2 rfl rfl (fun E h9 q9 => (by obtain ⟨_, q9, _⟩ := q9; exact nomatch q9)) ?_
  intro v9 h9 hq
  obtain ⟨x9, ex9, hj9⟩ := hq
  cases ex9
  rcases hj9 with ⟨d1, ex8, rd⟩ | ⟨y1, ev9, ln, hl, mu⟩
  · rw [a0.1] at d1
    exact absurd d1 (q_rin (Nat.zero_le _) hd (by omega))
  cases ev9
  rw [nI_clamp (by omega)] at hl
  refine q_bipush (v := nI 13) dL_isWeek_5 (by decide) ?_
  refine q_icmp_eq (tgt := 12) dL_isWeek_7 rfl (fun _ => ?_) (fun c => absurd (by decide) c)
  have hlc : ∀ j, j < 13 → narrow .char (.int (ln j)) = .int (ln j) := fun j hj => by
    rw [hl j hj]
    split
    · rfl
    · exact (pk_charN (q_sgn_lt _ _)).1
  exact g_isWeekB ((q_lf.fr (a := a) mu.2.1).Lk K) (hN.fr mu.2.1.2.2.1) (m := m) (ρ := ρ) (by rw [mu.2.1.1 a (by omega)]; exact R) B (q_mu.cl C mu (Or.inr (Nat.le_refl _)) (fun _ _ _ => rfl)) s hcc hd rfl hl hlc (fun h8 r8 => ⟨_, rfl, rfl, ln, r8.1, mu.2.1.tr r8.2⟩)
