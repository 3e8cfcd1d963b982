/-! A STEP OF THE LAW'S LOOP -/
theorem g_lawC {Φ : q_Fx} (hL : Φ.L ≤ 2048) {Z : Program → Env → State → MethodId → Array Value → List Frame → State → Prop} {h : q_Hp} (K : q_Lk Φ h.R h.n) {a : Nat} (hN : q_n9 h a) {m : q_W} {ρ : Nat → Nat} (R : q_nr (h.I a) m ρ) (B : q_bd m) (u9 : h.I a 899 = nI 0) {W : q_W} {O : q_O} (C : q_clX h W O) {c : Nat} (s : q_smc c W m) (hcc : c ≤ 400) (hi : q_inc m) {st : Nat} (X : q_hx h a st c O) {sv : Value} (SV : q_sv h a c O sv) {x8 : Nat} (h8 : x8 < 14) {k : Nat} (hk : k < 40) {X1 Y1 : Nat} (KK : ∀ h2 sv2, q_Lk Φ h2.R h2.n → q_LI h2 a st (c + 1) sv2 → q_G Φ false cL_law RL mL_law Z 365 [some (.ref 0), some (.ref a), some sv2, some (.ref st), some (.ref 1), some (.int (nI 1)), some (.int (nI (k))), some (.int (nI (8 * k))), none, none, none, none] [] h2 X1 Y1) : q_G Φ false cL_law RL mL_law Z 218 [some (.ref 0), some (.ref a), some (sv), some (.ref st), some (.ref 1), some (.int (nI (1))), some (.int (nI (k))), some (.int (nI (8 * k))), some (.int (nI (x8))), none, none, none] [] h (X1 + 5) (Y1 + 1830) := by
  obtain ⟨bt, bn, bc, bpe, bpf, bpc, bpn⟩ := id B
  obtain ⟨⟨N0, hN0, a0, ⟨τ0, b0⟩, k0⟩, dd⟩ := id s
  have v := k0.2.2.2.2.2.2.2
  have ha2 := hN.2.1
  have ha4 := hN.2.2
  have rd0 : q_rd h h W O := ⟨C, q_fr.rf⟩
  obtain ⟨hs, n6, c6, pl, X3⟩ := id X
  obtain ⟨p1, p2, p3, p4⟩ := id X3
  refine q_iload dL_law_218 rfl ?_
  refine q_iconst (v := nI 3) dL_law_220 (by decide) ?_
  refine q_icmp_geN (by omega) (by omega) (tgt := 256) dL_law_221 rfl (fun c1 => ?_) (fun c2 => ?_)
  · refine q_iload dL_law_256 rfl ?_
    refine q_iconst (v := nI 3) dL_law_258 (by decide) ?_
    refine q_icmp_geN (by omega) (by omega) (tgt := 350) dL_law_259 rfl (fun c3 => ?_) (fun c => by exfalso; first | omega | exact absurd c1 c | exact absurd c c1)
    refine q_iload dL_law_350 rfl ?_
    refine q_aload dL_law_352 rfl ?_
    refine q_aload_n dL_law_354 rfl ?_
    refine q_aload_n dL_law_355 rfl ?_
    refine q_aload_n dL_law_356 rfl ?_
    refine q_iload dL_law_357 rfl ?_
    refine q_sR (kc := X1 + 0) (ks := Y1 + 0) (g_L_isDone (h := h) K hN R B u9 C s (by omega) hL hi (i := 8 * k) (by omega) X) wL_isDone kL_283 sL_isDone (by decide) rfl rfl (Nat.le_of_ble_eq_true rfl) dL_law_359 rfl rfl ?_
    intro v9 h9 hq
    obtain ⟨ev9, W1, O1, m1, ρ1, C1, S1, R1, B1, u1, i1, G1, XX1, hs1, sw1⟩ := hq
    subst ev9
    refine q_iand dL_law_362 ?_
    refine q_tv (show _ = nI 1 from by decide) ?_
    refine q_istore (L' := [_, _, _, _, _, _, _, _, _, _, _, _]) dL_law_363 rfl (by decide) rfl ?_
    exact q_less (kc' := X1) (ks' := Y1) (by omega) (by omega) (q_to (KK _ _ (G1.Lk K) (⟨W1, O1, m1, ρ1, C1, S1, G1.n9 hN, R1, B1, u1, i1, XX1, SV.lg G1 hs1 sw1 (Nat.le_succ c)⟩)) (q_sub_s rfl (q_sub_s rfl (q_sub_s rfl (q_sub_s rfl (q_sub_s rfl (q_sub_i rfl (q_sub_i rfl (q_sub_i rfl (q_sub_n (q_sub_n (q_sub_n (q_sub_n q_sub_0)))))))))))) rfl)
  · refine q_aload_n dL_law_224 rfl ?_
    refine q_bipush (v := nI 6) dL_law_225 (by decide) ?_
    refine q_aaldD (k := 6) (o := (pl 6)) hs.1 (q_tg17 hs.2.1 hs.2.2) (q_ln7 hs.2.1 hs.2.2) (by omega) (by decide) (p1 6 (by decide)).1 dL_law_227 ?_
    refine q_iconst (v := nI 0) dL_law_228 (by decide) ?_
    refine q_ialdD (k := 0) (p1 6 (by decide)).2.1 (q_tg16 (p1 6 (by decide)).2.2.1 (p1 6 (by decide)).2.2.2.1) (q_ln1 (p1 6 (by decide)).2.2.1 p2) (by omega) (by decide) dL_law_229 ?_
    refine q_tv (show _ = (nI (O.cn)) from p3) ?_
    refine q_if_neN (by omega) (tgt := 256) dL_law_230 rfl (fun c5 => ?_) (fun c6 => ?_)
    · refine q_iload dL_law_256 rfl ?_
      refine q_iconst (v := nI 3) dL_law_258 (by decide) ?_
      refine q_icmp_geN (by omega) (by omega) (tgt := 350) dL_law_259 rfl (fun c => by exfalso; first | omega | exact absurd c2 c | exact absurd c c2) (fun c7 => ?_)
      have hc0 : O.cn ≠ 0 := by omega
      have hz0 := (p4 0 (by omega)).1
      refine q_iconst (v := nI 0) dL_law_262 (by decide) ?_
      refine q_istore (L' := [_, _, _, _, _, _, _, _, _, _, _, _]) dL_law_263 rfl (by decide) rfl ?_
      refine q_loop (ι := Nat) (μ := fun j => 900 - j) (P := fun j => j ≤ 900) (Lf := fun j => [some (.ref 0), some (.ref a), some (sv), some (.ref st), some (.ref 1), some (.int (nI (1))), some (.int (nI (k))), some (.int (nI (8 * k))), some (.int (nI (x8))), some (.int (nI (j))), none, none]) (hf := fun j => (h.rowI a (q_cpy (h.I (pl 0)) (h.I a) j))) (fun j hi265 ih265 => ?_) 0 (Nat.zero_le _) (q_sub_s rfl (q_sub_s rfl (q_sub_s rfl (q_sub_s rfl (q_sub_s rfl (q_sub_i rfl (q_sub_i rfl (q_sub_i rfl (q_sub_i rfl (q_sub_i rfl (q_sub_n (q_sub_n q_sub_0)))))))))))) (by rw [q_cpy_0, q_rid])
      skip
      refine q_iload dL_law_265 rfl ?_
      refine q_aload_n dL_law_267 rfl ?_
      refine q_alenD hN.1 hN.t hN.l dL_law_268 ?_
      refine q_icmp_geN (by omega) (by omega) (tgt := 288) dL_law_269 rfl (fun c9 => ?_) (fun c10 => ?_)
      · obtain rfl : j = 900 := by omega
        obtain ⟨mj, ρj, Rj, Bj, ij, uj, sj⟩ := (p4 0 (by omega)).2
        have ej : ∀ f, f < 900 → (h.rowI a (q_cpy (h.I (pl 0)) (h.I a) 900)).I a f = h.I (pl 0) f := fun f hf => by rw [q_rI]; exact q_cpy_lt _ _ hf
        have R5 : q_nr ((h.rowI a (q_cpy (h.I (pl 0)) (h.I a) 900)).I a) mj ρj := Rj.cong Bj fun f hf => ej f (by omega)
        have u5 : (h.rowI a (q_cpy (h.I (pl 0)) (h.I a) 900)).I a 899 = nI 0 := (ej 899 (by decide)).trans uj
        have F5 : q_lf h (h.rowI a (q_cpy (h.I (pl 0)) (h.I a) 900)) a := q_lf.rf.row
        have C5 : q_clX (h.rowI a (q_cpy (h.I (pl 0)) (h.I a) 900)) W O := C.rowD ha2
        have X5 : q_hp (h.rowI a (q_cpy (h.I (pl 0)) (h.I a) 900)) a st c O pl := X3.lf hs c6 F5 ha4
        have hs5 : st ∈ (h.rowI a (q_cpy (h.I (pl 0)) (h.I a) 900)).J ∧ 2000 ≤ st ∧ st % 4 = 2 := hs
        generalize (h.rowI a (q_cpy (h.I (pl 0)) (h.I a) 900)) = h5 at R5 u5 F5 C5 X5 hs5 ⊢
        obtain ⟨r1, r2, r3, r4⟩ := id X5
        refine q_iconst (v := nI 0) dL_law_288 (by decide) ?_
        refine q_istore (L' := [_, _, _, _, _, _, _, _, _, _, _, _]) dL_law_289 rfl (by decide) rfl ?_
        refine q_iload dL_law_291 rfl ?_
        refine q_iconst (v := nI 5) dL_law_293 (by decide) ?_
        refine q_icmp_ge (tgt := 313) dL_law_294 rfl (fun c => absurd c (by decide)) (fun _ => ?_)
        refine q_aload_n dL_law_297 rfl ?_
        refine q_iload dL_law_298 rfl ?_
        refine q_aload_n dL_law_300 rfl ?_
        refine q_iload dL_law_301 rfl ?_
        refine q_iconst (v := nI 1) dL_law_303 (by decide) ?_
        refine q_iaddN dL_law_304 ?_
        refine q_aaldD (k := (0) + (1)) (o := (pl 1)) hs5.1 (q_tg17 hs5.2.1 hs5.2.2) (q_ln7 hs5.2.1 hs5.2.2) (by omega) (by decide) (r1 1 (by decide)).1 dL_law_305 ?_
        refine q_aastD (k := 0) hs5.1 (q_tg17 hs5.2.1 hs5.2.2) (q_ln7 hs5.2.1 hs5.2.2) (by omega) (by decide) (r1 1 (by decide)).2.1 (q_tg16 (r1 1 (by decide)).2.2.1 (r1 1 (by decide)).2.2.2.1) dL_law_306 ?_
        refine q_iinc (v := nI 1) (L' := [_, _, _, _, _, _, _, _, _, _, _, _]) dL_law_307 rfl (by decide) rfl (by decide) rfl ?_
        refine q_goto (tgt := 291) dL_law_310 rfl ?_
        refine q_iload dL_law_291 rfl ?_
        refine q_iconst (v := nI 5) dL_law_293 (by decide) ?_
        refine q_icmp_ge (tgt := 313) dL_law_294 rfl (fun c => absurd c (by decide)) (fun _ => ?_)
        refine q_aload_n dL_law_297 rfl ?_
        refine q_iload dL_law_298 rfl ?_
        refine q_aload_n dL_law_300 rfl ?_
        refine q_iload dL_law_301 rfl ?_
        refine q_iconst (v := nI 1) dL_law_303 (by decide) ?_
        refine q_iaddN dL_law_304 ?_
        refine q_aaldD (k := (1) + (1)) (o := (pl 2)) hs5.1 (q_tg17 hs5.2.1 hs5.2.2) (q_ln7 hs5.2.1 hs5.2.2) (by omega) (by decide) ((q_sRn (by decide)).trans (r1 2 (by decide)).1) dL_law_305 ?_
        refine q_aastD (k := 1) hs5.1 (q_tg17 hs5.2.1 hs5.2.2) (q_ln7 hs5.2.1 hs5.2.2) (by omega) (by decide) (r1 2 (by decide)).2.1 (q_tg16 (r1 2 (by decide)).2.2.1 (r1 2 (by decide)).2.2.2.1) dL_law_306 ?_
        refine q_iinc (v := nI 2) (L' := [_, _, _, _, _, _, _, _, _, _, _, _]) dL_law_307 rfl (by decide) rfl (by decide) rfl ?_
        refine q_goto (tgt := 291) dL_law_310 rfl ?_
        refine q_iload dL_law_291 rfl ?_
        refine q_iconst (v := nI 5) dL_law_293 (by decide) ?_
        refine q_icmp_ge (tgt := 313) dL_law_294 rfl (fun c => absurd c (by decide)) (fun _ => ?_)
        refine q_aload_n dL_law_297 rfl ?_
        refine q_iload dL_law_298 rfl ?_
        refine q_aload_n dL_law_300 rfl ?_
        refine q_iload dL_law_301 rfl ?_
        refine q_iconst (v := nI 1) dL_law_303 (by decide) ?_
        refine q_iaddN dL_law_304 ?_
        refine q_aaldD (k := (2) + (1)) (o := (pl 3)) hs5.1 (q_tg17 hs5.2.1 hs5.2.2) (q_ln7 hs5.2.1 hs5.2.2) (by omega) (by decide) ((q_sRn (by decide)).trans ((q_sRn (by decide)).trans (r1 3 (by decide)).1)) dL_law_305 ?_
        refine q_aastD (k := 2) hs5.1 (q_tg17 hs5.2.1 hs5.2.2) (q_ln7 hs5.2.1 hs5.2.2) (by omega) (by decide) (r1 3 (by decide)).2.1 (q_tg16 (r1 3 (by decide)).2.2.1 (r1 3 (by decide)).2.2.2.1) dL_law_306 ?_
        refine q_iinc (v := nI 3) (L' := [_, _, _, _, _, _, _, _, _, _, _, _]) dL_law_307 rfl (by decide) rfl (by decide) rfl ?_
        refine q_goto (tgt := 291) dL_law_310 rfl ?_
        refine q_iload dL_law_291 rfl ?_
        refine q_iconst (v := nI 5) dL_law_293 (by decide) ?_
        refine q_icmp_ge (tgt := 313) dL_law_294 rfl (fun c => absurd c (by decide)) (fun _ => ?_)
        refine q_aload_n dL_law_297 rfl ?_
        refine q_iload dL_law_298 rfl ?_
        refine q_aload_n dL_law_300 rfl ?_
        refine q_iload dL_law_301 rfl ?_
        refine q_iconst (v := nI 1) dL_law_303 (by decide) ?_
        refine q_iaddN dL_law_304 ?_
        refine q_aaldD (k := (3) + (1)) (o := (pl 4)) hs5.1 (q_tg17 hs5.2.1 hs5.2.2) (q_ln7 hs5.2.1 hs5.2.2) (by omega) (by decide) ((q_sRn (by decide)).trans ((q_sRn (by decide)).trans ((q_sRn (by decide)).trans (r1 4 (by decide)).1))) dL_law_305 ?_
        refine q_aastD (k := 3) hs5.1 (q_tg17 hs5.2.1 hs5.2.2) (q_ln7 hs5.2.1 hs5.2.2) (by omega) (by decide) (r1 4 (by decide)).2.1 (q_tg16 (r1 4 (by decide)).2.2.1 (r1 4 (by decide)).2.2.2.1) dL_law_306 ?_
        refine q_iinc (v := nI 4) (L' := [_, _, _, _, _, _, _, _, _, _, _, _]) dL_law_307 rfl (by decide) rfl (by decide) rfl ?_
        refine q_goto (tgt := 291) dL_law_310 rfl ?_
        refine q_iload dL_law_291 rfl ?_
        refine q_iconst (v := nI 5) dL_law_293 (by decide) ?_
        refine q_icmp_ge (tgt := 313) dL_law_294 rfl (fun c => absurd c (by decide)) (fun _ => ?_)
        refine q_aload_n dL_law_297 rfl ?_
        refine q_iload dL_law_298 rfl ?_
        refine q_aload_n dL_law_300 rfl ?_
        refine q_iload dL_law_301 rfl ?_
        refine q_iconst (v := nI 1) dL_law_303 (by decide) ?_
        refine q_iaddN dL_law_304 ?_
        refine q_aaldD (k := (4) + (1)) (o := (pl 5)) hs5.1 (q_tg17 hs5.2.1 hs5.2.2) (q_ln7 hs5.2.1 hs5.2.2) (by omega) (by decide) ((q_sRn (by decide)).trans ((q_sRn (by decide)).trans ((q_sRn (by decide)).trans ((q_sRn (by decide)).trans (r1 5 (by decide)).1)))) dL_law_305 ?_
        refine q_aastD (k := 4) hs5.1 (q_tg17 hs5.2.1 hs5.2.2) (q_ln7 hs5.2.1 hs5.2.2) (by omega) (by decide) (r1 5 (by decide)).2.1 (q_tg16 (r1 5 (by decide)).2.2.1 (r1 5 (by decide)).2.2.2.1) dL_law_306 ?_
        refine q_iinc (v := nI 5) (L' := [_, _, _, _, _, _, _, _, _, _, _, _]) dL_law_307 rfl (by decide) rfl (by decide) rfl ?_
        refine q_goto (tgt := 291) dL_law_310 rfl ?_
        refine q_iload dL_law_291 rfl ?_
        refine q_iconst (v := nI 5) dL_law_293 (by decide) ?_
        refine q_icmp_ge (tgt := 313) dL_law_294 rfl (fun _ => ?_) (fun c => absurd (by decide) c)
        refine q_aload_n dL_law_313 rfl ?_
        refine q_bipush (v := nI 6) dL_law_314 (by decide) ?_
        refine q_aaldD (k := 6) (o := (pl 6)) hs5.1 (q_tg17 hs5.2.1 hs5.2.2) (q_ln7 hs5.2.1 hs5.2.2) (by omega) (by decide) ((q_sRn (by decide)).trans ((q_sRn (by decide)).trans ((q_sRn (by decide)).trans ((q_sRn (by decide)).trans ((q_sRn (by decide)).trans (r1 6 (by decide)).1))))) dL_law_316 ?_
        refine q_iconst (v := nI 0) dL_law_317 (by decide) ?_
        refine q_dup2 dL_law_318 rfl rfl ?_
        refine q_ialdD (k := 0) (r1 6 (by decide)).2.1 (q_tg16 (r1 6 (by decide)).2.2.1 (r1 6 (by decide)).2.2.2.1) (q_ln1 (r1 6 (by decide)).2.2.1 r2) (by omega) (by decide) dL_law_319 ?_
        refine q_tv (show _ = (nI (O.cn)) from r3) ?_
        refine q_iconst (v := nI 1) dL_law_320 (by decide) ?_
        refine q_isubN (by omega) dL_law_321 ?_
        refine q_iastD (k := 0) (r1 6 (by decide)).2.1 (q_tg16 (r1 6 (by decide)).2.2.1 (r1 6 (by decide)).2.2.2.1) (q_ln1 (r1 6 (by decide)).2.2.1 r2) (by omega) (by decide) dL_law_322 ?_
        obtain ⟨C6, X6, G6, e6⟩ := q_pop6 hs5 n6 c6 hc0 X5 C5 ha2 ha4
        obtain ⟨h6, eh⟩ : ∃ x, x = ((((((h5.setR st (0) (some (pl 1))).setR st (1) (some (pl 2))).setR st (2) (some (pl 3))).setR st (3) (some (pl 4))).setR st (4) (some (pl 5))).setI (pl 6) (0) (nI ((O.cn) - (1)))) := ⟨_, rfl⟩
        change q_clX ((((((h5.setR st (0) (some (pl 1))).setR st (1) (some (pl 2))).setR st (2) (some (pl 3))).setR st (3) (some (pl 4))).setR st (4) (some (pl 5))).setI (pl 6) (0) (nI ((O.cn) - (1)))) W O at C6
        change q_hx ((((((h5.setR st (0) (some (pl 1))).setR st (1) (some (pl 2))).setR st (2) (some (pl 3))).setR st (3) (some (pl 4))).setR st (4) (some (pl 5))).setI (pl 6) (0) (nI ((O.cn) - (1)))) a st c O.back at X6
        change q_lg h5 ((((((h5.setR st (0) (some (pl 1))).setR st (1) (some (pl 2))).setR st (2) (some (pl 3))).setR st (3) (some (pl 4))).setR st (4) (some (pl 5))).setI (pl 6) (0) (nI ((O.cn) - (1)))) a at G6
        change ((((((h5.setR st (0) (some (pl 1))).setR st (1) (some (pl 2))).setR st (2) (some (pl 3))).setR st (3) (some (pl 4))).setR st (4) (some (pl 5))).setI (pl 6) (0) (nI ((O.cn) - (1)))).I a = h5.I a at e6
        rw [← eh] at C6 X6 G6 e6 ⊢
        have K6 : q_Lk Φ h6.R h6.n := (F5.lg.tr G6).Lk K
        refine q_iload dL_law_323 rfl ?_
        refine q_aload dL_law_325 rfl ?_
        refine q_callH (kc := X1 + 4) (ks := Y1 + 1824) (g_L_undo (h := h6) K6 C6) wL_undo kL_276 sL_undo (by decide) rfl rfl (Nat.le_of_ble_eq_true rfl) dL_law_327 rfl rfl (fun E h9 q9 => (by obtain ⟨_, q9, _⟩ := q9; exact nomatch q9)) ?_
        intro v9 h9 hq
        obtain ⟨x9, ex9, hj9⟩ := hq
        cases ex9
        rcases hj9 with ⟨d1, -⟩ | ⟨y1, ev9, Y, yY, mu⟩
        · exact absurd d1 hc0
        cases ev9
        have C9 : q_clX h9 Y O.back := q_mu.cl C6 mu (Or.inl rfl) (fun y hy _ => absurd hy (Nat.not_lt_zero y))
        have S9 : q_smc c Y mj := (show q_smc c (O.OB ((O.nx + 6 - 1) % 6)) mj from sj).eqv yY (C6.1.2.2.2.1 _ (Nat.mod_lt _ (by decide))).1.2.2.2.1
        have G9 : q_lg h h9 a := (F5.lg.tr G6).tr (q_lf.lg (q_lf.fr mu.2.1))
        have e9a : h9.I a = h5.I a := (mu.2.1.1 a (by omega)).trans e6
        have X9 := X6.lf (q_lf.fr (a := a) mu.2.1) ha4
        obtain ⟨hs9, -, -, pt, Xt⟩ := id X9
        obtain ⟨t1, t2, t3, t4⟩ := id Xt
        refine q_aload_n dL_law_330 rfl ?_
        refine q_bipush (v := nI 6) dL_law_331 (by decide) ?_
        refine q_aaldD (k := 6) (o := (pt 6)) hs9.1 (q_tg17 hs9.2.1 hs9.2.2) (q_ln7 hs9.2.1 hs9.2.2) (by omega) (by decide) (t1 6 (by decide)).1 dL_law_333 ?_
        refine q_iconst (v := nI 0) dL_law_334 (by decide) ?_
        refine q_ialdD (k := 0) (t1 6 (by decide)).2.1 (q_tg16 (t1 6 (by decide)).2.2.1 (t1 6 (by decide)).2.2.2.1) (q_ln1 (t1 6 (by decide)).2.2.1 t2) (by omega) (by decide) dL_law_335 ?_
        refine q_tv (show _ = (nI (O.cn - 1)) from t3) ?_
        refine q_icmp_neN (by omega) (by omega) (tgt := 343) dL_law_336 rfl (fun c => absurd rfl c) (fun c23 => ?_)
        refine q_iconst (v := nI 1) dL_law_339 (by decide) ?_
        refine q_goto (tgt := 344) dL_law_340 rfl ?_
        refine q_iand dL_law_344 ?_
        refine q_tv (show _ = nI 1 from by decide) ?_
        refine q_istore (L' := [_, _, _, _, _, _, _, _, _, _, _, _]) dL_law_345 rfl (by decide) rfl ?_
        refine q_goto (tgt := 365) dL_law_347 rfl ?_
        exact q_less (kc' := X1) (ks' := Y1) (by omega) (by omega) (q_to (KK _ _ (G9.Lk K) (⟨Y, O.back, mj, ρj, C9, S9.le (Nat.le_succ c), G9.n9 hN, (by rw [e9a]; exact R5), Bj, (by rw [e9a]; exact u5), ij, X9.le (Nat.le_succ c), SV.lg G9 rfl rfl (Nat.le_succ c)⟩)) (q_sub_s rfl (q_sub_s rfl (q_sub_s rfl (q_sub_s rfl (q_sub_s rfl (q_sub_i rfl (q_sub_i rfl (q_sub_i rfl (q_sub_n (q_sub_n (q_sub_n (q_sub_n q_sub_0)))))))))))) rfl)
      · refine q_aload_n dL_law_272 rfl ?_
        refine q_iload dL_law_273 rfl ?_
        refine q_aload_n dL_law_275 rfl ?_
        refine q_iconst (v := nI 0) dL_law_276 (by decide) ?_
        refine q_aaldD (k := 0) (o := (pl 0)) hs.1 (q_tg17 hs.2.1 hs.2.2) (q_ln7 hs.2.1 hs.2.2) (by omega) (by decide) (p1 0 (by decide)).1 dL_law_277 ?_
        refine q_iload dL_law_278 rfl ?_
        refine q_ialdD (k := j) (p1 0 (by decide)).2.1 (q_tg16 (p1 0 (by decide)).2.2.1 (p1 0 (by decide)).2.2.2.1) (q_l9 (p1 0 (by decide)).2.2.1 hz0) (by omega) (by decide) dL_law_280 ?_
        refine q_tv (show _ = (h.I (pl 0) (j)) from (congrFun (q_rIn _ _ (p1 0 (by decide)).2.2.2.2) _)) ?_
        refine q_iastD (k := j) hN.1 hN.t hN.l (by omega) (by decide) dL_law_281 ?_
        refine q_iincN (n := 1) (L' := [_, _, _, _, _, _, _, _, _, _, _, _]) (by decide) dL_law_282 rfl rfl (by decide) rfl ?_
        refine q_goto (tgt := 265) dL_law_285 rfl ?_
        exact q_to (ih265 (j + 1) (by omega) (by omega)) (q_sub_s rfl (q_sub_s rfl (q_sub_s rfl (q_sub_s rfl (q_sub_s rfl (q_sub_i rfl (q_sub_i rfl (q_sub_i rfl (q_sub_i rfl (q_sub_i rfl (q_sub_n (q_sub_n q_sub_0)))))))))))) (by rw [q_rset, q_cpy_s])
    · refine q_iload dL_law_233 rfl ?_
      refine q_aload dL_law_235 rfl ?_
      refine q_callH (kc := X1 + 4) (ks := Y1 + 1824) (g_L_undo (h := h) K C) wL_undo kL_276 sL_undo (by decide) rfl rfl (Nat.le_of_ble_eq_true rfl) dL_law_237 rfl rfl (fun E h9 q9 => (by obtain ⟨_, q9, _⟩ := q9; exact nomatch q9)) ?_
      intro v9 h9 hq
      obtain ⟨x9, ex9, hj9⟩ := hq
      cases ex9
      rcases hj9 with ⟨d1, ex8, rdx⟩ | ⟨y1, -⟩
      rotate_left
      · exact absurd (by omega) y1
      subst ex8
      refine q_ldc dL_law_240 kcL_17 ?_
      refine q_icmp_ne (tgt := 249) dL_law_242 rfl (fun c => absurd (by decide) c) (fun _ => ?_)
      refine q_iconst (v := nI 1) dL_law_245 (by decide) ?_
      refine q_goto (tgt := 250) dL_law_246 rfl ?_
      refine q_iand dL_law_250 ?_
      refine q_tv (show _ = nI 1 from by decide) ?_
      refine q_istore (L' := [_, _, _, _, _, _, _, _, _, _, _, _]) dL_law_251 rfl (by decide) rfl ?_
      refine q_goto (tgt := 365) dL_law_253 rfl ?_
      exact q_less (kc' := X1) (ks' := Y1) (by omega) (by omega) (q_to (KK _ _ ((q_lf.fr (a := a) rdx.2).Lk K) (⟨W, O, m, ρ, rdx.1, s.le (Nat.le_succ c), hN.fr rdx.2.2.2.1, (by rw [rdx.2.1 a (by omega)]; exact R), B, (by rw [rdx.2.1 a (by omega)]; exact u9), hi, (X.lf (q_lf.fr rdx.2) ha4).le (Nat.le_succ c), SV.lg (q_lf.lg (q_lf.fr rdx.2)) rfl rfl (Nat.le_succ c)⟩)) (q_sub_s rfl (q_sub_s rfl (q_sub_s rfl (q_sub_s rfl (q_sub_s rfl (q_sub_i rfl (q_sub_i rfl (q_sub_i rfl (q_sub_n (q_sub_n (q_sub_n (q_sub_n q_sub_0)))))))))))) rfl)
