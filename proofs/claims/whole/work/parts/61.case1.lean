/-! CASES OF THE LAW -/
theorem g_law_0 {Φ : q_Fx} {Z : Program → Env → State → MethodId → Array Value → List Frame → State → Prop} {i kc ks : Nat} {h : q_Hp} {W m : q_W} {O : q_O} {P : q_P} (K : q_Lk Φ h.R h.n) (inv : q_inv i h W O m P) (hi : 4 * i + 4 ≤ Φ.L) (hL : Φ.L ≤ 2048) (G : q_goes Φ Z i (i + 1) kc ks) : q_G Φ false cL_law RL mL_law Z 264 (q_L0 i) [] h (kc + 4) (ks + 24) := by
  obtain ⟨C, M, s, H⟩ := inv
  obtain ⟨⟨N, hN, a, ⟨τ, b⟩, k⟩, dd⟩ := id s
  have hcc : i ≤ 600 := by omega
  have v := k.2.2.2.2.2.2.2
  refine q_aload_n dL_law_264 rfl ?_
  refine q_aload_n dL_law_265 rfl ?_
  refine q_iload dL_law_266 rfl ?_
  refine q_iconst (v := nI 1) dL_law_268 (by decide) ?_
  refine q_iaddN dL_law_269 ?_
  refine q_sldN (by omega) hL dL_law_270 ?_
  refine q_aload_n dL_law_271 rfl ?_
  refine q_callH (kc := kc + 2) (ks := ks + 12) (g_L_pass (h := h) K C  (x := Φ.xs (4 * i + 1))) wL_pass kL_152 sL_pass (by decide) rfl rfl (Nat.le_of_ble_eq_true rfl) dL_law_272 rfl rfl (fun E h9 q9 => by obtain ⟨_, e9, _⟩ := q9; cases e9) (fun v1 h1 hq => ?_)
  obtain ⟨a1, e1, a3, ka, f1, hn, hz⟩ := j_pass C M s a b k dd H hcc hq
  cases e1
  have K1 := f1.Lk K
  have M1 := f1.mr M
  refine q_istore (L' := [some (.ref 0), some (.ref 1), some (.ref 1061), some (.ref 1074), some (.ref 1075), some (.int (nI (4 * i))), some (.int (nI a1)), none, none, none]) dL_law_275 rfl (by decide) rfl ?_
  refine q_aload_n dL_law_277 rfl ?_
  refine q_aload_n dL_law_278 rfl ?_
  refine q_iload dL_law_279 rfl ?_
  refine q_iconst (v := nI 1) dL_law_281 (by decide) ?_
  refine q_iaddN dL_law_282 ?_
  refine q_sldN (by omega) hL dL_law_283 ?_
  refine q_vR (kc := kc + 2) (ks := ks + 12) (g_X10_pass (h := h1) K1 M1 v  (x := Φ.xs (4 * i + 1))) wX10_pass kL_157 iX10_pass eX10_pass rfl rfl (by decide) (K1.le (by decide)) (by decide) rfl rfl (Nat.le_of_ble_eq_true rfl) dL_law_284 rfl rfl ?_
  intro v2 h2 hp2
  obtain ⟨b1, rfl, e12, eJ, gm, nx⟩ := q_joint (h := h) q_kd2 ka hn hz hp2
  refine q_istore (L' := [some (.ref 0), some (.ref 1), some (.ref 1061), some (.ref 1074), some (.ref 1075), some (.int (nI (4 * i))), some (.int (nI a1)), some (.int b1), none, none]) dL_law_287 rfl (by decide) rfl ?_
  exact q_tail (K1.gm gm) a3 e12 eJ nx G (by omega) (by omega) dL_law_289 dL_law_290 dL_law_293 dL_law_295 dL_law_300 dL_law_302 dL_law_305 dL_law_306 dL_law_307 dL_law_308 dL_law_310 dL_law_311 dL_law_312 dL_law_317 (by decide)
theorem g_law_1 {Φ : q_Fx} {Z : Program → Env → State → MethodId → Array Value → List Frame → State → Prop} {i kc ks : Nat} {h : q_Hp} {W m : q_W} {O : q_O} {P : q_P} (K : q_Lk Φ h.R h.n) (inv : q_inv i h W O m P) (hi : 4 * i + 4 ≤ Φ.L) (hL : Φ.L ≤ 2048) (G : q_goes Φ Z i (i + 1) kc ks) : q_G Φ false cL_law RL mL_law Z 320 (q_L0 i) [] h (kc + 4) (ks + 24) := by
  obtain ⟨C, M, s, H⟩ := inv
  obtain ⟨⟨N, hN, a, ⟨τ, b⟩, k⟩, dd⟩ := id s
  have hcc : i ≤ 600 := by omega
  have v := k.2.2.2.2.2.2.2
  refine q_aload_n dL_law_320 rfl ?_
  refine q_vR (kc := kc + 4) (ks := ks + 24) (g_X9_today (h := h) K C) wX9_today kL_161 iX9_today eX9_today rfl rfl (by decide) (K.le (by decide)) (by decide) rfl rfl (Nat.le_of_ble_eq_true rfl) dL_law_321 rfl rfl ?_
  intro v1 h1 hp
  obtain ⟨x1, rfl, ex, f1, hh⟩ := j_today C M s a b k dd H hcc hp
  have K1 := f1.Lk K
  have M1 := f1.mr M
  refine q_aload_n dL_law_324 rfl ?_
  refine q_vR (kc := kc + 4) (ks := ks + 24) (g_X10_today (h := h1) K1 M1 v) wX10_today kL_164 iX10_today eX10_today rfl rfl (by decide) (K1.le (by decide)) (by decide) rfl rfl (Nat.le_of_ble_eq_true rfl) dL_law_325 rfl rfl ?_
  intro v2 h2 hp2
  obtain ⟨rfl, gm, nx⟩ := q_joint0 (h := h) hh hp2
  exact q_icmp_eq (tgt := 2788) dL_law_328 rfl (fun _ => q_to (G h2 _ _ nx (K1.gm gm) (by omega) (by omega)) ⟨rfl, rfl, rfl, rfl, rfl, rfl, trivial⟩ rfl) (fun e => absurd ex e)
theorem g_law_2 {Φ : q_Fx} {Z : Program → Env → State → MethodId → Array Value → List Frame → State → Prop} {i kc ks : Nat} {h : q_Hp} {W m : q_W} {O : q_O} {P : q_P} (K : q_Lk Φ h.R h.n) (inv : q_inv i h W O m P) (hi : 4 * i + 4 ≤ Φ.L) (hL : Φ.L ≤ 2048) (G : q_goes Φ Z i (i + 1) kc ks) : q_G Φ false cL_law RL mL_law Z 333 (q_L0 i) [] h (kc + 4) (ks + 24) := by
  obtain ⟨C, M, s, H⟩ := inv
  obtain ⟨⟨N, hN, a, ⟨τ, b⟩, k⟩, dd⟩ := id s
  have hcc : i ≤ 600 := by omega
  have v := k.2.2.2.2.2.2.2
  refine q_aload_n dL_law_333 rfl ?_
  refine q_aload_n dL_law_334 rfl ?_
  refine q_iload dL_law_335 rfl ?_
  refine q_iconst (v := nI 1) dL_law_337 (by decide) ?_
  refine q_iaddN dL_law_338 ?_
  refine q_sldN (by omega) hL dL_law_339 ?_
  refine q_aload_n dL_law_340 rfl ?_
  refine q_iload dL_law_341 rfl ?_
  refine q_iconst (v := nI 2) dL_law_343 (by decide) ?_
  refine q_iaddN dL_law_344 ?_
  refine q_sldN (by omega) hL dL_law_345 ?_
  refine q_aload_n dL_law_346 rfl ?_
  refine q_callH (kc := kc + 1) (ks := ks + 6) (g_L_addTest (h := h) K C  (d := Φ.xs (4 * i + 1)) (x := Φ.xs (4 * i + 2))) wL_addTest kL_165 sL_addTest (by decide) rfl rfl (Nat.le_of_ble_eq_true rfl) dL_law_347 rfl rfl (fun E h9 q9 => by obtain ⟨_, e9, _⟩ := q9; cases e9) (fun v1 h1 hq => ?_)
  obtain ⟨a1, e1, a3, ka, f1, hn, hz⟩ := j_addTest C M s a b k dd H hcc hq
  cases e1
  have K1 := f1.Lk K
  have M1 := f1.mr M
  refine q_istore (L' := [some (.ref 0), some (.ref 1), some (.ref 1061), some (.ref 1074), some (.ref 1075), some (.int (nI (4 * i))), some (.int (nI a1)), none, none, none]) dL_law_350 rfl (by decide) rfl ?_
  refine q_aload_n dL_law_352 rfl ?_
  refine q_aload_n dL_law_353 rfl ?_
  refine q_iload dL_law_354 rfl ?_
  refine q_iconst (v := nI 1) dL_law_356 (by decide) ?_
  refine q_iaddN dL_law_357 ?_
  refine q_sldN (by omega) hL dL_law_358 ?_
  refine q_aload_n dL_law_359 rfl ?_
  refine q_iload dL_law_360 rfl ?_
  refine q_iconst (v := nI 2) dL_law_362 (by decide) ?_
  refine q_iaddN dL_law_363 ?_
  refine q_sldN (by omega) hL dL_law_364 ?_
  refine q_vR (kc := kc + 1) (ks := ks + 6) (g_X10_addTest (h := h1) K1 M1 v  (d := Φ.xs (4 * i + 1)) (x := Φ.xs (4 * i + 2))) wX10_addTest kL_168 iX10_addTest eX10_addTest rfl rfl (by decide) (K1.le (by decide)) (by decide) rfl rfl (Nat.le_of_ble_eq_true rfl) dL_law_365 rfl rfl ?_
  intro v2 h2 hp2
  obtain ⟨b1, rfl, e12, eJ, gm, nx⟩ := q_joint (h := h) q_kd2 ka hn hz hp2
  refine q_istore (L' := [some (.ref 0), some (.ref 1), some (.ref 1061), some (.ref 1074), some (.ref 1075), some (.int (nI (4 * i))), some (.int (nI a1)), some (.int b1), none, none]) dL_law_368 rfl (by decide) rfl ?_
  exact q_tail (K1.gm gm) a3 e12 eJ nx G (by omega) (by omega) dL_law_370 dL_law_371 dL_law_374 dL_law_376 dL_law_381 dL_law_383 dL_law_386 dL_law_387 dL_law_388 dL_law_389 dL_law_391 dL_law_392 dL_law_393 dL_law_398 (by decide)
theorem g_law_3 {Φ : q_Fx} {Z : Program → Env → State → MethodId → Array Value → List Frame → State → Prop} {i kc ks : Nat} {h : q_Hp} {W m : q_W} {O : q_O} {P : q_P} (K : q_Lk Φ h.R h.n) (inv : q_inv i h W O m P) (hi : 4 * i + 4 ≤ Φ.L) (hL : Φ.L ≤ 2048) (G : q_goes Φ Z i (i + 1) kc ks) : q_G Φ false cL_law RL mL_law Z 401 (q_L0 i) [] h (kc + 4) (ks + 24) := by
  obtain ⟨C, M, s, H⟩ := inv
  obtain ⟨⟨N, hN, a, ⟨τ, b⟩, k⟩, dd⟩ := id s
  have hcc : i ≤ 600 := by omega
  have v := k.2.2.2.2.2.2.2
  refine q_aload_n dL_law_401 rfl ?_
  refine q_aload_n dL_law_402 rfl ?_
  refine q_iload dL_law_403 rfl ?_
  refine q_iconst (v := nI 1) dL_law_405 (by decide) ?_
  refine q_iaddN dL_law_406 ?_
  refine q_sldN (by omega) hL dL_law_407 ?_
  refine q_aload_n dL_law_408 rfl ?_
  refine q_callH (kc := kc + 3) (ks := ks + 18) (g_L_removeTest (h := h) K C (fun j hj => by obtain ⟨x, x1, x2⟩ := v.2.2.2.2.1 j (by rw [← a.2.2.2.1]; exact hj); exact ⟨x, x1, ((a.2.2.2.2.1 j (by rw [← a.2.2.2.1]; exact hj)).1).trans x2⟩) (x := Φ.xs (4 * i + 1))) wL_removeTest kL_169 sL_removeTest (by decide) rfl rfl (Nat.le_of_ble_eq_true rfl) dL_law_409 rfl rfl (fun E h9 q9 => by obtain ⟨_, e9, _⟩ := q9; cases e9) (fun v1 h1 hq => ?_)
  obtain ⟨a1, e1, a3, ka, f1, hn, hz⟩ := j_removeTest C M s a b k dd H hcc hq
  cases e1
  have K1 := f1.Lk K
  have M1 := f1.mr M
  refine q_istore (L' := [some (.ref 0), some (.ref 1), some (.ref 1061), some (.ref 1074), some (.ref 1075), some (.int (nI (4 * i))), some (.int (nI a1)), none, none, none]) dL_law_412 rfl (by decide) rfl ?_
  refine q_aload_n dL_law_414 rfl ?_
  refine q_aload_n dL_law_415 rfl ?_
  refine q_iload dL_law_416 rfl ?_
  refine q_iconst (v := nI 1) dL_law_418 (by decide) ?_
  refine q_iaddN dL_law_419 ?_
  refine q_sldN (by omega) hL dL_law_420 ?_
  refine q_vR (kc := kc + 3) (ks := ks + 18) (g_X10_removeTest (h := h1) K1 M1 v  (x := Φ.xs (4 * i + 1))) wX10_removeTest kL_171 iX10_removeTest eX10_removeTest rfl rfl (by decide) (K1.le (by decide)) (by decide) rfl rfl (Nat.le_of_ble_eq_true rfl) dL_law_421 rfl rfl ?_
  intro v2 h2 hp2
  obtain ⟨b1, rfl, e12, eJ, gm, nx⟩ := q_joint (h := h) q_kd1 ka hn hz hp2
  refine q_istore (L' := [some (.ref 0), some (.ref 1), some (.ref 1061), some (.ref 1074), some (.ref 1075), some (.int (nI (4 * i))), some (.int (nI a1)), some (.int b1), none, none]) dL_law_424 rfl (by decide) rfl ?_
  exact q_tail (K1.gm gm) a3 e12 eJ nx G (by omega) (by omega) dL_law_426 dL_law_427 dL_law_430 dL_law_432 dL_law_437 dL_law_439 dL_law_442 dL_law_443 dL_law_444 dL_law_445 dL_law_447 dL_law_448 dL_law_449 dL_law_454 (by decide)
theorem g_law_4 {Φ : q_Fx} {Z : Program → Env → State → MethodId → Array Value → List Frame → State → Prop} {i kc ks : Nat} {h : q_Hp} {W m : q_W} {O : q_O} {P : q_P} (K : q_Lk Φ h.R h.n) (inv : q_inv i h W O m P) (hi : 4 * i + 4 ≤ Φ.L) (hL : Φ.L ≤ 2048) (G : q_goes Φ Z i (i + 1) kc ks) : q_G Φ false cL_law RL mL_law Z 457 (q_L0 i) [] h (kc + 4) (ks + 24) := by
  obtain ⟨C, M, s, H⟩ := inv
  obtain ⟨⟨N, hN, a, ⟨τ, b⟩, k⟩, dd⟩ := id s
  have hcc : i ≤ 600 := by omega
  have v := k.2.2.2.2.2.2.2
  refine q_aload_n dL_law_457 rfl ?_
  refine q_vR (kc := kc + 4) (ks := ks + 24) (g_X9_testCount (h := h) K C) wX9_testCount kL_172 iX9_testCount eX9_testCount rfl rfl (by decide) (K.le (by decide)) (by decide) rfl rfl (Nat.le_of_ble_eq_true rfl) dL_law_458 rfl rfl ?_
  intro v1 h1 hp
  obtain ⟨x1, rfl, ex, f1, hh⟩ := j_testCount C M s a b k dd H hcc hp
  have K1 := f1.Lk K
  have M1 := f1.mr M
  refine q_aload_n dL_law_461 rfl ?_
  refine q_vR (kc := kc + 4) (ks := ks + 24) (g_X10_testCount (h := h1) K1 M1 v) wX10_testCount kL_175 iX10_testCount eX10_testCount rfl rfl (by decide) (K1.le (by decide)) (by decide) rfl rfl (Nat.le_of_ble_eq_true rfl) dL_law_462 rfl rfl ?_
  intro v2 h2 hp2
  obtain ⟨rfl, gm, nx⟩ := q_joint0 (h := h) hh hp2
  exact q_icmp_eq (tgt := 2788) dL_law_465 rfl (fun _ => q_to (G h2 _ _ nx (K1.gm gm) (by omega) (by omega)) ⟨rfl, rfl, rfl, rfl, rfl, rfl, trivial⟩ rfl) (fun e => absurd ex e)
theorem g_law_5 {Φ : q_Fx} {Z : Program → Env → State → MethodId → Array Value → List Frame → State → Prop} {i kc ks : Nat} {h : q_Hp} {W m : q_W} {O : q_O} {P : q_P} (K : q_Lk Φ h.R h.n) (inv : q_inv i h W O m P) (hi : 4 * i + 4 ≤ Φ.L) (hL : Φ.L ≤ 2048) (G : q_goes Φ Z i (i + 1) kc ks) : q_G Φ false cL_law RL mL_law Z 470 (q_L0 i) [] h (kc + 4) (ks + 24) := by
  obtain ⟨C, M, s, H⟩ := inv
  obtain ⟨⟨N, hN, a, ⟨τ, b⟩, k⟩, dd⟩ := id s
  have hcc : i ≤ 600 := by omega
  have v := k.2.2.2.2.2.2.2
  refine q_aload_n dL_law_470 rfl ?_
  refine q_aload_n dL_law_471 rfl ?_
  refine q_iload dL_law_472 rfl ?_
  refine q_iconst (v := nI 1) dL_law_474 (by decide) ?_
  refine q_iaddN dL_law_475 ?_
  refine q_sldN (by omega) hL dL_law_476 ?_
  refine q_aload_n dL_law_477 rfl ?_
  refine q_callH (kc := kc + 3) (ks := ks + 18) (g_L_thresholdOn (h := h) K C  (d := Φ.xs (4 * i + 1))) wL_thresholdOn kL_176 sL_thresholdOn (by decide) rfl rfl (Nat.le_of_ble_eq_true rfl) dL_law_478 rfl rfl (fun E h9 q9 => by obtain ⟨_, e9, _⟩ := q9; cases e9) (fun v1 h1 hq => ?_)
  obtain ⟨a1, e1, a3, ka, f1, hn, hz⟩ := j_thresholdOn C M s a b k dd H hcc hq
  cases e1
  have K1 := f1.Lk K
  have M1 := f1.mr M
  refine q_istore (L' := [some (.ref 0), some (.ref 1), some (.ref 1061), some (.ref 1074), some (.ref 1075), some (.int (nI (4 * i))), some (.int (nI a1)), none, none, none]) dL_law_481 rfl (by decide) rfl ?_
  refine q_aload_n dL_law_483 rfl ?_
  refine q_aload_n dL_law_484 rfl ?_
  refine q_iload dL_law_485 rfl ?_
  refine q_iconst (v := nI 1) dL_law_487 (by decide) ?_
  refine q_iaddN dL_law_488 ?_
  refine q_sldN (by omega) hL dL_law_489 ?_
  refine q_vR (kc := kc + 3) (ks := ks + 18) (g_X10_thresholdOn (h := h1) K1 M1 v  (d := Φ.xs (4 * i + 1))) wX10_thresholdOn kL_178 iX10_thresholdOn eX10_thresholdOn rfl rfl (by decide) (K1.le (by decide)) (by decide) rfl rfl (Nat.le_of_ble_eq_true rfl) dL_law_490 rfl rfl ?_
  intro v2 h2 hp2
  obtain ⟨b1, rfl, e12, eJ, gm, nx⟩ := q_joint (h := h) q_kd1 ka hn hz hp2
  refine q_istore (L' := [some (.ref 0), some (.ref 1), some (.ref 1061), some (.ref 1074), some (.ref 1075), some (.int (nI (4 * i))), some (.int (nI a1)), some (.int b1), none, none]) dL_law_493 rfl (by decide) rfl ?_
  exact q_tail (K1.gm gm) a3 e12 eJ nx G (by omega) (by omega) dL_law_495 dL_law_496 dL_law_499 dL_law_501 dL_law_506 dL_law_508 dL_law_511 dL_law_512 dL_law_513 dL_law_514 dL_law_516 dL_law_517 dL_law_518 dL_law_523 (by decide)
theorem g_law_6 {Φ : q_Fx} {Z : Program → Env → State → MethodId → Array Value → List Frame → State → Prop} {i kc ks : Nat} {h : q_Hp} {W m : q_W} {O : q_O} {P : q_P} (K : q_Lk Φ h.R h.n) (inv : q_inv i h W O m P) (hi : 4 * i + 4 ≤ Φ.L) (hL : Φ.L ≤ 2048) (G : q_goes Φ Z i (i + 1) kc ks) : q_G Φ false cL_law RL mL_law Z 526 (q_L0 i) [] h (kc + 4) (ks + 24) := by
  obtain ⟨C, M, s, H⟩ := inv
  obtain ⟨⟨N, hN, a, ⟨τ, b⟩, k⟩, dd⟩ := id s
  have hcc : i ≤ 600 := by omega
  have v := k.2.2.2.2.2.2.2
  refine q_aload_n dL_law_526 rfl ?_
  refine q_aload_n dL_law_527 rfl ?_
  refine q_iload dL_law_528 rfl ?_
  refine q_iconst (v := nI 1) dL_law_530 (by decide) ?_
  refine q_iaddN dL_law_531 ?_
  refine q_sldN (by omega) hL dL_law_532 ?_
  refine q_aload_n dL_law_533 rfl ?_
  refine q_iload dL_law_534 rfl ?_
  refine q_iconst (v := nI 2) dL_law_536 (by decide) ?_
  refine q_iaddN dL_law_537 ?_
  refine q_sldN (by omega) hL dL_law_538 ?_
  refine q_aload_n dL_law_539 rfl ?_
  refine q_callH (kc := kc + 1) (ks := ks + 6) (g_L_setBound (h := h) K C  (z := Φ.xs (4 * i + 1)) (x := Φ.xs (4 * i + 2))) wL_setBound kL_179 sL_setBound (by decide) rfl rfl (Nat.le_of_ble_eq_true rfl) dL_law_540 rfl rfl (fun E h9 q9 => by obtain ⟨_, e9, _⟩ := q9; cases e9) (fun v1 h1 hq => ?_)
  obtain ⟨a1, e1, a3, ka, f1, hn, hz⟩ := j_setBound C M s a b k dd H hcc hq
  cases e1
  have K1 := f1.Lk K
  have M1 := f1.mr M
  refine q_istore (L' := [some (.ref 0), some (.ref 1), some (.ref 1061), some (.ref 1074), some (.ref 1075), some (.int (nI (4 * i))), some (.int (nI a1)), none, none, none]) dL_law_543 rfl (by decide) rfl ?_
  refine q_aload_n dL_law_545 rfl ?_
  refine q_aload_n dL_law_546 rfl ?_
  refine q_iload dL_law_547 rfl ?_
  refine q_iconst (v := nI 1) dL_law_549 (by decide) ?_
  refine q_iaddN dL_law_550 ?_
  refine q_sldN (by omega) hL dL_law_551 ?_
  refine q_aload_n dL_law_552 rfl ?_
  refine q_iload dL_law_553 rfl ?_
  refine q_iconst (v := nI 2) dL_law_555 (by decide) ?_
  refine q_iaddN dL_law_556 ?_
  refine q_sldN (by omega) hL dL_law_557 ?_
  refine q_vR (kc := kc + 1) (ks := ks + 6) (g_X10_setBound (h := h1) K1 M1 v  (z := Φ.xs (4 * i + 1)) (x := Φ.xs (4 * i + 2))) wX10_setBound kL_181 iX10_setBound eX10_setBound rfl rfl (by decide) (K1.le (by decide)) (by decide) rfl rfl (Nat.le_of_ble_eq_true rfl) dL_law_558 rfl rfl ?_
  intro v2 h2 hp2
  obtain ⟨b1, rfl, e12, eJ, gm, nx⟩ := q_joint (h := h) q_kd2 ka hn hz hp2
  refine q_istore (L' := [some (.ref 0), some (.ref 1), some (.ref 1061), some (.ref 1074), some (.ref 1075), some (.int (nI (4 * i))), some (.int (nI a1)), some (.int b1), none, none]) dL_law_561 rfl (by decide) rfl ?_
  exact q_tail (K1.gm gm) a3 e12 eJ nx G (by omega) (by omega) dL_law_563 dL_law_564 dL_law_567 dL_law_569 dL_law_574 dL_law_576 dL_law_579 dL_law_580 dL_law_581 dL_law_582 dL_law_584 dL_law_585 dL_law_586 dL_law_591 (by decide)
theorem g_law_7 {Φ : q_Fx} {Z : Program → Env → State → MethodId → Array Value → List Frame → State → Prop} {i kc ks : Nat} {h : q_Hp} {W m : q_W} {O : q_O} {P : q_P} (K : q_Lk Φ h.R h.n) (inv : q_inv i h W O m P) (hi : 4 * i + 4 ≤ Φ.L) (hL : Φ.L ≤ 2048) (G : q_goes Φ Z i (i + 1) kc ks) : q_G Φ false cL_law RL mL_law Z 594 (q_L0 i) [] h (kc + 4) (ks + 24) := by
  obtain ⟨C, M, s, H⟩ := inv
  obtain ⟨⟨N, hN, a, ⟨τ, b⟩, k⟩, dd⟩ := id s
  have hcc : i ≤ 600 := by omega
  have v := k.2.2.2.2.2.2.2
  refine q_aload_n dL_law_594 rfl ?_
  refine q_aload_n dL_law_595 rfl ?_
  refine q_iload dL_law_596 rfl ?_
  refine q_iconst (v := nI 1) dL_law_598 (by decide) ?_
  refine q_iaddN dL_law_599 ?_
  refine q_sldN (by omega) hL dL_law_600 ?_
  refine q_aload_n dL_law_601 rfl ?_
  refine q_callH (kc := kc + 3) (ks := ks + 18) (g_L_boundOf (h := h) K C  (z := Φ.xs (4 * i + 1))) wL_boundOf kL_182 sL_boundOf (by decide) rfl rfl (Nat.le_of_ble_eq_true rfl) dL_law_602 rfl rfl (fun E h9 q9 => by obtain ⟨_, e9, _⟩ := q9; cases e9) (fun v1 h1 hq => ?_)
  obtain ⟨a1, e1, a3, ka, f1, hn, hz⟩ := j_boundOf C M s a b k dd H hcc hq
  cases e1
  have K1 := f1.Lk K
  have M1 := f1.mr M
  refine q_istore (L' := [some (.ref 0), some (.ref 1), some (.ref 1061), some (.ref 1074), some (.ref 1075), some (.int (nI (4 * i))), some (.int (nI a1)), none, none, none]) dL_law_605 rfl (by decide) rfl ?_
  refine q_aload_n dL_law_607 rfl ?_
  refine q_aload_n dL_law_608 rfl ?_
  refine q_iload dL_law_609 rfl ?_
  refine q_iconst (v := nI 1) dL_law_611 (by decide) ?_
  refine q_iaddN dL_law_612 ?_
  refine q_sldN (by omega) hL dL_law_613 ?_
  refine q_vR (kc := kc + 3) (ks := ks + 18) (g_X10_boundOf (h := h1) K1 M1 v  (z := Φ.xs (4 * i + 1))) wX10_boundOf kL_184 iX10_boundOf eX10_boundOf rfl rfl (by decide) (K1.le (by decide)) (by decide) rfl rfl (Nat.le_of_ble_eq_true rfl) dL_law_614 rfl rfl ?_
  intro v2 h2 hp2
  obtain ⟨b1, rfl, e12, eJ, gm, nx⟩ := q_joint (h := h) q_kd1 ka hn hz hp2
  refine q_istore (L' := [some (.ref 0), some (.ref 1), some (.ref 1061), some (.ref 1074), some (.ref 1075), some (.int (nI (4 * i))), some (.int (nI a1)), some (.int b1), none, none]) dL_law_617 rfl (by decide) rfl ?_
  exact q_tail (K1.gm gm) a3 e12 eJ nx G (by omega) (by omega) dL_law_619 dL_law_620 dL_law_623 dL_law_625 dL_law_630 dL_law_632 dL_law_635 dL_law_636 dL_law_637 dL_law_638 dL_law_640 dL_law_641 dL_law_642 dL_law_647 (by decide)
theorem g_law_8 {Φ : q_Fx} {Z : Program → Env → State → MethodId → Array Value → List Frame → State → Prop} {i kc ks : Nat} {h : q_Hp} {W m : q_W} {O : q_O} {P : q_P} (K : q_Lk Φ h.R h.n) (inv : q_inv i h W O m P) (hi : 4 * i + 4 ≤ Φ.L) (hL : Φ.L ≤ 2048) (G : q_goes Φ Z i (i + 1) kc ks) : q_G Φ false cL_law RL mL_law Z 650 (q_L0 i) [] h (kc + 4) (ks + 24) := by
  obtain ⟨C, M, s, H⟩ := inv
  obtain ⟨⟨N, hN, a, ⟨τ, b⟩, k⟩, dd⟩ := id s
  have hcc : i ≤ 600 := by omega
  have v := k.2.2.2.2.2.2.2
  refine q_aload_n dL_law_650 rfl ?_
  refine q_aload_n dL_law_651 rfl ?_
  refine q_iload dL_law_652 rfl ?_
  refine q_iconst (v := nI 1) dL_law_654 (by decide) ?_
  refine q_iaddN dL_law_655 ?_
  refine q_sldN (by omega) hL dL_law_656 ?_
  refine q_aload_n dL_law_657 rfl ?_
  refine q_iload dL_law_658 rfl ?_
  refine q_iconst (v := nI 2) dL_law_660 (by decide) ?_
  refine q_iaddN dL_law_661 ?_
  refine q_sldN (by omega) hL dL_law_662 ?_
  refine q_aload_n dL_law_663 rfl ?_
  refine q_callH (kc := kc + 2) (ks := ks + 12) (g_L_setWeight (h := h) K C  (z := Φ.xs (4 * i + 1)) (x := Φ.xs (4 * i + 2))) wL_setWeight kL_185 sL_setWeight (by decide) rfl rfl (Nat.le_of_ble_eq_true rfl) dL_law_664 rfl rfl (fun E h9 q9 => by obtain ⟨_, e9, _⟩ := q9; cases e9) (fun v1 h1 hq => ?_)
  obtain ⟨a1, e1, a3, ka, f1, hn, hz⟩ := j_setWeight C M s a b k dd H hcc hq
  cases e1
  have K1 := f1.Lk K
  have M1 := f1.mr M
  refine q_istore (L' := [some (.ref 0), some (.ref 1), some (.ref 1061), some (.ref 1074), some (.ref 1075), some (.int (nI (4 * i))), some (.int (nI a1)), none, none, none]) dL_law_667 rfl (by decide) rfl ?_
  refine q_aload_n dL_law_669 rfl ?_
  refine q_aload_n dL_law_670 rfl ?_
  refine q_iload dL_law_671 rfl ?_
  refine q_iconst (v := nI 1) dL_law_673 (by decide) ?_
  refine q_iaddN dL_law_674 ?_
  refine q_sldN (by omega) hL dL_law_675 ?_
  refine q_aload_n dL_law_676 rfl ?_
  refine q_iload dL_law_677 rfl ?_
  refine q_iconst (v := nI 2) dL_law_679 (by decide) ?_
  refine q_iaddN dL_law_680 ?_
  refine q_sldN (by omega) hL dL_law_681 ?_
  refine q_vR (kc := kc + 2) (ks := ks + 12) (g_X10_setWeight (h := h1) K1 M1 v  (z := Φ.xs (4 * i + 1)) (x := Φ.xs (4 * i + 2))) wX10_setWeight kL_187 iX10_setWeight eX10_setWeight rfl rfl (by decide) (K1.le (by decide)) (by decide) rfl rfl (Nat.le_of_ble_eq_true rfl) dL_law_682 rfl rfl ?_
  intro v2 h2 hp2
  obtain ⟨b1, rfl, e12, eJ, gm, nx⟩ := q_joint (h := h) q_kd1 ka hn hz hp2
  refine q_istore (L' := [some (.ref 0), some (.ref 1), some (.ref 1061), some (.ref 1074), some (.ref 1075), some (.int (nI (4 * i))), some (.int (nI a1)), some (.int b1), none, none]) dL_law_685 rfl (by decide) rfl ?_
  exact q_tail (K1.gm gm) a3 e12 eJ nx G (by omega) (by omega) dL_law_687 dL_law_688 dL_law_691 dL_law_693 dL_law_698 dL_law_700 dL_law_703 dL_law_704 dL_law_705 dL_law_706 dL_law_708 dL_law_709 dL_law_710 dL_law_715 (by decide)
theorem g_law_9 {Φ : q_Fx} {Z : Program → Env → State → MethodId → Array Value → List Frame → State → Prop} {i kc ks : Nat} {h : q_Hp} {W m : q_W} {O : q_O} {P : q_P} (K : q_Lk Φ h.R h.n) (inv : q_inv i h W O m P) (hi : 4 * i + 4 ≤ Φ.L) (hL : Φ.L ≤ 2048) (G : q_goes Φ Z i (i + 1) kc ks) : q_G Φ false cL_law RL mL_law Z 718 (q_L0 i) [] h (kc + 4) (ks + 24) := by
  obtain ⟨C, M, s, H⟩ := inv
  obtain ⟨⟨N, hN, a, ⟨τ, b⟩, k⟩, dd⟩ := id s
  have hcc : i ≤ 600 := by omega
  have v := k.2.2.2.2.2.2.2
  refine q_aload_n dL_law_718 rfl ?_
  refine q_aload_n dL_law_719 rfl ?_
  refine q_iload dL_law_720 rfl ?_
  refine q_iconst (v := nI 1) dL_law_722 (by decide) ?_
  refine q_iaddN dL_law_723 ?_
  refine q_sldN (by omega) hL dL_law_724 ?_
  refine q_aload_n dL_law_725 rfl ?_
  refine q_callH (kc := kc + 3) (ks := ks + 18) (g_L_weightOf (h := h) K C  (z := Φ.xs (4 * i + 1))) wL_weightOf kL_188 sL_weightOf (by decide) rfl rfl (Nat.le_of_ble_eq_true rfl) dL_law_726 rfl rfl (fun E h9 q9 => by obtain ⟨_, e9, _⟩ := q9; cases e9) (fun v1 h1 hq => ?_)
  obtain ⟨a1, e1, a3, ka, f1, hn, hz⟩ := j_weightOf C M s a b k dd H hcc hq
  cases e1
  have K1 := f1.Lk K
  have M1 := f1.mr M
  refine q_istore (L' := [some (.ref 0), some (.ref 1), some (.ref 1061), some (.ref 1074), some (.ref 1075), some (.int (nI (4 * i))), some (.int (nI a1)), none, none, none]) dL_law_729 rfl (by decide) rfl ?_
  refine q_aload_n dL_law_731 rfl ?_
  refine q_aload_n dL_law_732 rfl ?_
  refine q_iload dL_law_733 rfl ?_
  refine q_iconst (v := nI 1) dL_law_735 (by decide) ?_
  refine q_iaddN dL_law_736 ?_
  refine q_sldN (by omega) hL dL_law_737 ?_
  refine q_vR (kc := kc + 3) (ks := ks + 18) (g_X10_weightOf (h := h1) K1 M1 v  (z := Φ.xs (4 * i + 1))) wX10_weightOf kL_190 iX10_weightOf eX10_weightOf rfl rfl (by decide) (K1.le (by decide)) (by decide) rfl rfl (Nat.le_of_ble_eq_true rfl) dL_law_738 rfl rfl ?_
  intro v2 h2 hp2
  obtain ⟨b1, rfl, e12, eJ, gm, nx⟩ := q_joint (h := h) q_kd1 ka hn hz hp2
  refine q_istore (L' := [some (.ref 0), some (.ref 1), some (.ref 1061), some (.ref 1074), some (.ref 1075), some (.int (nI (4 * i))), some (.int (nI a1)), some (.int b1), none, none]) dL_law_741 rfl (by decide) rfl ?_
  exact q_tail (K1.gm gm) a3 e12 eJ nx G (by omega) (by omega) dL_law_743 dL_law_744 dL_law_747 dL_law_749 dL_law_754 dL_law_756 dL_law_759 dL_law_760 dL_law_761 dL_law_762 dL_law_764 dL_law_765 dL_law_766 dL_law_771 (by decide)
theorem g_law_10 {Φ : q_Fx} {Z : Program → Env → State → MethodId → Array Value → List Frame → State → Prop} {i kc ks : Nat} {h : q_Hp} {W m : q_W} {O : q_O} {P : q_P} (K : q_Lk Φ h.R h.n) (inv : q_inv i h W O m P) (hi : 4 * i + 4 ≤ Φ.L) (hL : Φ.L ≤ 2048) (G : q_goes Φ Z i (i + 1) kc ks) : q_G Φ false cL_law RL mL_law Z 774 (q_L0 i) [] h (kc + 4) (ks + 24) := by
  obtain ⟨C, M, s, H⟩ := inv
  obtain ⟨⟨N, hN, a, ⟨τ, b⟩, k⟩, dd⟩ := id s
  have hcc : i ≤ 600 := by omega
  have v := k.2.2.2.2.2.2.2
  refine q_aload_n dL_law_774 rfl ?_
  refine q_aload_n dL_law_775 rfl ?_
  refine q_iload dL_law_776 rfl ?_
  refine q_iconst (v := nI 1) dL_law_778 (by decide) ?_
  refine q_iaddN dL_law_779 ?_
  refine q_sldN (by omega) hL dL_law_780 ?_
  refine q_aload_n dL_law_781 rfl ?_
  refine q_iload dL_law_782 rfl ?_
  refine q_iconst (v := nI 2) dL_law_784 (by decide) ?_
  refine q_iaddN dL_law_785 ?_
  refine q_sldN (by omega) hL dL_law_786 ?_
  refine q_aload_n dL_law_787 rfl ?_
  refine q_callH (kc := kc + 2) (ks := ks + 12) (g_L_zoneOf (h := h) K C  (d := Φ.xs (4 * i + 1)) (x := Φ.xs (4 * i + 2))) wL_zoneOf kL_191 sL_zoneOf (by decide) rfl rfl (Nat.le_of_ble_eq_true rfl) dL_law_788 rfl rfl (fun E h9 q9 => by obtain ⟨_, e9, _⟩ := q9; cases e9) (fun v1 h1 hq => ?_)
  obtain ⟨a1, e1, a3, ka, f1, hn, hz⟩ := j_zoneOf C M s a b k dd H hcc hq
  cases e1
  have K1 := f1.Lk K
  have M1 := f1.mr M
  refine q_istore (L' := [some (.ref 0), some (.ref 1), some (.ref 1061), some (.ref 1074), some (.ref 1075), some (.int (nI (4 * i))), some (.int (nI a1)), none, none, none]) dL_law_791 rfl (by decide) rfl ?_
  refine q_aload_n dL_law_793 rfl ?_
  refine q_aload_n dL_law_794 rfl ?_
  refine q_iload dL_law_795 rfl ?_
  refine q_iconst (v := nI 1) dL_law_797 (by decide) ?_
  refine q_iaddN dL_law_798 ?_
  refine q_sldN (by omega) hL dL_law_799 ?_
  refine q_aload_n dL_law_800 rfl ?_
  refine q_iload dL_law_801 rfl ?_
  refine q_iconst (v := nI 2) dL_law_803 (by decide) ?_
  refine q_iaddN dL_law_804 ?_
  refine q_sldN (by omega) hL dL_law_805 ?_
  refine q_vR (kc := kc + 2) (ks := ks + 12) (g_X10_zoneOf (h := h1) K1 M1 v  (d := Φ.xs (4 * i + 1)) (x := Φ.xs (4 * i + 2))) wX10_zoneOf kL_193 iX10_zoneOf eX10_zoneOf rfl rfl (by decide) (K1.le (by decide)) (by decide) rfl rfl (Nat.le_of_ble_eq_true rfl) dL_law_806 rfl rfl ?_
  intro v2 h2 hp2
  obtain ⟨b1, rfl, e12, eJ, gm, nx⟩ := q_joint (h := h) q_kd1 ka hn hz hp2
  refine q_istore (L' := [some (.ref 0), some (.ref 1), some (.ref 1061), some (.ref 1074), some (.ref 1075), some (.int (nI (4 * i))), some (.int (nI a1)), some (.int b1), none, none]) dL_law_809 rfl (by decide) rfl ?_
  exact q_tail (K1.gm gm) a3 e12 eJ nx G (by omega) (by omega) dL_law_811 dL_law_812 dL_law_815 dL_law_817 dL_law_822 dL_law_824 dL_law_827 dL_law_828 dL_law_829 dL_law_830 dL_law_832 dL_law_833 dL_law_834 dL_law_839 (by decide)
theorem g_law_11 {Φ : q_Fx} {Z : Program → Env → State → MethodId → Array Value → List Frame → State → Prop} {i kc ks : Nat} {h : q_Hp} {W m : q_W} {O : q_O} {P : q_P} (K : q_Lk Φ h.R h.n) (inv : q_inv i h W O m P) (hi : 4 * i + 4 ≤ Φ.L) (hL : Φ.L ≤ 2048) (G : q_goes Φ Z i (i + 1) kc ks) : q_G Φ false cL_law RL mL_law Z 842 (q_L0 i) [] h (kc + 4) (ks + 24) := by
  obtain ⟨C, M, s, H⟩ := inv
  obtain ⟨⟨N, hN, a, ⟨τ, b⟩, k⟩, dd⟩ := id s
  have hcc : i ≤ 600 := by omega
  have v := k.2.2.2.2.2.2.2
  refine q_aload_n dL_law_842 rfl ?_
  refine q_aload_n dL_law_843 rfl ?_
  refine q_iload dL_law_844 rfl ?_
  refine q_iconst (v := nI 1) dL_law_846 (by decide) ?_
  refine q_iaddN dL_law_847 ?_
  refine q_sldN (by omega) hL dL_law_848 ?_
  refine q_aload_n dL_law_849 rfl ?_
  refine q_callH (kc := kc + 2) (ks := ks + 12) (g_L_addSession (h := h) K C  (d := Φ.xs (4 * i + 1))) wL_addSession kL_194 sL_addSession (by decide) rfl rfl (Nat.le_of_ble_eq_true rfl) dL_law_850 rfl rfl (fun E h9 q9 => by obtain ⟨_, e9, _⟩ := q9; cases e9) (fun v1 h1 hq => ?_)
  obtain ⟨a1, e1, a3, ka, f1, hn, hz⟩ := j_addSession C M s a b k dd H hcc hq
  cases e1
  have K1 := f1.Lk K
  have M1 := f1.mr M
  refine q_istore (L' := [some (.ref 0), some (.ref 1), some (.ref 1061), some (.ref 1074), some (.ref 1075), some (.int (nI (4 * i))), some (.int (nI a1)), none, none, none]) dL_law_853 rfl (by decide) rfl ?_
  refine q_aload_n dL_law_855 rfl ?_
  refine q_aload_n dL_law_856 rfl ?_
  refine q_iload dL_law_857 rfl ?_
  refine q_iconst (v := nI 1) dL_law_859 (by decide) ?_
  refine q_iaddN dL_law_860 ?_
  refine q_sldN (by omega) hL dL_law_861 ?_
  refine q_vR (kc := kc + 2) (ks := ks + 12) (g_X10_addSession (h := h1) K1 M1 v  (d := Φ.xs (4 * i + 1))) wX10_addSession kL_196 iX10_addSession eX10_addSession rfl rfl (by decide) (K1.le (by decide)) (by decide) rfl rfl (Nat.le_of_ble_eq_true rfl) dL_law_862 rfl rfl ?_
  intro v2 h2 hp2
  obtain ⟨b1, rfl, e12, eJ, gm, nx⟩ := q_joint (h := h) q_kd2 ka hn hz hp2
  refine q_istore (L' := [some (.ref 0), some (.ref 1), some (.ref 1061), some (.ref 1074), some (.ref 1075), some (.int (nI (4 * i))), some (.int (nI a1)), some (.int b1), none, none]) dL_law_865 rfl (by decide) rfl ?_
  exact q_tail (K1.gm gm) a3 e12 eJ nx G (by omega) (by omega) dL_law_867 dL_law_868 dL_law_871 dL_law_873 dL_law_878 dL_law_880 dL_law_883 dL_law_884 dL_law_885 dL_law_886 dL_law_888 dL_law_889 dL_law_890 dL_law_895 (by decide)
theorem g_law_12 {Φ : q_Fx} {Z : Program → Env → State → MethodId → Array Value → List Frame → State → Prop} {i kc ks : Nat} {h : q_Hp} {W m : q_W} {O : q_O} {P : q_P} (K : q_Lk Φ h.R h.n) (inv : q_inv i h W O m P) (hi : 4 * i + 4 ≤ Φ.L) (hL : Φ.L ≤ 2048) (G : q_goes Φ Z i (i + 1) kc ks) : q_G Φ false cL_law RL mL_law Z 898 (q_L0 i) [] h (kc + 4) (ks + 24) := by
  obtain ⟨C, M, s, H⟩ := inv
  obtain ⟨⟨N, hN, a, ⟨τ, b⟩, k⟩, dd⟩ := id s
  have hcc : i ≤ 600 := by omega
  have v := k.2.2.2.2.2.2.2
  refine q_aload_n dL_law_898 rfl ?_
  refine q_aload_n dL_law_899 rfl ?_
  refine q_iload dL_law_900 rfl ?_
  refine q_iconst (v := nI 1) dL_law_902 (by decide) ?_
  refine q_iaddN dL_law_903 ?_
  refine q_sldN (by omega) hL dL_law_904 ?_
  refine q_aload_n dL_law_905 rfl ?_
  refine q_iload dL_law_906 rfl ?_
  refine q_iconst (v := nI 2) dL_law_908 (by decide) ?_
  refine q_iaddN dL_law_909 ?_
  refine q_sldN (by omega) hL dL_law_910 ?_
  refine q_aload_n dL_law_911 rfl ?_
  refine q_iload dL_law_912 rfl ?_
  refine q_iconst (v := nI 3) dL_law_914 (by decide) ?_
  refine q_iaddN dL_law_915 ?_
  refine q_sldN (by omega) hL dL_law_916 ?_
  refine q_aload_n dL_law_917 rfl ?_
  refine q_callH (kc := kc + 0) (ks := ks + 0) (g_L_addPart (h := h) K C  (x := Φ.xs (4 * i + 1)) (m := Φ.xs (4 * i + 2)) (y := Φ.xs (4 * i + 3))) wL_addPart kL_197 sL_addPart (by decide) rfl rfl (Nat.le_of_ble_eq_true rfl) dL_law_918 rfl rfl (fun E h9 q9 => by obtain ⟨_, e9, _⟩ := q9; cases e9) (fun v1 h1 hq => ?_)
  obtain ⟨a1, e1, a3, ka, f1, hn, hz⟩ := j_addPart C M s a b k dd H hcc hq
  cases e1
  have K1 := f1.Lk K
  have M1 := f1.mr M
  refine q_istore (L' := [some (.ref 0), some (.ref 1), some (.ref 1061), some (.ref 1074), some (.ref 1075), some (.int (nI (4 * i))), some (.int (nI a1)), none, none, none]) dL_law_921 rfl (by decide) rfl ?_
  refine q_aload_n dL_law_923 rfl ?_
  refine q_aload_n dL_law_924 rfl ?_
  refine q_iload dL_law_925 rfl ?_
  refine q_iconst (v := nI 1) dL_law_927 (by decide) ?_
  refine q_iaddN dL_law_928 ?_
  refine q_sldN (by omega) hL dL_law_929 ?_
  refine q_aload_n dL_law_930 rfl ?_
  refine q_iload dL_law_931 rfl ?_
  refine q_iconst (v := nI 2) dL_law_933 (by decide) ?_
  refine q_iaddN dL_law_934 ?_
  refine q_sldN (by omega) hL dL_law_935 ?_
  refine q_aload_n dL_law_936 rfl ?_
  refine q_iload dL_law_937 rfl ?_
  refine q_iconst (v := nI 3) dL_law_939 (by decide) ?_
  refine q_iaddN dL_law_940 ?_
  refine q_sldN (by omega) hL dL_law_941 ?_
  refine q_vR (kc := kc + 0) (ks := ks + 0) (g_X10_addPart (h := h1) K1 M1 v  (x := Φ.xs (4 * i + 1)) (y := Φ.xs (4 * i + 2)) (z := Φ.xs (4 * i + 3))) wX10_addPart kL_200 iX10_addPart eX10_addPart rfl rfl (by decide) (K1.le (by decide)) (by decide) rfl rfl (Nat.le_of_ble_eq_true rfl) dL_law_942 rfl rfl ?_
  intro v2 h2 hp2
  obtain ⟨b1, rfl, e12, eJ, gm, nx⟩ := q_joint (h := h) q_kd3 ka hn hz hp2
  refine q_istore (L' := [some (.ref 0), some (.ref 1), some (.ref 1061), some (.ref 1074), some (.ref 1075), some (.int (nI (4 * i))), some (.int (nI a1)), some (.int b1), none, none]) dL_law_945 rfl (by decide) rfl ?_
  exact q_tail (K1.gm gm) a3 e12 eJ nx G (by omega) (by omega) dL_law_947 dL_law_948 dL_law_951 dL_law_953 dL_law_958 dL_law_960 dL_law_963 dL_law_964 dL_law_965 dL_law_966 dL_law_968 dL_law_969 dL_law_970 dL_law_975 (by decide)
theorem g_law_13 {Φ : q_Fx} {Z : Program → Env → State → MethodId → Array Value → List Frame → State → Prop} {i kc ks : Nat} {h : q_Hp} {W m : q_W} {O : q_O} {P : q_P} (K : q_Lk Φ h.R h.n) (inv : q_inv i h W O m P) (hi : 4 * i + 4 ≤ Φ.L) (hL : Φ.L ≤ 2048) (G : q_goes Φ Z i (i + 1) kc ks) : q_G Φ false cL_law RL mL_law Z 978 (q_L0 i) [] h (kc + 4) (ks + 24) := by
  obtain ⟨C, M, s, H⟩ := inv
  obtain ⟨⟨N, hN, a, ⟨τ, b⟩, k⟩, dd⟩ := id s
  have hcc : i ≤ 600 := by omega
  have v := k.2.2.2.2.2.2.2
  refine q_aload_n dL_law_978 rfl ?_
  refine q_aload_n dL_law_979 rfl ?_
  refine q_iload dL_law_980 rfl ?_
  refine q_iconst (v := nI 1) dL_law_982 (by decide) ?_
  refine q_iaddN dL_law_983 ?_
  refine q_sldN (by omega) hL dL_law_984 ?_
  refine q_aload_n dL_law_985 rfl ?_
  refine q_callH (kc := kc + 3) (ks := ks + 18) (g_L_clearParts (h := h) K C  (x := Φ.xs (4 * i + 1))) wL_clearParts kL_201 sL_clearParts (by decide) rfl rfl (Nat.le_of_ble_eq_true rfl) dL_law_986 rfl rfl (fun E h9 q9 => by obtain ⟨_, e9, _⟩ := q9; cases e9) (fun v1 h1 hq => ?_)
  obtain ⟨a1, e1, a3, ka, f1, hn, hz⟩ := j_clearParts C M s a b k dd H hcc hq
  cases e1
  have K1 := f1.Lk K
  have M1 := f1.mr M
  refine q_istore (L' := [some (.ref 0), some (.ref 1), some (.ref 1061), some (.ref 1074), some (.ref 1075), some (.int (nI (4 * i))), some (.int (nI a1)), none, none, none]) dL_law_989 rfl (by decide) rfl ?_
  refine q_aload_n dL_law_991 rfl ?_
  refine q_aload_n dL_law_992 rfl ?_
  refine q_iload dL_law_993 rfl ?_
  refine q_iconst (v := nI 1) dL_law_995 (by decide) ?_
  refine q_iaddN dL_law_996 ?_
  refine q_sldN (by omega) hL dL_law_997 ?_
  refine q_vR (kc := kc + 3) (ks := ks + 18) (g_X10_clearParts (h := h1) K1 M1 v  (x := Φ.xs (4 * i + 1))) wX10_clearParts kL_203 iX10_clearParts eX10_clearParts rfl rfl (by decide) (K1.le (by decide)) (by decide) rfl rfl (Nat.le_of_ble_eq_true rfl) dL_law_998 rfl rfl ?_
  intro v2 h2 hp2
  obtain ⟨b1, rfl, e12, eJ, gm, nx⟩ := q_joint (h := h) q_kd1 ka hn hz hp2
  refine q_istore (L' := [some (.ref 0), some (.ref 1), some (.ref 1061), some (.ref 1074), some (.ref 1075), some (.int (nI (4 * i))), some (.int (nI a1)), some (.int b1), none, none]) dL_law_1001 rfl (by decide) rfl ?_
  exact q_tail (K1.gm gm) a3 e12 eJ nx G (by omega) (by omega) dL_law_1003 dL_law_1004 dL_law_1007 dL_law_1009 dL_law_1014 dL_law_1016 dL_law_1019 dL_law_1020 dL_law_1021 dL_law_1022 dL_law_1024 dL_law_1025 dL_law_1026 dL_law_1031 (by decide)
theorem g_law_14 {Φ : q_Fx} {Z : Program → Env → State → MethodId → Array Value → List Frame → State → Prop} {i kc ks : Nat} {h : q_Hp} {W m : q_W} {O : q_O} {P : q_P} (K : q_Lk Φ h.R h.n) (inv : q_inv i h W O m P) (hi : 4 * i + 4 ≤ Φ.L) (hL : Φ.L ≤ 2048) (G : q_goes Φ Z i (i + 1) kc ks) : q_G Φ false cL_law RL mL_law Z 1034 (q_L0 i) [] h (kc + 4) (ks + 24) := by
  obtain ⟨C, M, s, H⟩ := inv
  obtain ⟨⟨N, hN, a, ⟨τ, b⟩, k⟩, dd⟩ := id s
  have hcc : i ≤ 600 := by omega
  have v := k.2.2.2.2.2.2.2
  refine q_aload_n dL_law_1034 rfl ?_
  refine q_aload_n dL_law_1035 rfl ?_
  refine q_iload dL_law_1036 rfl ?_
  refine q_iconst (v := nI 1) dL_law_1038 (by decide) ?_
  refine q_iaddN dL_law_1039 ?_
  refine q_sldN (by omega) hL dL_law_1040 ?_
  refine q_aload_n dL_law_1041 rfl ?_
  refine q_iload dL_law_1042 rfl ?_
  refine q_iconst (v := nI 2) dL_law_1044 (by decide) ?_
  refine q_iaddN dL_law_1045 ?_
  refine q_sldN (by omega) hL dL_law_1046 ?_
  refine q_aload_n dL_law_1047 rfl ?_
  refine q_callH (kc := kc + 2) (ks := ks + 12) (g_L_moveSession (h := h) K C  (x := Φ.xs (4 * i + 1)) (d := Φ.xs (4 * i + 2))) wL_moveSession kL_204 sL_moveSession (by decide) rfl rfl (Nat.le_of_ble_eq_true rfl) dL_law_1048 rfl rfl (fun E h9 q9 => by obtain ⟨_, e9, _⟩ := q9; cases e9) (fun v1 h1 hq => ?_)
  obtain ⟨a1, e1, a3, ka, f1, hn, hz⟩ := j_moveSession C M s a b k dd H hcc hq
  cases e1
  have K1 := f1.Lk K
  have M1 := f1.mr M
  refine q_istore (L' := [some (.ref 0), some (.ref 1), some (.ref 1061), some (.ref 1074), some (.ref 1075), some (.int (nI (4 * i))), some (.int (nI a1)), none, none, none]) dL_law_1051 rfl (by decide) rfl ?_
  refine q_aload_n dL_law_1053 rfl ?_
  refine q_aload_n dL_law_1054 rfl ?_
  refine q_iload dL_law_1055 rfl ?_
  refine q_iconst (v := nI 1) dL_law_1057 (by decide) ?_
  refine q_iaddN dL_law_1058 ?_
  refine q_sldN (by omega) hL dL_law_1059 ?_
  refine q_aload_n dL_law_1060 rfl ?_
  refine q_iload dL_law_1061 rfl ?_
  refine q_iconst (v := nI 2) dL_law_1063 (by decide) ?_
  refine q_iaddN dL_law_1064 ?_
  refine q_sldN (by omega) hL dL_law_1065 ?_
  refine q_vR (kc := kc + 2) (ks := ks + 12) (g_X10_moveSession (h := h1) K1 M1 v  (x := Φ.xs (4 * i + 1)) (d := Φ.xs (4 * i + 2))) wX10_moveSession kL_206 iX10_moveSession eX10_moveSession rfl rfl (by decide) (K1.le (by decide)) (by decide) rfl rfl (Nat.le_of_ble_eq_true rfl) dL_law_1066 rfl rfl ?_
  intro v2 h2 hp2
  obtain ⟨b1, rfl, e12, eJ, gm, nx⟩ := q_joint (h := h) q_kd2 ka hn hz hp2
  refine q_istore (L' := [some (.ref 0), some (.ref 1), some (.ref 1061), some (.ref 1074), some (.ref 1075), some (.int (nI (4 * i))), some (.int (nI a1)), some (.int b1), none, none]) dL_law_1069 rfl (by decide) rfl ?_
  exact q_tail (K1.gm gm) a3 e12 eJ nx G (by omega) (by omega) dL_law_1071 dL_law_1072 dL_law_1075 dL_law_1077 dL_law_1082 dL_law_1084 dL_law_1087 dL_law_1088 dL_law_1089 dL_law_1090 dL_law_1092 dL_law_1093 dL_law_1094 dL_law_1099 (by decide)
theorem g_law_15 {Φ : q_Fx} {Z : Program → Env → State → MethodId → Array Value → List Frame → State → Prop} {i kc ks : Nat} {h : q_Hp} {W m : q_W} {O : q_O} {P : q_P} (K : q_Lk Φ h.R h.n) (inv : q_inv i h W O m P) (hi : 4 * i + 4 ≤ Φ.L) (hL : Φ.L ≤ 2048) (G : q_goes Φ Z i (i + 1) kc ks) : q_G Φ false cL_law RL mL_law Z 1102 (q_L0 i) [] h (kc + 4) (ks + 24) := by
  obtain ⟨C, M, s, H⟩ := inv
  obtain ⟨⟨N, hN, a, ⟨τ, b⟩, k⟩, dd⟩ := id s
  have hcc : i ≤ 600 := by omega
  have v := k.2.2.2.2.2.2.2
  refine q_aload_n dL_law_1102 rfl ?_
  refine q_aload_n dL_law_1103 rfl ?_
  refine q_iload dL_law_1104 rfl ?_
  refine q_iconst (v := nI 1) dL_law_1106 (by decide) ?_
  refine q_iaddN dL_law_1107 ?_
  refine q_sldN (by omega) hL dL_law_1108 ?_
  refine q_aload_n dL_law_1109 rfl ?_
  refine q_callH (kc := kc + 3) (ks := ks + 18) (g_L_removeSession (h := h) K C  (x := Φ.xs (4 * i + 1))) wL_removeSession kL_207 sL_removeSession (by decide) rfl rfl (Nat.le_of_ble_eq_true rfl) dL_law_1110 rfl rfl (fun E h9 q9 => by obtain ⟨_, e9, _⟩ := q9; cases e9) (fun v1 h1 hq => ?_)
  obtain ⟨a1, e1, a3, ka, f1, hn, hz⟩ := j_removeSession C M s a b k dd H hcc hq
  cases e1
  have K1 := f1.Lk K
  have M1 := f1.mr M
  refine q_istore (L' := [some (.ref 0), some (.ref 1), some (.ref 1061), some (.ref 1074), some (.ref 1075), some (.int (nI (4 * i))), some (.int (nI a1)), none, none, none]) dL_law_1113 rfl (by decide) rfl ?_
  refine q_aload_n dL_law_1115 rfl ?_
  refine q_aload_n dL_law_1116 rfl ?_
  refine q_iload dL_law_1117 rfl ?_
  refine q_iconst (v := nI 1) dL_law_1119 (by decide) ?_
  refine q_iaddN dL_law_1120 ?_
  refine q_sldN (by omega) hL dL_law_1121 ?_
  refine q_vR (kc := kc + 3) (ks := ks + 18) (g_X10_removeSession (h := h1) K1 M1 v  (x := Φ.xs (4 * i + 1))) wX10_removeSession kL_209 iX10_removeSession eX10_removeSession rfl rfl (by decide) (K1.le (by decide)) (by decide) rfl rfl (Nat.le_of_ble_eq_true rfl) dL_law_1122 rfl rfl ?_
  intro v2 h2 hp2
  obtain ⟨b1, rfl, e12, eJ, gm, nx⟩ := q_joint (h := h) q_kd1 ka hn hz hp2
  refine q_istore (L' := [some (.ref 0), some (.ref 1), some (.ref 1061), some (.ref 1074), some (.ref 1075), some (.int (nI (4 * i))), some (.int (nI a1)), some (.int b1), none, none]) dL_law_1125 rfl (by decide) rfl ?_
  exact q_tail (K1.gm gm) a3 e12 eJ nx G (by omega) (by omega) dL_law_1127 dL_law_1128 dL_law_1131 dL_law_1133 dL_law_1138 dL_law_1140 dL_law_1143 dL_law_1144 dL_law_1145 dL_law_1146 dL_law_1148 dL_law_1149 dL_law_1150 dL_law_1155 (by decide)
theorem g_law_16 {Φ : q_Fx} {Z : Program → Env → State → MethodId → Array Value → List Frame → State → Prop} {i kc ks : Nat} {h : q_Hp} {W m : q_W} {O : q_O} {P : q_P} (K : q_Lk Φ h.R h.n) (inv : q_inv i h W O m P) (hi : 4 * i + 4 ≤ Φ.L) (hL : Φ.L ≤ 2048) (G : q_goes Φ Z i (i + 1) kc ks) : q_G Φ false cL_law RL mL_law Z 1158 (q_L0 i) [] h (kc + 4) (ks + 24) := by
  obtain ⟨C, M, s, H⟩ := inv
  obtain ⟨⟨N, hN, a, ⟨τ, b⟩, k⟩, dd⟩ := id s
  have hcc : i ≤ 600 := by omega
  have v := k.2.2.2.2.2.2.2
  refine q_aload_n dL_law_1158 rfl ?_
  refine q_vR (kc := kc + 4) (ks := ks + 24) (g_X9_sessionCount (h := h) K C) wX9_sessionCount kL_210 iX9_sessionCount eX9_sessionCount rfl rfl (by decide) (K.le (by decide)) (by decide) rfl rfl (Nat.le_of_ble_eq_true rfl) dL_law_1159 rfl rfl ?_
  intro v1 h1 hp
  obtain ⟨x1, rfl, ex, f1, hh⟩ := j_sessionCount C M s a b k dd H hcc hp
  have K1 := f1.Lk K
  have M1 := f1.mr M
  refine q_aload_n dL_law_1162 rfl ?_
  refine q_vR (kc := kc + 4) (ks := ks + 24) (g_X10_sessionCount (h := h1) K1 M1 v) wX10_sessionCount kL_213 iX10_sessionCount eX10_sessionCount rfl rfl (by decide) (K1.le (by decide)) (by decide) rfl rfl (Nat.le_of_ble_eq_true rfl) dL_law_1163 rfl rfl ?_
  intro v2 h2 hp2
  obtain ⟨rfl, gm, nx⟩ := q_joint0 (h := h) hh hp2
  exact q_icmp_eq (tgt := 2788) dL_law_1166 rfl (fun _ => q_to (G h2 _ _ nx (K1.gm gm) (by omega) (by omega)) ⟨rfl, rfl, rfl, rfl, rfl, rfl, trivial⟩ rfl) (fun e => absurd ex e)
theorem g_law_17 {Φ : q_Fx} {Z : Program → Env → State → MethodId → Array Value → List Frame → State → Prop} {i kc ks : Nat} {h : q_Hp} {W m : q_W} {O : q_O} {P : q_P} (K : q_Lk Φ h.R h.n) (inv : q_inv i h W O m P) (hi : 4 * i + 4 ≤ Φ.L) (hL : Φ.L ≤ 2048) (G : q_goes Φ Z i (i + 1) kc ks) : q_G Φ false cL_law RL mL_law Z 1171 (q_L0 i) [] h (kc + 4) (ks + 24) := by
  obtain ⟨C, M, s, H⟩ := inv
  obtain ⟨⟨N, hN, a, ⟨τ, b⟩, k⟩, dd⟩ := id s
  have hcc : i ≤ 600 := by omega
  have v := k.2.2.2.2.2.2.2
  refine q_aload_n dL_law_1171 rfl ?_
  refine q_aload_n dL_law_1172 rfl ?_
  refine q_iload dL_law_1173 rfl ?_
  refine q_iconst (v := nI 1) dL_law_1175 (by decide) ?_
  refine q_iaddN dL_law_1176 ?_
  refine q_sldN (by omega) hL dL_law_1177 ?_
  refine q_aload_n dL_law_1178 rfl ?_
  refine q_callH (kc := kc + 3) (ks := ks + 18) (g_L_sessionAt (h := h) K C  (p := Φ.xs (4 * i + 1))) wL_sessionAt kL_214 sL_sessionAt (by decide) rfl rfl (Nat.le_of_ble_eq_true rfl) dL_law_1179 rfl rfl (fun E h9 q9 => by obtain ⟨_, e9, _⟩ := q9; cases e9) (fun v1 h1 hq => ?_)
  obtain ⟨a1, e1, a3, ka, f1, hn, hz⟩ := j_sessionAt C M s a b k dd H hcc hq
  cases e1
  have K1 := f1.Lk K
  have M1 := f1.mr M
  refine q_istore (L' := [some (.ref 0), some (.ref 1), some (.ref 1061), some (.ref 1074), some (.ref 1075), some (.int (nI (4 * i))), some (.int (nI a1)), none, none, none]) dL_law_1182 rfl (by decide) rfl ?_
  refine q_aload_n dL_law_1184 rfl ?_
  refine q_aload_n dL_law_1185 rfl ?_
  refine q_iload dL_law_1186 rfl ?_
  refine q_iconst (v := nI 1) dL_law_1188 (by decide) ?_
  refine q_iaddN dL_law_1189 ?_
  refine q_sldN (by omega) hL dL_law_1190 ?_
  refine q_vR (kc := kc + 3) (ks := ks + 18) (g_X10_sessionAt (h := h1) K1 M1 v (rk := τ) (q_rk_eq b k) (p := Φ.xs (4 * i + 1))) wX10_sessionAt kL_216 iX10_sessionAt eX10_sessionAt rfl rfl (by decide) (K1.le (by decide)) (by decide) rfl rfl (Nat.le_of_ble_eq_true rfl) dL_law_1191 rfl rfl ?_
  intro v2 h2 hp2
  obtain ⟨b1, rfl, e12, eJ, gm, nx⟩ := q_joint (h := h) q_kd1 ka hn hz hp2
  refine q_istore (L' := [some (.ref 0), some (.ref 1), some (.ref 1061), some (.ref 1074), some (.ref 1075), some (.int (nI (4 * i))), some (.int (nI a1)), some (.int b1), none, none]) dL_law_1194 rfl (by decide) rfl ?_
  exact q_tail (K1.gm gm) a3 e12 eJ nx G (by omega) (by omega) dL_law_1196 dL_law_1197 dL_law_1200 dL_law_1202 dL_law_1207 dL_law_1209 dL_law_1212 dL_law_1213 dL_law_1214 dL_law_1215 dL_law_1217 dL_law_1218 dL_law_1219 dL_law_1224 (by decide)
theorem g_law_18 {Φ : q_Fx} {Z : Program → Env → State → MethodId → Array Value → List Frame → State → Prop} {i kc ks : Nat} {h : q_Hp} {W m : q_W} {O : q_O} {P : q_P} (K : q_Lk Φ h.R h.n) (inv : q_inv i h W O m P) (hi : 4 * i + 4 ≤ Φ.L) (hL : Φ.L ≤ 2048) (G : q_goes Φ Z i (i + 1) kc ks) : q_G Φ false cL_law RL mL_law Z 1227 (q_L0 i) [] h (kc + 4) (ks + 24) := by
  obtain ⟨C, M, s, H⟩ := inv
  obtain ⟨⟨N, hN, a, ⟨τ, b⟩, k⟩, dd⟩ := id s
  have hcc : i ≤ 600 := by omega
  have v := k.2.2.2.2.2.2.2
  refine q_aload_n dL_law_1227 rfl ?_
  refine q_aload_n dL_law_1228 rfl ?_
  refine q_iload dL_law_1229 rfl ?_
  refine q_iconst (v := nI 1) dL_law_1231 (by decide) ?_
  refine q_iaddN dL_law_1232 ?_
  refine q_sldN (by omega) hL dL_law_1233 ?_
  refine q_aload_n dL_law_1234 rfl ?_
  refine q_callH (kc := kc + 3) (ks := ks + 18) (g_L_dayOf (h := h) K C  (x := Φ.xs (4 * i + 1))) wL_dayOf kL_217 sL_dayOf (by decide) rfl rfl (Nat.le_of_ble_eq_true rfl) dL_law_1235 rfl rfl (fun E h9 q9 => by obtain ⟨_, e9, _⟩ := q9; cases e9) (fun v1 h1 hq => ?_)
  obtain ⟨a1, e1, a3, ka, f1, hn, hz⟩ := j_dayOf C M s a b k dd H hcc hq
  cases e1
  have K1 := f1.Lk K
  have M1 := f1.mr M
  refine q_istore (L' := [some (.ref 0), some (.ref 1), some (.ref 1061), some (.ref 1074), some (.ref 1075), some (.int (nI (4 * i))), some (.int (nI a1)), none, none, none]) dL_law_1238 rfl (by decide) rfl ?_
  refine q_aload_n dL_law_1240 rfl ?_
  refine q_aload_n dL_law_1241 rfl ?_
  refine q_iload dL_law_1242 rfl ?_
  refine q_iconst (v := nI 1) dL_law_1244 (by decide) ?_
  refine q_iaddN dL_law_1245 ?_
  refine q_sldN (by omega) hL dL_law_1246 ?_
  refine q_vR (kc := kc + 3) (ks := ks + 18) (g_X10_dayOf (h := h1) K1 M1 v  (x := Φ.xs (4 * i + 1))) wX10_dayOf kL_219 iX10_dayOf eX10_dayOf rfl rfl (by decide) (K1.le (by decide)) (by decide) rfl rfl (Nat.le_of_ble_eq_true rfl) dL_law_1247 rfl rfl ?_
  intro v2 h2 hp2
  obtain ⟨b1, rfl, e12, eJ, gm, nx⟩ := q_joint (h := h) q_kd1 ka hn hz hp2
  refine q_istore (L' := [some (.ref 0), some (.ref 1), some (.ref 1061), some (.ref 1074), some (.ref 1075), some (.int (nI (4 * i))), some (.int (nI a1)), some (.int b1), none, none]) dL_law_1250 rfl (by decide) rfl ?_
  exact q_tail (K1.gm gm) a3 e12 eJ nx G (by omega) (by omega) dL_law_1252 dL_law_1253 dL_law_1256 dL_law_1258 dL_law_1263 dL_law_1265 dL_law_1268 dL_law_1269 dL_law_1270 dL_law_1271 dL_law_1273 dL_law_1274 dL_law_1275 dL_law_1280 (by decide)
theorem g_law_19 {Φ : q_Fx} {Z : Program → Env → State → MethodId → Array Value → List Frame → State → Prop} {i kc ks : Nat} {h : q_Hp} {W m : q_W} {O : q_O} {P : q_P} (K : q_Lk Φ h.R h.n) (inv : q_inv i h W O m P) (hi : 4 * i + 4 ≤ Φ.L) (hL : Φ.L ≤ 2048) (G : q_goes Φ Z i (i + 1) kc ks) : q_G Φ false cL_law RL mL_law Z 1283 (q_L0 i) [] h (kc + 4) (ks + 24) := by
  obtain ⟨C, M, s, H⟩ := inv
  obtain ⟨⟨N, hN, a, ⟨τ, b⟩, k⟩, dd⟩ := id s
  have hcc : i ≤ 600 := by omega
  have v := k.2.2.2.2.2.2.2
  refine q_aload_n dL_law_1283 rfl ?_
  refine q_aload_n dL_law_1284 rfl ?_
  refine q_iload dL_law_1285 rfl ?_
  refine q_iconst (v := nI 1) dL_law_1287 (by decide) ?_
  refine q_iaddN dL_law_1288 ?_
  refine q_sldN (by omega) hL dL_law_1289 ?_
  refine q_aload_n dL_law_1290 rfl ?_
  refine q_callH (kc := kc + 3) (ks := ks + 18) (g_L_minutesOf (h := h) K C  (x := Φ.xs (4 * i + 1))) wL_minutesOf kL_220 sL_minutesOf (by decide) rfl rfl (Nat.le_of_ble_eq_true rfl) dL_law_1291 rfl rfl (fun E h9 q9 => by obtain ⟨_, e9, _⟩ := q9; cases e9) (fun v1 h1 hq => ?_)
  obtain ⟨a1, e1, a3, ka, f1, hn, hz⟩ := j_minutesOf C M s a b k dd H hcc hq
  cases e1
  have K1 := f1.Lk K
  have M1 := f1.mr M
  refine q_istore (L' := [some (.ref 0), some (.ref 1), some (.ref 1061), some (.ref 1074), some (.ref 1075), some (.int (nI (4 * i))), some (.int (nI a1)), none, none, none]) dL_law_1294 rfl (by decide) rfl ?_
  refine q_aload_n dL_law_1296 rfl ?_
  refine q_aload_n dL_law_1297 rfl ?_
  refine q_iload dL_law_1298 rfl ?_
  refine q_iconst (v := nI 1) dL_law_1300 (by decide) ?_
  refine q_iaddN dL_law_1301 ?_
  refine q_sldN (by omega) hL dL_law_1302 ?_
  refine q_vR (kc := kc + 3) (ks := ks + 18) (g_X10_minutesOf (h := h1) K1 M1 v  (x := Φ.xs (4 * i + 1))) wX10_minutesOf kL_222 iX10_minutesOf eX10_minutesOf rfl rfl (by decide) (K1.le (by decide)) (by decide) rfl rfl (Nat.le_of_ble_eq_true rfl) dL_law_1303 rfl rfl ?_
  intro v2 h2 hp2
  obtain ⟨b1, rfl, e12, eJ, gm, nx⟩ := q_joint (h := h) q_kd1 ka hn hz hp2
  refine q_istore (L' := [some (.ref 0), some (.ref 1), some (.ref 1061), some (.ref 1074), some (.ref 1075), some (.int (nI (4 * i))), some (.int (nI a1)), some (.int b1), none, none]) dL_law_1306 rfl (by decide) rfl ?_
  exact q_tail (K1.gm gm) a3 e12 eJ nx G (by omega) (by omega) dL_law_1308 dL_law_1309 dL_law_1312 dL_law_1314 dL_law_1319 dL_law_1321 dL_law_1324 dL_law_1325 dL_law_1326 dL_law_1327 dL_law_1329 dL_law_1330 dL_law_1331 dL_law_1336 (by decide)
theorem g_law_20 {Φ : q_Fx} {Z : Program → Env → State → MethodId → Array Value → List Frame → State → Prop} {i kc ks : Nat} {h : q_Hp} {W m : q_W} {O : q_O} {P : q_P} (K : q_Lk Φ h.R h.n) (inv : q_inv i h W O m P) (hi : 4 * i + 4 ≤ Φ.L) (hL : Φ.L ≤ 2048) (G : q_goes Φ Z i (i + 1) kc ks) : q_G Φ false cL_law RL mL_law Z 1339 (q_L0 i) [] h (kc + 4) (ks + 24) := by
  obtain ⟨C, M, s, H⟩ := inv
  obtain ⟨⟨N, hN, a, ⟨τ, b⟩, k⟩, dd⟩ := id s
  have hcc : i ≤ 600 := by omega
  have v := k.2.2.2.2.2.2.2
  refine q_aload_n dL_law_1339 rfl ?_
  refine q_aload_n dL_law_1340 rfl ?_
  refine q_iload dL_law_1341 rfl ?_
  refine q_iconst (v := nI 1) dL_law_1343 (by decide) ?_
  refine q_iaddN dL_law_1344 ?_
  refine q_sldN (by omega) hL dL_law_1345 ?_
  refine q_aload_n dL_law_1346 rfl ?_
  refine q_iload dL_law_1347 rfl ?_
  refine q_iconst (v := nI 2) dL_law_1349 (by decide) ?_
  refine q_iaddN dL_law_1350 ?_
  refine q_sldN (by omega) hL dL_law_1351 ?_
  refine q_aload_n dL_law_1352 rfl ?_
  refine q_callH (kc := kc + 2) (ks := ks + 12) (g_L_minutesInZone (h := h) K C  (x := Φ.xs (4 * i + 1)) (z := Φ.xs (4 * i + 2))) wL_minutesInZone kL_223 sL_minutesInZone (by decide) rfl rfl (Nat.le_of_ble_eq_true rfl) dL_law_1353 rfl rfl (fun E h9 q9 => by obtain ⟨_, e9, _⟩ := q9; cases e9) (fun v1 h1 hq => ?_)
  obtain ⟨a1, e1, a3, ka, f1, hn, hz⟩ := j_minutesInZone C M s a b k dd H hcc hq
  cases e1
  have K1 := f1.Lk K
  have M1 := f1.mr M
  refine q_istore (L' := [some (.ref 0), some (.ref 1), some (.ref 1061), some (.ref 1074), some (.ref 1075), some (.int (nI (4 * i))), some (.int (nI a1)), none, none, none]) dL_law_1356 rfl (by decide) rfl ?_
  refine q_aload_n dL_law_1358 rfl ?_
  refine q_aload_n dL_law_1359 rfl ?_
  refine q_iload dL_law_1360 rfl ?_
  refine q_iconst (v := nI 1) dL_law_1362 (by decide) ?_
  refine q_iaddN dL_law_1363 ?_
  refine q_sldN (by omega) hL dL_law_1364 ?_
  refine q_aload_n dL_law_1365 rfl ?_
  refine q_iload dL_law_1366 rfl ?_
  refine q_iconst (v := nI 2) dL_law_1368 (by decide) ?_
  refine q_iaddN dL_law_1369 ?_
  refine q_sldN (by omega) hL dL_law_1370 ?_
  refine q_vR (kc := kc + 2) (ks := ks + 12) (g_X10_minutesInZone (h := h1) K1 M1 v  (x := Φ.xs (4 * i + 1)) (z := Φ.xs (4 * i + 2))) wX10_minutesInZone kL_225 iX10_minutesInZone eX10_minutesInZone rfl rfl (by decide) (K1.le (by decide)) (by decide) rfl rfl (Nat.le_of_ble_eq_true rfl) dL_law_1371 rfl rfl ?_
  intro v2 h2 hp2
  obtain ⟨b1, rfl, e12, eJ, gm, nx⟩ := q_joint (h := h) q_kd2 ka hn hz hp2
  refine q_istore (L' := [some (.ref 0), some (.ref 1), some (.ref 1061), some (.ref 1074), some (.ref 1075), some (.int (nI (4 * i))), some (.int (nI a1)), some (.int b1), none, none]) dL_law_1374 rfl (by decide) rfl ?_
  exact q_tail (K1.gm gm) a3 e12 eJ nx G (by omega) (by omega) dL_law_1376 dL_law_1377 dL_law_1380 dL_law_1382 dL_law_1387 dL_law_1389 dL_law_1392 dL_law_1393 dL_law_1394 dL_law_1395 dL_law_1397 dL_law_1398 dL_law_1399 dL_law_1404 (by decide)
theorem g_law_21 {Φ : q_Fx} {Z : Program → Env → State → MethodId → Array Value → List Frame → State → Prop} {i kc ks : Nat} {h : q_Hp} {W m : q_W} {O : q_O} {P : q_P} (K : q_Lk Φ h.R h.n) (inv : q_inv i h W O m P) (hi : 4 * i + 4 ≤ Φ.L) (hL : Φ.L ≤ 2048) (G : q_goes Φ Z i (i + 1) kc ks) : q_G Φ false cL_law RL mL_law Z 1407 (q_L0 i) [] h (kc + 4) (ks + 24) := by
  obtain ⟨C, M, s, H⟩ := inv
  obtain ⟨⟨N, hN, a, ⟨τ, b⟩, k⟩, dd⟩ := id s
  have hcc : i ≤ 600 := by omega
  have v := k.2.2.2.2.2.2.2
  refine q_aload_n dL_law_1407 rfl ?_
  refine q_aload_n dL_law_1408 rfl ?_
  refine q_iload dL_law_1409 rfl ?_
  refine q_iconst (v := nI 1) dL_law_1411 (by decide) ?_
  refine q_iaddN dL_law_1412 ?_
  refine q_sldN (by omega) hL dL_law_1413 ?_
  refine q_aload_n dL_law_1414 rfl ?_
  refine q_callH (kc := kc + 3) (ks := ks + 18) (g_L_loadOf (h := h) K C  (x := Φ.xs (4 * i + 1))) wL_loadOf kL_226 sL_loadOf (by decide) rfl rfl (Nat.le_of_ble_eq_true rfl) dL_law_1415 rfl rfl (fun E h9 q9 => by obtain ⟨_, e9, _⟩ := q9; cases e9) (fun v1 h1 hq => ?_)
  obtain ⟨a1, e1, a3, ka, f1, hn, hz⟩ := j_loadOf C M s a b k dd H hcc hq
  cases e1
  have K1 := f1.Lk K
  have M1 := f1.mr M
  refine q_istore (L' := [some (.ref 0), some (.ref 1), some (.ref 1061), some (.ref 1074), some (.ref 1075), some (.int (nI (4 * i))), some (.int (nI a1)), none, none, none]) dL_law_1418 rfl (by decide) rfl ?_
  refine q_aload_n dL_law_1420 rfl ?_
  refine q_aload_n dL_law_1421 rfl ?_
  refine q_iload dL_law_1422 rfl ?_
  refine q_iconst (v := nI 1) dL_law_1424 (by decide) ?_
  refine q_iaddN dL_law_1425 ?_
  refine q_sldN (by omega) hL dL_law_1426 ?_
  refine q_vR (kc := kc + 3) (ks := ks + 18) (g_X10_loadOf (h := h1) K1 M1 v  (x := Φ.xs (4 * i + 1))) wX10_loadOf kL_228 iX10_loadOf eX10_loadOf rfl rfl (by decide) (K1.le (by decide)) (by decide) rfl rfl (Nat.le_of_ble_eq_true rfl) dL_law_1427 rfl rfl ?_
  intro v2 h2 hp2
  obtain ⟨b1, rfl, e12, eJ, gm, nx⟩ := q_joint (h := h) q_kd1 ka hn hz hp2
  refine q_istore (L' := [some (.ref 0), some (.ref 1), some (.ref 1061), some (.ref 1074), some (.ref 1075), some (.int (nI (4 * i))), some (.int (nI a1)), some (.int b1), none, none]) dL_law_1430 rfl (by decide) rfl ?_
  exact q_tail (K1.gm gm) a3 e12 eJ nx G (by omega) (by omega) dL_law_1432 dL_law_1433 dL_law_1436 dL_law_1438 dL_law_1443 dL_law_1445 dL_law_1448 dL_law_1449 dL_law_1450 dL_law_1451 dL_law_1453 dL_law_1454 dL_law_1455 dL_law_1460 (by decide)
theorem g_law_22 {Φ : q_Fx} {Z : Program → Env → State → MethodId → Array Value → List Frame → State → Prop} {i kc ks : Nat} {h : q_Hp} {W m : q_W} {O : q_O} {P : q_P} (K : q_Lk Φ h.R h.n) (inv : q_inv i h W O m P) (hi : 4 * i + 4 ≤ Φ.L) (hL : Φ.L ≤ 2048) (G : q_goes Φ Z i (i + 1) kc ks) : q_G Φ false cL_law RL mL_law Z 1463 (q_L0 i) [] h (kc + 4) (ks + 24) := by
  obtain ⟨C, M, s, H⟩ := inv
  obtain ⟨⟨N, hN, a, ⟨τ, b⟩, k⟩, dd⟩ := id s
  have hcc : i ≤ 600 := by omega
  have v := k.2.2.2.2.2.2.2
  refine q_aload_n dL_law_1463 rfl ?_
  refine q_aload_n dL_law_1464 rfl ?_
  refine q_iload dL_law_1465 rfl ?_
  refine q_iconst (v := nI 1) dL_law_1467 (by decide) ?_
  refine q_iaddN dL_law_1468 ?_
  refine q_sldN (by omega) hL dL_law_1469 ?_
  refine q_aload_n dL_law_1470 rfl ?_
  refine q_callH (kc := kc + 3) (ks := ks + 18) (g_L_loadOn (h := h) K C  (d := Φ.xs (4 * i + 1))) wL_loadOn kL_229 sL_loadOn (by decide) rfl rfl (Nat.le_of_ble_eq_true rfl) dL_law_1471 rfl rfl (fun E h9 q9 => by obtain ⟨_, e9, _⟩ := q9; cases e9) (fun v1 h1 hq => ?_)
  obtain ⟨a1, e1, a3, ka, f1, hn, hz⟩ := j_loadOn C M s a b k dd H hcc hq
  cases e1
  have K1 := f1.Lk K
  have M1 := f1.mr M
  refine q_istore (L' := [some (.ref 0), some (.ref 1), some (.ref 1061), some (.ref 1074), some (.ref 1075), some (.int (nI (4 * i))), some (.int (nI a1)), none, none, none]) dL_law_1474 rfl (by decide) rfl ?_
  refine q_aload_n dL_law_1476 rfl ?_
  refine q_aload_n dL_law_1477 rfl ?_
  refine q_iload dL_law_1478 rfl ?_
  refine q_iconst (v := nI 1) dL_law_1480 (by decide) ?_
  refine q_iaddN dL_law_1481 ?_
  refine q_sldN (by omega) hL dL_law_1482 ?_
  refine q_vR (kc := kc + 3) (ks := ks + 18) (g_X10_loadOn (h := h1) K1 M1 v  (d := Φ.xs (4 * i + 1))) wX10_loadOn kL_231 iX10_loadOn eX10_loadOn rfl rfl (by decide) (K1.le (by decide)) (by decide) rfl rfl (Nat.le_of_ble_eq_true rfl) dL_law_1483 rfl rfl ?_
  intro v2 h2 hp2
  obtain ⟨b1, rfl, e12, eJ, gm, nx⟩ := q_joint (h := h) q_kd1 ka hn hz hp2
  refine q_istore (L' := [some (.ref 0), some (.ref 1), some (.ref 1061), some (.ref 1074), some (.ref 1075), some (.int (nI (4 * i))), some (.int (nI a1)), some (.int b1), none, none]) dL_law_1486 rfl (by decide) rfl ?_
  exact q_tail (K1.gm gm) a3 e12 eJ nx G (by omega) (by omega) dL_law_1488 dL_law_1489 dL_law_1492 dL_law_1494 dL_law_1499 dL_law_1501 dL_law_1504 dL_law_1505 dL_law_1506 dL_law_1507 dL_law_1509 dL_law_1510 dL_law_1511 dL_law_1516 (by decide)
theorem g_law_23 {Φ : q_Fx} {Z : Program → Env → State → MethodId → Array Value → List Frame → State → Prop} {i kc ks : Nat} {h : q_Hp} {W m : q_W} {O : q_O} {P : q_P} (K : q_Lk Φ h.R h.n) (inv : q_inv i h W O m P) (hi : 4 * i + 4 ≤ Φ.L) (hL : Φ.L ≤ 2048) (G : q_goes Φ Z i (i + 1) kc ks) : q_G Φ false cL_law RL mL_law Z 1519 (q_L0 i) [] h (kc + 4) (ks + 24) := by
  obtain ⟨C, M, s, H⟩ := inv
  obtain ⟨⟨N, hN, a, ⟨τ, b⟩, k⟩, dd⟩ := id s
  have hcc : i ≤ 600 := by omega
  have v := k.2.2.2.2.2.2.2
  refine q_aload_n dL_law_1519 rfl ?_
  refine q_aload_n dL_law_1520 rfl ?_
  refine q_iload dL_law_1521 rfl ?_
  refine q_iconst (v := nI 1) dL_law_1523 (by decide) ?_
  refine q_iaddN dL_law_1524 ?_
  refine q_sldN (by omega) hL dL_law_1525 ?_
  refine q_aload dL_law_1526 rfl ?_
  refine q_callH (kc := kc + 2) (ks := ks + 12) (g_L_zoneShare (h := h) K C  (z := Φ.xs (4 * i + 1))) wL_zoneShare kL_232 sL_zoneShare (by decide) rfl rfl (Nat.le_of_ble_eq_true rfl) dL_law_1528 rfl rfl (fun E h9 q9 => by obtain ⟨_, e9, _⟩ := q9; cases e9) (fun v1 h1 hq => ?_)
  obtain ⟨a1, e1, a3, ka, f1, hh, hz⟩ := j_zoneShare C M s a b k dd H hcc hq
  cases e1
  have K1 := f1.Lk K
  have M1 := f1.mr M
  refine q_istore (L' := [some (.ref 0), some (.ref 1), some (.ref 1061), some (.ref 1074), some (.ref 1075), some (.int (nI (4 * i))), some (.int (nI a1)), none, none, none]) dL_law_1531 rfl (by decide) rfl ?_
  refine q_aload_n dL_law_1533 rfl ?_
  refine q_aload_n dL_law_1534 rfl ?_
  refine q_iload dL_law_1535 rfl ?_
  refine q_iconst (v := nI 1) dL_law_1537 (by decide) ?_
  refine q_iaddN dL_law_1538 ?_
  refine q_sldN (by omega) hL dL_law_1539 ?_
  refine q_vR (kc := kc + 2) (ks := ks + 12) (g_X10_zoneShare (h := h1) K1 M1 v  (z := Φ.xs (4 * i + 1))) wX10_zoneShare kL_235 iX10_zoneShare eX10_zoneShare rfl rfl (by decide) (K1.le (by decide)) (by decide) rfl rfl (Nat.le_of_ble_eq_true rfl) dL_law_1540 rfl rfl ?_
  intro v2 h2 hp2
  obtain ⟨a', b1, k', rfl, e12, gm, M2, hb⟩ := hp2
  have ea := q_kd2 ka k'
  subst ea
  have nx := (hh.gm gm).next M2
  have K2 := K1.gm gm
  refine q_fstore (L' := [some (.ref 0), some (.ref 1), some (.ref 1061), some (.ref 1074), some (.ref 1075), some (.int (nI (4 * i))), some (.int (nI a1)), some (.float b1), none, none]) dL_law_1543 rfl (by decide) rfl ?_
  have fin : q_G Φ false cL_law RL mL_law Z 1594 [some (.ref 0), some (.ref 1), some (.ref 1061), some (.ref 1074), some (.ref 1075), some (.int (nI (4 * i))), some (.int (nI a1)), some (.float b1), none, none] [] h2 (kc + 2) (ks + 12) := q_goto (tgt := 2788) dL_law_1594 rfl (q_to (G h2 _ _ nx K2 (by omega) (by omega)) ⟨rfl, rfl, rfl, rfl, rfl, rfl, trivial⟩ rfl)
  refine q_aload_n dL_law_1545 rfl ?_
  refine q_vD (kc := kc + 2) (ks := ks + 12) (g_X10_thrown (h := h2) K2 e12) wX10_thrown kL_158 iX10_thrown eX10_thrown rfl rfl (by decide) (K2.le (by decide)) (by decide) rfl rfl (Nat.le_of_ble_eq_true rfl) dL_law_1546 rfl rfl ?_
  refine q_iload dL_law_1549 rfl ?_
  refine q_icmp_eq (tgt := 1556) dL_law_1551 rfl (fun _ => ?_) (fun e => absurd rfl e)
  refine q_iload dL_law_1556 rfl ?_
  refine q_if_neN (tgt := 1594) (by omega) dL_law_1558 rfl (fun _ => fin) (fun e0 => ?_)
  obtain ⟨n2, eE⟩ := hz e0
  have hb := hb e0
  subst hb
  have eE2 := (congrFun (congrFun gm.2.2.2.1 1075) 0).trans eE
  refine q_aload dL_law_1561 rfl ?_
  refine q_iconst (v := nI 0) dL_law_1563 (by decide) ?_
  refine q_daldN eE2 (K2.le (by decide)) dL_law_1564 ?_
  refine q_fload dL_law_1565 rfl ?_
  refine q_f2d dL_law_1567 (q_f2n (q_fd0 n2)) ?_
  refine q_dcmp0 (q_f2o (q_fd0 n2)) dL_law_1568 ?_
  exact q_if_eq (tgt := 1594) dL_law_1569 rfl (fun _ => fin) (fun e => absurd rfl e)
theorem g_law_24 {Φ : q_Fx} {Z : Program → Env → State → MethodId → Array Value → List Frame → State → Prop} {i kc ks : Nat} {h : q_Hp} {W m : q_W} {O : q_O} {P : q_P} (K : q_Lk Φ h.R h.n) (inv : q_inv i h W O m P) (hi : 4 * i + 4 ≤ Φ.L) (hL : Φ.L ≤ 2048) (G : q_goes Φ Z i (i + 1) kc ks) : q_G Φ false cL_law RL mL_law Z 1597 (q_L0 i) [] h (kc + 4) (ks + 24) := by
  obtain ⟨C, M, s, H⟩ := inv
  obtain ⟨⟨N, hN, a, ⟨τ, b⟩, k⟩, dd⟩ := id s
  have hcc : i ≤ 600 := by omega
  have v := k.2.2.2.2.2.2.2
  refine q_aload_n dL_law_1597 rfl ?_
  refine q_vR (kc := kc + 4) (ks := ks + 24) (g_X9_meanLoad (h := h) K C) wX9_meanLoad kL_236 iX9_meanLoad eX9_meanLoad rfl rfl (by decide) (K.le (by decide)) (by decide) rfl rfl (Nat.le_of_ble_eq_true rfl) dL_law_1598 rfl rfl ?_
  intro v1 h1 hp
  obtain ⟨rfl, f1, hh⟩ := j_meanLoad C M s a b k dd H hcc hp
  have K1 := f1.Lk K
  have M1 := f1.mr M
  refine q_dstore (L' := [_, _, _, _, _, _, _, none, none, none]) dL_law_1601 rfl (by decide) rfl ?_
  refine q_aload_n dL_law_1603 rfl ?_
  refine q_vR (kc := kc + 4) (ks := ks + 24) (g_X10_meanLoad (h := h1) K1 M1 v) wX10_meanLoad kL_240 iX10_meanLoad eX10_meanLoad rfl rfl (by decide) (K1.le (by decide)) (by decide) rfl rfl (Nat.le_of_ble_eq_true rfl) dL_law_1604 rfl rfl ?_
  rintro v2 h2 ⟨rfl, e12, gm, M2⟩
  have K2 := K1.gm gm
  have nx := (hh.gm gm).next M2
  refine q_dstore (L' := [_, _, _, _, _, _, _, none, _, none]) dL_law_1607 rfl (by decide) rfl ?_
  refine q_dload dL_law_1609 rfl ?_
  refine q_dload dL_law_1611 rfl ?_
  have ht9 := k.2.2.2.2.2.2.1
  refine q_dcmp0 (q_dd0 (nI_ne0 (by omega) (by omega))) dL_law_1613 ?_
  refine q_if_eq (tgt := 1635) dL_law_1614 rfl (fun _ => ?_) (fun e => absurd rfl e)
  exact q_goto (tgt := 2788) dL_law_1635 rfl (q_to (G h2 _ _ nx K2 (by omega) (by omega)) ⟨rfl, rfl, rfl, rfl, rfl, rfl, trivial⟩ rfl)
theorem g_law_25 {Φ : q_Fx} {Z : Program → Env → State → MethodId → Array Value → List Frame → State → Prop} {i kc ks : Nat} {h : q_Hp} {W m : q_W} {O : q_O} {P : q_P} (K : q_Lk Φ h.R h.n) (inv : q_inv i h W O m P) (hi : 4 * i + 4 ≤ Φ.L) (hL : Φ.L ≤ 2048) (G : q_goes Φ Z i (i + 1) kc ks) : q_G Φ false cL_law RL mL_law Z 1638 (q_L0 i) [] h (kc + 4) (ks + 24) := by
  obtain ⟨C, M, s, H⟩ := inv
  obtain ⟨⟨N, hN, a, ⟨τ, b⟩, k⟩, dd⟩ := id s
  have hcc : i ≤ 600 := by omega
  have v := k.2.2.2.2.2.2.2
  refine q_aload_n dL_law_1638 rfl ?_
  refine q_aload_n dL_law_1639 rfl ?_
  refine q_iload dL_law_1640 rfl ?_
  refine q_iconst (v := nI 1) dL_law_1642 (by decide) ?_
  refine q_iaddN dL_law_1643 ?_
  refine q_sldN (by omega) hL dL_law_1644 ?_
  refine q_aload_n dL_law_1645 rfl ?_
  refine q_callH (kc := kc + 3) (ks := ks + 18) (g_L_fitnessOn (h := h) K C  (d := Φ.xs (4 * i + 1))) wL_fitnessOn kL_241 sL_fitnessOn (by decide) rfl rfl (Nat.le_of_ble_eq_true rfl) dL_law_1646 rfl rfl (fun E h9 q9 => by obtain ⟨_, e9, _⟩ := q9; cases e9) (fun v1 h1 hq => ?_)
  obtain ⟨a1, e1, a3, ka, f1, hn, hz⟩ := j_fitnessOn C M s a b k dd H hcc hq
  cases e1
  have K1 := f1.Lk K
  have M1 := f1.mr M
  refine q_istore (L' := [some (.ref 0), some (.ref 1), some (.ref 1061), some (.ref 1074), some (.ref 1075), some (.int (nI (4 * i))), some (.int (nI a1)), none, none, none]) dL_law_1649 rfl (by decide) rfl ?_
  refine q_aload_n dL_law_1651 rfl ?_
  refine q_aload_n dL_law_1652 rfl ?_
  refine q_iload dL_law_1653 rfl ?_
  refine q_iconst (v := nI 1) dL_law_1655 (by decide) ?_
  refine q_iaddN dL_law_1656 ?_
  refine q_sldN (by omega) hL dL_law_1657 ?_
  refine q_vR (kc := kc + 3) (ks := ks + 18) (g_X10_fitnessOn (h := h1) K1 M1 v  (d := Φ.xs (4 * i + 1))) wX10_fitnessOn kL_243 iX10_fitnessOn eX10_fitnessOn rfl rfl (by decide) (K1.le (by decide)) (by decide) rfl rfl (Nat.le_of_ble_eq_true rfl) dL_law_1658 rfl rfl ?_
  intro v2 h2 hp2
  obtain ⟨b1, rfl, e12, eJ, gm, nx⟩ := q_joint (h := h) q_kd1 ka hn hz hp2
  refine q_istore (L' := [some (.ref 0), some (.ref 1), some (.ref 1061), some (.ref 1074), some (.ref 1075), some (.int (nI (4 * i))), some (.int (nI a1)), some (.int b1), none, none]) dL_law_1661 rfl (by decide) rfl ?_
  exact q_tail (K1.gm gm) a3 e12 eJ nx G (by omega) (by omega) dL_law_1663 dL_law_1664 dL_law_1667 dL_law_1669 dL_law_1674 dL_law_1676 dL_law_1679 dL_law_1680 dL_law_1681 dL_law_1682 dL_law_1684 dL_law_1685 dL_law_1686 dL_law_1691 (by decide)
