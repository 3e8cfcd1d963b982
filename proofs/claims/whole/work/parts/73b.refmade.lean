theorem g_X10_a1 {Φ : q_Fx} {h h0 : q_Hp} {Z : Program → Env → State → MethodId → Array Value → List Frame → State → Prop} (n0 : h.n = 1061) (hz : ∀ f, h.I 1061 f = 0) (KK : ∀ h2, q_mid2 1061 1062 h h2 (va_up (fun _ => none) 0 (some 1062)) (fun _ => 0) (fun _ => none) → h2.n = 1062 → q_G Φ true cX10_init yX10_init.cls mX10_init Z 13 [some (.ref 1061), none] [] h2 11 6035) : q_G Φ true cX10_init yX10_init.cls mX10_init Z 0 [some (.ref 1061), none] [] h 12 6865 := by
  have a1 : 1 ≤ 1061 := by decide
  have t0 : q_tag 1061 = 10 := rfl
  have m0 : q_mid 1061 h h (fun _ => none) := q_mid.start n0 hz
  refine q_aload_n dX10_init_0 rfl ?_
  refine q_oinit kX10_3 dX10_init_1 (by decide) (by decide) ?_
  refine q_aload_n dX10_init_4 rfl ?_
  refine q_sipush (v := nI 830) dX10_init_5 (by decide) ?_
  have e0 : h.n + 1 = 1062 := by rw [n0]
  refine q_newI (n := 830) (kc := 11) (ks := 6035) (by rw [e0]; exact q_z62.1) (by rw [e0]; exact q_z62.2.1) (by decide) dX10_init_8 rfl rfl ?_
  have mm := m0.arr2
  rw [e0] at mm ⊢
  have n1 : h.grow.n = 1062 := e0
  generalize h.grow = h1 at mm n1 ⊢
  have m1 := mm
  refine pRX10_9 dX10_init_10 t0 a1 (by omega) ?_
  have m2 := m1.setR (f := 0) (t := 1062)
  have n2 : (h1.setR 1061 0 (some 1062)).n = 1062 := n1
  generalize h1.setR 1061 0 (some 1062) = h2 at m2 n2 ⊢
  exact KK _ m2 n2
theorem g_X10_a2 {Φ : q_Fx} {h h0 : q_Hp} {Z : Program → Env → State → MethodId → Array Value → List Frame → State → Prop} (m0 : q_mid2 1061 1062 h h0 (va_up (fun _ => none) 0 (some 1062)) (fun _ => 0) (fun _ => none)) (n0 : h0.n = 1062) (KK : ∀ h2, q_mid2 1061 1062 h h2 (va_up (va_up (fun _ => none) 0 (some 1062)) 1 (some 1063)) (fun _ => 0) (fun _ => none) → h2.n = 1069 → q_G Φ true cX10_init yX10_init.cls mX10_init Z 26 [some (.ref 1061), none] [] h2 4 1049) : q_G Φ true cX10_init yX10_init.cls mX10_init Z 13 [some (.ref 1061), none] [] h0 11 6035 := by
  have a1 : 1 ≤ 1061 := by decide
  have t0 : q_tag 1061 = 10 := rfl
  refine q_aload_n dX10_init_13 rfl ?_
  refine q_bipush (v := nI 6) dX10_init_14 (by decide) ?_
  refine q_sipush (v := nI 830) dX10_init_16 (by decide) ?_
  have em : h0.n + 1 = 1063 := by rw [n0]
  have em2 : h0.n + 2 = 1064 := by rw [n0]
  refine q_mna (kc := 4) (ks := 1049) (by rw [em]; rfl) (fun i hi => by rw [em2]; exact (q_zold hi).1) (by rw [em]; rfl) (fun i hi => by rw [em2]; exact (q_zold hi).2.1) (q_W0_mem (List.mem_of_getElem? (i := 1070) (by decide +kernel)) (by decide +kernel)) dX10_init_19 rfl rfl ?_
  rw [em]
  have m1 := m0.mna (by rw [em, em2]; exact q_lk63) (by rw [em]; rfl) (fun i hi => by rw [em2]; exact (q_zold hi).2.2)
  have n1 : (h0.mna).n = 1069 := by show h0.n + 7 = 1069; omega
  generalize h0.mna = h1 at m1 n1 ⊢
  refine pFX10_15 dX10_init_23 rfl t0 a1 (by omega) ?_
  have m2 := m1.setR (f := 1) (t := 1063)
  have n2 : (h1.setR 1061 1 (some 1063)).n = 1069 := n1
  generalize h1.setR 1061 1 (some 1063) = h2 at m2 n2 ⊢
  exact KK _ m2 n2
theorem g_X10_a3 {Φ : q_Fx} {h h0 : q_Hp} {Z : Program → Env → State → MethodId → Array Value → List Frame → State → Prop} (m0 : q_mid2 1061 1062 h h0 (va_up (va_up (fun _ => none) 0 (some 1062)) 1 (some 1063)) (fun _ => 0) (fun _ => none)) (n0 : h0.n = 1069) (KK : ∀ h2, q_mid2 1061 1062 h h2 (va_up (va_up (va_up (fun _ => none) 0 (some 1062)) 1 (some 1063)) 2 (some 1070)) (fun _ => 0) (fun _ => none) → h2.n = 1070 → q_G Φ true cX10_init yX10_init.cls mX10_init Z 35 [some (.ref 1061), none] [] h2 3 219) : q_G Φ true cX10_init yX10_init.cls mX10_init Z 26 [some (.ref 1061), none] [] h0 4 1049 := by
  have a1 : 1 ≤ 1061 := by decide
  have t0 : q_tag 1061 = 10 := rfl
  refine q_aload_n dX10_init_26 rfl ?_
  refine q_sipush (v := nI 830) dX10_init_27 (by decide) ?_
  have e0 : h0.n + 1 = 1070 := by rw [n0]
  refine q_newI (n := 830) (kc := 3) (ks := 219) (by rw [e0]; exact q_z70.1) (by rw [e0]; exact q_z70.2.1) (by decide) dX10_init_30 rfl rfl ?_
  rw [e0]
  have m1 := m0.arr (by rw [e0]; exact q_z70.2.2.1) (by rw [e0]; exact q_z70.2.2.2)
  have n1 : (h0.grow).n = 1070 := e0
  generalize h0.grow = h1 at m1 n1 ⊢
  refine pFX10_18 dX10_init_32 rfl t0 a1 (by omega) ?_
  have m2 := m1.setR (f := 2) (t := 1070)
  have n2 : (h1.setR 1061 2 (some 1070)).n = 1070 := n1
  generalize h1.setR 1061 2 (some 1070) = h2 at m2 n2 ⊢
  exact KK _ m2 n2
theorem g_X10_a4 {Φ : q_Fx} {h h0 : q_Hp} {Z : Program → Env → State → MethodId → Array Value → List Frame → State → Prop} (m0 : q_mid2 1061 1062 h h0 (va_up (va_up (va_up (fun _ => none) 0 (some 1062)) 1 (some 1063)) 2 (some 1070)) (fun _ => 0) (fun _ => none)) (n0 : h0.n = 1070) (KK : ∀ h2, q_mid2 1061 1062 h h2 (va_up (va_up (va_up (va_up (fun _ => none) 0 (some 1062)) 1 (some 1063)) 2 (some 1070)) 3 (some 1071)) (fun _ => 0) (fun _ => none) → h2.n = 1071 → q_G Φ true cX10_init yX10_init.cls mX10_init Z 44 [some (.ref 1061), none] [] h2 2 19) : q_G Φ true cX10_init yX10_init.cls mX10_init Z 35 [some (.ref 1061), none] [] h0 3 219 := by
  have a1 : 1 ≤ 1061 := by decide
  have t0 : q_tag 1061 = 10 := rfl
  refine q_aload_n dX10_init_35 rfl ?_
  refine q_sipush (v := nI 200) dX10_init_36 (by decide) ?_
  have e0 : h0.n + 1 = 1071 := by rw [n0]
  refine q_newI (n := 200) (kc := 2) (ks := 19) (by rw [e0]; exact q_z71.1) (by rw [e0]; exact q_z71.2.1) (by decide) dX10_init_39 rfl rfl ?_
  rw [e0]
  have m1 := m0.arr (by rw [e0]; exact q_z71.2.2.1) (by rw [e0]; exact q_z71.2.2.2)
  have n1 : (h0.grow).n = 1071 := e0
  generalize h0.grow = h1 at m1 n1 ⊢
  refine pFX10_21 dX10_init_41 rfl t0 a1 (by omega) ?_
  have m2 := m1.setR (f := 3) (t := 1071)
  have n2 : (h1.setR 1061 3 (some 1071)).n = 1071 := n1
  generalize h1.setR 1061 3 (some 1071) = h2 at m2 n2 ⊢
  exact KK _ m2 n2
theorem g_X10_a5 {Φ : q_Fx} {h h0 : q_Hp} {Z : Program → Env → State → MethodId → Array Value → List Frame → State → Prop} (m0 : q_mid2 1061 1062 h h0 (va_up (va_up (va_up (va_up (fun _ => none) 0 (some 1062)) 1 (some 1063)) 2 (some 1070)) 3 (some 1071)) (fun _ => 0) (fun _ => none)) (n0 : h0.n = 1071) (KK : ∀ h2, q_mid2 1061 1062 h h2 (va_up (va_up (va_up (va_up (va_up (fun _ => none) 0 (some 1062)) 1 (some 1063)) 2 (some 1070)) 3 (some 1071)) 4 (some 1072)) (fun _ => 0) (fun _ => none) → h2.n = 1072 → q_G Φ true cX10_init yX10_init.cls mX10_init Z 52 [some (.ref 1061), none] [] h2 1 13) : q_G Φ true cX10_init yX10_init.cls mX10_init Z 44 [some (.ref 1061), none] [] h0 2 19 := by
  have a1 : 1 ≤ 1061 := by decide
  have t0 : q_tag 1061 = 10 := rfl
  refine q_aload_n dX10_init_44 rfl ?_
  refine q_bipush (v := nI 6) dX10_init_45 (by decide) ?_
  have e0 : h0.n + 1 = 1072 := by rw [n0]
  refine q_newI (n := 6) (kc := 1) (ks := 13) (by rw [e0]; exact q_z72.1) (by rw [e0]; exact q_z72.2.1) (by decide) dX10_init_47 rfl rfl ?_
  rw [e0]
  have m1 := m0.arr (by rw [e0]; exact q_z72.2.2.1) (by rw [e0]; exact q_z72.2.2.2)
  have n1 : (h0.grow).n = 1072 := e0
  generalize h0.grow = h1 at m1 n1 ⊢
  refine pFX10_24 dX10_init_49 rfl t0 a1 (by omega) ?_
  have m2 := m1.setR (f := 4) (t := 1072)
  have n2 : (h1.setR 1061 4 (some 1072)).n = 1072 := n1
  generalize h1.setR 1061 4 (some 1072) = h2 at m2 n2 ⊢
  exact KK _ m2 n2
theorem g_X10_a6 {Φ : q_Fx} {h h0 : q_Hp} {Z : Program → Env → State → MethodId → Array Value → List Frame → State → Prop} (m0 : q_mid2 1061 1062 h h0 (va_up (va_up (va_up (va_up (va_up (fun _ => none) 0 (some 1062)) 1 (some 1063)) 2 (some 1070)) 3 (some 1071)) 4 (some 1072)) (fun _ => 0) (fun _ => none)) (n0 : h0.n = 1072) (KK : ∀ h2, q_mid2 1061 1062 h h2 (va_up (va_up (va_up (va_up (va_up (va_up (fun _ => none) 0 (some 1062)) 1 (some 1063)) 2 (some 1070)) 3 (some 1071)) 4 (some 1072)) 5 (some 1073)) (fun _ => 0) (fun _ => none) → h2.n = 1073 → q_G Φ true cX10_init yX10_init.cls mX10_init Z 60 [some (.ref 1061), none] [] h2 0 0) : q_G Φ true cX10_init yX10_init.cls mX10_init Z 52 [some (.ref 1061), none] [] h0 1 13 := by
  have a1 : 1 ≤ 1061 := by decide
  have t0 : q_tag 1061 = 10 := rfl
  refine q_aload_n dX10_init_52 rfl ?_
  refine q_bipush (v := nI 13) dX10_init_53 (by decide) ?_
  have e0 : h0.n + 1 = 1073 := by rw [n0]
  refine q_newC (n := 13) (kc := 0) (ks := 0) (by rw [e0]; exact q_zc73.1) (by rw [e0]; exact q_zc73.2.1) (by decide) dX10_init_55 rfl rfl ?_
  rw [e0]
  have m1 := m0.arr (by rw [e0]; exact q_zc73.2.2.1) (by rw [e0]; exact q_zc73.2.2.2)
  have n1 : (h0.grow).n = 1073 := e0
  generalize h0.grow = h1 at m1 n1 ⊢
  refine pFX10_27 dX10_init_57 rfl t0 a1 (by omega) ?_
  have m2 := m1.setR (f := 5) (t := 1073)
  have n2 : (h1.setR 1061 5 (some 1073)).n = 1073 := n1
  generalize h1.setR 1061 5 (some 1073) = h2 at m2 n2 ⊢
  exact KK _ m2 n2
theorem g_X10_b {Φ : q_Fx} {h h0 : q_Hp} (m0 : q_mid2 1061 1062 h h0 (va_up (va_up (va_up (va_up (va_up (va_up (fun _ => none) 0 (some 1062)) 1 (some 1063)) 2 (some 1070)) 3 (some 1071)) 4 (some 1072)) 5 (some 1073)) (fun _ => 0) (fun _ => none)) (n0 : h0.n = 1073) (KK : ∀ h2, q_mid2 1061 1062 h h2 (va_up (va_up (va_up (va_up (va_up (va_up (fun _ => none) 0 (some 1062)) 1 (some 1063)) 2 (some 1070)) 3 (some 1071)) 4 (some 1072)) 5 (some 1073)) (va_up (va_up (va_up (va_up (fun _ => 0) (8 + 2) (nI (60 + 10 * 2))) (8 + 3) (nI (60 + 10 * 3))) (8 + 4) (nI (60 + 10 * 4))) (8 + 5) (nI (60 + 10 * 5))) (fun _ => none) → h2.n = 1073 → q_G Φ true cX10_init yX10_init.cls mX10_init (q_Zm Φ true mX10_init (q_ex (q_pst 1061 12 h))) 89 [some (.ref 1061), some (.int (nI 6))] [] h2 0 0) : q_G Φ true cX10_init yX10_init.cls mX10_init (q_Zm Φ true mX10_init (q_ex (q_pst 1061 12 h))) 60 [some (.ref 1061), none] [] h0 0 0 := by
  have a1 : 1 ≤ 1061 := by decide
  have t0 : q_tag 1061 = 10 := rfl
  refine q_iconst (v := nI 2) dX10_init_60 (by decide) ?_
  refine q_istore_n (L' := [_, _]) dX10_init_61 rfl (by decide) rfl ?_
  refine q_iload_n dX10_init_62 rfl ?_
  refine q_iconst (v := nI 5) dX10_init_63 (by decide) ?_
  refine q_icmp_gt (tgt := 89) dX10_init_64 rfl (fun c => absurd c (by decide)) (fun _ => ?_)
  refine q_aload_n dX10_init_67 rfl ?_
  refine fRX10_9 dX10_init_68 t0 a1 (by omega) (m0.2.2.2.2.2.1 0 1062 rfl) ?_
  refine q_rfS ?_
  refine q_bipush (v := nI 8) dX10_init_71 (by decide) ?_
  refine q_iload_n dX10_init_73 rfl ?_
  refine q_iaddN dX10_init_74 ?_
  refine q_bipush (v := nI 60) dX10_init_75 (by decide) ?_
  refine q_bipush (v := nI 10) dX10_init_77 (by decide) ?_
  refine q_iload_n dX10_init_79 rfl ?_
  refine q_imulN dX10_init_80 ?_
  refine q_iaddN dX10_init_81 ?_
  refine q_iastN (len := 830) rfl dX10_init_82 (by decide) (by omega) rfl (by decide) (by decide) ?_
  have m1 := m0.putI (f := 8 + 2) (v := nI (60 + 10 * 2))
  have n1 : (h0.setI 1062 (8 + 2) (nI (60 + 10 * 2))).n = 1073 := n0
  generalize h0.setI 1062 (8 + 2) (nI (60 + 10 * 2)) = h1 at m1 n1 ⊢
  refine q_iinc (v := nI 3) (L' := [_, _]) dX10_init_83 rfl (by decide) rfl (by decide) rfl ?_
  refine q_goto (tgt := 62) dX10_init_86 rfl ?_
  refine q_iload_n dX10_init_62 rfl ?_
  refine q_iconst (v := nI 5) dX10_init_63 (by decide) ?_
  refine q_icmp_gt (tgt := 89) dX10_init_64 rfl (fun c => absurd c (by decide)) (fun _ => ?_)
  refine q_aload_n dX10_init_67 rfl ?_
  refine fRX10_9 dX10_init_68 t0 a1 (by omega) (m1.2.2.2.2.2.1 0 1062 rfl) ?_
  refine q_rfS ?_
  refine q_bipush (v := nI 8) dX10_init_71 (by decide) ?_
  refine q_iload_n dX10_init_73 rfl ?_
  refine q_iaddN dX10_init_74 ?_
  refine q_bipush (v := nI 60) dX10_init_75 (by decide) ?_
  refine q_bipush (v := nI 10) dX10_init_77 (by decide) ?_
  refine q_iload_n dX10_init_79 rfl ?_
  refine q_imulN dX10_init_80 ?_
  refine q_iaddN dX10_init_81 ?_
  refine q_iastN (len := 830) rfl dX10_init_82 (by decide) (by omega) rfl (by decide) (by decide) ?_
  have m2 := m1.putI (f := 8 + 3) (v := nI (60 + 10 * 3))
  have n2 : (h1.setI 1062 (8 + 3) (nI (60 + 10 * 3))).n = 1073 := n1
  generalize h1.setI 1062 (8 + 3) (nI (60 + 10 * 3)) = h2 at m2 n2 ⊢
  refine q_iinc (v := nI 4) (L' := [_, _]) dX10_init_83 rfl (by decide) rfl (by decide) rfl ?_
  refine q_goto (tgt := 62) dX10_init_86 rfl ?_
  refine q_iload_n dX10_init_62 rfl ?_
  refine q_iconst (v := nI 5) dX10_init_63 (by decide) ?_
  refine q_icmp_gt (tgt := 89) dX10_init_64 rfl (fun c => absurd c (by decide)) (fun _ => ?_)
  refine q_aload_n dX10_init_67 rfl ?_
  refine fRX10_9 dX10_init_68 t0 a1 (by omega) (m2.2.2.2.2.2.1 0 1062 rfl) ?_
  refine q_rfS ?_
  refine q_bipush (v := nI 8) dX10_init_71 (by decide) ?_
  refine q_iload_n dX10_init_73 rfl ?_
  refine q_iaddN dX10_init_74 ?_
  refine q_bipush (v := nI 60) dX10_init_75 (by decide) ?_
  refine q_bipush (v := nI 10) dX10_init_77 (by decide) ?_
  refine q_iload_n dX10_init_79 rfl ?_
  refine q_imulN dX10_init_80 ?_
  refine q_iaddN dX10_init_81 ?_
  refine q_iastN (len := 830) rfl dX10_init_82 (by decide) (by omega) rfl (by decide) (by decide) ?_
  have m3 := m2.putI (f := 8 + 4) (v := nI (60 + 10 * 4))
  have n3 : (h2.setI 1062 (8 + 4) (nI (60 + 10 * 4))).n = 1073 := n2
  generalize h2.setI 1062 (8 + 4) (nI (60 + 10 * 4)) = h3 at m3 n3 ⊢
  refine q_iinc (v := nI 5) (L' := [_, _]) dX10_init_83 rfl (by decide) rfl (by decide) rfl ?_
  refine q_goto (tgt := 62) dX10_init_86 rfl ?_
  refine q_iload_n dX10_init_62 rfl ?_
  refine q_iconst (v := nI 5) dX10_init_63 (by decide) ?_
  refine q_icmp_gt (tgt := 89) dX10_init_64 rfl (fun c => absurd c (by decide)) (fun _ => ?_)
  refine q_aload_n dX10_init_67 rfl ?_
  refine fRX10_9 dX10_init_68 t0 a1 (by omega) (m3.2.2.2.2.2.1 0 1062 rfl) ?_
  refine q_rfS ?_
  refine q_bipush (v := nI 8) dX10_init_71 (by decide) ?_
  refine q_iload_n dX10_init_73 rfl ?_
  refine q_iaddN dX10_init_74 ?_
  refine q_bipush (v := nI 60) dX10_init_75 (by decide) ?_
  refine q_bipush (v := nI 10) dX10_init_77 (by decide) ?_
  refine q_iload_n dX10_init_79 rfl ?_
  refine q_imulN dX10_init_80 ?_
  refine q_iaddN dX10_init_81 ?_
  refine q_iastN (len := 830) rfl dX10_init_82 (by decide) (by omega) rfl (by decide) (by decide) ?_
  have m4 := m3.putI (f := 8 + 5) (v := nI (60 + 10 * 5))
  have n4 : (h3.setI 1062 (8 + 5) (nI (60 + 10 * 5))).n = 1073 := n3
  generalize h3.setI 1062 (8 + 5) (nI (60 + 10 * 5)) = h4 at m4 n4 ⊢
  refine q_iinc (v := nI 6) (L' := [_, _]) dX10_init_83 rfl (by decide) rfl (by decide) rfl ?_
  refine q_goto (tgt := 62) dX10_init_86 rfl ?_
  refine q_iload_n dX10_init_62 rfl ?_
  refine q_iconst (v := nI 5) dX10_init_63 (by decide) ?_
  refine q_icmp_gt (tgt := 89) dX10_init_64 rfl (fun _ => ?_) (fun c => absurd (by decide) c)
  exact KK _ m4 n4
theorem g_X10_c {Φ : q_Fx} {h h0 : q_Hp} (m0 : q_mid2 1061 1062 h h0 (va_up (va_up (va_up (va_up (va_up (va_up (fun _ => none) 0 (some 1062)) 1 (some 1063)) 2 (some 1070)) 3 (some 1071)) 4 (some 1072)) 5 (some 1073)) (va_up (va_up (va_up (va_up (fun _ => 0) (8 + 2) (nI (60 + 10 * 2))) (8 + 3) (nI (60 + 10 * 3))) (8 + 4) (nI (60 + 10 * 4))) (8 + 5) (nI (60 + 10 * 5))) (fun _ => none)) (n0 : h0.n = 1073) : q_G Φ true cX10_init yX10_init.cls mX10_init (q_Zm Φ true mX10_init (q_ex (q_pst 1061 12 h))) 89 [some (.ref 1061), some (.int (nI 6))] [] h0 0 0 := by
  have a1 : 1 ≤ 1061 := by decide
  have t0 : q_tag 1061 = 10 := rfl
  refine q_aload_n dX10_init_89 rfl ?_
  refine fRX10_9 dX10_init_90 t0 a1 (by omega) (m0.2.2.2.2.2.1 0 1062 rfl) ?_
  refine q_rfS ?_
  refine q_bipush (v := nI 15) dX10_init_93 (by decide) ?_
  refine q_iconst (v := nI 1) dX10_init_95 (by decide) ?_
  refine q_iastN (len := 830) rfl dX10_init_96 (by decide) (by omega) rfl (by decide) (by decide) ?_
  have m1 := m0.putI (f := 15) (v := nI 1)
  have n1 : (h0.setI 1062 15 (nI 1)).n = 1073 := n0
  generalize h0.setI 1062 15 (nI 1) = h1 at m1 n1 ⊢
  refine q_aload_n dX10_init_97 rfl ?_
  refine fRX10_9 dX10_init_98 t0 a1 (by omega) (m1.2.2.2.2.2.1 0 1062 rfl) ?_
  refine q_rfS ?_
  refine q_bipush (v := nI 16) dX10_init_101 (by decide) ?_
  refine q_iconst (v := nI 2) dX10_init_103 (by decide) ?_
  refine q_iastN (len := 830) rfl dX10_init_104 (by decide) (by omega) rfl (by decide) (by decide) ?_
  have m2 := m1.putI (f := 16) (v := nI 2)
  have n2 : (h1.setI 1062 16 (nI 2)).n = 1073 := n1
  generalize h1.setI 1062 16 (nI 2) = h2 at m2 n2 ⊢
  refine q_aload_n dX10_init_105 rfl ?_
  refine fRX10_9 dX10_init_106 t0 a1 (by omega) (m2.2.2.2.2.2.1 0 1062 rfl) ?_
  refine q_rfS ?_
  refine q_bipush (v := nI 17) dX10_init_109 (by decide) ?_
  refine q_iconst (v := nI 3) dX10_init_111 (by decide) ?_
  refine q_iastN (len := 830) rfl dX10_init_112 (by decide) (by omega) rfl (by decide) (by decide) ?_
  have m3 := m2.putI (f := 17) (v := nI 3)
  have n3 : (h2.setI 1062 17 (nI 3)).n = 1073 := n2
  generalize h2.setI 1062 17 (nI 3) = h3 at m3 n3 ⊢
  refine q_aload_n dX10_init_113 rfl ?_
  refine fRX10_9 dX10_init_114 t0 a1 (by omega) (m3.2.2.2.2.2.1 0 1062 rfl) ?_
  refine q_rfS ?_
  refine q_bipush (v := nI 18) dX10_init_117 (by decide) ?_
  refine q_iconst (v := nI 5) dX10_init_119 (by decide) ?_
  refine q_iastN (len := 830) rfl dX10_init_120 (by decide) (by omega) rfl (by decide) (by decide) ?_
  have m4 := m3.putI (f := 18) (v := nI 5)
  have n4 : (h3.setI 1062 18 (nI 5)).n = 1073 := n3
  generalize h3.setI 1062 18 (nI 5) = h4 at m4 n4 ⊢
  refine q_aload_n dX10_init_121 rfl ?_
  refine fRX10_9 dX10_init_122 t0 a1 (by omega) (m4.2.2.2.2.2.1 0 1062 rfl) ?_
  refine q_rfS ?_
  refine q_bipush (v := nI 19) dX10_init_125 (by decide) ?_
  refine q_bipush (v := nI 8) dX10_init_127 (by decide) ?_
  refine q_iastN (len := 830) rfl dX10_init_129 (by decide) (by omega) rfl (by decide) (by decide) ?_
  have m5 := m4.putI (f := 19) (v := nI 8)
  have n5 : (h4.setI 1062 19 (nI 8)).n = 1073 := n4
  generalize h4.setI 1062 19 (nI 8) = h5 at m5 n5 ⊢
  refine q_vretM dX10_init_130 rfl (Or.inr rfl) ?_
  exact ⟨none, rfl, m5.fin (K := 12) n5 q_lk61 rfl q_z62.2.2 q_r62⟩
theorem g_X10_init {Φ : q_Fx} (hst : Φ.l.stackTraces = false) {h : q_Hp} (n0 : h.n = 1061) (hz : ∀ f, h.I 1061 f = 0) : q_Cm Φ true yX10_init cX10_init mX10_init [.ref 1061] h (q_ex (q_pst 1061 12 h)) := by
  refine q_enterM hst rfl rfl (fun _ => rfl) rfl (Nat.le_of_ble_eq_true rfl) (L := [_, none]) rfl ?_
  exact g_X10_a1 (h0 := h) n0 hz fun h1 m1 n1 => g_X10_a2 m1 n1 fun h2 m2 n2 => g_X10_a3 m2 n2 fun h3 m3 n3 => g_X10_a4 m3 n3 fun h4 m4 n4 => g_X10_a5 m4 n4 fun h5 m5 n5 => g_X10_a6 m5 n5 fun h6 m6 n6 => g_X10_b m6 n6 fun h7 m7 n7 => g_X10_c m7 n7
