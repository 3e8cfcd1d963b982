/-! THE LAW: ROWS -/
theorem q_dcs {x : UInt64} (h : FP.Core.dIsNaN x = false) (op : CmpOp) : Op.cmpValue (FP.dcmp x x) op = 0 := by
  rw [show FP.dcmp x x = some .eq from FP.Core.dcmp_self (fun e => by rw [(FP.Core.dIsNaN_iff x).mpr e] at h; cases h)]; rfl
theorem q_f2o {a : UInt32} (h : FP.Core.fIsNaN a = false) : FP.Core.dIsNaN (FP.f2d a) = false := by
  unfold FP.f2d
  rw [if_neg (by rw [h]; decide)]
  exact FP.Core.f2d_out h
/-- the words of a call of a method with handlers -/
abbrev q_cwH (y : MethodName) (cc' : ByteArray) (hh : List (Nat × Nat × Nat × Nat)) (M' : q_M) (n : Nat) : Prop := Cond.codeWith y cc' M'.nL M'.ret hh ∈ q_W0 ∧ Cond.initialized y.cls ∈ q_W0 ∧ y.cls ≠ "java/lang/invoke/MethodHandle" ∧ y.cls ≠ "java/lang/invoke/VarHandle" ∧ (parseMethodDescriptor y.desc).map (fun d => d.parameters.length) = some n
section Q56
variable {Φ : q_Fx} {xb : Bool} {cc : ByteArray} {own : String} {M : q_M} {Z : Program → Env → State → MethodId → Array Value → List Frame → State → Prop} {pc : Nat} {L L' : List (Option Value)} {S : List Value} {h : q_Hp} {kc ks : Nat}
theorem q_cbH {y : MethodName} {cc' : ByteArray} {hh : List (Nat × Nat × Nat × Nat)} {M' : q_M} {n index : Nat} {p : Program} {s : State} {m : MethodId} {args : Array Value} {meth : Method} {c : Code} (ok : q_Ok Φ cc own M p s m args meth c) (hw : q_cwH y cc' hh M' n) (hl : Cond.methodLink own index y ∈ q_W0) (hst : Cond.static y ∈ q_W0) (hR : q_fits M' M) :
    vx_CSW M.rm s args own index y cc' M'.nL M'.ret hh (Cond.codeWith y cc' M'.nL M'.ret hh :: q_W0) M'.rm M'.rm.cells M'.rm.slots n := by
  have hts := ok.2.2.2.2.1
  refine ⟨⟨rfl, rfl, hR.1, hR.2, fun w hw2 a' U hW => ?_, List.mem_cons_self⟩, hts _ hw.1, hts _ hw.2.1, ⟨hw.2.2.1, hw.2.2.2.1⟩, fun sig h9 => ?_, hts _ hl, hts _ hst⟩
  · rcases List.mem_cons.mp hw2 with e | e
    · rw [e]; exact word_at hW (q_W0_good hw.1) (hts _ hw.1)
    · exact word_at hW (q_W0_good e) (hts _ e)
  · have h2 := hw.2.2.2.2
    rw [h9] at h2
    exact (Option.some.inj h2).symm
/-- invokestatic of a method with handlers -/
theorem q_callH {y : MethodName} {cc' : ByteArray} {hh : List (Nat × Nat × Nat × Nat)} {M' : q_M} {index n : Nat} {As S0 : List Value} {Q' : Except String (Option Value) → q_Hp → Prop} {kc0 ks0 : Nat} (hC : q_CtH Φ y cc' hh M' As h Q') (hw : q_cwH y cc' hh M' n) (hl9 : Cond.methodLink own index y ∈ q_W0) (hst : Cond.static y ∈ q_W0)
    (hR : q_fits M' M) (hn : As.length = n) (hS0 : As.reverse ++ S = S0) (hcat : (S.map fun v => v.category).sum ≤ 8) (d : decode cc pc = .ok (.invokestatic index, 3)) (hkc : kc0 = kc + M'.rm.cells) (hks : ks0 = ks + M'.rm.slots)
    (Kx : ∀ (E : String) (h' : q_Hp), ¬ Q' (.error E) h') (Kv : ∀ (v : Option Value) (h' : q_Hp), Q' (.ok v) h' → q_G Φ false cc own M Z (pc + 3) L (v.toList ++ S) h' kc ks) :
    q_G Φ false cc own M Z pc L S0 h kc0 ks0 := by
  subst hkc hks
  intro p e s m args below meth c H locs cells slots ls ok rel hl hc hs
  subst hS0
  intro T0 hT0 X0
  have hz : false = true → H.size = Φ.bb + h.n := fun e9 => by cases e9
  have hr := vx_runSX (hh := hh) (As := As.map (q_cv Φ)) (rest := S.map (q_cv Φ)) (g := F0 m pc ls (((As.reverse ++ S)).map (q_cv Φ))) ⟨ok.1, ok.2.1, ok.2.2.1, ok.2.2.2.1, ok.2.2.2.2.1⟩ hC (q_cbH ok hw hl9 hst hR)
    ⟨q_blind Φ false _ h, fun U hU hW => q_pre rel hz hU hW rfl⟩ (cells := cells) (slots := slots) (locs := locs) (e := e) (below := below) (meth := meth) rfl (by rw [List.length_map]; exact hn) hl.1 (by simp [List.map_append, List.map_reverse]) (lv_room (by rw [List.map_map]; simpa [Function.comp_def, q_cv_cat] using hcat)) d ⟨by omega, by omega⟩
  exact q_ofRun hr ok rel hl (by omega) (by omega) Kv (fun E h' q => absurd q (Kx E h')) T0 hT0 X0
theorem q_sldN {k : Nat} (hk : k < Φ.L) (hL : Φ.L ≤ 2048) (d : decode cc pc = .ok (.iaload, 1)) (K : q_G Φ xb cc own M Z (pc + 1) L (.int (Φ.xs k) :: S) h kc ks) : q_G Φ xb cc own M Z pc L (.int (nI k) :: .ref 0 :: S) h kc ks := q_sld d (vp_in_nI hk (by omega)) (by rw [nI_clamp (by omega)]; exact K)
theorem q_laldN {x : Int64} (h1 : h.J 1074 0 = x) (h2 : 1074 ≤ h.n) (d : decode cc pc = .ok (.laload, 1)) (K : q_G Φ xb cc own M Z (pc + 1) L (.long x :: S) h kc ks) : q_G Φ xb cc own M Z pc L (.int (nI 0) :: .ref 1074 :: S) h kc ks := q_lald rfl d (by decide) h2 (vp_in_nI (show 0 < 1 by decide) (by decide)) (by rw [show (nI 0).toNatClampNeg = 0 from rfl, h1]; exact K)
theorem q_daldN {x : UInt64} (h1 : h.E 1075 0 = x) (h2 : 1075 ≤ h.n) (d : decode cc pc = .ok (.daload, 1)) (K : q_G Φ xb cc own M Z (pc + 1) L (.double x :: S) h kc ks) : q_G Φ xb cc own M Z pc L (.int (nI 0) :: .ref 1075 :: S) h kc ks := q_dald rfl d (by decide) h2 (vp_in_nI (show 0 < 1 by decide) (by decide)) (by rw [show (nI 0).toNatClampNeg = 0 from rfl, h1]; exact K)
theorem q_lcmp0 {x : Int64} (d : decode cc pc = .ok (.lcmp, 1)) (K : q_G Φ xb cc own M Z (pc + 1) L (.int (nI 0) :: S) h kc ks) : q_G Φ xb cc own M Z pc L (.long x :: .long x :: S) h kc ks := q_lcmp d (by rw [show lg_cmp x x = nI 0 by unfold lg_cmp; simp [Int64.lt_irrefl]; rfl]; exact K)
theorem q_dcmp0 {x : UInt64} {op : CmpOp} (hx : FP.Core.dIsNaN x = false) (d : decode cc pc = .ok (.dcmp op, 1)) (K : q_G Φ xb cc own M Z (pc + 1) L (.int (nI 0) :: S) h kc ks) : q_G Φ xb cc own M Z pc L (.double x :: .double x :: S) h kc ks := q_dcmp d (by rw [q_dcs hx]; exact K)
end Q56
/-! THE LAW'S OWN METHOD -/
def mL_law : q_M := (10, ret, false, [], room_1)
/-- the locals of the law's loop, call number i -/
abbrev q_L0 (i : Nat) : List (Option Value) := [some (.ref 0), some (.ref 1), some (.ref 1061), some (.ref 1074), some (.ref 1075), some (.int (nI (4 * i))), none, none, none, none]
/-- what is left when call number c is done: on at 2788 -/
def q_goes (Φ : q_Fx) (Z : Program → Env → State → MethodId → Array Value → List Frame → State → Prop) (i c kc ks : Nat) : Prop := ∀ h2 kc' ks', q_next c h2 → q_Lk Φ h2.R h2.n → kc ≤ kc' → ks ≤ ks' → q_G Φ false cL_law RL mL_law Z 2788 (q_L0 i) [] h2 kc' ks'
section QLAW
variable {Φ : q_Fx} {Z : Program → Env → State → MethodId → Array Value → List Frame → State → Prop} {pc i c a kc ks kc' ks' : Nat} {b : Int32} {h2 : q_Hp} {off : Int}
/-- behind both answers: the same code, and with code 0 the same value -/
theorem q_tail (K2 : q_Lk Φ h2.R h2.n) (ha : a ≤ 3) (e12 : h2.I 1061 12 = nI a) (eJ : a = 0 → h2.J 1074 0 = b.toInt64) (nx : q_next c h2) (G : q_goes Φ Z i c kc ks) (hkc : kc ≤ kc') (hks : ks ≤ ks')
    (d0 : decode cL_law pc = .ok (.aload_n 2, 1)) (d1 : decode cL_law (pc + 1) = .ok (.invokevirtual 158, 3)) (d4 : decode cL_law (pc + 4) = .ok (.iload 6, 2)) (d6 : decode cL_law (pc + 6) = .ok (.if_icmp .eq 5, 3)) (d11 : decode cL_law (pc + 11) = .ok (.iload 6, 2)) (d13 : decode cL_law (pc + 13) = .ok (.ifCond .ne 15, 3))
    (d16 : decode cL_law (pc + 16) = .ok (.aload_n 3, 1)) (d17 : decode cL_law (pc + 17) = .ok (.iconst 0, 1)) (d18 : decode cL_law (pc + 18) = .ok (.laload, 1)) (d19 : decode cL_law (pc + 19) = .ok (.iload 7, 2)) (d21 : decode cL_law (pc + 21) = .ok (.i2l, 1)) (d22 : decode cL_law (pc + 22) = .ok (.lcmp, 1)) (d23 : decode cL_law (pc + 23) = .ok (.ifCond .eq 5, 3)) (d28 : decode cL_law (pc + 28) = .ok (.goto off, 3)) (ho : ((pc + 28 : Nat) : Int) + off = (2788 : Nat)) :
    q_G Φ false cL_law RL mL_law Z pc [some (.ref 0), some (.ref 1), some (.ref 1061), some (.ref 1074), some (.ref 1075), some (.int (nI (4 * i))), some (.int (nI a)), some (.int b), none, none] [] h2 kc' ks' := by
  have fin : q_G Φ false cL_law RL mL_law Z (pc + 28) [some (.ref 0), some (.ref 1), some (.ref 1061), some (.ref 1074), some (.ref 1075), some (.int (nI (4 * i))), some (.int (nI a)), some (.int b), none, none] [] h2 kc' ks' :=
    q_goto d28 ho (q_to (G h2 kc' ks' nx K2 hkc hks) ⟨rfl, rfl, rfl, rfl, rfl, rfl, trivial⟩ rfl)
  refine q_aload_n d0 rfl ?_
  refine q_vD (kc := kc') (ks := ks') (g_X10_thrown (h := h2) K2 e12) wX10_thrown kL_158 iX10_thrown eX10_thrown rfl rfl (by decide) (K2.le (by decide)) (by decide) rfl rfl (Nat.le_of_ble_eq_true rfl) d1 rfl rfl ?_
  refine q_iload d4 rfl ?_
  refine q_icmp_eq (tgt := pc + 11) d6 (by omega) (fun _ => ?_) (fun e => absurd rfl e)
  refine q_iload d11 rfl ?_
  refine q_if_neN (tgt := pc + 28) (by omega) d13 (by omega) (fun _ => fin) (fun e0 => ?_)
  have eJ := eJ e0
  refine q_aload_n d16 rfl ?_
  refine q_iconst (v := nI 0) d17 (by decide) ?_
  refine q_laldN eJ (K2.le (by decide)) d18 ?_
  refine q_iload d19 rfl ?_
  refine q_i2l d21 ?_
  refine q_lcmp0 d22 ?_
  exact q_if_eq (tgt := pc + 28) d23 (by omega) (fun _ => fin) (fun e => absurd rfl e)
end QLAW
