/-! METHODS WITH HANDLERS -/
/-- a contract of a method with handlers -/
def q_CtH (Φ : q_Fx) (y : MethodName) (cc : ByteArray) (hh : List (Nat × Nat × Nat × Nat)) (M : q_M) (As : List Value) (h : q_Hp) (Q : Except String (Option Value) → q_Hp → Prop) : Prop :=
  vx_Met Φ.l y (Cond.codeWith y cc M.nL M.ret hh :: q_W0) M.rm (q_Pc Φ false As h) (q_Qc Φ false M.rm.cells Q) (q_XC Φ M.rm.cells Q) M.rm.cells M.rm.slots (q_A Φ)
theorem q_enterH {Φ : q_Fx} {y : MethodName} {cc : ByteArray} {hh : List (Nat × Nat × Nat × Nat)} {M : q_M} {As : List Value} {h : q_Hp} {Q : Except String (Option Value) → q_Hp → Prop} (hst : Φ.l.stackTraces = false) (hy : plainName y.cls = true) (htb : M.tbl = tableOf hh) (hini : M.ini = false) (hcat : q_cat1 As = true) (hlen : As.length ≤ M.nL)
    {L : List (Option Value)} (hL : As.map some ++ List.replicate (M.nL - As.length) none = L) (K : q_G Φ false cc y.cls M (q_Zx Φ false M Q) 0 L [] h M.rm.cells M.rm.slots) : q_CtH Φ y cc hh M As h Q := by
  subst hL
  refine vx_ofWH (cc := cc) (maxL := M.nL) (ret := M.ret) (hh := hh) hy rfl ?_
  intro p e s m args below meth c s₁ B hml hv
  obtain ⟨rfl, hK, hP, hX, hb1, hb2, hE, hx⟩ := hv
  have hts := atoms_spec (ws := Cond.codeWith y cc M.nL M.ret hh :: q_W0) B.pre
  have hc1 : ∀ v ∈ As.map (q_cv Φ), v.category = 1 := fun v hv => by
    obtain ⟨u, hu, rfl⟩ := List.mem_map.mp hv
    rw [q_cv_cat]; exact q_cat1_of hcat u hu
  have hl := lv_entry (As.map (q_cv Φ)) (n := M.nL) (by rw [q_sl1 _ hc1, List.length_map]; exact hlen)
  rw [lg_entry_eq]
  generalize (lg_sl (As.map (q_cv Φ)) ++ List.replicate (M.nL - (lg_sl (As.map (q_cv Φ))).length) Slot.unset).toArray = ls at hl ⊢
  refine K p e s m _ below meth c s.heap [] 0 0 ls ⟨B.exec, B.bytes, hml, findClass_of_methodNamed B.named, fun w hw => hts w (List.mem_cons_of_mem _ hw), B.returns, B.notSynchronized, fun e9 => (by rw [hini] at e9; cases e9), ?_, hst⟩ ⟨hK, hP, va_S.rf, hX, hb1, hb2, hE, fun e9 => by cases e9⟩ (q_has_sub hl (q_args Φ As 0 _ (q_cat1_of hcat))) (Nat.zero_add _) (Nat.zero_add _)
  rw [htb]
  exact vx_table (x := y) B (hts _ List.mem_cons_self)
section QHH
variable {Φ : q_Fx} {cc : ByteArray} {own : String} {M : q_M} {Z : Program → Env → State → MethodId → Array Value → List Frame → State → Prop} {pc : Nat} {L L' : List (Option Value)} {S : List Value} {h : q_Hp} {kc ks : Nat}
theorem q_has0 {ls : Array Slot} {nL i x : Nat} (hl2 : lv_has ls nL ((i, Value.ref x) :: (q_mk Φ 0 L).filter (fun q => !(q.1 == i) && !(q.1 + 1 == i && q.2.category == 2)))) (hw : q_nw1 L i = true) (hL : L.set i none = L') : lv_has ls nL (q_mk Φ 0 L') := by
  subst hL
  refine q_has_sub hl2 fun q hq => ?_
  obtain ⟨k, u, h1, rfl⟩ := q_mk_of Φ _ 0 q hq
  rw [Nat.zero_add]
  by_cases hk : i = k
  · subst hk
    have hl : i < L.length := by
      have := (List.getElem?_eq_some_iff.mp h1).1
      rwa [List.length_set] at this
    rw [List.getElem?_set_self hl] at h1
    cases h1
  · rw [List.getElem?_set_ne hk] at h1
    refine List.mem_cons_of_mem _ (List.mem_filter.mpr ⟨by have := q_mk_get Φ L 0 k u h1; rwa [Nat.zero_add] at this, ?_⟩)
    have e1 : (k == i) = false := by simp; exact fun h => hk h.symm
    by_cases hk2 : k + 1 = i
    · subst hk2
      have hc := q_nw1_of hw h1
      simp [e1, q_cv_cat, hc]
    · simp [e1, hk2]
/-- caught by this row, and laid into a local that nobody reads -/
theorem q_catchN {E name : String} {pre suf : List ExceptionTableEntry} {x : ExceptionTableEntry} {k : Fin 4} (ht : M.tbl = pre ++ x :: suf) (hpass : ∀ z ∈ pre, z.catchType ≠ 0 ∧ ∃ nm, Cond.classLink own z.catchType nm ∈ q_W0 ∧ (E, nm) ∈ q_ncs) (hx : covers x pc = true) (h0 : x.catchType ≠ 0) (hlink : Cond.classLink own x.catchType name ∈ q_W0) (hcast : Cond.castable E name ∈ q_nw)
    (d : decode cc x.handlerPc = .ok (.astore_n k, 1)) (hL : L.set k.val none = L') (hn : k.val < M.nL) (hw : q_nw1 L k.val = true) (K : q_G Φ false cc own M Z (x.handlerPc + 1) L' [] h kc ks) : q_X Φ cc own M Z pc L E h kc ks := by
  intro p e s m args below meth c H locs cells slots ls q ce rest ok rel hl hc hs h1 h2 h3
  have hE := rel.2.2.2.2.2.2.1
  refine vx_catch ok.2.2.2.1 pre x suf (by rw [ok.2.2.2.2.2.2.2.2.1, ht]) (fun z hz => ?_) hx h0 (ok.2.2.2.2.1 _ hlink) (va_Nw.use (q_nk_on (q_nw_nk _ hcast)) (hE.2.2.2.1 _ hcast)) h1 h2 h3 ?_
  · obtain ⟨hz0, nm, hn1, hn2⟩ := hpass z hz
    exact Or.inr ⟨hz0, nm, ok.2.2.2.2.1 _ hn1, hE.2.2.2.2.2.2.2.2.2 _ hn2⟩
  · exact lv_astore_n ok.1 ok.2.1 d rfl hl hn rfl (fun ls2 hl2 => K p e s m args below meth c H locs cells slots ls2 ok rel (q_has0 hl2 hw hL) hc hs)
theorem q_catch {E name : String} {pre suf : List ExceptionTableEntry} {x : ExceptionTableEntry} {k : Nat} (ht : M.tbl = pre ++ x :: suf) (hpass : ∀ z ∈ pre, z.catchType ≠ 0 ∧ ∃ nm, Cond.classLink own z.catchType nm ∈ q_W0 ∧ (E, nm) ∈ q_ncs) (hx : covers x pc = true) (h0 : x.catchType ≠ 0) (hlink : Cond.classLink own x.catchType name ∈ q_W0) (hcast : Cond.castable E name ∈ q_nw)
    (d : decode cc x.handlerPc = .ok (.astore k, 2)) (hL : L.set k none = L') (hn : k < M.nL) (hw : q_nw1 L k = true) (K : q_G Φ false cc own M Z (x.handlerPc + 2) L' [] h kc ks) : q_X Φ cc own M Z pc L E h kc ks := by
  intro p e s m args below meth c H locs cells slots ls q ce rest ok rel hl hc hs h1 h2 h3
  have hE := rel.2.2.2.2.2.2.1
  refine vx_catch ok.2.2.2.1 pre x suf (by rw [ok.2.2.2.2.2.2.2.2.1, ht]) (fun z hz => ?_) hx h0 (ok.2.2.2.2.1 _ hlink) (va_Nw.use (q_nk_on (q_nw_nk _ hcast)) (hE.2.2.2.1 _ hcast)) h1 h2 h3 ?_
  · obtain ⟨hz0, nm, hn1, hn2⟩ := hpass z hz
    exact Or.inr ⟨hz0, nm, ok.2.2.2.2.1 _ hn1, hE.2.2.2.2.2.2.2.2.2 _ hn2⟩
  · exact lv_astore ok.1 ok.2.1 d hl hn rfl (fun ls2 hl2 => K p e s m args below meth c H locs cells slots ls2 ok rel (q_has0 hl2 hw hL) hc hs)
end QHH
/-- the words of a call of a method with handlers -/
abbrev q_cwH (y : MethodName) (cc' : ByteArray) (hh : List (Nat × Nat × Nat × Nat)) (M' : q_M) (n : Nat) : Prop := Cond.codeWith y cc' M'.nL M'.ret hh ∈ q_W0 ∧ Cond.initialized y.cls ∈ q_W0 ∧ y.cls ≠ "java/lang/invoke/MethodHandle" ∧ y.cls ≠ "java/lang/invoke/VarHandle" ∧ (parseMethodDescriptor y.desc).map (fun d => d.parameters.length) = some n
section Q56
variable {Φ : q_Fx} {xb : Bool} {cc : ByteArray} {own : String} {M : q_M} {Z : Program → Env → State → MethodId → Array Value → List Frame → State → Prop} {pc : Nat} {L L' : List (Option Value)} {S : List Value} {h : q_Hp} {kc ks : Nat}
theorem q_cbH {y : MethodName} {cc' : ByteArray} {hh : List (Nat × Nat × Nat × Nat)} {M' : q_M} {n index : Nat} {p : Program} {s : State} {m : MethodId} {args : Array Value} {meth : Method} {c : Code} (ok : q_Ok Φ cc own M p s m args meth c) (hw : q_cwH y cc' hh M' n) (hl : Cond.methodLink own index y ∈ q_W0) (hst : Cond.static y ∈ q_W0) (hR : q_fits M' M) :
    vx_CSW M.rm s args own index y cc' M'.nL M'.ret hh (Cond.codeWith y cc' M'.nL M'.ret hh :: q_W0) M'.rm M'.rm.cells M'.rm.slots n := by
  have hts := ok.2.2.2.2.1
  refine ⟨⟨rfl, rfl, hR.1, hR.2, fun w hw2 a' U hW => ?_, List.mem_cons_self⟩, hts _ hw.1, hts _ hw.2.1, ⟨hw.2.2.1, hw.2.2.2.1⟩, fun sig h9 => ?_, hts _ hl, hts _ hst⟩
  · rcases List.mem_cons.mp hw2 with e | e
    · rw [e]; exact word_at hW (q_W0_good hw.1) (hts _ hw.1)
    · exact word_at hW (q_W0_good e) (hts _ e)
  · have h2 := hw.2.2.2.2
    rw [h9] at h2
    exact (Option.some.inj h2).symm
/-- invokestatic of a method with handlers -/
theorem q_callH {y : MethodName} {cc' : ByteArray} {hh : List (Nat × Nat × Nat × Nat)} {M' : q_M} {index n : Nat} {As S0 : List Value} {Q' : Except String (Option Value) → q_Hp → Prop} {kc0 ks0 : Nat} (hC : q_CtH Φ y cc' hh M' As h Q') (hw : q_cwH y cc' hh M' n) (hl9 : Cond.methodLink own index y ∈ q_W0) (hst : Cond.static y ∈ q_W0)
    (hR : q_fits M' M) (hn : As.length = n) (hS0 : As.reverse ++ S = S0) (hcat : (S.map fun v => v.category).sum ≤ 8) (d : decode cc pc = .ok (.invokestatic index, 3)) (hkc : kc0 = kc + M'.rm.cells) (hks : ks0 = ks + M'.rm.slots)
    (Kx : ∀ (E : String) (h' : q_Hp), ¬ Q' (.error E) h') (Kv : ∀ (v : Option Value) (h' : q_Hp), Q' (.ok v) h' → q_G Φ false cc own M Z (pc + 3) L (v.toList ++ S) h' kc ks) :
    q_G Φ false cc own M Z pc L S0 h kc0 ks0 := by
  subst hkc hks
  intro p e s m args below meth c H locs cells slots ls ok rel hl hc hs
  subst hS0
  intro T0 hT0 X0
  have hz : false = true → q_mkg Φ h.n h.J H.size := fun e9 => by cases e9
  have hr := vx_runSX (hh := hh) (As := As.map (q_cv Φ)) (rest := S.map (q_cv Φ)) (g := F0 m pc ls (((As.reverse ++ S)).map (q_cv Φ))) ⟨ok.1, ok.2.1, ok.2.2.1, ok.2.2.2.1, ok.2.2.2.2.1⟩ hC (q_cbH ok hw hl9 hst hR)
    ⟨q_blind Φ false _ h, fun U hU hW => q_pre rel hz hU hW rfl⟩ (cells := cells) (slots := slots) (locs := locs) (e := e) (below := below) (meth := meth) rfl (by rw [List.length_map]; exact hn) hl.1 (by simp [List.map_append, List.map_reverse]) (lv_room (by rw [List.map_map]; simpa [Function.comp_def, q_cv_cat] using hcat)) d ⟨by omega, by omega⟩
  exact q_ofRun hr ok rel hl (by omega) (by omega) Kv (fun E h' q => absurd q (Kx E h')) T0 hT0 X0
end Q56
