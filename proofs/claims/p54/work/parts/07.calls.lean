/-! CALLS, ENDS, THROWS, MAKING -/
/-- a method's start and end -/
def q_Pc (Φ : q_Fx) (xb : Bool) (As : List Value) (h : q_Hp) : Array Value → State → Prop := fun v U =>
  v = (As.map (q_cv Φ)).toArray ∧ va_K Φ.D q_cl (q_tys Φ) U ∧ va_P Φ.D q_cl (q_ws Φ h) U.heap ∧ va_X Φ.b Φ.L Φ.xs U U.heap ∧ (Φ.b < Φ.bb ∧ q_dok Φ h.n h.J) ∧ Φ.bb ≤ U.heap.size ∧ q_Ext Φ U U.heap ∧ (xb = true → q_mkg Φ h.n h.J U.heap.size)
def q_Po (Φ : q_Fx) (xb : Bool) (mc : Nat) (h' : q_Hp) (st t : State) : Prop := va_P Φ.D q_cl (q_ws Φ h') t.heap ∧ q_dok Φ h'.n h'.J ∧ va_F (q_A Φ) st t ∧ (xb = true → q_mkg Φ h'.n h'.J (st.heap.size + mc))
def q_Qc (Φ : q_Fx) (xb : Bool) (mc : Nat) (Q : Except String (Option Value) → q_Hp → Prop) : Array Value → State → Outcome → State → Prop := fun _ st o t => ∃ (v : Option Value) (h' : q_Hp), o = .returned (v.map (q_cv Φ)) ∧ Q (.ok v) h' ∧ q_Po Φ xb mc h' st t
def q_XC (Φ : q_Fx) (mc : Nat) (Q : Except String (Option Value) → q_Hp → Prop) : String → State → State → Prop := fun E st t => ∃ h' : q_Hp, Q (.error E) h' ∧ q_Po Φ false mc h' st t
/-- THE CONTRACT: method y, called with As over the heap h, comes to an end that Q holds of -/
def q_Ct (Φ : q_Fx) (xb : Bool) (y : MethodName) (cc : ByteArray) (M : q_M) (As : List Value) (h : q_Hp) (Q : Except String (Option Value) → q_Hp → Prop) : Prop :=
  vx_Met Φ.l y (Cond.code y cc M.nL M.ret :: q_W0) M.rm (q_Pc Φ xb As h) (q_Qc Φ xb M.rm.cells Q) (q_XC Φ M.rm.cells Q) M.rm.cells M.rm.slots (q_A Φ)
/-- the same of a method that throws nothing (for nest mates and constructors) -/
def q_Cm (Φ : q_Fx) (xb : Bool) (y : MethodName) (cc : ByteArray) (M : q_M) (As : List Value) (h : q_Hp) (Q : Except String (Option Value) → q_Hp → Prop) : Prop :=
  Met Φ.l y (Cond.code y cc M.nL M.ret :: q_W0) M.rm (q_Pc Φ xb As h) (q_Qc Φ xb M.rm.cells Q) M.rm.cells M.rm.slots (q_A Φ)
abbrev q_Zx (Φ : q_Fx) (xb : Bool) (M : q_M) (Q : Except String (Option Value) → q_Hp → Prop) : Program → Env → State → MethodId → Array Value → List Frame → State → Prop := fun _ _ s _ args below => vx_MQ below (q_Qc Φ xb M.rm.cells Q) (q_XC Φ M.rm.cells Q) args s M.rm.cells M.rm.slots (q_A Φ)
abbrev q_Zm (Φ : q_Fx) (xb : Bool) (M : q_M) (Q : Except String (Option Value) → q_Hp → Prop) : Program → Env → State → MethodId → Array Value → List Frame → State → Prop := fun _ _ s _ args below => MQ below (q_Qc Φ xb M.rm.cells Q) args s M.rm.cells M.rm.slots (q_A Φ)
theorem q_blind (Φ : q_Fx) (xb : Bool) (As : List Value) (h : q_Hp) : FrameBlind (q_Pc Φ xb As h) := by
  intro a U g mk hp
  obtain ⟨h1, h2, h3, h4, h5, h6, h7, h8⟩ := hp
  exact ⟨h1, va_K.moved (u := U) (U := U.calling g mk a) (Vm.Alike.refl U.vm) h2, h3, va_X.moved (u := U) (U := U.calling g mk a) (Vm.Alike.refl U.vm) h4, h5, h6, q_Ext_same (u := U) (U := U.calling g mk a) rfl h7, h8⟩
theorem q_args (Φ : q_Fx) : ∀ (As : List Value) (i k : Nat), (∀ v ∈ As, v.category = 1) → ∀ q ∈ q_mk Φ i (As.map some ++ List.replicate k none), q ∈ lv_args i (As.map (q_cv Φ))
  | [], i, k, _, q, hq => by
    exfalso
    obtain ⟨j, v, h1, -⟩ := q_mk_of Φ _ i q hq
    simp only [List.map_nil, List.nil_append] at h1
    rw [List.getElem?_replicate] at h1
    split at h1 <;> cases h1
  | v :: t, i, k, hc, q, hq => by
    have h1 : v.category = 1 := hc v List.mem_cons_self
    rcases List.mem_cons.mp (show q ∈ (i, q_cv Φ v) :: q_mk Φ (i + 1) (t.map some ++ List.replicate k none) from hq) with e | e
    · rw [e]; exact List.mem_cons_self
    · have h2 := q_args Φ t (i + 1) k (fun u hu => hc u (List.mem_cons_of_mem _ hu)) q e
      show q ∈ (i, q_cv Φ v) :: lv_args (if (q_cv Φ v).category = 2 then i + 2 else i + 1) (t.map (q_cv Φ))
      rw [q_cv_cat, h1, if_neg (by decide)]
      exact List.mem_cons_of_mem _ h2
/-- all 1 word wide -/
def q_cat1 (As : List Value) : Bool := As.all (fun v => v.category == 1)
theorem q_cat1_of {As : List Value} (h : q_cat1 As = true) : ∀ v ∈ As, v.category = 1 := fun v hv => by
  have := List.all_eq_true.mp h v hv
  simpa using this
theorem q_sl1 : ∀ (vs : List Value), (∀ v ∈ vs, v.category = 1) → (lg_sl vs).length = vs.length
  | [], _ => rfl
  | v :: t, h => by
    have h1 : v.category = 1 := h v List.mem_cons_self
    have h2 := q_sl1 t (fun u hu => h u (List.mem_cons_of_mem _ hu))
    rw [show lg_sl (v :: t) = Slot.val v :: lg_sl t by simp [lg_sl, h1], List.length_cons, List.length_cons, h2]
/-- into a body -/
theorem q_enter {Φ : q_Fx} {xb : Bool} {y : MethodName} {cc : ByteArray} {M : q_M} {As : List Value} {h : q_Hp} {Q : Except String (Option Value) → q_Hp → Prop} (hst : Φ.l.stackTraces = false) (hy : plainName y.cls = true) (htb : M.tbl = []) (hini : M.ini = true → y.name = "<init>") (hcat : q_cat1 As = true) (hlen : As.length ≤ M.nL)
    {L : List (Option Value)} (hL : As.map some ++ List.replicate (M.nL - As.length) none = L) (K : q_G Φ xb cc y.cls M (q_Zx Φ xb M Q) 0 L [] h M.rm.cells M.rm.slots) : q_Ct Φ xb y cc M As h Q := by
  subst hL
  refine vx_ofW (cc := cc) (maxL := M.nL) (ret := M.ret) hy rfl ?_
  intro p e s m args below meth c s₁ B hml hnt hv
  obtain ⟨rfl, hK, hP, hX, hb1, hb2, hE, hx⟩ := hv
  have hts := atoms_spec (ws := Cond.code y cc M.nL M.ret :: q_W0) B.pre
  have hc1 : ∀ v ∈ As.map (q_cv Φ), v.category = 1 := fun v hv => by
    obtain ⟨u, hu, rfl⟩ := List.mem_map.mp hv
    rw [q_cv_cat]; exact q_cat1_of hcat u hu
  have hl := lv_entry (As.map (q_cv Φ)) (n := M.nL) (by rw [q_sl1 _ hc1, List.length_map]; exact hlen)
  rw [lg_entry_eq]
  generalize (lg_sl (As.map (q_cv Φ)) ++ List.replicate (M.nL - (lg_sl (As.map (q_cv Φ))).length) Slot.unset).toArray = ls at hl ⊢
  refine K p e s m _ below meth c s.heap [] 0 0 ls ⟨B.exec, B.bytes, hml, findClass_of_methodNamed B.named, fun w hw => hts w (List.mem_cons_of_mem _ hw), B.returns, B.notSynchronized, fun e9 => ?_, ?_, hst⟩ ⟨hK, hP, va_S.rf, hX, hb1, hb2, hE, fun e9 => by rw [Nat.add_zero]; exact hx e9⟩ (q_has_sub hl (q_args Φ As 0 _ (q_cat1_of hcat))) (Nat.zero_add _) (Nat.zero_add _)
  · rw [(name_of_methodNamed B.named B.method).1]; exact hini e9
  · rw [htb]
    cases hq : c.exceptionTable.toList with
    | nil => rfl
    | cons z t => exact absurd (hnt z (by rw [hq]; exact List.mem_cons_self)) id
theorem q_enterM {Φ : q_Fx} {xb : Bool} {y : MethodName} {cc : ByteArray} {M : q_M} {As : List Value} {h : q_Hp} {Q : Except String (Option Value) → q_Hp → Prop} (hst : Φ.l.stackTraces = false) (hy : plainName y.cls = true) (htb : M.tbl = []) (hini : M.ini = true → y.name = "<init>") (hcat : q_cat1 As = true) (hlen : As.length ≤ M.nL)
    {L : List (Option Value)} (hL : As.map some ++ List.replicate (M.nL - As.length) none = L) (K : q_G Φ xb cc y.cls M (q_Zm Φ xb M Q) 0 L [] h M.rm.cells M.rm.slots) : q_Cm Φ xb y cc M As h Q := by
  subst hL
  refine Met.ofW (cc := cc) (maxL := M.nL) (ret := M.ret) hy rfl ?_
  intro p e s m args below meth c s₁ B hml hv
  obtain ⟨rfl, hK, hP, hX, hb1, hb2, hE, hx⟩ := hv
  have hts := atoms_spec (ws := Cond.code y cc M.nL M.ret :: q_W0) B.pre
  have hc1 : ∀ v ∈ As.map (q_cv Φ), v.category = 1 := fun v hv => by
    obtain ⟨u, hu, rfl⟩ := List.mem_map.mp hv
    rw [q_cv_cat]; exact q_cat1_of hcat u hu
  have hl := lv_entry (As.map (q_cv Φ)) (n := M.nL) (by rw [q_sl1 _ hc1, List.length_map]; exact hlen)
  rw [lg_entry_eq]
  generalize (lg_sl (As.map (q_cv Φ)) ++ List.replicate (M.nL - (lg_sl (As.map (q_cv Φ))).length) Slot.unset).toArray = ls at hl ⊢
  refine K p e s m _ below meth c s.heap [] 0 0 ls ⟨B.exec, B.bytes, hml, findClass_of_methodNamed B.named, fun w hw => hts w (List.mem_cons_of_mem _ hw), B.returns, B.notSynchronized, fun e9 => ?_, ?_, hst⟩ ⟨hK, hP, va_S.rf, hX, hb1, hb2, hE, fun e9 => by rw [Nat.add_zero]; exact hx e9⟩ (q_has_sub hl (q_args Φ As 0 _ (q_cat1_of hcat))) (Nat.zero_add _) (Nat.zero_add _)
  · rw [(name_of_methodNamed B.named B.method).1]; exact hini e9
  · rw [htb]
    obtain ⟨meth9, c9, h1, h2, -, -, -, -, h7, -⟩ := Cond.code_spec B.named (hts _ List.mem_cons_self)
    cases Option.some.inj (h1.symm.trans B.method)
    cases Option.some.inj (h2.symm.trans (Stand.of_body B).code)
    rw [Array.isEmpty_iff.mp h7]
section QC
variable {Φ : q_Fx} {xb : Bool} {cc : ByteArray} {own : String} {M : q_M} {pc : Nat} {L L' : List (Option Value)} {S : List Value} {h : q_Hp} {kc ks : Nat} {Q : Except String (Option Value) → q_Hp → Prop}
/-! the ends -/
theorem q_iret {v : Int32} (d : decode cc pc = .ok (.ireturn, 1)) (hr : M.ret = some .int) (hk : xb = false ∨ kc = 0) (hQ : Q (.ok (some (.int v))) h) : q_G Φ xb cc own M (q_Zx Φ xb M Q) pc L [.int v] h kc ks := by
  intro p e s m args below meth c H locs cells slots ls ok rel hl hc hs
  refine vx_ret (W.widen (k := M.rm.cells) (n := M.rm.slots) (by omega) (by omega) ?_)
  exact W.iret ok.1 ok.2.1 (ok.2.2.2.2.2.1.trans hr) (fun t ht hW => ⟨some (.int v), h, rfl, hQ, by rw [ht]; exact rel.2.1, rel.2.2.2.2.1.2, rel.2.2.1.F ht, fun e9 => ⟨by have := (rel.2.2.2.2.2.2.2 e9).1; rcases hk with q | q; (rw [q] at e9; cases e9); omega, (rel.2.2.2.2.2.2.2 e9).2⟩⟩) rel.2.2.1.2.2 d (hlocks := ok.2.2.2.2.2.2.1)
theorem q_zret {v : Int32} {ty : FieldType} (d : decode cc pc = .ok (.ireturn, 1)) (hr : M.ret = some ty) (hn : narrow ty (.int v) = .int v) (hk : xb = false ∨ kc = 0) (hQ : Q (.ok (some (.int v))) h) : q_G Φ xb cc own M (q_Zx Φ xb M Q) pc L [.int v] h kc ks := by
  intro p e s m args below meth c H locs cells slots ls ok rel hl hc hs
  refine vx_ret (W.widen (k := M.rm.cells) (n := M.rm.slots) (by omega) (by omega) ?_)
  exact W.zret ok.1 ok.2.1 (ok.2.2.2.2.2.1.trans hr) hn (fun t ht hW => ⟨some (.int v), h, rfl, hQ, by rw [ht]; exact rel.2.1, rel.2.2.2.2.1.2, rel.2.2.1.F ht, fun e9 => ⟨by have := (rel.2.2.2.2.2.2.2 e9).1; rcases hk with q | q; (rw [q] at e9; cases e9); omega, (rel.2.2.2.2.2.2.2 e9).2⟩⟩) rel.2.2.1.2.2 d (hlocks := ok.2.2.2.2.2.2.1)
theorem q_vret (d : decode cc pc = .ok (.return_, 1)) (hr : M.ret = none) (hk : xb = false ∨ kc = 0) (hQ : Q (.ok none) h) : q_G Φ xb cc own M (q_Zx Φ xb M Q) pc L [] h kc ks := by
  intro p e s m args below meth c H locs cells slots ls ok rel hl hc hs
  refine vx_ret (W.widen (k := M.rm.cells) (n := M.rm.slots) (by omega) (by omega) ?_)
  exact W.vret ok.1 ok.2.1 (ok.2.2.2.2.2.1.trans hr) (fun t ht hW => ⟨none, h, rfl, hQ, by rw [ht]; exact rel.2.1, rel.2.2.2.2.1.2, rel.2.2.1.F ht, fun e9 => ⟨by have := (rel.2.2.2.2.2.2.2 e9).1; rcases hk with q | q; (rw [q] at e9; cases e9); omega, (rel.2.2.2.2.2.2.2 e9).2⟩⟩) rel.2.2.1.2.2 d (hlocks := ok.2.2.2.2.2.2.1)
theorem q_vretM (d : decode cc pc = .ok (.return_, 1)) (hr : M.ret = none) (hk : xb = false ∨ kc = 0) (hQ : Q (.ok none) h) : q_G Φ xb cc own M (q_Zm Φ xb M Q) pc L [] h kc ks := by
  intro p e s m args below meth c H locs cells slots ls ok rel hl hc hs
  refine W.widen (k := M.rm.cells) (n := M.rm.slots) (by omega) (by omega) ?_
  exact W.vret ok.1 ok.2.1 (ok.2.2.2.2.2.1.trans hr) (fun t ht hW => ⟨none, h, rfl, hQ, by rw [ht]; exact rel.2.1, rel.2.2.2.2.1.2, rel.2.2.1.F ht, fun e9 => ⟨by have := (rel.2.2.2.2.2.2.2 e9).1; rcases hk with q | q; (rw [q] at e9; cases e9); omega, (rel.2.2.2.2.2.2.2 e9).2⟩⟩) rel.2.2.1.2.2 d (hlocks := ok.2.2.2.2.2.2.1)
theorem q_aret {a : Nat} {rt : FieldType} (d : decode cc pc = .ok (.areturn, 1)) (hr : M.ret = some rt) (hrt : (∃ n, rt = .object n) ∨ ∃ t, rt = .array t) (hk : xb = false ∨ kc = 0) (hQ : Q (.ok (some (.ref a))) h) : q_G Φ xb cc own M (q_Zx Φ xb M Q) pc L [.ref a] h kc ks := by
  intro p e s m args below meth c H locs cells slots ls ok rel hl hc hs
  refine vx_ret (W.widen (k := M.rm.cells) (n := M.rm.slots) (by omega) (by omega) ?_)
  exact W.aret ok.1 ok.2.1 (ok.2.2.2.2.2.1.trans hr) hrt (Or.inr ⟨_, rfl⟩) (fun t ht hW => ⟨some (.ref a), h, rfl, hQ, by rw [ht]; exact rel.2.1, rel.2.2.2.2.1.2, rel.2.2.1.F ht, fun e9 => ⟨by have := (rel.2.2.2.2.2.2.2 e9).1; rcases hk with q | q; (rw [q] at e9; cases e9); omega, (rel.2.2.2.2.2.2.2 e9).2⟩⟩) rel.2.2.1.2.2 d (hlocks := ok.2.2.2.2.2.2.1)
theorem q_fret {v : UInt32} (d : decode cc pc = .ok (.freturn, 1)) (hr : M.ret = some .float) (hk : xb = false ∨ kc = 0) (hQ : Q (.ok (some (.float v))) h) : q_G Φ xb cc own M (q_Zx Φ xb M Q) pc L [.float v] h kc ks := by
  intro p e s m args below meth c H locs cells slots ls ok rel hl hc hs
  refine vx_ret (W.widen (k := M.rm.cells) (n := M.rm.slots) (by omega) (by omega) ?_)
  exact W.fret ok.1 ok.2.1 (ok.2.2.2.2.2.1.trans hr) (fun t ht hW => ⟨some (.float v), h, rfl, hQ, by rw [ht]; exact rel.2.1, rel.2.2.2.2.1.2, rel.2.2.1.F ht, fun e9 => ⟨by have := (rel.2.2.2.2.2.2.2 e9).1; rcases hk with q | q; (rw [q] at e9; cases e9); omega, (rel.2.2.2.2.2.2.2 e9).2⟩⟩) rel.2.2.1.2.2 d (hlocks := ok.2.2.2.2.2.2.1)
theorem q_dret {v : UInt64} (d : decode cc pc = .ok (.dreturn, 1)) (hr : M.ret = some .double) (hk : xb = false ∨ kc = 0) (hQ : Q (.ok (some (.double v))) h) : q_G Φ xb cc own M (q_Zx Φ xb M Q) pc L [.double v] h kc ks := by
  intro p e s m args below meth c H locs cells slots ls ok rel hl hc hs
  refine vx_ret (W.widen (k := M.rm.cells) (n := M.rm.slots) (by omega) (by omega) ?_)
  exact W.dret ok.1 ok.2.1 (ok.2.2.2.2.2.1.trans hr) (fun t ht hW => ⟨some (.double v), h, rfl, hQ, by rw [ht]; exact rel.2.1, rel.2.2.2.2.1.2, rel.2.2.1.F ht, fun e9 => ⟨by have := (rel.2.2.2.2.2.2.2 e9).1; rcases hk with q | q; (rw [q] at e9; cases e9); omega, (rel.2.2.2.2.2.2.2 e9).2⟩⟩) rel.2.2.1.2.2 d (hlocks := ok.2.2.2.2.2.2.1)
end QC
