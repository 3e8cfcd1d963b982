/-! CALLS AND THROWS -/
theorem q_hsz {Φ : q_Fx} {h : q_Hp} {p : Program} {e : Env} {R : Room} {s : State} {m : MethodId} {args : Array Value} {below : List Frame} {meth : Method} {c : Code} {T : State} {locs : List Loc} {cells slots : Nat} (X : Stand p Φ.l e R s m args below meth c T locs cells slots)
    (hP : va_P Φ.D q_cl (q_ws Φ h) T.heap) (hS : va_S (q_A Φ) s.heap T.heap locs) (hd : q_dok Φ h.n h.J) (hb2 : Φ.bb ≤ s.heap.size) (hx : q_mkg Φ h.n h.J (s.heap.size + cells)) : q_mkg Φ h.n h.J T.heap.size := by
  have h1 := X.heapSize
  have h2 := hS.1
  obtain ⟨hx, hy, hz⟩ := hx
  refine ⟨?_, hy, hz⟩
  by_cases h0 : h.n = 0
  · omega
  · have h3 := (hP (h.n - 1) _ (q_ws_at Φ h (k := h.n) (by omega) (Nat.le_refl _))).lt
    have h4 : q_ad Φ h.n < T.heap.size := h3
    rw [q_ad_pos Φ (by omega) hd.2.2.2] at h4
    omega
section QR
variable {Φ : q_Fx} {xb : Bool} {cc : ByteArray} {own : String} {M : q_M} {Z : Program → Env → State → MethodId → Array Value → List Frame → State → Prop} {pc : Nat} {L L' : List (Option Value)} {S : List Value} {h : q_Hp} {kc ks : Nat} {Q : Except String (Option Value) → q_Hp → Prop}
/-- with E thrown at the call of pc: what is owed -/
def q_X (Φ : q_Fx) (cc : ByteArray) (own : String) (M : q_M) (Z : Program → Env → State → MethodId → Array Value → List Frame → State → Prop) (pc : Nat) (L : List (Option Value)) (E : String) (h : q_Hp) (kc ks : Nat) : Prop :=
  ∀ (p : Program) (e : Env) (s : State) (m : MethodId) (args : Array Value) (below : List Frame) (meth : Method) (c : Code) (H : Heap) (locs : List Loc) (cells slots : Nat) (ls : Array Slot) (q : Addr) (ce : Cell) (rest : List Value),
    q_Ok Φ cc own M p s m args meth c → q_Rel Φ false h s H locs cells → lv_has ls M.nL (q_mk Φ 0 L) → cells + kc = M.rm.cells → slots + ks = M.rm.slots → H[q]? = some ce → ce.vm = .none → s.vm.findClass E = some ce.cls →
    vx_W p Φ.l e M.rm s m args below meth c H locs cells slots (Z p e s m args below) (F0 m pc ls rest) q
/-- it goes on to the caller -/
theorem q_out {E : String} (htb : M.tbl = []) (hQ : Q (.error E) h) : q_X Φ cc own M (q_Zx Φ xb M Q) pc L E h kc ks := by
  intro p e s m args below meth c H locs cells slots ls q ce rest ok rel hl hc hs h1 h2 h3
  refine vx_out (by rw [ok.2.2.2.2.2.2.2.2.1, htb]; intro x hx; cases hx) ok.2.2.2.2.2.2.1 h1 h2 h3 (fun t ht hal => ⟨h, hQ, by rw [ht]; exact rel.2.1, rel.2.2.2.2.1.2, rel.2.2.1.F ht, fun e9 => by cases e9⟩) rel.2.2.1.2.2 (by omega) (by omega)
theorem q_flat {xb : Bool} {h : q_Hp} {s : State} {H : Heap} {locs : List Loc} {cells : Nat} (hr : q_Rel Φ xb h s H locs cells) : q_Rel Φ false h s H locs cells := ⟨hr.1, hr.2.1, hr.2.2.1, hr.2.2.2.1, hr.2.2.2.2.1, hr.2.2.2.2.2.1, hr.2.2.2.2.2.2.1, fun e9 => by cases e9⟩
/-- out of the making -/
theorem q_made (K : q_G Φ false cc own M Z pc L S h kc ks) : q_G Φ xb cc own M Z pc L S h kc ks := fun p e s m args below meth c H locs cells slots ls ok rel hl hc hs => K p e s m args below meth c H locs cells slots ls ok (q_flat rel) hl hc hs
/-- behind a run of a callee -/
theorem q_ofRun {p : Program} {e : Env} {s : State} {m : MethodId} {args : Array Value} {below : List Frame} {meth : Method} {c : Code} {H : Heap} {locs : List Loc} {cells slots : Nat} {ls : Array Slot} {st0 : List Value} {a : Array Value} {mc ms : Nat} {Q' : Except String (Option Value) → q_Hp → Prop}
    (hr : vx_Run p Φ.l e M.rm s m args below meth c H locs cells slots mc ms (F0 m pc ls st0) (S.map (q_cv Φ)) (q_Qc Φ xb mc Q' a) (q_XC Φ mc Q') (q_A Φ))
    (ok : q_Ok Φ cc own M p s m args meth c) (rel : q_Rel Φ xb h s H locs cells) (hl : lv_has ls M.nL (q_mk Φ 0 L)) (hc : cells + (kc + mc) = M.rm.cells) (hs : slots + (ks + ms) = M.rm.slots)
    (Kv : ∀ (v : Option Value) (h' : q_Hp), Q' (.ok v) h' → q_G Φ xb cc own M Z (pc + 3) L (v.toList ++ S) h' kc ks) (Kx : ∀ (E : String) (h' : q_Hp), Q' (.error E) h' → q_X Φ cc own M Z pc L E h' kc ks) :
    W p Φ.l e M.rm s m args below meth c H locs cells slots (Z p e s m args below) (F0 m pc ls st0) := by
  intro T hT X
  obtain ⟨hK, hP, hS, hX, hb1, hb2, hE, hx⟩ := rel
  have hself : ∀ q, q < H.size → q_A Φ q → q_A Φ q := fun _ _ z => z
  rcases hr T hT X with ⟨v, st₀, t, T', Lo, h0, X', hL, e1, e2, ⟨v', h', hv, hq, hP', hd', hF, hx'⟩, st⟩ | ⟨q, st₀, t, T', Lo, E, ce, h0, X', hL, e1, e2, ⟨h', hq, hP', hd', hF, hx'⟩, hce, hcv, hcl, st⟩
  · cases hv
    obtain ⟨k1, k2, k3⟩ := vx_keep h0 e1 hS hself (fun _ z => z) hL hF
    obtain ⟨t2, a1, b1⟩ := Kv v' h' hq p e s m args below meth c T'.heap (locs ++ Lo) (cells + mc) (slots + ms) ls ok ⟨hK, by rw [e1]; exact hP', k3, hX, ⟨hb1.1, hd'⟩, hb2, hE, fun e9 => by
      have g1 := hx e9
      have g2 := hx' e9
      have g3 := q_hsz X (by rw [hT]; exact hP) (by rw [hT]; exact hS) hb1.2 hb2 g1
      rw [h0] at g2
      rw [hT] at g3
      exact ⟨by have := g1.1; have := g2.1; have := g3.1; omega, g2.2⟩⟩ hl (by omega) (by omega) T' rfl X'
    refine ⟨t2, st t2 ?_, b1⟩
    have e3 : (v'.toList ++ S).map (q_cv Φ) = (v'.map (q_cv Φ)).toList ++ S.map (q_cv Φ) := by cases v' <;> rfl
    rw [e3] at a1
    exact a1
  · obtain ⟨k1, k2, k3⟩ := vx_keep h0 e1 hS hself (fun _ z => z) hL hF
    obtain ⟨t2, a1, b1⟩ := Kx E h' hq p e s m args below meth c T'.heap (locs ++ Lo) (cells + mc) (slots + ms) ls q ce (S.map (q_cv Φ)) ok ⟨hK, by rw [e1]; exact hP', k3, hX, ⟨hb1.1, hd'⟩, hb2, hE, fun e9 => by cases e9⟩ hl (by omega) (by omega) (by rw [e1]; exact hce) hcv hcl T' rfl X'
    exact ⟨t2, st.trans a1, b1⟩
theorem q_ofRunM {p : Program} {e : Env} {s : State} {m : MethodId} {args : Array Value} {below : List Frame} {meth : Method} {c : Code} {H : Heap} {locs : List Loc} {cells slots : Nat} {ls : Array Slot} {st0 : List Value} {a : Array Value} {mc ms : Nat} {Q' : Except String (Option Value) → q_Hp → Prop}
    (hr : va_Run p Φ.l e M.rm s m args below meth c H locs cells slots mc ms (F0 m pc ls st0) (S.map (q_cv Φ)) (q_Qc Φ xb mc Q' a) (q_A Φ))
    (ok : q_Ok Φ cc own M p s m args meth c) (rel : q_Rel Φ xb h s H locs cells) (hl : lv_has ls M.nL (q_mk Φ 0 L)) (hc : cells + (kc + mc) = M.rm.cells) (hs : slots + (ks + ms) = M.rm.slots)
    (Kv : ∀ (v : Option Value) (h' : q_Hp), Q' (.ok v) h' → q_G Φ xb cc own M Z (pc + 3) L (v.toList ++ S) h' kc ks) :
    W p Φ.l e M.rm s m args below meth c H locs cells slots (Z p e s m args below) (F0 m pc ls st0) := by
  intro T hT X
  obtain ⟨hK, hP, hS, hX, hb1, hb2, hE, hx⟩ := rel
  have hself : ∀ q, q < H.size → q_A Φ q → q_A Φ q := fun _ _ z => z
  obtain ⟨v, st₀, t, T', Lo, h0, X', hL, e1, e2, ⟨v', h', hv, hq, hP', hd', hF, hx'⟩, st⟩ := hr T hT X
  cases hv
  obtain ⟨k1, k2, k3⟩ := vx_keep h0 e1 hS hself (fun _ z => z) hL hF
  obtain ⟨t2, a1, b1⟩ := Kv v' h' hq p e s m args below meth c T'.heap (locs ++ Lo) (cells + mc) (slots + ms) ls ok ⟨hK, by rw [e1]; exact hP', k3, hX, ⟨hb1.1, hd'⟩, hb2, hE, fun e9 => by
    have g1 := hx e9
    have g2 := hx' e9
    have g3 := q_hsz X (by rw [hT]; exact hP) (by rw [hT]; exact hS) hb1.2 hb2 g1
    rw [h0] at g2
    rw [hT] at g3
    exact ⟨by have := g1.1; have := g2.1; have := g3.1; omega, g2.2⟩⟩ hl (by omega) (by omega) T' rfl X'
  refine ⟨t2, st t2 ?_, b1⟩
  have e3 : (v'.toList ++ S).map (q_cv Φ) = (v'.map (q_cv Φ)).toList ++ S.map (q_cv Φ) := by cases v' <;> rfl
  rw [e3] at a1
  exact a1
theorem q_W0_good {w : Cond} (h : w ∈ q_W0) : (w.onTables && w.keeps) = true ∨ ∃ ty, w = .arrayClass ty := good_of_word (List.mem_filter.mp h).2
/-- a callee's start holds at its call -/
theorem q_pre {As : List Value} {s : State} {H : Heap} {locs : List Loc} {cells : Nat} (rel : q_Rel Φ xb h s H locs cells) (hz : xb = true → q_mkg Φ h.n h.J H.size) {U : State} (hU : U.heap = H) (hW : s.WarmedH U.vm) {a : Array Value} (ha : a = (As.map (q_cv Φ)).toArray) : q_Pc Φ xb As h a U := by
  obtain ⟨hK, hP, hS, hX, hb1, hb2, hE, hx⟩ := rel
  refine ⟨ha, va_K.moved hW.alike hK, by rw [hU]; exact hP, ?_, hb1, ?_, ?_, by rw [hU]; exact hz⟩
  · rw [hU]
    have hbs : Φ.b < s.heap.size := Nat.lt_of_lt_of_le hb1.1 hb2
    exact va_X.moved hW.alike (hX.kept (hS.2.1 _ hbs (Nat.not_le.mpr hb1.1)))
  · rw [hU]; exact Nat.le_trans hb2 hS.1
  · rw [hU]; exact q_Ext_warm hW hS hE
abbrev q_fits (M' M : q_M) : Prop := M'.rm.frames + 1 ≤ M.rm.frames ∧ 8 + (M'.nL + 11) + M'.rm.locals ≤ M.rm.locals
/-- the words of a call, but how it is linked -/
abbrev q_cw (y : MethodName) (cc' : ByteArray) (M' : q_M) (n : Nat) : Prop := Cond.code y cc' M'.nL M'.ret ∈ q_W0 ∧ Cond.initialized y.cls ∈ q_W0 ∧ y.cls ≠ "java/lang/invoke/MethodHandle" ∧ y.cls ≠ "java/lang/invoke/VarHandle" ∧ (parseMethodDescriptor y.desc).map (fun d => d.parameters.length) = some n
theorem q_cb {y : MethodName} {cc' : ByteArray} {M' : q_M} {n index : Nat} {p : Program} {s : State} {m : MethodId} {args : Array Value} {meth : Method} {c : Code} (ok : q_Ok Φ cc own M p s m args meth c) (hw : q_cw y cc' M' n) (hl : Cond.methodLink own index y ∈ q_W0) (hR : q_fits M' M) :
    CallB M.rm s args own index y cc' M'.nL M'.ret (Cond.code y cc' M'.nL M'.ret :: q_W0) M'.rm M'.rm.cells M'.rm.slots n := by
  have hts := ok.2.2.2.2.1
  refine ⟨rfl, rfl, hR.1, hR.2, fun w hw2 a' U hW => ?_, List.mem_cons_self, hts _ hw.1, hts _ hw.2.1, ⟨hw.2.2.1, hw.2.2.2.1⟩, fun sig h9 => ?_, hts _ hl⟩
  · rcases List.mem_cons.mp hw2 with e | e
    · rw [e]; exact word_at hW (q_W0_good hw.1) (hts _ hw.1)
    · exact word_at hW (q_W0_good e) (hts _ e)
  · have h2 := hw.2.2.2.2
    rw [h9] at h2
    exact (Option.some.inj h2).symm
/-- invokevirtual (plain: not a nest mate's private method) -/
theorem q_callV {y : MethodName} {cc' : ByteArray} {M' : q_M} {index a ci n N : Nat} {T : u_T} {As S0 : List Value} {Q' : Except String (Option Value) → q_Hp → Prop} (hC : q_Ct Φ xb y cc' M' (.ref a :: As) h Q') (hw : q_cw y cc' M' n) (hl9 : Cond.methodLink own index y ∈ q_W0) (hin : Cond.instanceMethod y ∈ q_W0) (hse : Cond.selects y.cls y y ∈ q_W0)
    (ha : q_tag a = ci) (hcl : q_cl[ci]? = some (y.cls, T, N)) (h1 : 1 ≤ a) (h2 : a ≤ h.n) (hR : q_fits M' M) (hn : As.length = n) (hS0 : As.reverse ++ .ref a :: S = S0) (hcat : (S.map fun v => v.category).sum ≤ 8) (d : decode cc pc = .ok (.invokevirtual index, 3))
    (Kv : ∀ (v : Option Value) (h' : q_Hp), Q' (.ok v) h' → q_G Φ xb cc own M Z (pc + 3) L (v.toList ++ S) h' kc ks) (Kx : ∀ (E : String) (h' : q_Hp), Q' (.error E) h' → q_X Φ cc own M Z pc L E h' kc ks) :
    q_G Φ xb cc own M Z pc L S0 h (kc + M'.rm.cells) (ks + M'.rm.slots) := by
  intro p e s m args below meth c H locs cells slots ls ok rel hl hc hs
  subst hS0; subst ha
  have ht : q_tag a < 11 := (Nat.lt_succ_of_lt (List.getElem?_eq_some_iff.mp hcl).1)
  intro T0 hT0 X0
  have hz : xb = true → q_mkg Φ h.n h.J H.size := fun e9 => by rw [← hT0]; exact q_hsz X0 (by rw [hT0]; exact rel.2.1) (by rw [hT0]; exact rel.2.2.1) rel.2.2.2.2.1.2 rel.2.2.2.2.2.1 (rel.2.2.2.2.2.2.2 e9)
  have hrecv := va_recv rel.1 rel.2.1 hcl (q0 := a - 1) (a := q_ad Φ a) (fs := q_fs Φ h a) (by rw [q_ws_at Φ h h1 h2, q_cell_obj Φ h ht])
  have hr := vx_runV (b := q_ad Φ a) (As := As.map (q_cv Φ)) (rest := S.map (q_cv Φ)) (g := F0 m pc ls (((As.reverse ++ .ref a :: S)).map (q_cv Φ))) ⟨ok.1, ok.2.1, ok.2.2.1, ok.2.2.2.1, ok.2.2.2.2.1⟩ hC ⟨q_cb ok hw hl9 hR, ok.2.2.2.2.1 _ hin, ok.2.2.2.2.1 _ hse⟩
    ⟨q_blind Φ xb _ h, hrecv, fun U hU hW => q_pre rel hz hU hW rfl⟩ (cells := cells) (slots := slots) (locs := locs) (e := e) (below := below) (meth := meth) rfl (by rw [List.length_map]; exact hn) hl.1 (by simp [List.map_append, List.map_reverse, q_cv]) (lv_room (by rw [List.map_map]; simpa [Function.comp_def, q_cv_cat] using hcat)) d ⟨by omega, by omega⟩
  exact q_ofRun hr ok rel hl (by omega) (by omega) Kv Kx T0 hT0 X0
/-- invokestatic, of a method of the class's own or of another that is public -/
theorem q_callS {y : MethodName} {cc' : ByteArray} {M' : q_M} {index n : Nat} {As S0 : List Value} {Q' : Except String (Option Value) → q_Hp → Prop} (hC : q_Ct Φ xb y cc' M' As h Q') (hw : q_cw y cc' M' n) (hl9 : Cond.methodLink own index y ∈ q_W0) (hst : Cond.static y ∈ q_W0)
    (hR : q_fits M' M) (hn : As.length = n) (hS0 : As.reverse ++ S = S0) (hcat : (S.map fun v => v.category).sum ≤ 8) (d : decode cc pc = .ok (.invokestatic index, 3))
    (Kv : ∀ (v : Option Value) (h' : q_Hp), Q' (.ok v) h' → q_G Φ xb cc own M Z (pc + 3) L (v.toList ++ S) h' kc ks) (Kx : ∀ (E : String) (h' : q_Hp), Q' (.error E) h' → q_X Φ cc own M Z pc L E h' kc ks) :
    q_G Φ xb cc own M Z pc L S0 h (kc + M'.rm.cells) (ks + M'.rm.slots) := by
  intro p e s m args below meth c H locs cells slots ls ok rel hl hc hs
  subst hS0
  intro T0 hT0 X0
  have hz : xb = true → q_mkg Φ h.n h.J H.size := fun e9 => by rw [← hT0]; exact q_hsz X0 (by rw [hT0]; exact rel.2.1) (by rw [hT0]; exact rel.2.2.1) rel.2.2.2.2.1.2 rel.2.2.2.2.2.1 (rel.2.2.2.2.2.2.2 e9)
  have hr := vx_runS (As := As.map (q_cv Φ)) (rest := S.map (q_cv Φ)) (g := F0 m pc ls (((As.reverse ++ S)).map (q_cv Φ))) ⟨ok.1, ok.2.1, ok.2.2.1, ok.2.2.2.1, ok.2.2.2.2.1⟩ hC ⟨q_cb ok hw hl9 hR, ok.2.2.2.2.1 _ hst⟩
    ⟨q_blind Φ xb _ h, fun U hU hW => q_pre rel hz hU hW rfl⟩ (cells := cells) (slots := slots) (locs := locs) (e := e) (below := below) (meth := meth) rfl (by rw [List.length_map]; exact hn) hl.1 (by simp [List.map_append, List.map_reverse]) (lv_room (by rw [List.map_map]; simpa [Function.comp_def, q_cv_cat] using hcat)) d ⟨by omega, by omega⟩
  exact q_ofRun hr ok rel hl (by omega) (by omega) Kv Kx T0 hT0 X0
end QR
