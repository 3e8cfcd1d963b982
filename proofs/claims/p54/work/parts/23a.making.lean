/-! THE TIME OF THE MAKING: every new cell is a place -/
section QM70
variable {Φ : q_Fx} {cc : ByteArray} {own : String} {M : q_M} {Z : Program → Env → State → MethodId → Array Value → List Frame → State → Prop} {pc : Nat} {L L' : List (Option Value)} {S : List Value} {h h' : q_Hp} {kc ks : Nat}
theorem q_Hp.grow_I (h : q_Hp) {p : Nat} (hp : p ≠ h.n + 1) : h.grow.I p = h.I p := q_row_ne _ _ hp
theorem q_Hp.grow_R (h : q_Hp) {p : Nat} (hp : p ≠ h.n + 1) : h.grow.R p = h.R p := q_row_ne _ _ hp
theorem q_Hp.grow_I' (h : q_Hp) : h.grow.I (h.n + 1) = fun _ => 0 := q_row_same _ _ _
theorem q_Hp.grow_R' (h : q_Hp) : h.grow.R (h.n + 1) = fun _ => none := q_row_same _ _ _
theorem q_grow_o (Φ : q_Fx) (h : q_Hp) : ∀ j, j ≠ h.n + 1 → q_cell Φ h.grow j = q_cell Φ h j := fun j hj => q_cell_eq Φ (q_row_ne _ _ hj) (q_row_ne _ _ hj)
/-- one cell more is the next place -/
theorem q_grow1 {p : Program} {e : Env} {R : Room} {s : State} {m : MethodId} {args : Array Value} {below : List Frame} {meth : Method} {c : Code} {T : State} {H H1 : Heap} {locs : List Loc} {cells slots q : Nat} {x : va_E} (rel : q_Rel Φ true h s H locs cells) (hP : va_P Φ.D q_cl (q_ws Φ h ++ [(q, x)]) H1) (hD : va_D (q_A Φ) (q_ws Φ h ++ [(q, x)])) (hS : va_S (q_A Φ) s.heap H1 locs) (X : Stand p Φ.l e R s m args below meth c T locs (cells + 1) slots) (hT : T.heap = H1)
    (ht : q_tag (h.n + 1) < 16) (hn : h'.n = h.n + 1) (hJ : h'.J = h.J) (he : q_cell Φ h' (h.n + 1) = x) (ho : ∀ j, j ≠ h.n + 1 → q_cell Φ h' j = q_cell Φ h j) : q = q_ad Φ (h.n + 1) ∧ q_Rel Φ true h' s H1 locs (cells + 1) := by
  obtain ⟨hK, -, -, hX, hb1, hb2, hE, hx⟩ := rel
  obtain ⟨hx, hx2, hx3⟩ := hx rfl
  have h20 := q_tag_st ht
  have hlen : (q_ws Φ h).length = h.n := by rw [q_ws_len Φ h, hx3]; rfl
  have hq : (q_ws Φ h ++ [(q, x)])[h.n]? = some (q, x) := by rw [List.getElem?_append_right (by omega), hlen, Nat.sub_self]; rfl
  have h1 : q < H1.size := (hP h.n _ hq).lt
  have h2 := X.heapSize
  rw [hT] at h2
  have h3 : Φ.bb ≤ q := hD.2 h.n _ hq
  have e : q = Φ.bs + h.n := by
    refine Classical.byContradiction fun hne => ?_
    have hj : q - Φ.bb < h.n := by omega
    have h4 : (q_ws Φ h ++ [(q, x)])[q - Φ.bb]? = some (q_ad Φ (q - Φ.bb + 1), q_cell Φ h (q - Φ.bb + 1)) := by
      rw [List.getElem?_append_left (by omega)]
      have := q_ws_at Φ h (k := q - Φ.bb + 1) (by omega) (by omega)
      rwa [Nat.add_sub_cancel] at this
    have := hD.1 _ _ _ _ h4 hq (by show q_ad Φ (q - Φ.bb + 1) = q; rw [q_ad_pos Φ (by omega) (by omega)]; omega)
    omega
  have ea : q = q_ad Φ (h.n + 1) := by rw [q_ad_pos Φ (by omega) h20]; exact e
  have hnot : q_ad Φ (h.n + 1) ∉ q_as Φ h.n h.J := fun hm => by
    obtain ⟨i, hi⟩ := List.getElem?_of_mem hm
    have hil := (List.getElem?_eq_some_iff.mp hi).1
    rw [← q_ws_as, List.length_map, hlen] at hil
    rw [← q_ws_as, List.getElem?_map] at hi
    obtain ⟨y, hy1, hy2⟩ := Option.map_eq_some_iff.mp hi
    have := hD.1 i h.n y _ (by rw [List.getElem?_append_left (by omega)]; exact hy1) hq (by rw [hy2]; exact ea.symm)
    omega
  refine ⟨ea, hK, q_P_mem hP fun y hy => ?_, hS, hX, ⟨hb1.1, ?_⟩, hb2, hE, fun _ => ⟨by rw [hn]; omega, hx2, hJ.trans hx3⟩⟩
  · unfold q_ws at hy
    rw [hJ, hx3, hn] at hy
    rcases List.mem_append.mp hy with hy | hy
    · obtain ⟨j, hj, rfl⟩ := List.mem_map.mp hy
      have hj := List.mem_range.mp hj
      by_cases e9 : j = h.n
      · subst e9
        exact List.mem_append_right _ (by rw [he, ← ea]; exact List.mem_singleton_self _)
      · rw [ho (j + 1) (by omega)]
        refine List.mem_append_left _ (List.mem_of_getElem? (i := j) ?_)
        have := q_ws_at Φ h (k := j + 1) (by omega) (by omega)
        rwa [Nat.add_sub_cancel] at this
    · cases hy
  · rw [hn, hJ]
    refine ⟨q_as_nodup Φ hb1.2.1 hnot, fun y hy => ?_, hb1.2.2.2.1, h20⟩
    rcases (q_as_grow Φ h.n h.J y).mp hy with hy | rfl
    · exact hb1.2.2.1 y hy
    · rw [← ea]; exact h3
theorem q_rhA {s : State} {H : Heap} {locs : List Loc} {cells : Nat} (rel : q_Rel Φ true h s H locs cells) : ∀ q, s.heap.size ≤ q → q_A Φ q := fun q hq => Nat.le_trans rel.2.2.2.2.2.1 hq
/-- new -/
theorem q_new {index ci N : Nat} {C : String} {T : u_T} (ty : Nat → FieldType) (hty : ∀ k, k < N → parseFieldDescriptor (T k).2.2.1 = some (ty k)) (hcl : q_cl[ci]? = some (C, T, N)) (hin : ∀ w ∈ u_ws C T N, w ∈ q_W0) (hlen : (q_kinds ci).length = N) (hdef : ∀ j, j < N → defaultValue (ty j) = if (q_kinds ci)[j]? = some true then .null else .int 0) (htag : q_tag (h.n + 1) = ci)
    (hcw : Cond.classLink own index C ∈ q_W0 ∧ Cond.instantiable C N ∈ q_W0 ∧ Cond.initialized C ∈ q_W0) (d : decode cc pc = .ok (.new index, 3)) {kc0 ks0 : Nat} (hkc : kc0 = kc + 1) (hks : ks0 = ks + N) (K : q_G Φ true cc own M Z (pc + 3) L (.ref (h.n + 1) :: S) h.grow kc ks) : q_G Φ true cc own M Z pc L S h kc0 ks0 := by
  subst hkc hks
  intro p e s m args below meth c H locs cells slots ls ok rel hl hc hs
  have hts := ok.2.2.2.2.1
  have ht : q_tag (h.n + 1) < 11 := by rw [htag]; exact Nat.lt_succ_of_lt (List.getElem?_eq_some_iff.mp hcl).1
  refine va_new (D := Φ.D) (cl := q_cl) (tys := q_tys Φ) (ws := q_ws Φ h) ok.1 ok.2.1 hts hin ty hty ok.2.2.2.1 (hts _ hcw.1) (hts _ hcw.2.1) (hts _ hcw.2.2) rel.1 rel.2.1 (q_D rel.2.2.2.2.1.2) rel.2.2.1 (q_rhA rel) hcl (fs := q_fs Φ h.grow (h.n + 1)) (fun j hj => ?_) (by omega) (by omega) d (fun q H1 hP1 hD1 hS1 => ?_)
  · unfold vp_V
    rw [List.getD_eq_getElem?_getD, q_fs_get Φ h.grow (by rw [htag, hlen]; exact hj), htag, q_Hp.grow_R', q_Hp.grow_I', hdef j hj]
    split <;> rfl
  · intro T0 hT0 X0
    obtain ⟨rfl, rel1⟩ := q_grow1 rel hP1 hD1 hS1 X0 hT0 (h' := h.grow) (by omega) rfl rfl (by rw [q_cell_obj Φ _ ht, htag]) (q_grow_o Φ h)
    exact K p e s m args below meth c H1 locs (cells + 1) (slots + N) ls ok rel1 hl (by omega) (by omega) T0 hT0 X0
/-- a new array of a kind that is known -/
theorem q_newX {t0 n : Nat} {ty : FieldType} {atype : ArrayType} {a0 : vp_A} (htg : q_tag (h.n + 1) < 16) (htys : (q_tys Φ)[t0]? = some (Φ.cy (q_tag (h.n + 1)), ty)) (hra : ∀ (U : State) (cA : ClassId), va_RA U cA ty → U.vm.findClass ("[" ++ ty.toString) = some cA) (hcell : q_cell Φ h.grow (h.n + 1) = .inl (Φ.cy (q_tag (h.n + 1)), a0)) (ha : ∀ cA : ClassId, vp_cell cA a0 = arrV cA n (fun _ => defaultValue ty)) (hty : newarray.typeOf atype = ty) (hw : Cond.arrayClass (newarray.typeOf atype) ∈ q_W0) (hn : n ≤ 1000) (hbytes : componentBytes ty ≤ 8)
    (d : decode cc pc = .ok (.newarray atype, 2)) {kc0 ks0 : Nat} (hkc : kc0 = kc + 1) (hks : ks0 = ks + n) (K : q_G Φ true cc own M Z (pc + 2) L (.ref (h.n + 1) :: S) h.grow kc ks) : q_G Φ true cc own M Z pc L (.int (nI n) :: S) h kc0 ks0 := by
  subst hkc hks
  intro p e s m args below meth c H locs cells slots ls ok rel hl hc hs
  have hts := ok.2.2.2.2.1
  have hb : n * componentBytes ty ≤ 1000 * 8 := Nat.mul_le_mul hn hbytes
  refine va_newa (D := Φ.D) (cl := q_cl) (tys := q_tys Φ) (ws := q_ws Φ h) (atype := atype) ok.1 ok.2.1 (hts _ hw) hty rel.1 rel.2.1 (q_D rel.2.2.2.2.1.2) rel.2.2.1 (q_rhA rel) ha (nI_pos (by omega)) (nI_clamp (by omega)) (by omega) (by omega) (by omega) d (fun q cA H1 hK1 hP1 hD1 hS1 => ?_)
  have e1 : cA = Φ.cy (q_tag (h.n + 1)) := by
    have h1 := hra _ _ (hK1.2 (q_tys Φ).length (cA, ty) (by rw [List.getElem?_append_right (Nat.le_refl _), Nat.sub_self]; rfl)).2
    have h2 := hra _ _ (rel.1.2 t0 _ htys).2
    exact Option.some.inj (h1.symm.trans h2)
  subst e1
  intro T0 hT0 X0
  obtain ⟨rfl, rel1⟩ := q_grow1 rel hP1 hD1 hS1 X0 hT0 (h' := h.grow) htg rfl rfl hcell (q_grow_o Φ h)
  exact K p e s m args below meth c H1 locs (cells + 1) (slots + n) ls ok rel1 hl (by omega) (by omega) T0 hT0 X0
theorem q_w2 : Cond.arrayClass (newarray.typeOf .int) ∈ q_W0 ∧ Cond.arrayClass (newarray.typeOf .char) ∈ q_W0 := ⟨q_W0_mem (List.mem_of_getElem? (i := 63) (by decide +kernel)) (by decide +kernel), q_W0_mem (List.mem_of_getElem? (i := 227) (by decide +kernel)) (by decide +kernel)⟩
theorem q_newI {n : Nat} (htag : q_tag (h.n + 1) = 12) (hlen : q_len (h.n + 1) = n) (hn : n ≤ 1000) (d : decode cc pc = .ok (.newarray .int, 2)) {kc0 ks0 : Nat} (hkc : kc0 = kc + 1) (hks : ks0 = ks + n) (K : q_G Φ true cc own M Z (pc + 2) L (.ref (h.n + 1) :: S) h.grow kc ks) : q_G Φ true cc own M Z pc L (.int (nI n) :: S) h kc0 ks0 :=
  q_newX (by rw [htag]; decide) (t0 := 1) (ty := .int) (a0 := (n, .inl fun _ => 0)) (by rw [htag]; rfl) (fun _ _ h => h) (by rw [q_cell_int Φ _ (by omega) (by omega), q_Hp.grow_I', hlen]) (fun _ => rfl) rfl q_w2.1 hn (by decide) d hkc hks K
theorem q_newC {n : Nat} (htag : q_tag (h.n + 1) = 11) (hlen : q_len (h.n + 1) = n) (hn : n ≤ 1000) (d : decode cc pc = .ok (.newarray .char, 2)) {kc0 ks0 : Nat} (hkc : kc0 = kc + 1) (hks : ks0 = ks + n) (K : q_G Φ true cc own M Z (pc + 2) L (.ref (h.n + 1) :: S) h.grow kc ks) : q_G Φ true cc own M Z pc L (.int (nI n) :: S) h kc0 ks0 :=
  q_newX (by rw [htag]; decide) (t0 := 0) (ty := .char) (a0 := (n, .inl fun _ => 0)) (by rw [htag]; rfl) (fun _ _ h => h) (by rw [q_cell_int Φ _ (by omega) (by omega), q_Hp.grow_I', hlen]) (fun _ => rfl) rfl q_w2.2 hn (by decide) d hkc hks K
/-- anewarray -/
theorem q_newQ {t0 n index : Nat} {C : String} (htys : (q_tys Φ)[t0]? = some (Φ.cy (q_tag (h.n + 1)), .object C)) (h13 : ¬ q_tag (h.n + 1) < 13) (h16 : q_tag (h.n + 1) < 16) (hlen : q_len (h.n + 1) = n) (hw : Cond.classLink own index C ∈ q_W0) (hao : ∀ {s : State}, q_Ext Φ s s.heap → va_AO C s) (hn : n ≤ 1000)
    (d : decode cc pc = .ok (.anewarray index, 3)) {kc0 ks0 : Nat} (hkc : kc0 = kc + 1) (hks : ks0 = ks + n) (K : q_G Φ true cc own M Z (pc + 3) L (.ref (h.n + 1) :: S) h.grow kc ks) : q_G Φ true cc own M Z pc L (.int (nI n) :: S) h kc0 ks0 := by
  subst hkc hks
  intro p e s m args below meth c H locs cells slots ls ok rel hl hc hs
  have hts := ok.2.2.2.2.1
  refine va_newq (D := Φ.D) (cl := q_cl) (tys := q_tys Φ) (ws := q_ws Φ h) ok.1 ok.2.1 ok.2.2.2.1 (hts _ hw) (hao rel.2.2.2.2.2.2.1) rel.1 rel.2.1 (q_D rel.2.2.2.2.1.2) rel.2.2.1 (q_rhA rel) (nI_pos (by omega)) (nI_clamp (by omega)) (by omega) (by omega) (by omega) d (fun q cA H1 hK1 hP1 hD1 hS1 => ?_)
  have e1 : cA = Φ.cy (q_tag (h.n + 1)) := by
    obtain ⟨_, _, _, _, _, h1⟩ := (hK1.2 (q_tys Φ).length (cA, .object C) (by rw [List.getElem?_append_right (Nat.le_refl _), Nat.sub_self]; rfl)).2
    obtain ⟨_, _, _, _, _, h2⟩ := (rel.1.2 t0 _ htys).2
    exact Option.some.inj (h1.symm.trans h2)
  subst e1
  intro T0 hT0 X0
  obtain ⟨rfl, rel1⟩ := q_grow1 rel hP1 hD1 hS1 X0 hT0 (h' := h.grow) h16 rfl rfl (by rw [q_cell_ref Φ _ h13 h16, q_Hp.grow_R', hlen]; rfl) (q_grow_o Φ h)
  exact K p e s m args below meth c H1 locs (cells + 1) (slots + n) ls ok rel1 hl (by omega) (by omega) T0 hT0 X0
/-- Object.<init> -/
theorem q_kOi : Cond.instanceMethod Lib.objectInit ∈ q_W0 ∧ Cond.code Lib.objectInit ⟨#[0xb1]⟩ 1 none ∈ q_W0 := by decide +kernel
theorem q_oinit {xb : Bool} {index a : Nat} (hw : Cond.methodLink own index Lib.objectInit ∈ q_W0) (d : decode cc pc = .ok (.invokespecial index, 3)) (hF : 1 ≤ M.rm.frames) (hLo : (S.map fun v => v.category).sum + 12 ≤ M.rm.locals) (K : q_G Φ xb cc own M Z (pc + 3) L S h kc ks) : q_G Φ xb cc own M Z pc L (.ref a :: S) h kc ks := by
  intro p e s m args below meth c H locs cells slots ls ok rel hl hc hs
  have hts := ok.2.2.2.2.1
  refine W.objInit ok.1 ok.2.1 ok.2.2.2.1 (hts _ hw) (hts _ q_kOi.1) (hts _ q_kOi.2) (g := F0 m pc ls (.ref (q_ad Φ a) :: S.map (q_cv Φ))) rfl (by rw [ok.2.2.1]; exact hl.1) rfl d hF ?_ (K p e s m args below meth c H locs cells slots ls ok rel hl hc hs)
  rw [List.map_map, show (fun v : Value => v.category) ∘ q_cv Φ = fun v => v.category from funext fun v => q_cv_cat Φ v]
  show 2 * 0 + _ + 12 ≤ _
  omega
/-- a constructor -/
theorem q_ctor {xb : Bool} {y : MethodName} {cc' : ByteArray} {M' : q_M} {index a : Nat} {P : Option Value → q_Hp → Prop} {kc0 ks0 : Nat} (hC : q_Cm Φ xb y cc' M' [.ref a] h (q_ex P)) (hw : q_cw y cc' M' 0) (hl9 : Cond.methodLink own index y ∈ q_W0) (hin : Cond.instanceMethod y ∈ q_W0) (hy : y.name = "<init>") (hret : M'.ret = none)
    (hR : q_fits M' M) (hcat : (S.map fun v => v.category).sum ≤ 8) (d : decode cc pc = .ok (.invokespecial index, 3)) (hkc : kc0 = kc + M'.rm.cells) (hks : ks0 = ks + M'.rm.slots)
    (K : ∀ h', P none h' → q_G Φ xb cc own M Z (pc + 3) L S h' kc ks) (hv : ∀ v h', P v h' → v = none) : q_G Φ xb cc own M Z pc L (.ref a :: S) h kc0 ks0 := by
  subst hkc hks
  intro p e s m args below meth c H locs cells slots ls ok rel hl hc hs
  intro T0 hT0 X0
  have hz : xb = true → q_mkg Φ h.n h.J H.size := fun e9 => by rw [← hT0]; exact q_hsz X0 (by rw [hT0]; exact rel.2.1) (by rw [hT0]; exact rel.2.2.1) rel.2.2.2.2.1.2 rel.2.2.2.2.2.1 (rel.2.2.2.2.2.2.2 e9)
  have hts := ok.2.2.2.2.1
  have hcb := q_cb ok hw hl9 hR
  rw [hret] at hcb
  have hC2 : Met Φ.l y (Cond.code y cc' M'.nL none :: q_W0) M'.rm (q_Pc Φ xb [.ref a] h) (q_Qc Φ xb M'.rm.cells (q_ex P)) M'.rm.cells M'.rm.slots (q_A Φ) := by
    have := hC
    unfold q_Cm at this
    rw [hret] at this
    exact this
  have hr := va_runI (As := []) (b := q_ad Φ a) (rest := S.map (q_cv Φ)) (g := F0 m pc ls (.ref (q_ad Φ a) :: S.map (q_cv Φ))) ⟨ok.1, ok.2.1, ok.2.2.1, ok.2.2.2.1, ok.2.2.2.2.1⟩ hC2 ⟨hcb, hy, hts _ hin⟩
    ⟨q_blind Φ xb _ h, fun U hU hW => q_pre rel hz hU hW rfl⟩ (cells := cells) (slots := slots) (locs := locs) (e := e) (below := below) (meth := meth) rfl rfl hl.1 rfl (lv_room (by rw [List.map_map]; simpa [Function.comp_def, q_cv_cat] using hcat)) d ⟨by omega, by omega⟩
  refine q_ofRunM (S := S) hr ok rel hl (by omega) (by omega) (fun v h' hq => ?_) T0 hT0 X0
  obtain ⟨v', e', hp⟩ := hq
  cases e'
  have := hv _ _ hp
  subst this
  exact K h' hp
end QM70
