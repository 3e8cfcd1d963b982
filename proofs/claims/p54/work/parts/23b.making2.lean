/-! THE MAKING: nest mates' constructors, clones, casts, rows of rows -/
section QM71
variable {Φ : q_Fx} {cc : ByteArray} {own : String} {M : q_M} {Z : Program → Env → State → MethodId → Array Value → List Frame → State → Prop} {pc : Nat} {L L' : List (Option Value)} {S : List Value} {h h' : q_Hp} {kc ks : Nat}
/-- a nest mate's private constructor -/
theorem q_ctorN {xb : Bool} {y : MethodName} {cc' : ByteArray} {M' : q_M} {index a : Nat} {host : String} {P : Option Value → q_Hp → Prop} {kc0 ks0 : Nat} (hC : q_Cm Φ xb y cc' M' [.ref a] h (q_ex P)) (hw : q_cw y cc' M' 0) (hl9 : Cond.methodLinkNest own index y host ∈ q_nw) (hin : Cond.instanceMethod y ∈ q_W0) (hy : y.name = "<init>") (hret : M'.ret = none)
    (hR : q_fits M' M) (hcat : (S.map fun v => v.category).sum ≤ 8) (d : decode cc pc = .ok (.invokespecial index, 3)) (hkc : kc0 = kc + M'.rm.cells) (hks : ks0 = ks + M'.rm.slots)
    (K : ∀ h', P none h' → q_G Φ xb cc own M Z (pc + 3) L S h' kc ks) (hv : ∀ v h', P v h' → v = none) : q_G Φ xb cc own M Z pc L (.ref a :: S) h kc0 ks0 := by
  subst hkc hks
  intro p e s m args below meth c H locs cells slots ls ok rel hl hc hs
  intro T0 hT0 X0
  have hz : xb = true → q_mkg Φ h.n h.J H.size := fun e9 => by rw [← hT0]; exact q_hsz X0 (by rw [hT0]; exact rel.2.1) (by rw [hT0]; exact rel.2.2.1) rel.2.2.2.2.1.2 rel.2.2.2.2.2.1 (rel.2.2.2.2.2.2.2 e9)
  have hts := ok.2.2.2.2.1
  have hcn : va_CN M.rm s args own index y host cc' M'.nL M'.ret (Cond.code y cc' M'.nL M'.ret :: q_W0) M'.rm M'.rm.cells M'.rm.slots 0 := by
    refine ⟨⟨rfl, rfl, hR.1, hR.2, fun w hw2 a' U hW => ?_, List.mem_cons_self⟩, hts _ hw.1, hts _ hw.2.1, ⟨hw.2.2.1, hw.2.2.2.1⟩, fun sig h9 => ?_, va_Nw.use rfl (rel.2.2.2.2.2.2.1.2.2.2.1 _ hl9)⟩
    · rcases List.mem_cons.mp hw2 with e | e
      · rw [e]; exact word_at hW (q_W0_good hw.1) (hts _ hw.1)
      · exact word_at hW (q_W0_good e) (hts _ e)
    · have h2 := hw.2.2.2.2
      rw [h9] at h2
      exact (Option.some.inj h2).symm
  rw [hret] at hcn
  have hC2 : Met Φ.l y (Cond.code y cc' M'.nL none :: q_W0) M'.rm (q_Pc Φ xb [.ref a] h) (q_Qc Φ xb M'.rm.cells (q_ex P)) M'.rm.cells M'.rm.slots (q_A Φ) := by
    have := hC
    unfold q_Cm at this
    rw [hret] at this
    exact this
  have hr := va_runIN (As := []) (b := q_ad Φ a) (rest := S.map (q_cv Φ)) (g := F0 m pc ls (.ref (q_ad Φ a) :: S.map (q_cv Φ))) ⟨ok.1, ok.2.1, ok.2.2.1, ok.2.2.2.1, ok.2.2.2.2.1⟩ hC2 ⟨hcn, hy, hts _ hin⟩
    ⟨q_blind Φ xb _ h, fun U hU hW => q_pre rel hz hU hW rfl⟩ (cells := cells) (slots := slots) (locs := locs) (e := e) (below := below) (meth := meth) rfl rfl hl.1 rfl (lv_room (by rw [List.map_map]; simpa [Function.comp_def, q_cv_cat] using hcat)) d ⟨by omega, by omega⟩
  refine q_ofRunM (S := S) hr ok rel hl (by omega) (by omega) (fun v h' hq => ?_) T0 hT0 X0
  obtain ⟨v', e', hp⟩ := hq
  cases e'
  have := hv _ _ hp
  subst this
  exact K h' hp
theorem q_kCl : Cond.methodLink RX8 13 ⟨"[I", "clone", "()Ljava/lang/Object;"⟩ ∈ q_W0 ∧ Cond.sameMethod "[I" "java/lang/Object" "clone" "()Ljava/lang/Object;" ∈ q_W0 ∧ Cond.native ⟨"java/lang/Object", "clone", "()Ljava/lang/Object;"⟩ ∈ q_W0 ∧ Cond.instanceMethod ⟨"java/lang/Object", "clone", "()Ljava/lang/Object;"⟩ ∈ q_W0 ∧ Cond.selects "[I" ⟨"[I", "clone", "()Ljava/lang/Object;"⟩ ⟨"java/lang/Object", "clone", "()Ljava/lang/Object;"⟩ ∈ q_W0 ∧ Cond.castable "[I" "java/lang/Cloneable" ∈ q_nw ∧ Cond.classLink RX8 14 "[I" ∈ q_W0 := by decide +kernel
/-- a static row of the class, cloned -/
theorem q_clone {index : Nat} {nm : String} {f : List Int32} (hSt : ∀ {s : State}, q_Ext Φ s s.heap → q_St Φ nm f s s.heap) (hlk : Cond.fieldLinkNest RX8 index "TrainingDiary" nm "[I" "TrainingDiary" ∈ q_nw) (htag : q_tag (h.n + 1) = 12) (hlen : q_len (h.n + 1) = f.length)
    (d : decode cc pc = .ok (.getstatic index, 3)) (d2 : decode cc (pc + 3) = .ok (.invokevirtual 13, 3)) (hF : 1 ≤ M.rm.frames) (hLo : (S.map fun v => v.category).sum + 14 ≤ M.rm.locals) {kc0 ks0 : Nat} (hkc : kc0 = kc + 1) (hks : ks0 = ks + f.length)
    (K : q_G Φ true cc RX8 M Z (pc + 6) L (.ref (h.n + 1) :: S) (h.grow.rowI (h.n + 1) (fun k => f.getD k 0)) kc ks) : q_G Φ true cc RX8 M Z pc L S h kc0 ks0 := by
  subst hkc hks
  intro p e s m args below meth c H locs cells slots ls ok rel hl hc hs
  have hts := ok.2.2.2.2.1
  have hE := rel.2.2.2.2.2.2.1
  obtain ⟨t, cell, hZ, hce, hnA, hcls, hvs, hvu, hsl⟩ := hSt hE
  refine va_getsN (v := .ref t) ok.1 ok.2.1 hZ rel.2.2.1 ok.2.2.2.1 (va_Nw.use rfl (hE.2.2.2.1 _ hlk)) (fun _ h9 => h9) d ?_
  intro T hT X
  have hcT : T.heap[t]? = some cell := by
    rw [hT, rel.2.2.1.2.1 t (Array.getElem?_eq_some_iff.mp hce).1 hnA]; exact hce
  have hk1 := rel.1.2 1 (Φ.cy 12, .int) rfl
  have hnmI : s.vm.findClass "[I" = some (Φ.cy 12) := hk1.2
  obtain ⟨c0, t0', f1, f2, f3⟩ := Cond.castable_spec (va_Nw.use (A := args) rfl (hE.2.2.2.1 _ q_kCl.2.2.2.2.2.1))
  cases hnmI.symm.trans f1
  obtain ⟨-, kA, hkA, comp, hkind⟩ := State.isArrayOf_alike X.warmed.alike (hk1.1 0 (fun _ => .null))
  obtain ⟨-, kS, hkS, compS, hkindS⟩ := hk1.1 0 (fun _ => .null)
  have hsz : cell.slots.size = f.length := by rw [hsl]; simp
  obtain ⟨vm', X', st⟩ := X.cloneArray ok.1 ok.2.2.2.1 (hts _ q_kCl.1) (hts _ q_kCl.2.1) (hts _ q_kCl.2.2.1) (hts _ q_kCl.2.2.2.1) (hts _ q_kCl.2.2.2.2.1) (a := t) (cell := cell) hcT hvs hvu (by rw [hcls]; exact hnmI) f2 (by rw [hcls]; exact f3)
    (fun i v hv => by
      rw [hcls]
      have hk' : T.vm.classes[Φ.cy 12]? = some kA := hkA
      have hv2 : ∃ x : Int32, v = .int x := by
        rw [hsl] at hv
        simp only [List.getElem?_toArray, List.getElem?_map] at hv
        cases e9 : f[i]? with
        | none => rw [e9] at hv; cases hv
        | some x => rw [e9] at hv; exact ⟨x, (Option.some.inj hv).symm⟩
      obtain ⟨x, rfl⟩ := hv2
      simp [State.fitsSlot, State.slotType?, hk', hkind, fits])
    (g := F0 m (pc + 3) ls (.ref t :: S.map (q_cv Φ))) rfl (by rw [ok.2.2.1]; exact hl.1) rfl (by rw [ok.2.1]; exact d2) hF (by
      rw [List.map_map, show (fun v : Value => v.category) ∘ q_cv Φ = fun v => v.category from funext fun v => q_cv_cat Φ v]
      show 2 * 0 + _ + 14 ≤ _
      omega) (by omega) (by rw [hsz]; omega) (hloader := by rw [hcls]; exact Vm.clonesLoader_of_array hkS hkindS)
  rw [hsz] at X'
  have hcellE : ({ cls := cell.cls, slots := cell.slots } : Cell) = vp_cell (Φ.cy 12) (f.length, .inl fun k => f.getD k 0) := by
    rw [vp_cell_i, hcls, hsl]
    unfold arrV
    congr 1
    apply Array.ext
    · simp
    · intro i h1 h2
      simp only [List.getElem_toArray, List.getElem_map, Array.getElem_ofFn]
      have h3 : i < f.length := by simpa using h1
      rw [List.getD_eq_getElem?_getD, List.getElem?_eq_getElem h3]; rfl
  rw [hcellE] at X' st
  generalize hH1 : H.push (vp_cell (Φ.cy 12) (f.length, .inl fun k => f.getD k 0)) = H1
  have z1 : H1.size = H.size + 1 := by rw [← hH1, Array.size_push]
  have e1 : H1[H.size]? = some (vp_cell (Φ.cy 12) (f.length, .inl fun k => f.getD k 0)) := by rw [← hH1, Array.getElem?_push_size]
  have o1 : ∀ q : Nat, q < H.size → H1[q]? = H[q]? := fun q hq => by rw [← hH1, Array.getElem?_push, if_neg (Nat.ne_of_lt hq)]
  have hTH : ((T.setVm vm').pushCell (vp_cell (Φ.cy 12) (f.length, .inl fun k => f.getD k 0))).heap = H1 := by rw [← hH1, ← hT]; rfl
  have hk : ∀ (k : Nat) (y : Nat × va_E), (q_ws Φ h)[k]? = some y → H1[y.1]? = H[y.1]? := fun k y hy => o1 y.1 ((rel.2.1 k y hy).lt)
  obtain ⟨e2, rel1⟩ := q_grow1 (q := H.size) (x := .inl (Φ.cy 12, f.length, .inl fun k => f.getD k 0)) (h' := h.grow.rowI (h.n + 1) (fun k => f.getD k 0)) rel ((rel.2.1.kept hk).app (fun k y hy => by
      have hz : k < 1 := (List.getElem?_eq_some_iff.mp hy).1
      rw [show k = 0 by omega] at hy
      cases hy
      exact e1)) ((q_D rel.2.2.2.2.1.2).push rel.2.1 rfl (q_rhA rel _ rel.2.2.1.1)) ⟨Nat.le_trans rel.2.2.1.1 (by omega), fun y h1 h2 => (o1 y (Nat.lt_of_lt_of_le h1 rel.2.2.1.1)).trans (rel.2.2.1.2.1 y h1 h2), rel.2.2.1.2.2⟩ X' hTH (by omega) rfl rfl
    (by rw [q_cell_int Φ _ (by omega) (by omega), htag, q_rI, hlen]) (fun j hj => (q_cell_eq Φ (h := h.grow) (h' := h.grow.rowI (h.n + 1) (fun k => f.getD k 0)) (q_rIn _ _ hj) rfl).trans (q_grow_o Φ h j hj))
  obtain ⟨t2, b1, b2⟩ := K p e s m args below meth c H1 locs (cells + 1) (slots + f.length) ls ok rel1 hl (by omega) (by omega) _ hTH X'
  refine ⟨t2, st t2 ?_, b2⟩
  have e3 : T.heap.size = q_ad Φ (h.n + 1) := by rw [hT]; exact e2
  rw [e3]
  exact b1
/-- a cast of a row of ints -/
theorem q_castI {xb : Bool} {index a : Nat} (hw : Cond.classLink own index "[I" ∈ q_W0) (ha : q_tag a = 12) (h1 : 1 ≤ a) (h2 : a ≤ h.n) (d : decode cc pc = .ok (.checkcast index, 3)) (K : q_G Φ xb cc own M Z (pc + 3) L (.ref a :: S) h kc ks) : q_G Φ xb cc own M Z pc L (.ref a :: S) h kc ks := by
  intro p e s m args below meth c H locs cells slots ls ok rel hl hc hs
  have hnmI : s.vm.findClass "[I" = some (Φ.cy 12) := (rel.1.2 1 (Φ.cy 12, .int) rfl).2
  exact va_castA (D := Φ.D) (cl := q_cl) (ws := q_ws Φ h) ok.1 ok.2.1 ok.2.2.2.1 (ok.2.2.2.2.1 _ hw) rel.2.1 (a - 1) (cA := Φ.cy 12) (x := (q_len a, .inl (h.I a))) (by rw [q_ws_at Φ h h1 h2, q_cell_int Φ h (by omega) (by omega), ha]) hnmI d (K p e s m args below meth c H locs cells slots ls ok rel hl hc hs)
end QM71
