/-! THROWS; the JDK's own that the class calls: Math.max, Math.min, System.arraycopy -/
theorem q_Po_any {Φ : q_Fx} {h : q_Hp} {mc : Nat} {s t : State} {H : Heap} {locs : List Loc} (hP : va_P Φ.D q_cl (q_ws Φ h) H) (hd : q_dok Φ h.n h.J) (hS : va_S (q_A Φ) s.heap H locs) (hz : H.size ≤ t.heap.size) (hq : ∀ q : Nat, q < H.size → t.heap[q]? = H[q]?) : q_Po Φ false mc h s t :=
  ⟨hP.kept fun k x hk => hq _ ((hP k x hk).lt), hd, ⟨Nat.le_trans hS.1 hz, fun q h1 h2 => (hq q (Nat.lt_of_lt_of_le h1 hS.1)).trans (hS.2.1 q h1 h2)⟩, fun e9 => by cases e9⟩
section QT
variable {Φ : q_Fx} {xb : Bool} {cc : ByteArray} {own : String} {M : q_M} {Z : Program → Env → State → MethodId → Array Value → List Frame → State → Prop} {pc : Nat} {L L' : List (Option Value)} {S : List Value} {h : q_Hp} {kc ks : Nat} {Q : Except String (Option Value) → q_Hp → Prop}
/-- the words of a throw of cls, made at classLink ik with the constructor's link ic -/
abbrev q_tw (own : String) (ik ic : Nat) (cls : String) (names : List String) : Prop := Bundle.fit cls = true ∧ (∀ n ∈ names, Bundle.fit n = true) ∧ Cond.classLink own ik cls ∈ q_W0 ∧ Cond.initialized cls ∈ q_W0 ∧ (∀ w ∈ (vx_atS own ic cls names).filter goodWord, w ∈ q_W0) ∧ (∀ w ∈ (vx_atS own ic cls names).filter (fun w => !goodWord w), w ∈ q_nw) ∧ (∀ w ∈ Cond.classLink own ik cls :: Cond.initialized cls :: vx_atS own ic cls names, vx_ot w = true)
theorem q_hat {own : String} {ik ic : Nat} {cls : String} {names : List String} (hw : q_tw own ik ic cls names) {p : Program} {s : State} {m : MethodId} {args : Array Value} {meth : Method} {c : Code} {cc : ByteArray} (ok : q_Ok Φ cc own M p s m args meth c) (hE : q_Ext Φ s s.heap) : ∀ w ∈ vx_atS own ic cls names, w.before args s = true :=
  vx_hat (fun w h9 => ok.2.2.2.2.1 _ (hw.2.2.2.2.1 w h9)) hw.2.2.2.2.2.1 (fun w h9 => va_Nw.use (q_nk_on (q_nw_nk w h9)) (hE.2.2.2.1 w h9))
theorem q_throw {ik is ic : Nat} {cls text : String} {names : List String} (hw : q_tw own ik ic cls names) (hstr : (own, is, text) ∈ q_strs) (htb : M.tbl = []) (hQ : Q (.error cls) h)
    (d0 : decode cc pc = .ok (.new ik, 3)) (d3 : decode cc (pc + 3) = .ok (.dup, 1)) (d4 : decode cc (pc + 4) = .ok (.ldc is, 2)) (d6 : decode cc (pc + 6) = .ok (.invokespecial ic, 3)) (d9 : decode cc (pc + 9) = .ok (.athrow, 1))
    (hF : names.length + 3 < M.rm.frames) (hLo : (S.map fun v => v.category).sum + (13 * (names.length + 1) + 43) ≤ M.rm.locals) (hkc : 1 ≤ kc) (hks : 6 ≤ ks) : q_G Φ xb cc own M (q_Zx Φ false M Q) pc L S h kc ks := by
  intro p e s m args below meth c H locs cells slots ls ok rel hl hc hs
  obtain ⟨hK, hP, hS, hX, hb1, hb2, hE, hx⟩ := rel
  obtain ⟨sa, hsa⟩ := hE.2.2.1 _ hstr
  exact vx_throwS (sa := sa) ok.1 ok.2.1 ok.2.2.2.2.2.2.2.2.2 ok.2.2.2.1 hw.1 hw.2.1 (ok.2.2.2.2.1 _ hw.2.2.1) (ok.2.2.2.2.1 _ hw.2.2.2.1) hsa (q_hat hw ok hE) hw.2.2.2.2.2.2 hE.1 hE.2.1 hS (hl.1.trans ok.2.2.1.symm) d0 d3 d4 d6 d9
    (by rw [ok.2.2.2.2.2.2.2.2.1, htb]; intro x hx; cases hx) hF (by rw [List.map_map]; simpa [Function.comp_def, q_cv_cat] using hLo) (by omega) (by omega) ok.2.2.2.2.2.2.1 (fun t _ hz hq => ⟨h, hQ, q_Po_any hP hb1.2 hS hz hq⟩) hS.2.2 (by omega) (by omega)
theorem q_throwW {ik is ic : Nat} {cls text : String} {names : List String} (hw : q_tw own ik ic cls names) (hstr : (own, is, text) ∈ q_strs) (htb : M.tbl = []) (hQ : Q (.error cls) h)
    (d0 : decode cc pc = .ok (.new ik, 3)) (d3 : decode cc (pc + 3) = .ok (.dup, 1)) (d4 : decode cc (pc + 4) = .ok (.ldc_w is, 3)) (d7 : decode cc (pc + 7) = .ok (.invokespecial ic, 3)) (d10 : decode cc (pc + 10) = .ok (.athrow, 1))
    (hF : names.length + 3 < M.rm.frames) (hLo : (S.map fun v => v.category).sum + (13 * (names.length + 1) + 43) ≤ M.rm.locals) (hkc : 1 ≤ kc) (hks : 6 ≤ ks) : q_G Φ xb cc own M (q_Zx Φ false M Q) pc L S h kc ks := by
  intro p e s m args below meth c H locs cells slots ls ok rel hl hc hs
  obtain ⟨hK, hP, hS, hX, hb1, hb2, hE, hx⟩ := rel
  obtain ⟨sa, hsa⟩ := hE.2.2.1 _ hstr
  exact vx_throwSW (sa := sa) ok.1 ok.2.1 ok.2.2.2.2.2.2.2.2.2 ok.2.2.2.1 hw.1 hw.2.1 (ok.2.2.2.2.1 _ hw.2.2.1) (ok.2.2.2.2.1 _ hw.2.2.2.1) hsa (q_hat hw ok hE) hw.2.2.2.2.2.2 hE.1 hE.2.1 hS (hl.1.trans ok.2.2.1.symm) d0 d3 d4 d7 d10
    (by rw [ok.2.2.2.2.2.2.2.2.1, htb]; intro x hx; cases hx) hF (by rw [List.map_map]; simpa [Function.comp_def, q_cv_cat] using hLo) (by omega) (by omega) ok.2.2.2.2.2.2.1 (fun t _ hz hq => ⟨h, hQ, q_Po_any hP hb1.2 hS hz hq⟩) hS.2.2 (by omega) (by omega)
theorem q_kMs : Cond.static Lib.Math.max.name ∈ q_W0 ∧ Cond.static Lib.Math.min.name ∈ q_W0 ∧ Cond.initialized "java/lang/Math" ∈ q_W0 ∧ Cond.code Lib.Math.max.name Lib.Math.max.code 2 (some .int) ∈ q_W0 ∧ Cond.code Lib.Math.min.name Lib.Math.min.code 2 (some .int) ∈ q_W0 := by decide +kernel
theorem q_max {index : Nat} {x y : Int32} (hl9 : Cond.methodLink own index Lib.Math.max.name ∈ q_W0) (d : decode cc pc = .ok (.invokestatic index, 3)) (hF : 1 ≤ M.rm.frames) (hLo : (S.map fun v => v.category).sum + 13 ≤ M.rm.locals) (K : q_G Φ xb cc own M Z (pc + 3) L (.int (if x < y then y else x) :: S) h kc ks) : q_G Φ xb cc own M Z pc L (.int y :: .int x :: S) h kc ks := by
  intro p e s m args below meth c H locs cells slots ls ok rel hl hc hs
  refine va_mmax ok.1 ok.2.1 (ok.2.2.1.trans hl.1.symm) ok.2.2.2.1 (ok.2.2.2.2.1 _ hl9) (ok.2.2.2.2.1 _ q_kMs.1) (ok.2.2.2.2.1 _ q_kMs.2.2.1) (ok.2.2.2.2.1 _ q_kMs.2.2.2.1) hF (by rw [List.map_map]; simpa [Function.comp_def, q_cv_cat] using hLo) (by omega) (by omega) d ?_
  exact K p e s m args below meth c H locs cells slots ls ok rel hl hc hs
theorem q_min {index : Nat} {x y : Int32} (hl9 : Cond.methodLink own index Lib.Math.min.name ∈ q_W0) (d : decode cc pc = .ok (.invokestatic index, 3)) (hF : 1 ≤ M.rm.frames) (hLo : (S.map fun v => v.category).sum + 13 ≤ M.rm.locals) (K : q_G Φ xb cc own M Z (pc + 3) L (.int (if y < x then y else x) :: S) h kc ks) : q_G Φ xb cc own M Z pc L (.int y :: .int x :: S) h kc ks := by
  intro p e s m args below meth c H locs cells slots ls ok rel hl hc hs
  refine va_mmin ok.1 ok.2.1 (ok.2.2.1.trans hl.1.symm) ok.2.2.2.1 (ok.2.2.2.2.1 _ hl9) (ok.2.2.2.2.1 _ q_kMs.2.1) (ok.2.2.2.2.1 _ q_kMs.2.2.1) (ok.2.2.2.2.1 _ q_kMs.2.2.2.2) hF (by rw [List.map_map]; simpa [Function.comp_def, q_cv_cat] using hLo) (by omega) (by omega) d ?_
  exact K p e s m args below meth c H locs cells slots ls ok rel hl hc hs
/-- f's cells [0, n) over g's -/
def q_cpy (f g : Nat → Int32) (n : Nat) : Nat → Int32 := fun k => if k < n then f k else g k
theorem q_kCp : Cond.native arraycopyName ∈ q_W0 ∧ Cond.static arraycopyName ∈ q_W0 ∧ Cond.initialized "java/lang/System" ∈ q_W0 := by decide +kernel
/-- System.arraycopy(a0, 0, a, 0, n) of ints -/
theorem q_copy {index a0 a : Nat} {n : Int32} (hl9 : Cond.methodLink own index arraycopyName ∈ q_W0) (ha0 : q_tag a0 = 12) (ha : q_tag a = 12) (d : decode cc pc = .ok (.invokestatic index, 3)) (h1 : 1 ≤ a0) (h2 : a0 ≤ h.n) (h3 : 1 ≤ a) (h4 : a ≤ h.n) (hn : ¬ n < 0) (h5 : n.toNatClampNeg ≤ q_len a0) (h6 : n.toNatClampNeg ≤ q_len a)
    (hF : 1 ≤ M.rm.frames) (hLo : (S.map fun v => v.category).sum + 30 ≤ M.rm.locals) (K : q_G Φ xb cc own M Z (pc + 3) L S (h.rowI a (q_cpy (h.I a0) (h.I a) n.toNatClampNeg)) kc ks) : q_G Φ xb cc own M Z pc L (.int n :: .int 0 :: .ref a :: .int 0 :: .ref a0 :: S) h kc ks := by
  intro p e s m args below meth c H locs cells slots ls ok rel hl hc hs
  obtain ⟨hK, hP, hS, hX, hb1, hb2, hE, hx⟩ := rel
  have e0 : (0 : Int32).toNatClampNeg = 0 := by decide
  refine va_copyi (D := Φ.D) (cl := q_cl) (tys := q_tys Φ) (ws := q_ws Φ h) ok.1 ok.2.1 (ok.2.2.1.trans hl.1.symm) ok.2.2.2.1 (ok.2.2.2.2.1 _ hl9) (ok.2.2.2.2.1 _ q_kCp.1) (ok.2.2.2.2.1 _ q_kCp.2.1) (ok.2.2.2.2.1 _ q_kCp.2.2) hK hP (q_D hb1.2) hS (a0 - 1) (a - 1) 1 1 (a0 := q_ad Φ a0) (a := q_ad Φ a) (c0 := Φ.cy 12) (c1 := Φ.cy 12) (n0 := q_len a0) (n1 := q_len a) (f := h.I a0) (g := h.I a) (ty := .int)
    (by rw [q_ws_at Φ h h1 h2, q_cell_int Φ h (by omega) (by omega), ha0]) (by rw [q_ws_at Φ h h3 h4, q_cell_int Φ h (by omega) (by omega), ha]) rfl rfl rfl (by decide) (by decide) hn (by rw [e0]; omega) (by rw [e0]; omega) (fun _ _ => rfl) hF ?_ d (fun H1 locs1 hP1 _ hS1 => ?_)
  · rw [List.map_map]
    have e1 : nativeFrameWords "java/lang/System" "arraycopy" 5 + 11 ≤ 30 := by decide +kernel
    have e2 : (S.map ((fun v : Value => v.category) ∘ q_cv Φ)).sum = (S.map fun v => v.category).sum := by simp [Function.comp_def, q_cv_cat]
    rw [e2]
    omega
  · rw [e0, show va_cpy (h.I a0) (h.I a) 0 0 n.toNatClampNeg = q_cpy (h.I a0) (h.I a) n.toNatClampNeg from funext fun k => by simp [va_cpy, q_cpy]] at hP1
    rw [q_ws_set Φ (h' := h.rowI a (q_cpy (h.I a0) (h.I a) n.toNatClampNeg)) hb1.2 h3 h4 rfl rfl (by rw [q_cell_int Φ _ (by omega) (by omega), ha]; show _ = Sum.inl (_, _, Sum.inl _); rw [show (h.rowI a (q_cpy (h.I a0) (h.I a) n.toNatClampNeg)).I a = q_cpy (h.I a0) (h.I a) n.toNatClampNeg from q_row_same _ _ _]) (fun j hj => q_cell_eq Φ (q_row_ne _ _ hj) rfl)] at hP1
    exact K p e s m args below meth c H1 locs1 cells slots ls ok ⟨hK, hP1, hS1, hX, hb1, hb2, hE, hx⟩ hl hc hs
/-- the call of a nest mate's private static method that throws nothing -/
theorem q_callSN {y : MethodName} {cc' : ByteArray} {M' : q_M} {index n : Nat} {host : String} {As S0 : List Value} {Q' : Except String (Option Value) → q_Hp → Prop} (hC : q_Cm Φ xb y cc' M' As h Q') (hw : q_cw y cc' M' n) (hl9 : Cond.methodLinkNest own index y host ∈ q_nw) (hst : Cond.static y ∈ q_W0)
    (hR : q_fits M' M) (hn : As.length = n) (hS0 : As.reverse ++ S = S0) (hcat : (S.map fun v => v.category).sum ≤ 8) (d : decode cc pc = .ok (.invokestatic index, 3))
    (Kv : ∀ (v : Option Value) (h' : q_Hp), Q' (.ok v) h' → q_G Φ xb cc own M Z (pc + 3) L (v.toList ++ S) h' kc ks) :
    q_G Φ xb cc own M Z pc L S0 h (kc + M'.rm.cells) (ks + M'.rm.slots) := by
  intro p e s m args below meth c H locs cells slots ls ok rel hl hc hs
  subst hS0
  intro T0 hT0 X0
  have hz : xb = true → q_mkg Φ h.n h.J H.size := fun e9 => by rw [← hT0]; exact q_hsz X0 (by rw [hT0]; exact rel.2.1) (by rw [hT0]; exact rel.2.2.1) rel.2.2.2.2.1.2 rel.2.2.2.2.2.1 (rel.2.2.2.2.2.2.2 e9)
  have hts := ok.2.2.2.2.1
  have hcn : va_CN M.rm s args own index y host cc' M'.nL M'.ret (Cond.code y cc' M'.nL M'.ret :: q_W0) M'.rm M'.rm.cells M'.rm.slots n := by
    refine ⟨⟨rfl, rfl, hR.1, hR.2, fun w hw2 a' U hW => ?_, List.mem_cons_self⟩, hts _ hw.1, hts _ hw.2.1, ⟨hw.2.2.1, hw.2.2.2.1⟩, fun sig h9 => ?_, va_Nw.use rfl (rel.2.2.2.2.2.2.1.2.2.2.1 _ hl9)⟩
    · rcases List.mem_cons.mp hw2 with e | e
      · rw [e]; exact word_at hW (q_W0_good hw.1) (hts _ hw.1)
      · exact word_at hW (q_W0_good e) (hts _ e)
    · have h2 := hw.2.2.2.2
      rw [h9] at h2
      exact (Option.some.inj h2).symm
  have hr := va_runSN (As := As.map (q_cv Φ)) (rest := S.map (q_cv Φ)) (g := F0 m pc ls (((As.reverse ++ S)).map (q_cv Φ))) ⟨ok.1, ok.2.1, ok.2.2.1, ok.2.2.2.1, ok.2.2.2.2.1⟩ hC ⟨hcn, hts _ hst, trivial⟩
    ⟨q_blind Φ xb _ h, fun U hU hW => q_pre rel hz hU hW rfl⟩ (cells := cells) (slots := slots) (locs := locs) (e := e) (below := below) (meth := meth) rfl (by rw [List.length_map]; exact hn) hl.1 (by simp [List.map_append, List.map_reverse]) (lv_room (by rw [List.map_map]; simpa [Function.comp_def, q_cv_cat] using hcat)) d ⟨by omega, by omega⟩
  exact q_ofRunM hr ok rel hl (by omega) (by omega) Kv T0 hT0 X0
end QT
