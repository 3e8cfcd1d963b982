/-! THE LAW'S OWN ROWS: int[900], int[1], int[7][] -/
theorem q_cell_dI (Φ : q_Fx) (h : q_Hp) {k : Nat} (ht : q_tag k = 16) : q_cell Φ h k = .inl (Φ.cy 12, q_len k, .inl (h.I k)) := by
  unfold q_cell; rw [if_neg (by omega), if_neg (by omega), if_neg (by omega), if_pos (by omega)]
theorem q_cell_dR (Φ : q_Fx) (h : q_Hp) {k : Nat} (ht : q_tag k = 17) : q_cell Φ h k = .inl (Φ.cy 15, q_len k, .inr (.inr (.inr (.inr (fun i => (h.R k i).map (q_ad Φ)))))) := by
  unfold q_cell; rw [if_neg (by omega), if_neg (by omega), if_neg (by omega), if_neg (by omega)]
theorem q_tag_dyn {k : Nat} (h : 2000 ≤ k) : q_tag k = if k % 4 = 2 then 17 else 16 := by
  unfold q_tag
  rw [if_neg (by omega), if_neg (by omega), if_neg (by omega), if_neg (by omega), if_neg (by omega), if_neg (by omega), if_neg (by omega), if_neg (by omega), if_neg (by omega), if_neg (by omega), if_neg (by omega)]
theorem q_len_dyn {k : Nat} (h : 2000 ≤ k) : q_len k = if k % 4 = 0 then 900 else if k % 4 = 2 then 7 else 1 := by
  unfold q_len
  rw [if_neg (by omega), if_neg (by omega), if_neg (by omega), if_neg (by omega), if_neg (by omega), if_neg (by omega), if_neg (by omega), if_neg (by omega), if_neg (by omega), if_neg (by omega), if_neg (by omega), if_neg (by omega)]
/-- a row of 900 ints of the law's own -/
def q_n9 (h : q_Hp) (a : Nat) : Prop := a ∈ h.J ∧ 2000 ≤ a ∧ a % 4 = 0
theorem q_n9.t {h : q_Hp} {a : Nat} (x : q_n9 h a) : q_tag a = 16 := by rw [q_tag_dyn x.2.1, if_neg (by have := x.2.2; omega)]
theorem q_n9.l {h : q_Hp} {a : Nat} (x : q_n9 h a) : q_len a = 900 := by rw [q_len_dyn x.2.1, if_pos x.2.2]
theorem q_n9.fr {h h' : q_Hp} {a : Nat} (x : q_n9 h a) (e : h'.J = h.J) : q_n9 h' a := ⟨by rw [e]; exact x.1, x.2⟩
theorem va_self (vm : Vm) (c : ClassId) : vm.assignable c c = true := by
  show vm.assignableAux (255 + 1) c c = true
  rw [Vm.assignableAux]
  simp only [beq_self_eq_true, Bool.true_or]
/-- rows of rows of ints: their components are the rows of ints -/
theorem q_AOA_k {s : State} (h : va_AOA .int s) : ∃ comp c k, s.vm.findClass (FieldType.array .int).toString = some comp ∧ s.vm.classes[c]? = some k ∧ k.kind = .array comp (.array .int) ∧ s.vm.findClass ("[" ++ (FieldType.array .int).toString) = some c := by
  have h : (Cond.arrayOver (.array .int)).before #[] s = true := h
  simp only [Cond.before, Cond.holds, Cond.value, beq_iff_eq] at h
  cases hc : s.vm.findClass (FieldType.array .int).toString with
  | none => simp [hc] at h
  | some comp =>
    simp only [hc, Option.bind_some, Option.bind_eq_some_iff, Option.map_eq_some_iff] at h
    obtain ⟨c, hi, k, hk, hb⟩ := h
    obtain ⟨hlt, hp, -⟩ := Array.findIdx?_eq_some_iff_getElem.mp hi
    have hkk : s.vm.classes[c] = k := (Array.getElem?_eq_some_iff.mp hk).2
    rw [hkk] at hp
    cases hkind : k.kind with
    | array component ty =>
      rw [hkind] at hb hp
      simp at hb hp
      exact ⟨comp, c, k, rfl, hk, by rw [hkind, hp, hb.1], hb.2⟩
    | _ => rw [hkind] at hb; simp at hb
section QDY
variable {Φ : q_Fx} {xb : Bool} {cc : ByteArray} {own : String} {M : q_M} {Z : Program → Env → State → MethodId → Array Value → List Frame → State → Prop} {pc : Nat} {L L' : List (Option Value)} {S : List Value} {h : q_Hp} {kc ks : Nat}
theorem q_ialdD {a k len : Nat} (hm : a ∈ h.J) (ht : q_tag a = 16) (hln : q_len a = len) (hi : k < len) (hl : len < 2 ^ 31) (d : decode cc pc = .ok (.iaload, 1)) (K : q_G Φ xb cc own M Z (pc + 1) L (.int (h.I a k) :: S) h kc ks) : q_G Φ xb cc own M Z pc L (.int (nI k) :: .ref a :: S) h kc ks := by
  intro p e s m args below meth c H locs cells slots ls ok rel hl9 hc hs
  obtain ⟨i, hi9⟩ := List.getElem?_of_mem hm
  have K' := K p e s m args below meth c H locs cells slots ls ok rel hl9 hc hs
  refine va_iald (D := Φ.D) (cl := q_cl) (tys := q_tys Φ) (ws := q_ws Φ h) ok.1 ok.2.1 rel.1 rel.2.1 (h.n + i) 1 (cA := Φ.cy 12) (n := q_len a) (f := h.I a) (by rw [q_ws_atJ Φ h hi9, q_cell_dI Φ h ht]) rfl (by rw [hln]; exact vp_in_nI hi hl) d ?_
  rw [nI_clamp (by omega)]
  exact K'
theorem q_iastD {a k len : Nat} {v : Int32} (hm : a ∈ h.J) (ht : q_tag a = 16) (hln : q_len a = len) (hi : k < len) (hl : len < 2 ^ 31) (d : decode cc pc = .ok (.iastore, 1)) (K : q_G Φ xb cc own M Z (pc + 1) L S (h.setI a k v) kc ks) : q_G Φ xb cc own M Z pc L (.int v :: .int (nI k) :: .ref a :: S) h kc ks := by
  intro p e s m args below meth c H locs cells slots ls ok rel hl9 hc hs
  obtain ⟨hK, hP, hS, hX, hb1, hb2, hE, hx⟩ := rel
  obtain ⟨i, hi9⟩ := List.getElem?_of_mem hm
  refine va_iast (D := Φ.D) (cl := q_cl) (tys := q_tys Φ) (ws := q_ws Φ h) ok.1 ok.2.1 hK hP (q_D hb1.2) hS (h.n + i) 1 (cA := Φ.cy 12) (n := q_len a) (f := h.I a) (by rw [q_ws_atJ Φ h hi9, q_cell_dI Φ h ht]) rfl (by rw [hln]; exact vp_in_nI hi hl) d (fun H1 locs1 hP1 _ hS1 => ?_)
  rw [nI_clamp (by omega)] at hP1
  rw [q_ws_setJ Φ (h' := h.setI a k v) hb1.2 hi9 rfl rfl (by rw [q_cell_dI Φ _ ht]; show _ = Sum.inl (_, _, Sum.inl _); rw [show (h.setI a k v).I a = va_up (h.I a) k v from q_up_same _ _ _ _]; rfl) (fun j hj => q_setI_ne Φ h _ v hj)] at hP1
  exact K p e s m args below meth c H1 locs1 cells slots ls ok ⟨hK, hP1, hS1, hX, hb1, hb2, hE, hx⟩ hl9 hc hs
theorem q_alenD {a n : Nat} (hm : a ∈ h.J) (ht : q_tag a = 16) (hln : q_len a = n) (d : decode cc pc = .ok (.arraylength, 1)) (K : q_G Φ xb cc own M Z (pc + 1) L (.int (nI n) :: S) h kc ks) : q_G Φ xb cc own M Z pc L (.ref a :: S) h kc ks := by
  intro p e s m args below meth c H locs cells slots ls ok rel hl hc hs
  obtain ⟨i, hi9⟩ := List.getElem?_of_mem hm
  refine va_alen (v := nI n) (D := Φ.D) (cl := q_cl) (tys := q_tys Φ) (ws := q_ws Φ h) ok.1 ok.2.1 rel.1 rel.2.1 (h.n + i) 1 (cA := Φ.cy 12) (x := (q_len a, .inl (h.I a))) (by rw [q_ws_atJ Φ h hi9, q_cell_dI Φ h ht]) rfl (by rw [← hln]; rfl) d ?_
  exact K p e s m args below meth c H locs cells slots ls ok rel hl hc hs
theorem q_aaldD {a k : Nat} {o : Nat} (hm : a ∈ h.J) (ht : q_tag a = 17) {len : Nat} (hln : q_len a = len) (hi : k < len) (hl : len < 2 ^ 31) (hv : h.R a k = some o) (d : decode cc pc = .ok (.aaload, 1)) (K : q_G Φ xb cc own M Z (pc + 1) L (.ref o :: S) h kc ks) : q_G Φ xb cc own M Z pc L (.int (nI k) :: .ref a :: S) h kc ks := by
  intro p e s m args below meth c H locs cells slots ls ok rel hl9 hc hs
  obtain ⟨i, hi9⟩ := List.getElem?_of_mem hm
  have hcell := rel.2.1 _ _ (q_ws_atJ Φ h hi9)
  rw [q_cell_dR Φ h ht] at hcell
  have hcell : H[q_ad Φ a]? = some (arrV (Φ.cy 15) (q_len a) (fun j => va_rf ((h.R a j).map (q_ad Φ)))) := hcell
  have hin : vp_in (nI k) (q_len a) := by rw [hln]; exact vp_in_nI hi hl
  have e0 : (nI k).toNatClampNeg = k := nI_clamp (by omega)
  refine W.aald (v := q_cv Φ (.ref o)) (ty := .array .int) ok.1 ok.2.1 hcell ((rel.1.2 4 _ rfl).1 _ _) rfl (fun q => by cases q) (by show ¬ (nI k < 0 ∨ (arrV _ _ _).slots.size ≤ _); rw [arrV_size]; exact hin) (by
    show (arrV _ _ _).slots[_]? = _
    rw [e0, arrV_read _ _ (by omega), hv]; rfl) rfl rfl d ?_
  exact K p e s m args below meth c H locs cells slots ls ok rel hl9 hc hs
/-- a row of ints into a row of rows -/
theorem q_aastD {a v k : Nat} (hm : a ∈ h.J) (ht : q_tag a = 17) {len : Nat} (hln : q_len a = len) (hi : k < len) (hl : len < 2 ^ 31) (hvm : v ∈ h.J) (hvt : q_tag v = 16) (d : decode cc pc = .ok (.aastore, 1)) (K : q_G Φ xb cc own M Z (pc + 1) L S (h.setR a k (some v)) kc ks) : q_G Φ xb cc own M Z pc L (.ref v :: .int (nI k) :: .ref a :: S) h kc ks := by
  intro p e s m args below meth c H locs cells slots ls ok rel hl9 hc hs
  obtain ⟨hK, hP, hS, hX, hb1, hb2, hE, hx⟩ := rel
  obtain ⟨i, hi9⟩ := List.getElem?_of_mem hm
  obtain ⟨j, hj9⟩ := List.getElem?_of_mem hvm
  have hca := hP _ _ (q_ws_atJ Φ h hi9)
  have hcv := hP _ _ (q_ws_atJ Φ h hj9)
  rw [q_cell_dR Φ h ht] at hca
  rw [q_cell_dI Φ h hvt] at hcv
  have hca : H[q_ad Φ a]? = some (arrV (Φ.cy 15) (q_len a) (fun z => va_rf ((h.R a z).map (q_ad Φ)))) := hca
  have hcv : H[q_ad Φ v]? = some (vp_cell (Φ.cy 12) (q_len v, .inl (h.I v))) := hcv
  have e0 : (nI k).toNatClampNeg = k := nI_clamp (by omega)
  have hin : vp_in (nI k) (q_len a) := by rw [hln]; exact vp_in_nI hi hl
  obtain ⟨comp, c9, k9, f1, f2, f3, f4⟩ := q_AOA_k hE.2.2.2.2.2.2.1
  have eC : c9 = Φ.cy 15 := Option.some.inj (f4.symm.trans (hK.2 4 (Φ.cy 15, .array .int) rfl).2)
  have eD : comp = Φ.cy 12 := Option.some.inj (f1.symm.trans (show s.vm.findClass (FieldType.array .int).toString = some (Φ.cy 12) by
    rw [show (FieldType.array FieldType.int).toString = "[" ++ FieldType.int.toString by decide +kernel]; exact (hK.2 1 (Φ.cy 12, .int) rfl).2))
  subst eC eD
  obtain ⟨-, kI, hkI, cI, hkI2⟩ := (hK.2 1 (Φ.cy 12, .int) rfl).1 (q_len v) (fun z => .int (h.I v z))
  have hkI : s.vm.classes[Φ.cy 12]? = some kI := hkI
  refine W.aast (cell := arrV (Φ.cy 15) (q_len a) (fun z => va_rf ((h.R a z).map (q_ad Φ)))) ok.1 ok.2.1 hca (fun q h => by cases h) (fun h => by cases h) f2 f3 rfl hkI ⟨fun q => hin (Or.inl q), by show _ < (arrV _ _ _).slots.size; rw [arrV_size]; exact Nat.not_le.mp fun q => hin (Or.inr q)⟩ hcv (fun q h => by cases h) hkI (va_self _ _) rfl rfl d fun H1 e1 z1 oq => ?_
  have hP1 := hP.set (q_D hb1.2) (q_ws_atJ Φ h hi9) (e := .inl (Φ.cy 15, q_len a, .inr (.inr (.inr (.inr (va_up (fun z => (h.R a z).map (q_ad Φ)) k (some (q_ad Φ v)))))))) (H1 := H1) (by
    show H1[q_ad Φ a]? = some (vp_cell _ _)
    rw [e1, vp_cell_q, arrV_store, e0]
    congr 2
    funext q
    by_cases hq : q = k
    · subst hq
      simp [updV, va_up, va_rf]
    · simp [updV, va_up, hq]) oq
  rw [q_ws_setJ Φ (h' := h.setR a k (some v)) hb1.2 hi9 rfl rfl (by
    rw [q_cell_dR Φ _ ht, show (h.setR a k (some v)).R a = va_up (h.R a) k (some v) from q_up_same _ _ _ _]
    refine congrArg (fun z => (Sum.inl (Φ.cy 15, q_len a, Sum.inr (Sum.inr (Sum.inr (Sum.inr z)))) : va_E)) (funext fun j => ?_)
    by_cases e : j = k
    · subst e; simp [va_up]
    · simp [va_up, e]) (fun j hj => q_setR_ne Φ h _ _ hj)] at hP1
  exact K p e s m args below meth c H1 _ cells slots ls ok ⟨hK, hP1, hS.put z1 oq ((q_D (h := h) hb1.2).2 _ _ (q_ws_atJ Φ h hi9)), hX, hb1, hb2, hE, hx⟩ hl9 hc hs
end QDY
/-- one row more of 900 ints -/
def q_Hp.add (h : q_Hp) (c : Nat) : q_Hp := (q_row h.I c (fun _ => 0), q_row h.R c (fun _ => none), h.J ++ [c], h.E, h.n)
theorem q_Hp.add_I (h : q_Hp) {c p : Nat} (hp : p ≠ c) : (h.add c).I p = h.I p := q_row_ne _ _ hp
theorem q_Hp.add_R (h : q_Hp) {c p : Nat} (hp : p ≠ c) : (h.add c).R p = h.R p := q_row_ne _ _ hp
theorem q_Hp.add_Is (h : q_Hp) (c : Nat) : (h.add c).I c = fun _ => 0 := q_row_same _ _ _
theorem q_Hp.add_J (h : q_Hp) (c : Nat) : (h.add c).J = h.J ++ [c] := rfl
theorem q_as_add (Φ : q_Fx) (n : Nat) (J K : List Nat) : q_as Φ n (J ++ K) = q_as Φ n J ++ K.map (q_ad Φ) := by
  unfold q_as; rw [List.map_append, List.append_assoc]
