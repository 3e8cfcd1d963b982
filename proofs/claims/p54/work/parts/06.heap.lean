/-! THE HEAP'S ROWS -/
theorem q_fs_len (Φ : q_Fx) (h : q_Hp) (k : Nat) : (q_fs Φ h k).length = (q_kinds (q_tag k)).length := by simp [q_fs]
theorem q_fs_get (Φ : q_Fx) (h : q_Hp) {k f : Nat} (hf : f < (q_kinds (q_tag k)).length) : (q_fs Φ h k)[f]? = some (if (q_kinds (q_tag k))[f]? = some true then va_rf ((h.R k f).map (q_ad Φ)) else .int (h.I k f)) := by
  unfold q_fs
  rw [List.getElem?_map, List.getElem?_range hf, Option.map_some]
theorem q_cell_obj (Φ : q_Fx) (h : q_Hp) {k : Nat} (ht : q_tag k < 11) : q_cell Φ h k = .inr (q_tag k, q_fs Φ h k) := if_pos ht
theorem q_cell_int (Φ : q_Fx) (h : q_Hp) {k : Nat} (ht : ¬ q_tag k < 11) (h2 : q_tag k < 13) : q_cell Φ h k = .inl (Φ.cy (q_tag k), q_len k, .inl (h.I k)) := by
  unfold q_cell; rw [if_neg ht, if_pos h2]
theorem q_cell_ref (Φ : q_Fx) (h : q_Hp) {k : Nat} (h2 : ¬ q_tag k < 13) (h3 : q_tag k < 16) : q_cell Φ h k = .inl (Φ.cy (q_tag k), q_len k, .inr (.inr (.inr (.inr (fun i => (h.R k i).map (q_ad Φ)))))) := by
  unfold q_cell; rw [if_neg (by omega), if_neg h2, if_pos h3]
theorem q_up_same {α : Type} (I : Nat → Nat → α) (a f : Nat) (v : α) : q_up I a f v a = va_up (I a) f v := if_pos rfl
theorem q_up_ne {α : Type} (I : Nat → Nat → α) {a b : Nat} (f : Nat) (v : α) (hn : b ≠ a) : q_up I a f v b = I b := if_neg hn
theorem q_row_same {α : Type} (I : Nat → Nat → α) (a : Nat) (g : Nat → α) : q_row I a g a = g := if_pos rfl
theorem q_row_ne {α : Type} (I : Nat → Nat → α) {a b : Nat} (g : Nat → α) (hn : b ≠ a) : q_row I a g b = I b := if_neg hn
/-- a cell depends on its own rows alone -/
theorem q_cell_eq (Φ : q_Fx) {h h' : q_Hp} {k : Nat} (e1 : h'.I k = h.I k) (e2 : h'.R k = h.R k) : q_cell Φ h' k = q_cell Φ h k := by
  unfold q_cell q_fs
  rw [e1, e2]
theorem q_setI_ne (Φ : q_Fx) (h : q_Hp) {a j : Nat} (f : Nat) (v : Int32) (hj : j ≠ a) : q_cell Φ (h.setI a f v) j = q_cell Φ h j := q_cell_eq Φ (q_up_ne _ _ _ hj) rfl
theorem q_setR_ne (Φ : q_Fx) (h : q_Hp) {a j : Nat} (f : Nat) (v : Option Nat) (hj : j ≠ a) : q_cell Φ (h.setR a f v) j = q_cell Φ h j := q_cell_eq Φ rfl (q_up_ne _ _ _ hj)
theorem q_fs_setI (Φ : q_Fx) (h : q_Hp) {a f : Nat} (v : Int32) (hk : (q_kinds (q_tag a))[f]? = some false) : q_fs Φ (h.setI a f v) a = (q_fs Φ h a).set f (.int v) := by
  have hf : f < (q_kinds (q_tag a)).length := (List.getElem?_eq_some_iff.mp hk).1
  apply List.ext_getElem?
  intro j
  by_cases hj : j < (q_kinds (q_tag a)).length
  · rw [q_fs_get Φ _ hj]
    by_cases e : j = f
    · subst e
      rw [List.getElem?_set_self (by rw [q_fs_len]; exact hf), hk]
      simp [q_Hp.setI, q_Hp.I, q_up, va_up]
    · rw [List.getElem?_set_ne (Ne.symm e), q_fs_get Φ _ hj]
      simp [q_Hp.setI, q_Hp.I, q_Hp.R, q_up, va_up, e]
  · rw [List.getElem?_eq_none (by rw [q_fs_len]; omega), List.getElem?_eq_none (by rw [List.length_set, q_fs_len]; omega)]
theorem q_fs_setR (Φ : q_Fx) (h : q_Hp) {a f : Nat} (v : Option Nat) (hk : (q_kinds (q_tag a))[f]? = some true) : q_fs Φ (h.setR a f v) a = (q_fs Φ h a).set f (va_rf (v.map (q_ad Φ))) := by
  have hf : f < (q_kinds (q_tag a)).length := (List.getElem?_eq_some_iff.mp hk).1
  apply List.ext_getElem?
  intro j
  by_cases hj : j < (q_kinds (q_tag a)).length
  · rw [q_fs_get Φ _ hj]
    by_cases e : j = f
    · subst e
      rw [List.getElem?_set_self (by rw [q_fs_len]; exact hf), hk]
      simp [q_Hp.setR, q_Hp.R, q_up, va_up]
    · rw [List.getElem?_set_ne (Ne.symm e), q_fs_get Φ _ hj]
      simp [q_Hp.setR, q_Hp.I, q_Hp.R, q_up, va_up, e]
  · rw [List.getElem?_eq_none (by rw [q_fs_len]; omega), List.getElem?_eq_none (by rw [List.length_set, q_fs_len]; omega)]
section QH
variable {Φ : q_Fx} {xb : Bool} {cc : ByteArray} {own : String} {M : q_M} {Z : Program → Env → State → MethodId → Array Value → List Frame → State → Prop} {pc : Nat} {L L' : List (Option Value)} {S : List Value} {h : q_Hp} {kc ks : Nat}
theorem q_getI {index a f N ci : Nat} {C : String} {T : u_T} (ha : q_tag a = ci) (hcl : q_cl[ci]? = some (C, T, N)) (hin : ∀ w ∈ u_ws C T N, w ∈ q_W0) (hlen : (q_kinds ci).length = N) (hk : (q_kinds ci)[f]? = some false) (hlink : Cond.fieldLink own index (T f).1 (T f).2.1 (T f).2.2.1 ∈ q_W0)
    (d : decode cc pc = .ok (.getfield index, 3)) (h1 : 1 ≤ a) (h2 : a ≤ h.n) (K : q_G Φ xb cc own M Z (pc + 3) L (.int (h.I a f) :: S) h kc ks) : q_G Φ xb cc own M Z pc L (.ref a :: S) h kc ks := by
  intro p e s m args below meth c H locs cells slots ls ok rel hl hc hs
  subst ha
  have hf : f < N := by rw [← hlen]; exact (List.getElem?_eq_some_iff.mp hk).1
  have ht : q_tag a < 11 := (Nat.lt_succ_of_lt (List.getElem?_eq_some_iff.mp hcl).1)
  refine va_get (D := Φ.D) (cl := q_cl) (tys := q_tys Φ) (ws := q_ws Φ h) ok.1 ok.2.1 ok.2.2.2.2.1 hin ok.2.2.2.1 rel.1 rel.2.1 (a - 1) (fs := q_fs Φ h a) (by rw [q_ws_at Φ h h1 h2, q_cell_obj Φ h ht]) hcl f hf (ok.2.2.2.2.1 _ hlink) (fun _ h9 => h9) (v := .int (h.I a f)) (by rw [q_fs_get Φ h (by rw [hlen]; exact hf), hk]; rfl) d ?_
  exact K p e s m args below meth c H locs cells slots ls ok rel hl hc hs
theorem q_getR {index a f N ci : Nat} {o : Option Nat} {C : String} {T : u_T} (ha : q_tag a = ci) (hcl : q_cl[ci]? = some (C, T, N)) (hin : ∀ w ∈ u_ws C T N, w ∈ q_W0) (hlen : (q_kinds ci).length = N) (hk : (q_kinds ci)[f]? = some true) (hlink : Cond.fieldLink own index (T f).1 (T f).2.1 (T f).2.2.1 ∈ q_W0)
    (d : decode cc pc = .ok (.getfield index, 3)) (h1 : 1 ≤ a) (h2 : a ≤ h.n) (hv : h.R a f = o) (K : q_G Φ xb cc own M Z (pc + 3) L (q_rf o :: S) h kc ks) : q_G Φ xb cc own M Z pc L (.ref a :: S) h kc ks := by
  intro p e s m args below meth c H locs cells slots ls ok rel hl hc hs
  subst ha
  have hf : f < N := by rw [← hlen]; exact (List.getElem?_eq_some_iff.mp hk).1
  have ht : q_tag a < 11 := (Nat.lt_succ_of_lt (List.getElem?_eq_some_iff.mp hcl).1)
  refine va_get (D := Φ.D) (cl := q_cl) (tys := q_tys Φ) (ws := q_ws Φ h) ok.1 ok.2.1 ok.2.2.2.2.1 hin ok.2.2.2.1 rel.1 rel.2.1 (a - 1) (fs := q_fs Φ h a) (by rw [q_ws_at Φ h h1 h2, q_cell_obj Φ h ht]) hcl f hf (ok.2.2.2.2.1 _ hlink) (fun _ h9 => h9) (v := q_cv Φ (q_rf o)) (by rw [q_fs_get Φ h (by rw [hlen]; exact hf), hk, if_pos rfl, hv, q_cv_rf]) d ?_
  exact K p e s m args below meth c H locs cells slots ls ok rel hl hc hs
theorem q_putI {index a f N ci : Nat} {C : String} {T : u_T} {v : Int32} {ty : FieldType} (ty0 : Nat → FieldType) (hty : ∀ k, k < N → parseFieldDescriptor (T k).2.2.1 = some (ty0 k)) (hnm : ∀ a, a < N → ∀ b, b < N → a ≠ b → (T a).2.1 ≠ (T b).2.1) (ha : q_tag a = ci) (hcl : q_cl[ci]? = some (C, T, N)) (hin : ∀ w ∈ u_ws C T N, w ∈ q_W0) (hlen : (q_kinds ci).length = N) (hk : (q_kinds ci)[f]? = some false) (hlink : Cond.fieldLink own index (T f).1 (T f).2.1 (T f).2.2.1 ∈ q_W0)
    (hfin : (T f).2.2.2 = false) (hd : parseFieldDescriptor (T f).2.2.1 = some ty) (hn : narrow ty (.int v) = .int v) (hfit : fits ty (.int v) = true)
    (d : decode cc pc = .ok (.putfield index, 3)) (h1 : 1 ≤ a) (h2 : a ≤ h.n) (K : q_G Φ xb cc own M Z (pc + 3) L S (h.setI a f v) kc ks) : q_G Φ xb cc own M Z pc L (.int v :: .ref a :: S) h kc ks := by
  intro p e s m args below meth c H locs cells slots ls ok rel hl hc hs
  subst ha
  have hf : f < N := by rw [← hlen]; exact (List.getElem?_eq_some_iff.mp hk).1
  have ht : q_tag a < 11 := (Nat.lt_succ_of_lt (List.getElem?_eq_some_iff.mp hcl).1)
  obtain ⟨hK, hP, hS, hX, hb1, hb2, hE, hx⟩ := rel
  refine va_put (D := Φ.D) (cl := q_cl) (tys := q_tys Φ) (ws := q_ws Φ h) ok.1 ok.2.1 ok.2.2.2.2.1 hin ty0 hty hnm ok.2.2.2.1 hK hP (q_D hb1.2) hS (a - 1) (fs := q_fs Φ h a) (by rw [q_ws_at Φ h h1 h2, q_cell_obj Φ h ht]) hcl f hf (ok.2.2.2.2.1 _ hlink) (fun _ h9 => h9) hfin (v := .int v) hd hn hfit (by rw [q_fs_len, hlen]; exact hf) d (fun H1 locs1 hP1 _ hS1 => ?_)
  rw [q_ws_set Φ (h' := h.setI a f v) hb1.2 h1 h2 rfl rfl (by rw [q_cell_obj Φ _ ht, q_fs_setI Φ h v hk]) (fun j hj => q_setI_ne Φ h f v hj)] at hP1
  exact K p e s m args below meth c H1 locs1 cells slots ls ok ⟨hK, hP1, hS1, hX, hb1, hb2, hE, hx⟩ hl hc hs
theorem q_putR {index a f b N ci : Nat} {C : String} {T : u_T} {ty : FieldType} (ty0 : Nat → FieldType) (hty : ∀ k, k < N → parseFieldDescriptor (T k).2.2.1 = some (ty0 k)) (hnm : ∀ a, a < N → ∀ b, b < N → a ≠ b → (T a).2.1 ≠ (T b).2.1) (ha : q_tag a = ci) (hcl : q_cl[ci]? = some (C, T, N)) (hin : ∀ w ∈ u_ws C T N, w ∈ q_W0) (hlen : (q_kinds ci).length = N) (hk : (q_kinds ci)[f]? = some true) (hlink : Cond.fieldLink own index (T f).1 (T f).2.1 (T f).2.2.1 ∈ q_W0)
    (hfin : (T f).2.2.2 = false) (hd : parseFieldDescriptor (T f).2.2.1 = some ty) (hn : ∀ z : Nat, narrow ty (.ref z) = .ref z) (hfit : ∀ z : Nat, fits ty (.ref z) = true)
    (d : decode cc pc = .ok (.putfield index, 3)) (h1 : 1 ≤ a) (h2 : a ≤ h.n) (K : q_G Φ xb cc own M Z (pc + 3) L S (h.setR a f (some b)) kc ks) : q_G Φ xb cc own M Z pc L (.ref b :: .ref a :: S) h kc ks := by
  intro p e s m args below meth c H locs cells slots ls ok rel hl hc hs
  subst ha
  have hf : f < N := by rw [← hlen]; exact (List.getElem?_eq_some_iff.mp hk).1
  have ht : q_tag a < 11 := (Nat.lt_succ_of_lt (List.getElem?_eq_some_iff.mp hcl).1)
  obtain ⟨hK, hP, hS, hX, hb1, hb2, hE, hx⟩ := rel
  refine va_put (D := Φ.D) (cl := q_cl) (tys := q_tys Φ) (ws := q_ws Φ h) ok.1 ok.2.1 ok.2.2.2.2.1 hin ty0 hty hnm ok.2.2.2.1 hK hP (q_D hb1.2) hS (a - 1) (fs := q_fs Φ h a) (by rw [q_ws_at Φ h h1 h2, q_cell_obj Φ h ht]) hcl f hf (ok.2.2.2.2.1 _ hlink) (fun _ h9 => h9) hfin (v := .ref (q_ad Φ b)) hd (hn _) (hfit _) (by rw [q_fs_len, hlen]; exact hf) d (fun H1 locs1 hP1 _ hS1 => ?_)
  rw [q_ws_set Φ (h' := h.setR a f (some b)) hb1.2 h1 h2 rfl rfl (by rw [q_cell_obj Φ _ ht, q_fs_setR Φ h (some b) hk]; rfl) (fun j hj => q_setR_ne Φ h f _ hj)] at hP1
  exact K p e s m args below meth c H1 locs1 cells slots ls ok ⟨hK, hP1, hS1, hX, hb1, hb2, hE, hx⟩ hl hc hs
/-- a final field, in its constructor -/
theorem q_putRF {index a f b N ci : Nat} {C : String} {T : u_T} {ty : FieldType} (ty0 : Nat → FieldType) (hty : ∀ k, k < N → parseFieldDescriptor (T k).2.2.1 = some (ty0 k)) (hnm : ∀ a, a < N → ∀ b, b < N → a ≠ b → (T a).2.1 ≠ (T b).2.1) (ha : q_tag a = ci) (hcl : q_cl[ci]? = some (C, T, N)) (hin : ∀ w ∈ u_ws C T N, w ∈ q_W0) (hlen : (q_kinds ci).length = N) (hk : (q_kinds ci)[f]? = some true) (hlink : Cond.fieldLink own index (T f).1 (T f).2.1 (T f).2.2.1 ∈ q_W0)
    (hfin : (T f).2.2.2 = true) (hini : M.ini = true) (hdecl : (T f).1 = own) (hd : parseFieldDescriptor (T f).2.2.1 = some ty) (hn : ∀ z : Nat, narrow ty (.ref z) = .ref z) (hfit : ∀ z : Nat, fits ty (.ref z) = true)
    (d : decode cc pc = .ok (.putfield index, 3)) (h1 : 1 ≤ a) (h2 : a ≤ h.n) (K : q_G Φ xb cc own M Z (pc + 3) L S (h.setR a f (some b)) kc ks) : q_G Φ xb cc own M Z pc L (.ref b :: .ref a :: S) h kc ks := by
  intro p e s m args below meth c H locs cells slots ls ok rel hl hc hs
  subst ha
  have hf : f < N := by rw [← hlen]; exact (List.getElem?_eq_some_iff.mp hk).1
  have ht : q_tag a < 11 := (Nat.lt_succ_of_lt (List.getElem?_eq_some_iff.mp hcl).1)
  obtain ⟨hK, hP, hS, hX, hb1, hb2, hE, hx⟩ := rel
  refine va_putF (D := Φ.D) (cl := q_cl) (tys := q_tys Φ) (ws := q_ws Φ h) ok.1 ok.2.1 ok.2.2.2.2.1 hin ty0 hty hnm ok.2.2.2.1 hK hP (q_D hb1.2) hS (a - 1) (fs := q_fs Φ h a) (by rw [q_ws_at Φ h h1 h2, q_cell_obj Φ h ht]) hcl f hf (ok.2.2.2.2.1 _ hlink) (fun _ h9 => h9) hfin (ok.2.2.2.2.2.2.2.1 hini) hdecl (v := .ref (q_ad Φ b)) hd (hn _) (hfit _) (by rw [q_fs_len, hlen]; exact hf) d (fun H1 locs1 hP1 _ hS1 => ?_)
  rw [q_ws_set Φ (h' := h.setR a f (some b)) hb1.2 h1 h2 rfl rfl (by rw [q_cell_obj Φ _ ht, q_fs_setR Φ h (some b) hk]; rfl) (fun j hj => q_setR_ne Φ h f _ hj)] at hP1
  exact K p e s m args below meth c H1 locs1 cells slots ls ok ⟨hK, hP1, hS1, hX, hb1, hb2, hE, hx⟩ hl hc hs
/-! arrays -/
theorem q_iald {a : Nat} {i : Int32} (ha : q_tag a = 12) (d : decode cc pc = .ok (.iaload, 1)) (h1 : 1 ≤ a) (h2 : a ≤ h.n) (hi : vp_in i (q_len a)) (K : q_G Φ xb cc own M Z (pc + 1) L (.int (h.I a i.toNatClampNeg) :: S) h kc ks) : q_G Φ xb cc own M Z pc L (.int i :: .ref a :: S) h kc ks := by
  intro p e s m args below meth c H locs cells slots ls ok rel hl hc hs
  refine va_iald (D := Φ.D) (cl := q_cl) (tys := q_tys Φ) (ws := q_ws Φ h) ok.1 ok.2.1 rel.1 rel.2.1 (a - 1) 1 (cA := Φ.cy 12) (n := q_len a) (f := h.I a) (by rw [q_ws_at Φ h h1 h2, q_cell_int Φ h (by omega) (by omega), ha]) rfl hi d ?_
  exact K p e s m args below meth c H locs cells slots ls ok rel hl hc hs
theorem q_cald {a : Nat} {i : Int32} (ha : q_tag a = 11) (d : decode cc pc = .ok (.caload, 1)) (h1 : 1 ≤ a) (h2 : a ≤ h.n) (hi : vp_in i (q_len a)) (K : q_G Φ xb cc own M Z (pc + 1) L (.int (h.I a i.toNatClampNeg) :: S) h kc ks) : q_G Φ xb cc own M Z pc L (.int i :: .ref a :: S) h kc ks := by
  intro p e s m args below meth c H locs cells slots ls ok rel hl hc hs
  refine va_cald (D := Φ.D) (cl := q_cl) (tys := q_tys Φ) (ws := q_ws Φ h) ok.1 ok.2.1 rel.1 rel.2.1 (a - 1) 0 (cA := Φ.cy 11) (n := q_len a) (f := h.I a) (by rw [q_ws_at Φ h h1 h2, q_cell_int Φ h (by omega) (by omega), ha]) rfl hi d ?_
  exact K p e s m args below meth c H locs cells slots ls ok rel hl hc hs
theorem q_aald {a : Nat} {i : Int32} {o : Option Nat} (h3 : ¬ q_tag a < 13) (h4 : q_tag a < 16) (d : decode cc pc = .ok (.aaload, 1)) (h1 : 1 ≤ a) (h2 : a ≤ h.n) (hi : vp_in i (q_len a)) (hv : h.R a i.toNatClampNeg = o) (K : q_G Φ xb cc own M Z (pc + 1) L (q_rf o :: S) h kc ks) : q_G Φ xb cc own M Z pc L (.int i :: .ref a :: S) h kc ks := by
  intro p e s m args below meth c H locs cells slots ls ok rel hl hc hs
  have hlt : i.toNatClampNeg < q_len a := Nat.not_le.mp fun q => hi (Or.inr q)
  obtain ⟨ty, t0, ht0, hty⟩ : ∃ (ty : FieldType) (t0 : Nat), (q_tys Φ)[t0]? = some (Φ.cy (q_tag a), ty) ∧ ty.isReference = true := by
    rcases (show q_tag a = 13 ∨ q_tag a = 14 ∨ q_tag a = 15 by omega) with q | q | q <;> rw [q]
    · exact ⟨.object RX3, 2, rfl, rfl⟩
    · exact ⟨.object RX5, 3, rfl, rfl⟩
    · exact ⟨.array .int, 4, rfl, rfl⟩
  have hcell := rel.2.1 _ _ (q_ws_at Φ h h1 h2)
  rw [q_cell_ref Φ h h3 h4] at hcell
  have hcell : H[q_ad Φ a]? = some (arrV (Φ.cy (q_tag a)) (q_len a) (fun j => va_rf ((h.R a j).map (q_ad Φ)))) := hcell
  refine W.aald (v := q_cv Φ (q_rf o)) (ty := ty) ok.1 ok.2.1 hcell ((rel.1.2 t0 _ ht0).1 _ _) hty (fun q => by cases q) (by show ¬ (i < 0 ∨ (arrV _ _ _).slots.size ≤ _); rw [arrV_size]; exact hi) (by rw [q_cv_rf, ← hv]; show (arrV _ _ _).slots[_]? = _; rw [arrV_read _ _ hlt]) rfl rfl d ?_
  exact K p e s m args below meth c H locs cells slots ls ok rel hl hc hs
theorem q_iast {a : Nat} {i v : Int32} (ha : q_tag a = 12) (d : decode cc pc = .ok (.iastore, 1)) (h1 : 1 ≤ a) (h2 : a ≤ h.n) (hi : vp_in i (q_len a)) (K : q_G Φ xb cc own M Z (pc + 1) L S (h.setI a i.toNatClampNeg v) kc ks) : q_G Φ xb cc own M Z pc L (.int v :: .int i :: .ref a :: S) h kc ks := by
  intro p e s m args below meth c H locs cells slots ls ok rel hl hc hs
  obtain ⟨hK, hP, hS, hX, hb1, hb2, hE, hx⟩ := rel
  refine va_iast (D := Φ.D) (cl := q_cl) (tys := q_tys Φ) (ws := q_ws Φ h) ok.1 ok.2.1 hK hP (q_D hb1.2) hS (a - 1) 1 (cA := Φ.cy 12) (n := q_len a) (f := h.I a) (by rw [q_ws_at Φ h h1 h2, q_cell_int Φ h (by omega) (by omega), ha]) rfl hi d (fun H1 locs1 hP1 _ hS1 => ?_)
  rw [q_ws_set Φ (h' := h.setI a i.toNatClampNeg v) hb1.2 h1 h2 rfl rfl (by rw [q_cell_int Φ _ (by omega) (by omega), ha]; show _ = Sum.inl (_, _, Sum.inl _); rw [show (h.setI a i.toNatClampNeg v).I a = va_up (h.I a) i.toNatClampNeg v from q_up_same _ _ _ _]; rfl) (fun j hj => q_setI_ne Φ h _ v hj)] at hP1
  exact K p e s m args below meth c H1 locs1 cells slots ls ok ⟨hK, hP1, hS1, hX, hb1, hb2, hE, hx⟩ hl hc hs
theorem q_cast {a : Nat} {i v : Int32} (ha : q_tag a = 11) (d : decode cc pc = .ok (.castore, 1)) (h1 : 1 ≤ a) (h2 : a ≤ h.n) (hi : vp_in i (q_len a)) (hv : vp_nar .char v = v) (K : q_G Φ xb cc own M Z (pc + 1) L S (h.setI a i.toNatClampNeg v) kc ks) : q_G Φ xb cc own M Z pc L (.int v :: .int i :: .ref a :: S) h kc ks := by
  intro p e s m args below meth c H locs cells slots ls ok rel hl hc hs
  obtain ⟨hK, hP, hS, hX, hb1, hb2, hE, hx⟩ := rel
  refine va_cast (D := Φ.D) (cl := q_cl) (tys := q_tys Φ) (ws := q_ws Φ h) ok.1 ok.2.1 hK hP (q_D hb1.2) hS (a - 1) 0 (cA := Φ.cy 11) (n := q_len a) (f := h.I a) (by rw [q_ws_at Φ h h1 h2, q_cell_int Φ h (by omega) (by omega), ha]) rfl hi d (fun H1 locs1 hP1 _ hS1 => ?_)
  rw [hv] at hP1
  rw [q_ws_set Φ (h' := h.setI a i.toNatClampNeg v) hb1.2 h1 h2 rfl rfl (by rw [q_cell_int Φ _ (by omega) (by omega), ha]; show _ = Sum.inl (_, _, Sum.inl _); rw [show (h.setI a i.toNatClampNeg v).I a = va_up (h.I a) i.toNatClampNeg v from q_up_same _ _ _ _]; rfl) (fun j hj => q_setI_ne Φ h _ v hj)] at hP1
  exact K p e s m args below meth c H1 locs1 cells slots ls ok ⟨hK, hP1, hS1, hX, hb1, hb2, hE, hx⟩ hl hc hs
/-- a Session or a State into its array -/
theorem q_aast {a v ci t0 : Nat} {i : Int32} {r : vw_C} (h3 : ¬ q_tag a < 13) (h4 : q_tag a < 16) (ht : (q_tys Φ)[t0]? = some (Φ.cy (q_tag a), .object r.1)) (hv : q_tag v = ci) (hcl : q_cl[ci]? = some r) (d : decode cc pc = .ok (.aastore, 1)) (h1 : 1 ≤ a) (h2 : a ≤ h.n) (h5 : 1 ≤ v) (h6 : v ≤ h.n) (hi : vp_in i (q_len a)) (K : q_G Φ xb cc own M Z (pc + 1) L S (h.setR a i.toNatClampNeg (some v)) kc ks) : q_G Φ xb cc own M Z pc L (.ref v :: .int i :: .ref a :: S) h kc ks := by
  intro p e s m args below meth c H locs cells slots ls ok rel hl hc hs
  obtain ⟨hK, hP, hS, hX, hb1, hb2, hE, hx⟩ := rel
  have hv11 : q_tag v < 11 := by rw [hv]; exact (Nat.lt_succ_of_lt (List.getElem?_eq_some_iff.mp hcl).1)
  refine va_astq (D := Φ.D) (cl := q_cl) (tys := q_tys Φ) (ws := q_ws Φ h) ok.1 ok.2.1 hK hP (q_D hb1.2) hS (a - 1) t0 (v - 1) ci (r := r) (cA := Φ.cy (q_tag a)) (n := q_len a) (v := q_ad Φ v) (vs := q_fs Φ h v) (f := fun j => (h.R a j).map (q_ad Φ)) (by rw [q_ws_at Φ h h1 h2, q_cell_ref Φ h h3 h4]) ht (by rw [q_ws_at Φ h h5 h6, q_cell_obj Φ h hv11, hv]) hcl hi d (fun H1 locs1 hP1 _ hS1 => ?_)
  rw [q_ws_set Φ (h' := h.setR a i.toNatClampNeg (some v)) hb1.2 h1 h2 rfl rfl (by
    rw [q_cell_ref Φ _ h3 h4, show (h.setR a i.toNatClampNeg (some v)).R a = va_up (h.R a) i.toNatClampNeg (some v) from q_up_same _ _ _ _]
    refine congrArg (fun z => (Sum.inl (Φ.cy (q_tag a), q_len a, Sum.inr (Sum.inr (Sum.inr (Sum.inr z)))) : va_E)) (funext fun j => ?_)
    by_cases e : j = i.toNatClampNeg
    · subst e; simp [va_up]
    · simp [va_up, e]) (fun j hj => q_setR_ne Φ h _ _ hj)] at hP1
  exact K p e s m args below meth c H1 locs1 cells slots ls ok ⟨hK, hP1, hS1, hX, hb1, hb2, hE, hx⟩ hl hc hs
theorem q_alen {a t0 : Nat} {v : Int32} {ty : FieldType} (ha : ¬ q_tag a < 11) (ht : (q_tys Φ)[t0]? = some (Φ.cy (q_tag a), ty)) (hv : Int32.ofNat (q_len a) = v) (h17 : q_tag a < 16) (d : decode cc pc = .ok (.arraylength, 1)) (h1 : 1 ≤ a) (h2 : a ≤ h.n) (K : q_G Φ xb cc own M Z (pc + 1) L (.int v :: S) h kc ks) : q_G Φ xb cc own M Z pc L (.ref a :: S) h kc ks := by
  intro p e s m args below meth c H locs cells slots ls ok rel hl hc hs
  obtain ⟨x, hx, hz⟩ : ∃ x : vp_A, q_cell Φ h a = .inl (Φ.cy (q_tag a), x) ∧ x.1 = q_len a := by
    by_cases e1 : q_tag a < 13
    · exact ⟨_, q_cell_int Φ h ha e1, rfl⟩
    · exact ⟨_, q_cell_ref Φ h e1 h17, rfl⟩
  refine va_alen (v := v) (D := Φ.D) (cl := q_cl) (tys := q_tys Φ) (ws := q_ws Φ h) ok.1 ok.2.1 rel.1 rel.2.1 (a - 1) t0 (cA := Φ.cy (q_tag a)) (x := x) (by rw [q_ws_at Φ h h1 h2, hx]) ht (by rw [hz]; exact hv) d ?_
  exact K p e s m args below meth c H locs cells slots ls ok rel hl hc hs
/-- the script -/
theorem q_sld {i : Int32} (d : decode cc pc = .ok (.iaload, 1)) (hi : vp_in i Φ.L) (K : q_G Φ xb cc own M Z (pc + 1) L (.int (Φ.xs i.toNatClampNeg) :: S) h kc ks) : q_G Φ xb cc own M Z pc L (.int i :: .ref 0 :: S) h kc ks := by
  intro p e s m args below meth c H locs cells slots ls ok rel hl hc hs
  obtain ⟨hK, hP, hS, hX, hb1, hb2, hE, hx⟩ := id rel
  exact va_sld ok.1 ok.2.1 hX (Nat.lt_of_lt_of_le hb1.1 hb2) (Nat.not_le.mpr hb1.1) hS hi d (K p e s m args below meth c H locs cells slots ls ok rel hl hc hs)
theorem q_slen (d : decode cc pc = .ok (.arraylength, 1)) (K : q_G Φ xb cc own M Z (pc + 1) L (.int (Int32.ofNat Φ.L) :: S) h kc ks) : q_G Φ xb cc own M Z pc L (.ref 0 :: S) h kc ks := by
  intro p e s m args below meth c H locs cells slots ls ok rel hl hc hs
  obtain ⟨hK, hP, hS, hX, hb1, hb2, hE, hx⟩ := id rel
  exact va_slen ok.1 ok.2.1 hX (Nat.lt_of_lt_of_le hb1.1 hb2) (Nat.not_le.mpr hb1.1) hS d (K p e s m args below meth c H locs cells slots ls ok rel hl hc hs)
end QH
