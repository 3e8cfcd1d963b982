/-! THE JUDGEMENT -/
def q_W0 : List Cond := lw_tbl.filter goodWord
theorem q_W0_mem {w : Cond} (h : w ∈ lw_tbl) (g : goodWord w = true) : w ∈ q_W0 := List.mem_filter.mpr ⟨h, g⟩
/-- a method's own: locals, return type, whether it is a constructor, its table, its room -/
def q_M : Type := Nat × Option FieldType × Bool × List ExceptionTableEntry × Room
def q_M.nL (M : q_M) : Nat := M.1
def q_M.ret (M : q_M) : Option FieldType := M.2.1
def q_M.ini (M : q_M) : Bool := M.2.2.1
def q_M.tbl (M : q_M) : List ExceptionTableEntry := M.2.2.2.1
def q_M.rm (M : q_M) : Room := M.2.2.2.2
/-- the machine at this method -/
def q_Ok (Φ : q_Fx) (cc : ByteArray) (own : String) (M : q_M) (p : Program) (s : State) (m : MethodId) (args : Array Value) (meth : Method) (c : Code) : Prop :=
  p.tables.exec = Jvm.exec ∧ c.code = cc ∧ c.maxLocals = M.nL ∧ s.vm.findClass own = some m.cls ∧ (∀ w ∈ q_W0, w.before args s = true) ∧ meth.sig.returnType = M.ret ∧ meth.locks = false ∧ (M.ini = true → meth.name = "<init>") ∧ c.exceptionTable.toList = M.tbl ∧ Φ.l.stackTraces = false
/-- the locals, place by place; none: not known -/
def q_mk (Φ : q_Fx) : Nat → List (Option Value) → List (Nat × Value)
  | _, [] => []
  | i, none :: t => q_mk Φ (i + 1) t
  | i, some v :: t => (i, q_cv Φ v) :: q_mk Φ (i + 1) t
theorem q_mk_get (Φ : q_Fx) : ∀ (L : List (Option Value)) (i k : Nat) (v : Value), L[k]? = some (some v) → (i + k, q_cv Φ v) ∈ q_mk Φ i L
  | [], _, _, _, h => by simp at h
  | none :: t, i, 0, v, h => by simp at h
  | some u :: t, i, 0, v, h => by
    simp at h; subst h; exact List.mem_cons_self
  | none :: t, i, k + 1, v, h => by
    have h2 := q_mk_get Φ t (i + 1) k v (by simpa using h)
    rw [show i + (k + 1) = i + 1 + k by omega]; exact h2
  | some u :: t, i, k + 1, v, h => by
    have h2 := q_mk_get Φ t (i + 1) k v (by simpa using h)
    rw [show i + (k + 1) = i + 1 + k by omega]; exact List.mem_cons_of_mem _ h2
theorem q_mk_of (Φ : q_Fx) : ∀ (L : List (Option Value)) (i : Nat) (q : Nat × Value), q ∈ q_mk Φ i L → ∃ (k : Nat) (v : Value), L[k]? = some (some v) ∧ q = (i + k, q_cv Φ v)
  | [], _, _, h => by cases h
  | none :: t, i, q, h => by
    obtain ⟨k, v, h1, h2⟩ := q_mk_of Φ t (i + 1) q h
    exact ⟨k + 1, v, by simpa using h1, by rw [h2, show i + 1 + k = i + (k + 1) by omega]⟩
  | some u :: t, i, q, h => by
    rcases List.mem_cons.mp h with h | h
    · exact ⟨0, u, by simp, h⟩
    · obtain ⟨k, v, h1, h2⟩ := q_mk_of Φ t (i + 1) q h
      exact ⟨k + 1, v, by simpa using h1, by rw [h2, show i + 1 + k = i + (k + 1) by omega]⟩
theorem q_cv_cat (Φ : q_Fx) (v : Value) : (q_cv Φ v).category = v.category := by cases v <;> rfl
/-- no wide value just below the place i -/
def q_nw1 (L : List (Option Value)) (i : Nat) : Bool := match i with
  | 0 => true
  | j + 1 => match L[j]? with
    | some (some (.long _)) => false
    | some (some (.double _)) => false
    | _ => true
theorem q_nw1_of {L : List (Option Value)} {j : Nat} {v : Value} (h : q_nw1 L (j + 1) = true) (hv : L[j]? = some (some v)) : v.category = 1 := by
  unfold q_nw1 at h
  simp only [hv] at h
  cases v <;> first | rfl | (simp at h)
theorem q_has_sub {ls : Array Slot} {nL : Nat} {l l' : List (Nat × Value)} (h : lv_has ls nL l) (hs : ∀ q ∈ l', q ∈ l) : lv_has ls nL l' := ⟨h.1, h.2.1, fun q hq => h.2.2 q (hs q hq)⟩
/-- behind a store of one word at the place i -/
theorem q_has1 {Φ : q_Fx} {ls : Array Slot} {nL i : Nat} {L L' : List (Option Value)} {v : Value} (h : lv_has ls nL ((i, q_cv Φ v) :: (q_mk Φ 0 L).filter (fun q => !(q.1 == i) && !(q.1 + 1 == i && q.2.category == 2)))) (hw : q_nw1 L i = true) (hL : L.set i (some v) = L') : lv_has ls nL (q_mk Φ 0 L') := by
  subst hL
  refine q_has_sub h fun q hq => ?_
  obtain ⟨k, u, h1, rfl⟩ := q_mk_of Φ _ 0 q hq
  rw [Nat.zero_add]
  by_cases hk : i = k
  · subst hk
    have hl : i < L.length := by
      have := (List.getElem?_eq_some_iff.mp h1).1
      rwa [List.length_set] at this
    rw [List.getElem?_set_self hl] at h1
    cases h1
    exact List.mem_cons_self
  · rw [List.getElem?_set_ne hk] at h1
    refine List.mem_cons_of_mem _ (List.mem_filter.mpr ⟨by have := q_mk_get Φ L 0 k u h1; rwa [Nat.zero_add] at this, ?_⟩)
    have e1 : (k == i) = false := by simp; exact fun h => hk h.symm
    by_cases hk2 : k + 1 = i
    · subst hk2
      have hc := q_nw1_of hw h1
      simp [e1, q_cv_cat, hc]
    · simp [e1, hk2]
/-- behind a store of two words -/
theorem q_has2 {Φ : q_Fx} {ls : Array Slot} {nL i : Nat} {L L' : List (Option Value)} {v : Value} (h : lv_has ls nL ((i, q_cv Φ v) :: (q_mk Φ 0 L).filter (fun q => !(q.1 == i) && (!(q.1 == i + 1) && !(q.1 + 1 == i && q.2.category == 2))))) (hw : q_nw1 L i = true) (hL : (L.set i (some v)).set (i + 1) none = L') : lv_has ls nL (q_mk Φ 0 L') := by
  subst hL
  refine q_has_sub h fun q hq => ?_
  obtain ⟨k, u, h1, rfl⟩ := q_mk_of Φ _ 0 q hq
  rw [Nat.zero_add]
  by_cases hk : i + 1 = k
  · subst hk
    by_cases hl : i + 1 < (L.set i (some v)).length
    · rw [List.getElem?_set_self hl] at h1; cases h1
    · rw [List.getElem?_eq_none (by rw [List.length_set]; omega)] at h1; cases h1
  rw [List.getElem?_set_ne hk] at h1
  by_cases hk : i = k
  · subst hk
    have hl : i < L.length := by
      have := (List.getElem?_eq_some_iff.mp h1).1
      rwa [List.length_set] at this
    rw [List.getElem?_set_self hl] at h1
    cases h1
    exact List.mem_cons_self
  · rw [List.getElem?_set_ne hk] at h1
    refine List.mem_cons_of_mem _ (List.mem_filter.mpr ⟨by have := q_mk_get Φ L 0 k u h1; rwa [Nat.zero_add] at this, ?_⟩)
    have e1 : (k == i) = false := by simp; exact fun h => hk h.symm
    have e2 : (k == i + 1) = false := by simp; omega
    by_cases hk2 : k + 1 = i
    · subst hk2
      have hc := q_nw1_of hw h1
      simp [e1, e2, q_cv_cat, hc]
    · simp [e1, e2, hk2]
theorem q_at {Φ : q_Fx} {ls : Array Slot} {nL k : Nat} {L : List (Option Value)} {v : Value} (h : lv_has ls nL (q_mk Φ 0 L)) (hk : L[k]? = some (some v)) : ls[k]? = some (.val (q_cv Φ v)) := by
  have h1 := q_mk_get Φ L 0 k v hk
  rw [Nat.zero_add] at h1
  exact h.2.2 _ h1
/-- the world at a point: s is the state at this method's entry -/
def q_Rel (Φ : q_Fx) (xb : Bool) (h : q_Hp) (s : State) (H : Heap) (locs : List Loc) (cells : Nat) : Prop :=
  va_K Φ.D q_cl (q_tys Φ) s ∧ va_P Φ.D q_cl (q_ws Φ h) H ∧ va_S (q_A Φ) s.heap H locs ∧ va_X Φ.b Φ.L Φ.xs s s.heap ∧ (Φ.b < Φ.bb ∧ q_dok Φ h.n h.J) ∧ Φ.bb ≤ s.heap.size ∧ q_Ext Φ s s.heap ∧ (xb = true → q_mkg Φ h.n h.J (s.heap.size + cells))
/-- xb: in the time of the making, where every new cell is a place -/
def q_G (Φ : q_Fx) (xb : Bool) (cc : ByteArray) (own : String) (M : q_M) (Z : Program → Env → State → MethodId → Array Value → List Frame → State → Prop) (pc : Nat) (L : List (Option Value)) (S : List Value) (h : q_Hp) (kc ks : Nat) : Prop :=
  ∀ (p : Program) (e : Env) (s : State) (m : MethodId) (args : Array Value) (below : List Frame) (meth : Method) (c : Code) (H : Heap) (locs : List Loc) (cells slots : Nat) (ls : Array Slot),
    q_Ok Φ cc own M p s m args meth c → q_Rel Φ xb h s H locs cells → lv_has ls M.nL (q_mk Φ 0 L) → cells + kc = M.rm.cells → slots + ks = M.rm.slots →
    W p Φ.l e M.rm s m args below meth c H locs cells slots (Z p e s m args below) (F0 m pc ls (S.map (q_cv Φ)))
section QG
variable {Φ : q_Fx} {xb : Bool} {cc : ByteArray} {own : String} {M : q_M} {Z : Program → Env → State → MethodId → Array Value → List Frame → State → Prop} {pc : Nat} {L L' : List (Option Value)} {S : List Value} {h : q_Hp} {kc ks : Nat}

theorem q_iconst {n : Int} {v : Int32} (d : decode cc pc = .ok (.iconst n, 1)) (hv : Int32.ofInt n = v) (K : q_G Φ xb cc own M Z (pc + 1) L (.int v :: S) h kc ks) : q_G Φ xb cc own M Z pc L S h kc ks := by
  intro p e s m args below meth c H locs cells slots ls ok rel hl hc hs
  exact lv_iconst ok.1 ok.2.1 d hv (K p e s m args below meth c H locs cells slots ls ok rel hl hc hs)
theorem q_bipush {n : Int} {v : Int32} (d : decode cc pc = .ok (.bipush n, 2)) (hv : (Int8.ofInt n).toInt32 = v) (K : q_G Φ xb cc own M Z (pc + 2) L (.int v :: S) h kc ks) : q_G Φ xb cc own M Z pc L S h kc ks := by
  intro p e s m args below meth c H locs cells slots ls ok rel hl hc hs
  exact lv_bipush ok.1 ok.2.1 d hv (K p e s m args below meth c H locs cells slots ls ok rel hl hc hs)
theorem q_sipush {n : Int} {v : Int32} (d : decode cc pc = .ok (.sipush n, 3)) (hv : (Int16.ofInt n).toInt32 = v) (K : q_G Φ xb cc own M Z (pc + 3) L (.int v :: S) h kc ks) : q_G Φ xb cc own M Z pc L S h kc ks := by
  intro p e s m args below meth c H locs cells slots ls ok rel hl hc hs
  exact lv_sipush ok.1 ok.2.1 d hv (K p e s m args below meth c H locs cells slots ls ok rel hl hc hs)
theorem q_fconst0 (d : decode cc pc = .ok (.fconst 0, 1)) (K : q_G Φ xb cc own M Z (pc + 1) L (.float FP.fconst0 :: S) h kc ks) : q_G Φ xb cc own M Z pc L S h kc ks := by
  intro p e s m args below meth c H locs cells slots ls ok rel hl hc hs
  exact lv_fconst0 ok.1 ok.2.1 d (K p e s m args below meth c H locs cells slots ls ok rel hl hc hs)
theorem q_ldc {index : Nat} {v : Int32} (d : decode cc pc = .ok (.ldc index, 2)) (hw : Cond.constant own index v ∈ q_W0) (K : q_G Φ xb cc own M Z (pc + 2) L (.int v :: S) h kc ks) : q_G Φ xb cc own M Z pc L S h kc ks := by
  intro p e s m args below meth c H locs cells slots ls ok rel hl hc hs
  exact lv_ldc ok.1 ok.2.1 ok.2.2.2.1 (ok.2.2.2.2.1 _ hw) d (K p e s m args below meth c H locs cells slots ls ok rel hl hc hs)
theorem q_ldcw {index : Nat} {v : Int32} (d : decode cc pc = .ok (.ldc_w index, 3)) (hw : Cond.constant own index v ∈ q_W0) (K : q_G Φ xb cc own M Z (pc + 3) L (.int v :: S) h kc ks) : q_G Φ xb cc own M Z pc L S h kc ks := by
  intro p e s m args below meth c H locs cells slots ls ok rel hl hc hs
  exact lv_ldcw ok.1 ok.2.1 ok.2.2.2.1 (ok.2.2.2.2.1 _ hw) d (K p e s m args below meth c H locs cells slots ls ok rel hl hc hs)
theorem q_iload_n {k : Fin 4} {x : Int32} (d : decode cc pc = .ok (.iload_n k, 1)) (hL : L[k.val]? = some (some (.int x))) (K : q_G Φ xb cc own M Z (pc + 1) L (.int x :: S) h kc ks) : q_G Φ xb cc own M Z pc L S h kc ks := by
  intro p e s m args below meth c H locs cells slots ls ok rel hl hc hs
  exact lv_iload_n ok.1 ok.2.1 d rfl (q_at hl hL) (K p e s m args below meth c H locs cells slots ls ok rel hl hc hs)
theorem q_iload {i : Nat} {x : Int32} (d : decode cc pc = .ok (.iload i, 2)) (hL : L[i]? = some (some (.int x))) (K : q_G Φ xb cc own M Z (pc + 2) L (.int x :: S) h kc ks) : q_G Φ xb cc own M Z pc L S h kc ks := by
  intro p e s m args below meth c H locs cells slots ls ok rel hl hc hs
  exact lv_iload ok.1 ok.2.1 d (q_at hl hL) (K p e s m args below meth c H locs cells slots ls ok rel hl hc hs)
theorem q_fload_n {k : Fin 4} {x : UInt32} (d : decode cc pc = .ok (.fload_n k, 1)) (hL : L[k.val]? = some (some (.float x))) (K : q_G Φ xb cc own M Z (pc + 1) L (.float x :: S) h kc ks) : q_G Φ xb cc own M Z pc L S h kc ks := by
  intro p e s m args below meth c H locs cells slots ls ok rel hl hc hs
  exact lv_fload_n ok.1 ok.2.1 d rfl (q_at hl hL) (K p e s m args below meth c H locs cells slots ls ok rel hl hc hs)
theorem q_fload {i : Nat} {x : UInt32} (d : decode cc pc = .ok (.fload i, 2)) (hL : L[i]? = some (some (.float x))) (K : q_G Φ xb cc own M Z (pc + 2) L (.float x :: S) h kc ks) : q_G Φ xb cc own M Z pc L S h kc ks := by
  intro p e s m args below meth c H locs cells slots ls ok rel hl hc hs
  exact lv_fload ok.1 ok.2.1 d (q_at hl hL) (K p e s m args below meth c H locs cells slots ls ok rel hl hc hs)
theorem q_dload_n {k : Fin 4} {x : UInt64} (d : decode cc pc = .ok (.dload_n k, 1)) (hL : L[k.val]? = some (some (.double x))) (K : q_G Φ xb cc own M Z (pc + 1) L (.double x :: S) h kc ks) : q_G Φ xb cc own M Z pc L S h kc ks := by
  intro p e s m args below meth c H locs cells slots ls ok rel hl hc hs
  exact lv_dload_n ok.1 ok.2.1 d rfl (q_at hl hL) (K p e s m args below meth c H locs cells slots ls ok rel hl hc hs)
theorem q_dload {i : Nat} {x : UInt64} (d : decode cc pc = .ok (.dload i, 2)) (hL : L[i]? = some (some (.double x))) (K : q_G Φ xb cc own M Z (pc + 2) L (.double x :: S) h kc ks) : q_G Φ xb cc own M Z pc L S h kc ks := by
  intro p e s m args below meth c H locs cells slots ls ok rel hl hc hs
  exact lv_dload ok.1 ok.2.1 d (q_at hl hL) (K p e s m args below meth c H locs cells slots ls ok rel hl hc hs)
theorem q_aload_n {k : Fin 4} {x : Nat} (d : decode cc pc = .ok (.aload_n k, 1)) (hL : L[k.val]? = some (some (.ref x))) (K : q_G Φ xb cc own M Z (pc + 1) L (.ref x :: S) h kc ks) : q_G Φ xb cc own M Z pc L S h kc ks := by
  intro p e s m args below meth c H locs cells slots ls ok rel hl hc hs
  exact lv_aload_n ok.1 ok.2.1 d rfl (q_at hl hL) (K p e s m args below meth c H locs cells slots ls ok rel hl hc hs)
theorem q_aload {i : Nat} {x : Nat} (d : decode cc pc = .ok (.aload i, 2)) (hL : L[i]? = some (some (.ref x))) (K : q_G Φ xb cc own M Z (pc + 2) L (.ref x :: S) h kc ks) : q_G Φ xb cc own M Z pc L S h kc ks := by
  intro p e s m args below meth c H locs cells slots ls ok rel hl hc hs
  exact lv_aload ok.1 ok.2.1 d (q_at hl hL) (K p e s m args below meth c H locs cells slots ls ok rel hl hc hs)
theorem q_istore_n {k : Fin 4} {x : Int32} (d : decode cc pc = .ok (.istore_n k, 1)) (hL : L.set k.val (some (.int x)) = L') (hn : k.val < M.nL) (hw : q_nw1 L k.val = true) (K : q_G Φ xb cc own M Z (pc + 1) L' S h kc ks) : q_G Φ xb cc own M Z pc L (.int x :: S) h kc ks := by
  intro p e s m args below meth c H locs cells slots ls ok rel hl hc hs
  exact lv_istore_n ok.1 ok.2.1 d rfl hl hn rfl (fun ls2 hl2 => (K p e s m args below meth c H locs cells slots ls2 ok rel (q_has1 hl2 hw hL) hc hs))
theorem q_istore {i : Nat} {x : Int32} (d : decode cc pc = .ok (.istore i, 2)) (hL : L.set i (some (.int x)) = L') (hn : i < M.nL) (hw : q_nw1 L i = true) (K : q_G Φ xb cc own M Z (pc + 2) L' S h kc ks) : q_G Φ xb cc own M Z pc L (.int x :: S) h kc ks := by
  intro p e s m args below meth c H locs cells slots ls ok rel hl hc hs
  exact lv_istore ok.1 ok.2.1 d hl hn rfl (fun ls2 hl2 => (K p e s m args below meth c H locs cells slots ls2 ok rel (q_has1 hl2 hw hL) hc hs))
theorem q_fstore_n {k : Fin 4} {x : UInt32} (d : decode cc pc = .ok (.fstore_n k, 1)) (hL : L.set k.val (some (.float x)) = L') (hn : k.val < M.nL) (hw : q_nw1 L k.val = true) (K : q_G Φ xb cc own M Z (pc + 1) L' S h kc ks) : q_G Φ xb cc own M Z pc L (.float x :: S) h kc ks := by
  intro p e s m args below meth c H locs cells slots ls ok rel hl hc hs
  exact lv_fstore_n ok.1 ok.2.1 d rfl hl hn rfl (fun ls2 hl2 => (K p e s m args below meth c H locs cells slots ls2 ok rel (q_has1 hl2 hw hL) hc hs))
theorem q_fstore {i : Nat} {x : UInt32} (d : decode cc pc = .ok (.fstore i, 2)) (hL : L.set i (some (.float x)) = L') (hn : i < M.nL) (hw : q_nw1 L i = true) (K : q_G Φ xb cc own M Z (pc + 2) L' S h kc ks) : q_G Φ xb cc own M Z pc L (.float x :: S) h kc ks := by
  intro p e s m args below meth c H locs cells slots ls ok rel hl hc hs
  exact lv_fstore ok.1 ok.2.1 d hl hn rfl (fun ls2 hl2 => (K p e s m args below meth c H locs cells slots ls2 ok rel (q_has1 hl2 hw hL) hc hs))
theorem q_astore_n {k : Fin 4} {x : Nat} (d : decode cc pc = .ok (.astore_n k, 1)) (hL : L.set k.val (some (.ref x)) = L') (hn : k.val < M.nL) (hw : q_nw1 L k.val = true) (K : q_G Φ xb cc own M Z (pc + 1) L' S h kc ks) : q_G Φ xb cc own M Z pc L (.ref x :: S) h kc ks := by
  intro p e s m args below meth c H locs cells slots ls ok rel hl hc hs
  exact lv_astore_n ok.1 ok.2.1 d rfl hl hn rfl (fun ls2 hl2 => (K p e s m args below meth c H locs cells slots ls2 ok rel (q_has1 hl2 hw hL) hc hs))
theorem q_astore {i : Nat} {x : Nat} (d : decode cc pc = .ok (.astore i, 2)) (hL : L.set i (some (.ref x)) = L') (hn : i < M.nL) (hw : q_nw1 L i = true) (K : q_G Φ xb cc own M Z (pc + 2) L' S h kc ks) : q_G Φ xb cc own M Z pc L (.ref x :: S) h kc ks := by
  intro p e s m args below meth c H locs cells slots ls ok rel hl hc hs
  exact lv_astore ok.1 ok.2.1 d hl hn rfl (fun ls2 hl2 => (K p e s m args below meth c H locs cells slots ls2 ok rel (q_has1 hl2 hw hL) hc hs))
theorem q_dstore {i : Nat} {x : UInt64} (d : decode cc pc = .ok (.dstore i, 2)) (hL : (L.set i (some (.double x))).set (i + 1) none = L') (hn : i + 1 < M.nL) (hw : q_nw1 L i = true) (K : q_G Φ xb cc own M Z (pc + 2) L' S h kc ks) : q_G Φ xb cc own M Z pc L (.double x :: S) h kc ks := by
  intro p e s m args below meth c H locs cells slots ls ok rel hl hc hs
  exact lv_dstore ok.1 ok.2.1 d hl hn rfl (fun ls2 hl2 => (K p e s m args below meth c H locs cells slots ls2 ok rel (q_has2 hl2 hw hL) hc hs))
theorem q_iinc {i : Nat} {n : Int} {x v : Int32} (d : decode cc pc = .ok (.iinc i n, 3)) (hx : L[i]? = some (some (.int x))) (hv : x + Int32.ofInt n = v) (hL : L.set i (some (.int v)) = L') (hn : i < M.nL) (hw : q_nw1 L i = true) (K : q_G Φ xb cc own M Z (pc + 3) L' S h kc ks) : q_G Φ xb cc own M Z pc L S h kc ks := by
  intro p e s m args below meth c H locs cells slots ls ok rel hl hc hs
  have h1 := q_mk_get Φ L 0 i _ hx
  rw [Nat.zero_add] at h1
  obtain ⟨k, hk⟩ := List.getElem?_of_mem h1
  exact lv_iinc ok.1 ok.2.1 d hl hk hv hn rfl (fun ls2 hl2 => (K p e s m args below meth c H locs cells slots ls2 ok rel (q_has1 hl2 hw hL) hc hs))
theorem q_iadd {x y : Int32} (d : decode cc pc = .ok (.iadd, 1)) (K : q_G Φ xb cc own M Z (pc + 1) L (.int (x + y) :: S) h kc ks) : q_G Φ xb cc own M Z pc L (.int y :: .int x :: S) h kc ks := by
  intro p e s m args below meth c H locs cells slots ls ok rel hl hc hs
  exact lv_iadd ok.1 ok.2.1 d (K p e s m args below meth c H locs cells slots ls ok rel hl hc hs)
theorem q_isub {x y : Int32} (d : decode cc pc = .ok (.isub, 1)) (K : q_G Φ xb cc own M Z (pc + 1) L (.int (x - y) :: S) h kc ks) : q_G Φ xb cc own M Z pc L (.int y :: .int x :: S) h kc ks := by
  intro p e s m args below meth c H locs cells slots ls ok rel hl hc hs
  exact lv_isub ok.1 ok.2.1 d (K p e s m args below meth c H locs cells slots ls ok rel hl hc hs)
theorem q_imul {x y : Int32} (d : decode cc pc = .ok (.imul, 1)) (K : q_G Φ xb cc own M Z (pc + 1) L (.int (x * y) :: S) h kc ks) : q_G Φ xb cc own M Z pc L (.int y :: .int x :: S) h kc ks := by
  intro p e s m args below meth c H locs cells slots ls ok rel hl hc hs
  exact lv_imul ok.1 ok.2.1 d (K p e s m args below meth c H locs cells slots ls ok rel hl hc hs)
theorem q_iand {x y : Int32} (d : decode cc pc = .ok (.iand, 1)) (K : q_G Φ xb cc own M Z (pc + 1) L (.int (x &&& y) :: S) h kc ks) : q_G Φ xb cc own M Z pc L (.int y :: .int x :: S) h kc ks := by
  intro p e s m args below meth c H locs cells slots ls ok rel hl hc hs
  exact lv_iand ok.1 ok.2.1 d (K p e s m args below meth c H locs cells slots ls ok rel hl hc hs)
theorem q_idiv {x y : Int32} (d : decode cc pc = .ok (.idiv, 1)) (hne : ¬ y = 0) (K : q_G Φ xb cc own M Z (pc + 1) L (.int (x / y) :: S) h kc ks) : q_G Φ xb cc own M Z pc L (.int y :: .int x :: S) h kc ks := by
  intro p e s m args below meth c H locs cells slots ls ok rel hl hc hs
  exact lv_idiv ok.1 ok.2.1 d hne (K p e s m args below meth c H locs cells slots ls ok rel hl hc hs)
theorem q_irem {x y : Int32} (d : decode cc pc = .ok (.irem, 1)) (hne : ¬ y = 0) (K : q_G Φ xb cc own M Z (pc + 1) L (.int (x - x / y * y) :: S) h kc ks) : q_G Φ xb cc own M Z pc L (.int y :: .int x :: S) h kc ks := by
  intro p e s m args below meth c H locs cells slots ls ok rel hl hc hs
  exact lv_irem ok.1 ok.2.1 d hne (K p e s m args below meth c H locs cells slots ls ok rel hl hc hs)
theorem q_i2l {x : Int32} (d : decode cc pc = .ok (.i2l, 1)) (K : q_G Φ xb cc own M Z (pc + 1) L (.long x.toInt64 :: S) h kc ks) : q_G Φ xb cc own M Z pc L (.int x :: S) h kc ks := by
  intro p e s m args below meth c H locs cells slots ls ok rel hl hc hs
  exact lv_i2l ok.1 ok.2.1 d rfl (K p e s m args below meth c H locs cells slots ls ok rel hl hc hs)
theorem q_i2c {x v : Int32} (d : decode cc pc = .ok (.i2c, 1)) (hv : (x.toUInt32 % 65536).toInt32 = v) (K : q_G Φ xb cc own M Z (pc + 1) L (.int v :: S) h kc ks) : q_G Φ xb cc own M Z pc L (.int x :: S) h kc ks := by
  intro p e s m args below meth c H locs cells slots ls ok rel hl hc hs
  exact lv_i2c ok.1 ok.2.1 d hv (K p e s m args below meth c H locs cells slots ls ok rel hl hc hs)
theorem q_i2f {x : Int32} (d : decode cc pc = .ok (.i2f, 1)) (K : q_G Φ xb cc own M Z (pc + 1) L (.float (FP.i2f x) :: S) h kc ks) : q_G Φ xb cc own M Z pc L (.int x :: S) h kc ks := by
  intro p e s m args below meth c H locs cells slots ls ok rel hl hc hs
  exact lv_i2f ok.1 ok.2.1 d (K p e s m args below meth c H locs cells slots ls ok rel hl hc hs)
theorem q_i2d {x : Int32} (d : decode cc pc = .ok (.i2d, 1)) (K : q_G Φ xb cc own M Z (pc + 1) L (.double (FP.i2d x) :: S) h kc ks) : q_G Φ xb cc own M Z pc L (.int x :: S) h kc ks := by
  intro p e s m args below meth c H locs cells slots ls ok rel hl hc hs
  exact lv_i2d ok.1 ok.2.1 d (K p e s m args below meth c H locs cells slots ls ok rel hl hc hs)
theorem q_f2d {x : UInt32} (d : decode cc pc = .ok (.f2d, 1)) (hne : vf_n64 (FP.f2d x)) (K : q_G Φ xb cc own M Z (pc + 1) L (.double (FP.f2d x) :: S) h kc ks) : q_G Φ xb cc own M Z pc L (.float x :: S) h kc ks := by
  intro p e s m args below meth c H locs cells slots ls ok rel hl hc hs
  exact lv_f2d ok.1 ok.2.1 d hne (K p e s m args below meth c H locs cells slots ls ok rel hl hc hs)
theorem q_fdiv {x y : UInt32} (d : decode cc pc = .ok (.fdiv, 1)) (hne : vf_n32 (FP.fdiv x y)) (K : q_G Φ xb cc own M Z (pc + 1) L (.float (FP.fdiv x y) :: S) h kc ks) : q_G Φ xb cc own M Z pc L (.float y :: .float x :: S) h kc ks := by
  intro p e s m args below meth c H locs cells slots ls ok rel hl hc hs
  exact lv_fdiv ok.1 ok.2.1 d hne (K p e s m args below meth c H locs cells slots ls ok rel hl hc hs)
theorem q_ddiv {x y : UInt64} (d : decode cc pc = .ok (.ddiv, 1)) (hne : vf_n64 (FP.ddiv x y)) (K : q_G Φ xb cc own M Z (pc + 1) L (.double (FP.ddiv x y) :: S) h kc ks) : q_G Φ xb cc own M Z pc L (.double y :: .double x :: S) h kc ks := by
  intro p e s m args below meth c H locs cells slots ls ok rel hl hc hs
  exact lv_ddiv ok.1 ok.2.1 d hne (K p e s m args below meth c H locs cells slots ls ok rel hl hc hs)
theorem q_fcmp {x y : UInt32} {op : CmpOp} (d : decode cc pc = .ok (.fcmp op, 1)) (K : q_G Φ xb cc own M Z (pc + 1) L (.int (Op.cmpValue (FP.fcmp x y) op) :: S) h kc ks) : q_G Φ xb cc own M Z pc L (.float y :: .float x :: S) h kc ks := by
  intro p e s m args below meth c H locs cells slots ls ok rel hl hc hs
  exact lv_fcmp ok.1 ok.2.1 d (K p e s m args below meth c H locs cells slots ls ok rel hl hc hs)
theorem q_dcmp {x y : UInt64} {op : CmpOp} (d : decode cc pc = .ok (.dcmp op, 1)) (K : q_G Φ xb cc own M Z (pc + 1) L (.int (Op.cmpValue (FP.dcmp x y) op) :: S) h kc ks) : q_G Φ xb cc own M Z pc L (.double y :: .double x :: S) h kc ks := by
  intro p e s m args below meth c H locs cells slots ls ok rel hl hc hs
  exact lv_dcmp ok.1 ok.2.1 d (K p e s m args below meth c H locs cells slots ls ok rel hl hc hs)
theorem q_lcmp {x y : Int64} (d : decode cc pc = .ok (.lcmp, 1)) (K : q_G Φ xb cc own M Z (pc + 1) L (.int (lg_cmp x y) :: S) h kc ks) : q_G Φ xb cc own M Z pc L (.long y :: .long x :: S) h kc ks := by
  intro p e s m args below meth c H locs cells slots ls ok rel hl hc hs
  exact W.lcmp ok.1 ok.2.1 d (K p e s m args below meth c H locs cells slots ls ok rel hl hc hs)
theorem q_dup {v : Value} (d : decode cc pc = .ok (.dup, 1)) (hv : v.category = 1) (K : q_G Φ xb cc own M Z (pc + 1) L (v :: v :: S) h kc ks) : q_G Φ xb cc own M Z pc L (v :: S) h kc ks := by
  intro p e s m args below meth c H locs cells slots ls ok rel hl hc hs
  exact lv_dup ok.1 ok.2.1 d (by rw [q_cv_cat]; exact hv) (K p e s m args below meth c H locs cells slots ls ok rel hl hc hs)
theorem q_dup2 {u v : Value} (d : decode cc pc = .ok (.dup2, 1)) (hu : u.category = 1) (hv : v.category = 1) (K : q_G Φ xb cc own M Z (pc + 1) L (u :: v :: u :: v :: S) h kc ks) : q_G Φ xb cc own M Z pc L (u :: v :: S) h kc ks := by
  intro p e s m args below meth c H locs cells slots ls ok rel hl hc hs
  exact lv_dup2_11 ok.1 ok.2.1 d (by rw [q_cv_cat]; exact hu) (by rw [q_cv_cat]; exact hv) (K p e s m args below meth c H locs cells slots ls ok rel hl hc hs)
theorem q_pop {v : Value} (d : decode cc pc = .ok (.pop, 1)) (hv : v.category = 1) (K : q_G Φ xb cc own M Z (pc + 1) L S h kc ks) : q_G Φ xb cc own M Z pc L (v :: S) h kc ks := by
  intro p e s m args below meth c H locs cells slots ls ok rel hl hc hs
  exact lv_pop ok.1 ok.2.1 d (by rw [q_cv_cat]; exact hv) (K p e s m args below meth c H locs cells slots ls ok rel hl hc hs)
theorem q_goto {off : Int} {tgt : Nat} (d : decode cc pc = .ok (.goto off, 3)) (ht : (pc : Int) + off = (tgt : Int)) (K : q_G Φ xb cc own M Z tgt L S h kc ks) : q_G Φ xb cc own M Z pc L S h kc ks := by
  intro p e s m args below meth c H locs cells slots ls ok rel hl hc hs
  exact lv_goto ok.1 ok.2.1 d ht (K p e s m args below meth c H locs cells slots ls ok rel hl hc hs)
theorem q_if_eq {x : Int32} {off : Int} {tgt : Nat} (d : decode cc pc = .ok (.ifCond .eq off, 3)) (ht : (pc : Int) + off = (tgt : Int)) (K1 : x = 0 → q_G Φ xb cc own M Z tgt L S h kc ks) (K2 : ¬ (x = 0) → q_G Φ xb cc own M Z (pc + 3) L S h kc ks) : q_G Φ xb cc own M Z pc L (.int x :: S) h kc ks := by
  intro p e s m args below meth c H locs cells slots ls ok rel hl hc hs
  exact lv_if_eq ok.1 ok.2.1 d ht (fun q => K1 q p e s m args below meth c H locs cells slots ls ok rel hl hc hs) (fun q => K2 q p e s m args below meth c H locs cells slots ls ok rel hl hc hs)
theorem q_if_ne {x : Int32} {off : Int} {tgt : Nat} (d : decode cc pc = .ok (.ifCond .ne off, 3)) (ht : (pc : Int) + off = (tgt : Int)) (K1 : ¬ x = 0 → q_G Φ xb cc own M Z tgt L S h kc ks) (K2 : x = 0 → q_G Φ xb cc own M Z (pc + 3) L S h kc ks) : q_G Φ xb cc own M Z pc L (.int x :: S) h kc ks := by
  intro p e s m args below meth c H locs cells slots ls ok rel hl hc hs
  exact lv_if_ne ok.1 ok.2.1 d ht (fun q => K1 q p e s m args below meth c H locs cells slots ls ok rel hl hc hs) (fun q => K2 q p e s m args below meth c H locs cells slots ls ok rel hl hc hs)
theorem q_if_lt {x : Int32} {off : Int} {tgt : Nat} (d : decode cc pc = .ok (.ifCond .lt off, 3)) (ht : (pc : Int) + off = (tgt : Int)) (K1 : x < 0 → q_G Φ xb cc own M Z tgt L S h kc ks) (K2 : ¬ (x < 0) → q_G Φ xb cc own M Z (pc + 3) L S h kc ks) : q_G Φ xb cc own M Z pc L (.int x :: S) h kc ks := by
  intro p e s m args below meth c H locs cells slots ls ok rel hl hc hs
  exact lv_if_lt ok.1 ok.2.1 d ht (fun q => K1 q p e s m args below meth c H locs cells slots ls ok rel hl hc hs) (fun q => K2 q p e s m args below meth c H locs cells slots ls ok rel hl hc hs)
theorem q_if_ge {x : Int32} {off : Int} {tgt : Nat} (d : decode cc pc = .ok (.ifCond .ge off, 3)) (ht : (pc : Int) + off = (tgt : Int)) (K1 : 0 ≤ x → q_G Φ xb cc own M Z tgt L S h kc ks) (K2 : ¬ (0 ≤ x) → q_G Φ xb cc own M Z (pc + 3) L S h kc ks) : q_G Φ xb cc own M Z pc L (.int x :: S) h kc ks := by
  intro p e s m args below meth c H locs cells slots ls ok rel hl hc hs
  exact lv_if_ge ok.1 ok.2.1 d ht (fun q => K1 q p e s m args below meth c H locs cells slots ls ok rel hl hc hs) (fun q => K2 q p e s m args below meth c H locs cells slots ls ok rel hl hc hs)
theorem q_if_gt {x : Int32} {off : Int} {tgt : Nat} (d : decode cc pc = .ok (.ifCond .gt off, 3)) (ht : (pc : Int) + off = (tgt : Int)) (K1 : 0 < x → q_G Φ xb cc own M Z tgt L S h kc ks) (K2 : ¬ (0 < x) → q_G Φ xb cc own M Z (pc + 3) L S h kc ks) : q_G Φ xb cc own M Z pc L (.int x :: S) h kc ks := by
  intro p e s m args below meth c H locs cells slots ls ok rel hl hc hs
  exact lv_if_gt ok.1 ok.2.1 d ht (fun q => K1 q p e s m args below meth c H locs cells slots ls ok rel hl hc hs) (fun q => K2 q p e s m args below meth c H locs cells slots ls ok rel hl hc hs)
theorem q_if_le {x : Int32} {off : Int} {tgt : Nat} (d : decode cc pc = .ok (.ifCond .le off, 3)) (ht : (pc : Int) + off = (tgt : Int)) (K1 : x ≤ 0 → q_G Φ xb cc own M Z tgt L S h kc ks) (K2 : ¬ (x ≤ 0) → q_G Φ xb cc own M Z (pc + 3) L S h kc ks) : q_G Φ xb cc own M Z pc L (.int x :: S) h kc ks := by
  intro p e s m args below meth c H locs cells slots ls ok rel hl hc hs
  exact lv_if_le ok.1 ok.2.1 d ht (fun q => K1 q p e s m args below meth c H locs cells slots ls ok rel hl hc hs) (fun q => K2 q p e s m args below meth c H locs cells slots ls ok rel hl hc hs)
theorem q_icmp_eq {x y : Int32} {off : Int} {tgt : Nat} (d : decode cc pc = .ok (.if_icmp .eq off, 3)) (ht : (pc : Int) + off = (tgt : Int)) (K1 : x = y → q_G Φ xb cc own M Z tgt L S h kc ks) (K2 : ¬ (x = y) → q_G Φ xb cc own M Z (pc + 3) L S h kc ks) : q_G Φ xb cc own M Z pc L (.int y :: .int x :: S) h kc ks := by
  intro p e s m args below meth c H locs cells slots ls ok rel hl hc hs
  exact lv_icmp_eq ok.1 ok.2.1 d ht (fun q => K1 q p e s m args below meth c H locs cells slots ls ok rel hl hc hs) (fun q => K2 q p e s m args below meth c H locs cells slots ls ok rel hl hc hs)
theorem q_icmp_ne {x y : Int32} {off : Int} {tgt : Nat} (d : decode cc pc = .ok (.if_icmp .ne off, 3)) (ht : (pc : Int) + off = (tgt : Int)) (K1 : ¬ x = y → q_G Φ xb cc own M Z tgt L S h kc ks) (K2 : x = y → q_G Φ xb cc own M Z (pc + 3) L S h kc ks) : q_G Φ xb cc own M Z pc L (.int y :: .int x :: S) h kc ks := by
  intro p e s m args below meth c H locs cells slots ls ok rel hl hc hs
  exact lv_icmp_ne ok.1 ok.2.1 d ht (fun q => K1 q p e s m args below meth c H locs cells slots ls ok rel hl hc hs) (fun q => K2 q p e s m args below meth c H locs cells slots ls ok rel hl hc hs)
theorem q_icmp_lt {x y : Int32} {off : Int} {tgt : Nat} (d : decode cc pc = .ok (.if_icmp .lt off, 3)) (ht : (pc : Int) + off = (tgt : Int)) (K1 : x < y → q_G Φ xb cc own M Z tgt L S h kc ks) (K2 : ¬ (x < y) → q_G Φ xb cc own M Z (pc + 3) L S h kc ks) : q_G Φ xb cc own M Z pc L (.int y :: .int x :: S) h kc ks := by
  intro p e s m args below meth c H locs cells slots ls ok rel hl hc hs
  exact lv_icmp_lt ok.1 ok.2.1 d ht (fun q => K1 q p e s m args below meth c H locs cells slots ls ok rel hl hc hs) (fun q => K2 q p e s m args below meth c H locs cells slots ls ok rel hl hc hs)
theorem q_icmp_ge {x y : Int32} {off : Int} {tgt : Nat} (d : decode cc pc = .ok (.if_icmp .ge off, 3)) (ht : (pc : Int) + off = (tgt : Int)) (K1 : y ≤ x → q_G Φ xb cc own M Z tgt L S h kc ks) (K2 : ¬ (y ≤ x) → q_G Φ xb cc own M Z (pc + 3) L S h kc ks) : q_G Φ xb cc own M Z pc L (.int y :: .int x :: S) h kc ks := by
  intro p e s m args below meth c H locs cells slots ls ok rel hl hc hs
  exact lv_icmp_ge ok.1 ok.2.1 d ht (fun q => K1 q p e s m args below meth c H locs cells slots ls ok rel hl hc hs) (fun q => K2 q p e s m args below meth c H locs cells slots ls ok rel hl hc hs)
theorem q_icmp_gt {x y : Int32} {off : Int} {tgt : Nat} (d : decode cc pc = .ok (.if_icmp .gt off, 3)) (ht : (pc : Int) + off = (tgt : Int)) (K1 : y < x → q_G Φ xb cc own M Z tgt L S h kc ks) (K2 : ¬ (y < x) → q_G Φ xb cc own M Z (pc + 3) L S h kc ks) : q_G Φ xb cc own M Z pc L (.int y :: .int x :: S) h kc ks := by
  intro p e s m args below meth c H locs cells slots ls ok rel hl hc hs
  exact lv_icmp_gt ok.1 ok.2.1 d ht (fun q => K1 q p e s m args below meth c H locs cells slots ls ok rel hl hc hs) (fun q => K2 q p e s m args below meth c H locs cells slots ls ok rel hl hc hs)
theorem q_icmp_le {x y : Int32} {off : Int} {tgt : Nat} (d : decode cc pc = .ok (.if_icmp .le off, 3)) (ht : (pc : Int) + off = (tgt : Int)) (K1 : x ≤ y → q_G Φ xb cc own M Z tgt L S h kc ks) (K2 : ¬ (x ≤ y) → q_G Φ xb cc own M Z (pc + 3) L S h kc ks) : q_G Φ xb cc own M Z pc L (.int y :: .int x :: S) h kc ks := by
  intro p e s m args below meth c H locs cells slots ls ok rel hl hc hs
  exact lv_icmp_le ok.1 ok.2.1 d ht (fun q => K1 q p e s m args below meth c H locs cells slots ls ok rel hl hc hs) (fun q => K2 q p e s m args below meth c H locs cells slots ls ok rel hl hc hs)
theorem q_tableOut {dflt lo hi : Int} {offs : Array Int} {len : Nat} {x : Int32} {tgt : Nat} (d : decode cc pc = .ok (.tableswitch dflt lo hi offs, len)) (hx : x.toInt < lo ∨ hi < x.toInt) (ht : (pc : Int) + dflt = (tgt : Int)) (K : q_G Φ xb cc own M Z tgt L S h kc ks) : q_G Φ xb cc own M Z pc L (.int x :: S) h kc ks := by
  intro p e s m args below meth c H locs cells slots ls ok rel hl hc hs
  exact lv_tableOut ok.1 ok.2.1 d hx ht (K p e s m args below meth c H locs cells slots ls ok rel hl hc hs)
theorem q_tableIn {dflt lo hi : Int} {offs : Array Int} {len : Nat} {x : Int32} {off : Int} {tgt : Nat} (d : decode cc pc = .ok (.tableswitch dflt lo hi offs, len)) (h1 : ¬ x.toInt < lo) (h2 : ¬ hi < x.toInt) (ho : offs[(x.toInt - lo).toNat]? = some off) (ht : (pc : Int) + off = (tgt : Int)) (K : q_G Φ xb cc own M Z tgt L S h kc ks) : q_G Φ xb cc own M Z pc L (.int x :: S) h kc ks := by
  intro p e s m args below meth c H locs cells slots ls ok rel hl hc hs
  exact lv_tableIn ok.1 ok.2.1 d h1 h2 ho ht (K p e s m args below meth c H locs cells slots ls ok rel hl hc hs)
end QG
